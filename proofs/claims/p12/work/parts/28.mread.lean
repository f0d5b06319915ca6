section WR
variable {p : Program} {l : Launch} {e : Env} {R : Room} {s : State} {m : MethodId} {args : Array Value} {below : List Frame} {meth : Method} {c : Code} {H : Heap} {locs : List Loc} {cells slots : Nat} {Q : State → Prop}
variable {pc : Nat} {ls : Array Slot} {rest : List Value} {G : GG} {ws : va_W} {A : Nat → Prop} {y0 : MethodName} {b0 : ByteArray} {mL0 : Nat} {rt0 : Option FieldType} {a : Nat} {H0 : Heap}
end WR
theorem nI_subR {a b : Nat} (h : b ≤ a) : nI a - nI b = nI (a - b) := by
  obtain ⟨c, rfl⟩ : ∃ c, a = b + c := ⟨a - b, by omega⟩
  rw [show b + c - b = c by omega, ← nI_add b c, Int32.add_comm, Int32.add_sub_cancel]
theorem nle_of {a b : Nat} (ha : a < 2 ^ 31) (hb : b < 2 ^ 31) (h : ¬ nI a < nI b) : b ≤ a := (nI_leI hb ha).mp (Int32.not_lt.mp h)
theorem slen3 : ∀ i : Nat, i < 16 → 11 ≤ i → 3 ≤ SLEN.getD i 0 := by decide
def FCT (K : OO) : Nat → Option Nat := fun k => if k < 5 then some (K.1 (11 + k)) else none
theorem Wi1_nat {v : Int32} {N : Nat} (hN : N < 2 ^ 31) (h : Wi v 1 (nI N)) : ∃ j, j ≤ N ∧ v = nI j := by
  rw [Wi_iff, nI_ti hN] at h
  obtain ⟨h1, h2⟩ := h
  have e1 : (1 : Int32).toInt = 1 := by decide
  rw [e1] at h1
  have h0 : ¬ v < 0 := by
    intro h9
    rw [Int32.lt_iff_toInt_lt] at h9
    have e : (0 : Int32).toInt = 0 := by decide
    omega
  obtain ⟨j, hj, rfl⟩ := nI_of h0
  rw [nI_ti hj] at h2
  exact ⟨j, by omega, rfl⟩
/-- digits from a to b -/
def DG (f : Nat → Int32) (a b : Nat) : Prop := ∀ i, a ≤ i → i < b → ∃ d, d ≤ 9 ∧ f i = nI (48 + d)
theorem DG.zero {f : Nat → Int32} {a : Nat} : DG f a a := fun i h1 h2 => by omega
theorem dig {x : Int32} (h : Wi x 48 57) : ∃ d, d ≤ 9 ∧ x = nI (48 + d) := by
  rw [Wi_iff] at h
  obtain ⟨h1, h2⟩ := h
  have e0 : (48 : Int32).toInt = 48 := by decide
  have e1 : (57 : Int32).toInt = 57 := by decide
  rw [e0] at h1
  rw [e1] at h2
  have h0 : ¬ x < 0 := by
    intro h9
    rw [Int32.lt_iff_toInt_lt] at h9
    have e : (0 : Int32).toInt = 0 := by decide
    omega
  obtain ⟨j, hj, rfl⟩ := nI_of h0
  rw [nI_ti hj] at h1 h2
  exact ⟨j - 48, by omega, congrArg nI (by omega)⟩
theorem DG.next {f : Nat → Int32} {a b : Nat} (h : DG f a b) (hx : Wi (f b) 48 57) : DG f a (b + 1) := by
  intro i h1 h2
  by_cases c : i = b
  · subst c; exact dig hx
  · exact h i h1 (by omega)
/-- the token at hand -/
def TOK (f : Nat → Int32) (so : Int32) (kf kt tp : Nat) : Prop := kf ≤ kt ∧ kt ≤ tp ∧ (so = 0 ∨ kf < kt) ∧ (so = 2 → DG f kf kt)
theorem TOK.n0 {f : Nat → Int32} {kf tp : Nat} (h : kf ≤ tp) : TOK f 0 kf kf tp := ⟨Nat.le_refl _, h, Or.inl rfl, fun h9 => absurd h9 (by decide)⟩
theorem TOK.n1 {f : Nat → Int32} {kf kt tp : Nat} (h : kf < kt) (h2 : kt ≤ tp) : TOK f 1 kf kt tp := ⟨by omega, h2, Or.inr h, fun h9 => absurd h9 (by decide)⟩
theorem TOK.n3 {f : Nat → Int32} {kf kt tp : Nat} (h : kf < kt) (h2 : kt ≤ tp) : TOK f 3 kf kt tp := ⟨by omega, h2, Or.inr h, fun h9 => absurd h9 (by decide)⟩
theorem TOK.n2 {f : Nat → Int32} {kf kt tp : Nat} (h : kf < kt) (h2 : kt ≤ tp) (hd : DG f kf kt) : TOK f 2 kf kt tp := ⟨by omega, h2, Or.inr h, fun _ => hd⟩
theorem TOK.lt {f : Nat → Int32} {so : Int32} {kf kt tp : Nat} (h : TOK f so kf kt tp) (c : ¬ so = 0) : kf < kt := h.2.2.1.resolve_left c
def ISG (f : Nat → Int32) (so : Int32) (kf kt : Nat) (c : Int32) : Prop := kf < kt ∧ so = 3 ∧ f kf = c
/-- codes that leave one more on the pile -/
def SEG (c : Nat → Int32) (a b : Nat) : Prop := ∀ h0 : Nat, ∃ ht : Nat → Nat, ht a = h0 ∧ ht b = h0 + 1 ∧ ∀ k, a ≤ k → k < b → STEP (c k) (ht k) (ht (k + 1))
theorem SEG.ext {c d : Nat → Int32} {a b : Nat} (h : SEG c a b) (he : ∀ k, a ≤ k → k < b → d k = c k) : SEG d a b := by
  intro h0
  obtain ⟨ht, e1, e2, hs⟩ := h h0
  exact ⟨ht, e1, e2, fun k h1 h2 => by rw [he k h1 h2]; exact hs k h1 h2⟩
theorem SEG.push {f : Nat → Int32} {a : Nat} {v : Int32} (hv : v < 30000) : SEG (upd f a v) a (a + 1) := by
  intro h0
  refine ⟨fun k => if k ≤ a then h0 else h0 + 1, if_pos (Nat.le_refl _), if_neg (by omega), fun k h1 h2 => ?_⟩
  obtain rfl : k = a := by omega
  rw [upd_eq rfl]
  refine Or.inl ⟨hv, ?_⟩
  show (if k + 1 ≤ k then h0 else h0 + 1) = (if k ≤ k then h0 else h0 + 1) + 1
  rw [if_neg (by omega), if_pos (Nat.le_refl _)]
theorem SEG.not {f : Nat → Int32} {a b : Nat} (h : SEG f a b) (hab : a < b) : SEG (upd f b 30000) a (b + 1) := by
  intro h0
  obtain ⟨ht, e1, e2, hs⟩ := h h0
  refine ⟨fun k => if k ≤ b then ht k else h0 + 1, ?_, if_neg (by omega), fun k h1 h2 => ?_⟩
  · show (if a ≤ b then ht a else h0 + 1) = h0
    rw [if_pos (by omega), e1]
  · by_cases c : k = b
    · subst c
      rw [upd_eq rfl]
      refine Or.inr (Or.inl ⟨by decide, rfl, ?_, ?_⟩)
      · show 1 ≤ (if k ≤ k then ht k else h0 + 1)
        rw [if_pos (Nat.le_refl _), e2]; omega
      · show (if k + 1 ≤ k then ht (k + 1) else h0 + 1) = (if k ≤ k then ht k else h0 + 1)
        rw [if_neg (by omega), if_pos (Nat.le_refl _), e2]
    · rw [upd_ne c]
      have h9 := hs k h1 (by omega)
      show STEP (f k) (if k ≤ b then ht k else h0 + 1) (if k + 1 ≤ b then ht (k + 1) else h0 + 1)
      rw [if_pos (by omega), if_pos (by omega)]
      exact h9
theorem SEG.op {f : Nat → Int32} {a b c : Nat} {v : Int32} (h : SEG f a b) (h2 : SEG f b c) (hab : a < b) (hbc : b < c) (hv : v = 30001 ∨ v = 30002) : SEG (upd f c v) a (c + 1) := by
  intro h0
  obtain ⟨ht, e1, e2, hs⟩ := h h0
  obtain ⟨hu, e3, e4, hs2⟩ := h2 (h0 + 1)
  refine ⟨fun k => if k ≤ b then ht k else if k ≤ c then hu k else h0 + 1, ?_, ?_, fun k h1 h9 => ?_⟩
  · show (if a ≤ b then ht a else if a ≤ c then hu a else h0 + 1) = h0
    rw [if_pos (by omega), e1]
  · show (if c + 1 ≤ b then ht (c + 1) else if c + 1 ≤ c then hu (c + 1) else h0 + 1) = h0 + 1
    rw [if_neg (by omega), if_neg (by omega)]
  · show STEP (upd f c v k) (if k ≤ b then ht k else if k ≤ c then hu k else h0 + 1) (if k + 1 ≤ b then ht (k + 1) else if k + 1 ≤ c then hu (k + 1) else h0 + 1)
    by_cases c1 : k < b
    · rw [upd_ne (by omega), if_pos (by omega), if_pos (by omega)]
      exact hs k h1 c1
    · by_cases c2 : k < c
      · rw [upd_ne (by omega), if_neg (show ¬ k + 1 ≤ b by omega), if_pos (show k + 1 ≤ c by omega)]
        have h8 := hs2 k (by omega) c2
        by_cases c3 : k = b
        · subst c3
          rw [if_pos (Nat.le_refl _), e2, ← e3]
          exact h8
        · rw [if_neg (by omega), if_pos (by omega)]
          exact h8
      · obtain rfl : k = c := by omega
        rw [upd_eq rfl, if_neg (show ¬ k ≤ b by omega), if_pos (Nat.le_refl _), if_neg (show ¬ k + 1 ≤ b by omega), if_neg (show ¬ k + 1 ≤ k by omega), e4]
        refine Or.inr (Or.inr ⟨?_, ?_, by omega, rfl⟩) <;> rcases hv with rfl | rfl <;> decide
/-- an expression has been read: its codes, and how far -/
def EXPR (f g : Nat → Int32) (a b p q : Nat) : Prop := a < b ∧ p + 3 * b + 2 ≤ q + 3 * a ∧ (∀ k, k < a → g k = f k) ∧ SEG g a b
theorem EXPR.op {f g h : Nat → Int32} {a b c p q q2 r : Nat} {v : Int32} (h1 : EXPR f g a b p q) (h2 : EXPR g h b c q2 r) (hq : q + 2 ≤ q2) (hv : v = 30001 ∨ v = 30002) : EXPR f (upd h c v) a (c + 1) p r := by
  obtain ⟨a1, a2, a3, a4⟩ := h1
  obtain ⟨b1, b2, b3, b4⟩ := h2
  refine ⟨by omega, by omega, fun k hk => ?_, ?_⟩
  · rw [upd_ne (by omega), b3 k (by omega), a3 k hk]
  · exact SEG.op (a4.ext fun k h1 h2 => b3 k h2) b4 a1 b1 hv
theorem EXPR.fact {f : Nat → Int32} {a p q : Nat} {v : Int32} (hv : v < 30000) (hq : p + 5 ≤ q) : EXPR f (upd f a v) a (a + 1) p q :=
  ⟨by omega, by omega, fun k hk => upd_ne (by omega), SEG.push hv⟩
theorem EXPR.not {f g : Nat → Int32} {a b p q : Nat} (h : EXPR f g a b p q) (hq : p + 3 * (b + 1) + 2 ≤ q + 3 * a) : EXPR f (upd g b 30000) a (b + 1) p q :=
  ⟨by have := h.1; omega, hq, fun k hk => by have := h.1; rw [upd_ne (by omega)]; exact h.2.2.1 k hk, h.2.2.2.not h.1⟩
theorem EXPR.wid {f g : Nat → Int32} {a b p q p2 q2 : Nat} (h : EXPR f g a b p q) (hq : p2 + 3 * b + 2 ≤ q2 + 3 * a) : EXPR f g a b p2 q2 := ⟨h.1, hq, h.2.2.1, h.2.2.2⟩
def LOKB (ln cd : Nat → Int32) (B : Nat) : Prop := (∃ so, so < 4 ∧ ln 0 = nI so ∧ (so = 0 → (∃ n2, n2 < 8 ∧ ln 2 = nI n2) ∧ ∃ n3, n3 < 8 ∧ ln 3 = nI n3) ∧ (so = 2 → ∃ n1, n1 < 8 ∧ ln 1 = nI n1)) ∧ ∃ a b, ln 4 = nI a ∧ ln 5 = nI b ∧ a ≤ b ∧ b ≤ B ∧ WFC cd a b
theorem LOKB.ext {l1 l2 c1 c2 : Nat → Int32} {B B2 : Nat} (h1 : ∀ j, j < 6 → l2 j = l1 j) (h2 : ∀ j, j < B → c2 j = c1 j) (hB : B ≤ B2) (h : LOKB l1 c1 B) : LOKB l2 c2 B2 := by
  obtain ⟨⟨so, hs, e0, hA, hC⟩, a, b, e4, e5, hab, hb, ht, h0, hst⟩ := h
  refine ⟨⟨so, hs, (h1 0 (by omega)).trans e0, fun h => ?_, fun h => ?_⟩, a, b, (h1 4 (by omega)).trans e4, (h1 5 (by omega)).trans e5, hab, by omega, ht, h0, fun k hk1 hk2 => ?_⟩
  · obtain ⟨⟨n2, q1, q2⟩, n3, q3, q4⟩ := hA h
    exact ⟨⟨n2, q1, (h1 2 (by omega)).trans q2⟩, n3, q3, (h1 3 (by omega)).trans q4⟩
  · obtain ⟨n1, q1, q2⟩ := hC h
    exact ⟨n1, q1, (h1 1 (by omega)).trans q2⟩
  · rw [h2 k (by omega)]
    exact hst k hk1 hk2
theorem LOKB.lok {ln cd : Nat → Int32} {B : Nat} (hB : B ≤ 100) (h : LOKB ln cd B) : LOK ln cd := by
  obtain ⟨h1, a, b, e4, e5, hab, hb, hw⟩ := h
  exact ⟨h1, a, b, e4, e5, hab, by omega, hw⟩
theorem WFC.zero {c : Nat → Int32} {a : Nat} : WFC c a a := ⟨fun _ => 0, rfl, fun k h1 h2 => by omega⟩
theorem SEG.wfc {c : Nat → Int32} {a b : Nat} (h : SEG c a b) : WFC c a b := by
  obtain ⟨ht, e1, -, hs⟩ := h 0
  exact ⟨ht, e1, hs⟩
/-- a line has been read -/
def LINE (fl gl fc gc : Nat → Int32) (ja a b q : Nat) : Prop := a ≤ b ∧ 3 * b ≤ q ∧ (∀ i, i < ja → gl i = fl i) ∧ (∀ k, k < a → gc k = fc k) ∧ LOKB (fun j => gl (ja + j)) gc b
theorem fct_lt {j c n : Nat} (h1 : j < 5) (h2 : c ≤ 2000) (h3 : n ≤ 999) : nI (3000 * j + c + n) < 30000 := by
  rw [Int32.lt_iff_toInt_lt, nI_ti (by omega)]
  have e : (30000 : Int32).toInt = 30000 := by decide
  omega
/-- what the reader keeps to between two lines -/
def RDI (f : Nat → Int32) (so : Int32) (kf kt tp : Nat) (L C : Nat → Int32) (c l : Nat) : Prop := TOK f so kf kt tp ∧ 3 * c ≤ kf ∧ l ≤ 9 ∧ ∀ i, i < l → LOKB (fun j => L (6 * i + j)) C c
theorem RDI.next {f L L2 C C2 : Nat → Int32} {so so2 : Int32} {kf kt kf2 kt2 tp c c2 l : Nat} (h : RDI f so kf kt tp L C c l) (h2 : LINE L L2 C C2 (6 * l) c c2 kf2) (hT : TOK f so2 kf2 kt2 tp) (hl : l < 9) : RDI f so2 kf2 kt2 tp L2 C2 c2 (l + 1) := by
  obtain ⟨-, -, -, h9⟩ := h
  obtain ⟨a1, a2, a3, a4, a5⟩ := h2
  refine ⟨hT, a2, by omega, fun i hi => ?_⟩
  by_cases e : i = l
  · subst e; exact a5
  · exact LOKB.ext (fun j hj => a3 _ (by omega)) (fun j hj => a4 j hj) a1 (h9 i (by omega))
/-- a piece of the row has been copied -/
def CP (f0 w : Nat → Int32) (b n : Nat) (src : Nat → Int32) : Prop := NI w ∧ (∀ i, (i < b ∨ b + n ≤ i) → w i = f0 i) ∧ ∀ k, k < n → w (b + k) = src k
theorem CP.zero {f src : Nat → Int32} {b : Nat} (h : NI f) : CP f f b 0 src := ⟨h, fun _ _ => rfl, fun k h => absurd h (Nat.not_lt_zero k)⟩
theorem CP.next {f0 w src : Nat → Int32} {b n : Nat} {x : Int32} (h : CP f0 w b n src) (hx : x = src n) (hb : bnd (b + n) = (-2147483648, 2147483647)) : CP f0 (upd w (b + n) x) b (n + 1) src := by
  obtain ⟨h1, h2, h3⟩ := h
  refine ⟨h1.setA hb, fun i hi => ?_, fun k hk => ?_⟩
  · rw [upd_ne (by omega)]; exact h2 i (by omega)
  · by_cases e : k = n
    · subst e; rw [upd_eq rfl, hx]
    · rw [upd_ne (by omega)]; exact h3 k (by omega)
theorem CP.SC {f0 w src : Nat → Int32} {b n : Nat} {a x y z p q s r u v t : Int32} (h : CP f0 w b n src) (hb : 12 ≤ b) (hs : SCX f0 a x y z p q s r u v t) : SCX w a x y z p q s r u v t :=
  hs.ag fun i h1 _ => h.2.1 i (by omega)
theorem CP.FR {f0 w e src : Nat → Int32} {b n lo hi : Nat} (h : CP f0 w b n src) (hb : lo ≤ b) (hn : b + n ≤ hi) (hs : FRO f0 e lo hi) : FRO w e lo hi :=
  fun j h1 h2 => (h.2.1 j (by omega)).trans (hs j h1 h2)
theorem VI.newrow {f w w2 ln cd : Nat → Int32} {k7 L c : Nat} {d x : Int32} (hV : VI f) (hk : k7 < 8) (hL : L ≤ 9) (hc : c ≤ 100) (h1 : CP (upd (upd f (176 + 156 * k7 + 0) d) (176 + 156 * k7 + 1) (nI L)) w (176 + 156 * k7 + 2) 54 ln) (h2 : CP w w2 (176 + 156 * k7 + 56) c cd) (hl : ∀ i, i < L → LOKB (fun j => ln (6 * i + j)) cd c) : VI (upd w2 7 x) := by
  obtain ⟨-, p2, p3⟩ := h1
  obtain ⟨-, q2, q3⟩ := h2
  intro v hv
  by_cases e : v = k7
  · subst e
    refine ⟨L, hL, ?_, fun l hl9 => LOKB.lok hc (LOKB.ext (fun j hj => ?_) (fun j hj => ?_) (Nat.le_refl c) (hl l hl9))⟩
    · show upd w2 7 x (176 + 156 * v + 1) = nI L
      rw [upd_ne (by omega), q2 _ (by omega), p2 _ (by omega), upd_eq rfl]
    · show upd w2 7 x (176 + 156 * v + (2 + 6 * l + j)) = ln (6 * l + j)
      rw [upd_ne (by omega), q2 _ (by omega), show 176 + 156 * v + (2 + 6 * l + j) = 176 + 156 * v + 2 + (6 * l + j) by omega, p3 _ (by omega)]
    · show upd w2 7 x (176 + 156 * v + (56 + j)) = cd j
      rw [upd_ne (by omega), show 176 + 156 * v + (56 + j) = 176 + 156 * v + 56 + j by omega, q3 _ hj]
  · refine VOK.ext (fun j hj => ?_) (hV v hv)
    show f (176 + 156 * v + j) = upd w2 7 x (176 + 156 * v + j)
    rw [upd_ne (by omega), q2 _ (by omega), p2 _ (by omega), upd_ne (by omega), upd_ne (by omega)]
section WR
variable {p : Program} {l : Launch} {e : Env} {R : Room} {s : State} {m : MethodId} {args : Array Value} {below : List Frame} {meth : Method} {c : Code} {H : Heap} {locs : List Loc} {cells slots : Nat} {Q : State → Prop}
variable {pc : Nat} {ls : Array Slot} {rest : List Value} {G : GG} {K : OO} {ws : va_W} {A : Nat → Prop} {y0 : MethodName} {b0 : ByteArray} {mL0 : Nat} {rt0 : Option FieldType} {a : Nat} {H0 : Heap}
theorem va_ldcSw (hexec : p.tables.exec = Jvm.exec) {cc : ByteArray} (hb : c.code = cc) {own tx : String} {index q : Nat} (hown : s.vm.findClass own = some m.cls) (hZ : vk_R own index tx q s) (hdg : decode cc pc = .ok (.ldc_w index, 3))
    (k : W p l e R s m args below meth c H locs cells slots Q (F0 m (pc + 3) ls (.ref q :: rest))) : W p l e R s m args below meth c H locs cells slots Q (F0 m pc ls rest) := by
  intro T hT X
  obtain ⟨t, a1, b1⟩ := k T hT X
  exact ⟨t, Jvm.Stand.ldcStringW X hexec hown (text := tx) (a := q) hZ.1 hZ.2 (g := F0 m pc ls rest) rfl (by rw [hb]; exact hdg) t a1, b1⟩
theorem aldS (hC : CX p s m meth c y0 b0 mL0 rt0 args) (hK : KK G s) (hP : va_P G.1 vwCl ws H) (q0 : Nat) {n : Nat} {f : Nat → Option Nat} (ha : ws[q0]? = some (a, .inl (G.2.2.2, n, .inr (.inr (.inr (.inr f)))))) {i : Int32} (hin : vp_in i n) {k v : Nat} (hk : i.toNatClampNeg = k) (hv : f k = some v) (hdg : decode b0 pc = .ok (.aaload, 1)) (kk : W p l e R s m args below meth c H locs cells slots Q (F0 m (pc + 1) ls (.ref v :: rest))) : W p l e R s m args below meth c H locs cells slots Q (F0 m pc ls (.int i :: .ref a :: rest)) := by
  obtain ⟨hx, hb, hr, hml, hB, hown, hlocks, hnm⟩ := hC
  refine va_aldq hx hb hK.1 hP q0 2 ha rfl hin hdg ?_
  rw [hk, hv]
  exact kk
theorem gX12_feed_0 : (decode cX12_feed 0 = .ok (.iload_n 3, 1)) ∧ (decode cX12_feed 1 = .ok (.iconst 1, 1)) ∧ (decode cX12_feed 2 = .ok (.bipush 8, 2)) ∧ (decode cX12_feed 4 = .ok (.invokestatic 84, 3)) ∧ (decode cX12_feed 7 = .ok (.ifCond .ne 5, 3)) ∧ (decode cX12_feed 10 = .ok (.iconst (-1), 1)) ∧ (decode cX12_feed 11 = .ok (.ireturn, 1)) ∧ (decode cX12_feed 12 = .ok (.aload_n 0, 1)) ∧ (decode cX12_feed 13 = .ok (.getfield 206, 3)) ∧ (decode cX12_feed 16 = .ok (.iload_n 3, 1)) := by decide +kernel
theorem gX12_feed_1 : (decode cX12_feed 17 = .ok (.iadd, 1)) ∧ (decode cX12_feed 18 = .ok (.sipush 240, 3)) ∧ (decode cX12_feed 21 = .ok (.if_icmp .le 6, 3)) ∧ (decode cX12_feed 24 = .ok (.bipush (-2), 2)) ∧ (decode cX12_feed 26 = .ok (.ireturn, 1)) ∧ (decode cX12_feed 27 = .ok (.iconst 0, 1)) ∧ (decode cX12_feed 28 = .ok (.istore 4, 2)) ∧ (decode cX12_feed 30 = .ok (.iload 4, 2)) ∧ (decode cX12_feed 32 = .ok (.iload_n 3, 1)) ∧ (decode cX12_feed 33 = .ok (.if_icmp .ge 40, 3)) := by decide +kernel
theorem gX12_feed_4 : (decode cX12_feed 70 = .ok (.goto (-40), 3)) ∧ (decode cX12_feed 73 = .ok (.aload_n 0, 1)) ∧ (decode cX12_feed 74 = .ok (.getfield 206, 3)) ∧ (decode cX12_feed 77 = .ok (.ireturn, 1)) := by decide +kernel
theorem gX12_feed_2 : (decode cX12_feed 36 = .ok (.aload_n 0, 1)) ∧ (decode cX12_feed 37 = .ok (.getfield 16, 3)) ∧ (decode cX12_feed 40 = .ok (.aload_n 0, 1)) ∧ (decode cX12_feed 41 = .ok (.getfield 206, 3)) ∧ (decode cX12_feed 44 = .ok (.lload_n 1, 1)) ∧ (decode cX12_feed 45 = .ok (.bipush 8, 2)) ∧ (decode cX12_feed 47 = .ok (.iload 4, 2)) ∧ (decode cX12_feed 49 = .ok (.imul, 1)) ∧ (decode cX12_feed 50 = .ok (.lshr, 1)) ∧ (decode cX12_feed 51 = .ok (.ldc2_w 209, 3)) := by decide +kernel
theorem m_1033 : Cond.fieldLink RX12 16 "InquiryBenchModel" "tape" "[I" ∈ BW := iB_BW55 _ (List.mem_of_getElem? (i := 2) rfl)
theorem gf_X12_16 (hC : CX p s m meth c y0 b0 mL0 rt0 args) (hy0 : y0.cls = RX12) (hK : KK G s) (hP : va_P G.1 vwCl ws H) (q0 : Nat) {fs : List Value} {v : Value} (he : ws[q0]? = some (a, .inr (12, fs))) (hv : fs[3]? = some v) (hdg : decode b0 pc = .ok (.getfield 16, 3)) (kk : W p l e R s m args below meth c H locs cells slots Q (F0 m (pc + 3) ls (v :: rest))) : W p l e R s m args below meth c H locs cells slots Q (F0 m pc ls (.ref a :: rest)) := by
  obtain ⟨hx, hb, hr, hml, hB, hown, hlocks, hnm⟩ := hC
  rw [hy0] at hown
  exact va_get (ci := 12) (C := RX12) (T := TX12) (N := 41) hx hb hB in_X12 hown hK.1 hP q0 he rfl 3 (by decide) (hB _ m_1033) (fun _ h => h) hv hdg kk
theorem m_1237 : Cond.constantLong RX12 209 (255) ∈ BW := iB_BW66 _ (List.mem_of_getElem? (i := 5) rfl)
theorem gX12_feed_3 : (decode cX12_feed 54 = .ok (.land, 1)) ∧ (decode cX12_feed 55 = .ok (.l2i, 1)) ∧ (decode cX12_feed 56 = .ok (.iastore, 1)) ∧ (decode cX12_feed 57 = .ok (.aload_n 0, 1)) ∧ (decode cX12_feed 58 = .ok (.dup, 1)) ∧ (decode cX12_feed 59 = .ok (.getfield 206, 3)) ∧ (decode cX12_feed 62 = .ok (.iconst 1, 1)) ∧ (decode cX12_feed 63 = .ok (.iadd, 1)) ∧ (decode cX12_feed 64 = .ok (.putfield 206, 3)) ∧ (decode cX12_feed 67 = .ok (.iinc 4 1, 3)) := by decide +kernel
theorem pf_X12_206 (hC : CX p s m meth c y0 b0 mL0 rt0 args) (hy0 : y0.cls = RX12) (hK : KK G s) (hP : va_P G.1 vwCl ws H) (hD : va_D A ws) (hS : va_S A H0 H locs) (q0 : Nat) {fs : List Value} {v : Value} {ws' : va_W} (he : ws[q0]? = some (a, .inr (12, fs))) (hl : 4 < fs.length) (hws : ws.set q0 (a, .inr (12, fs.set 4 v)) = ws') (hn : narrow .int v = v) (hfit : fits .int v = true) (hdg : decode b0 pc = .ok (.putfield 206, 3)) (kk : ∀ (H1 : Heap) (locs1 : List Loc), va_P G.1 vwCl ws' H1 → va_D A ws' → va_S A H0 H1 locs1 → W p l e R s m args below meth c H1 locs1 cells slots Q (F0 m (pc + 3) ls rest)) : W p l e R s m args below meth c H locs cells slots Q (F0 m pc ls (v :: .ref a :: rest)) := by
  obtain ⟨hx, hb, hr, hml, hB, hown, hlocks, hnm⟩ := hC
  rw [hy0] at hown
  subst hws
  exact va_put (ci := 12) (ty := .int) (C := RX12) (T := TX12) (N := 41) hx hb hB in_X12 tyX12 tyX12_ok nmX12 hown hK.1 hP hD hS q0 he rfl 4 (by decide) (hB _ m_1034) (fun _ h => h) rfl (by decide +kernel) hn hfit hl hdg kk
theorem gX12_isIn__0 : (decode cX12_isIn_ 0 = .ok (.iload_n 1, 1)) ∧ (decode cX12_isIn_ 1 = .ok (.aload_n 0, 1)) ∧ (decode cX12_isIn_ 2 = .ok (.getfield 206, 3)) ∧ (decode cX12_isIn_ 5 = .ok (.if_icmp .ge 21, 3)) ∧ (decode cX12_isIn_ 8 = .ok (.aload_n 0, 1)) ∧ (decode cX12_isIn_ 9 = .ok (.getfield 16, 3)) ∧ (decode cX12_isIn_ 12 = .ok (.iload_n 1, 1)) ∧ (decode cX12_isIn_ 13 = .ok (.iaload, 1)) ∧ (decode cX12_isIn_ 14 = .ok (.iload_n 2, 1)) ∧ (decode cX12_isIn_ 15 = .ok (.iload_n 3, 1)) := by decide +kernel
theorem gX12_isIn__1 : (decode cX12_isIn_ 16 = .ok (.invokestatic 84, 3)) ∧ (decode cX12_isIn_ 19 = .ok (.ifCond .eq 7, 3)) ∧ (decode cX12_isIn_ 22 = .ok (.iconst 1, 1)) ∧ (decode cX12_isIn_ 23 = .ok (.goto 4, 3)) ∧ (decode cX12_isIn_ 26 = .ok (.iconst 0, 1)) ∧ (decode cX12_isIn_ 27 = .ok (.ireturn, 1)) := by decide +kernel
theorem gX12_next_0 : (decode cX12_next 0 = .ok (.aload_n 0, 1)) ∧ (decode cX12_next 1 = .ok (.aload_n 0, 1)) ∧ (decode cX12_next 2 = .ok (.getfield 211, 3)) ∧ (decode cX12_next 5 = .ok (.putfield 214, 3)) ∧ (decode cX12_next 8 = .ok (.aload_n 0, 1)) ∧ (decode cX12_next 9 = .ok (.getfield 214, 3)) ∧ (decode cX12_next 12 = .ok (.aload_n 0, 1)) ∧ (decode cX12_next 13 = .ok (.getfield 206, 3)) ∧ (decode cX12_next 16 = .ok (.if_icmp .ge 30, 3)) ∧ (decode cX12_next 19 = .ok (.aload_n 0, 1)) := by decide +kernel
theorem m_1045 : Cond.fieldLink RX12 211 "InquiryBenchModel" "to" "I" ∈ BW := iB_BW55 _ (List.mem_of_getElem? (i := 14) rfl)
theorem gf_X12_211 (hC : CX p s m meth c y0 b0 mL0 rt0 args) (hy0 : y0.cls = RX12) (hK : KK G s) (hP : va_P G.1 vwCl ws H) (q0 : Nat) {fs : List Value} {v : Value} (he : ws[q0]? = some (a, .inr (12, fs))) (hv : fs[15]? = some v) (hdg : decode b0 pc = .ok (.getfield 211, 3)) (kk : W p l e R s m args below meth c H locs cells slots Q (F0 m (pc + 3) ls (v :: rest))) : W p l e R s m args below meth c H locs cells slots Q (F0 m pc ls (.ref a :: rest)) := by
  obtain ⟨hx, hb, hr, hml, hB, hown, hlocks, hnm⟩ := hC
  rw [hy0] at hown
  exact va_get (ci := 12) (C := RX12) (T := TX12) (N := 41) hx hb hB in_X12 hown hK.1 hP q0 he rfl 15 (by decide) (hB _ m_1045) (fun _ h => h) hv hdg kk
theorem m_1044 : Cond.fieldLink RX12 214 "InquiryBenchModel" "from" "I" ∈ BW := iB_BW55 _ (List.mem_of_getElem? (i := 13) rfl)
theorem pf_X12_214 (hC : CX p s m meth c y0 b0 mL0 rt0 args) (hy0 : y0.cls = RX12) (hK : KK G s) (hP : va_P G.1 vwCl ws H) (hD : va_D A ws) (hS : va_S A H0 H locs) (q0 : Nat) {fs : List Value} {v : Value} {ws' : va_W} (he : ws[q0]? = some (a, .inr (12, fs))) (hl : 14 < fs.length) (hws : ws.set q0 (a, .inr (12, fs.set 14 v)) = ws') (hn : narrow .int v = v) (hfit : fits .int v = true) (hdg : decode b0 pc = .ok (.putfield 214, 3)) (kk : ∀ (H1 : Heap) (locs1 : List Loc), va_P G.1 vwCl ws' H1 → va_D A ws' → va_S A H0 H1 locs1 → W p l e R s m args below meth c H1 locs1 cells slots Q (F0 m (pc + 3) ls rest)) : W p l e R s m args below meth c H locs cells slots Q (F0 m pc ls (v :: .ref a :: rest)) := by
  obtain ⟨hx, hb, hr, hml, hB, hown, hlocks, hnm⟩ := hC
  rw [hy0] at hown
  subst hws
  exact va_put (ci := 12) (ty := .int) (C := RX12) (T := TX12) (N := 41) hx hb hB in_X12 tyX12 tyX12_ok nmX12 hown hK.1 hP hD hS q0 he rfl 14 (by decide) (hB _ m_1044) (fun _ h => h) rfl (by decide +kernel) hn hfit hl hdg kk
theorem gf_X12_214 (hC : CX p s m meth c y0 b0 mL0 rt0 args) (hy0 : y0.cls = RX12) (hK : KK G s) (hP : va_P G.1 vwCl ws H) (q0 : Nat) {fs : List Value} {v : Value} (he : ws[q0]? = some (a, .inr (12, fs))) (hv : fs[14]? = some v) (hdg : decode b0 pc = .ok (.getfield 214, 3)) (kk : W p l e R s m args below meth c H locs cells slots Q (F0 m (pc + 3) ls (v :: rest))) : W p l e R s m args below meth c H locs cells slots Q (F0 m pc ls (.ref a :: rest)) := by
  obtain ⟨hx, hb, hr, hml, hB, hown, hlocks, hnm⟩ := hC
  rw [hy0] at hown
  exact va_get (ci := 12) (C := RX12) (T := TX12) (N := 41) hx hb hB in_X12 hown hK.1 hP q0 he rfl 14 (by decide) (hB _ m_1044) (fun _ h => h) hv hdg kk
theorem gX12_next_2 : (decode cX12_next 39 = .ok (.iadd, 1)) ∧ (decode cX12_next 40 = .ok (.putfield 214, 3)) ∧ (decode cX12_next 43 = .ok (.goto (-35), 3)) ∧ (decode cX12_next 46 = .ok (.aload_n 0, 1)) ∧ (decode cX12_next 47 = .ok (.aload_n 0, 1)) ∧ (decode cX12_next 48 = .ok (.getfield 214, 3)) ∧ (decode cX12_next 51 = .ok (.putfield 211, 3)) ∧ (decode cX12_next 54 = .ok (.aload_n 0, 1)) ∧ (decode cX12_next 55 = .ok (.getfield 214, 3)) ∧ (decode cX12_next 58 = .ok (.aload_n 0, 1)) := by decide +kernel
theorem pf_X12_211 (hC : CX p s m meth c y0 b0 mL0 rt0 args) (hy0 : y0.cls = RX12) (hK : KK G s) (hP : va_P G.1 vwCl ws H) (hD : va_D A ws) (hS : va_S A H0 H locs) (q0 : Nat) {fs : List Value} {v : Value} {ws' : va_W} (he : ws[q0]? = some (a, .inr (12, fs))) (hl : 15 < fs.length) (hws : ws.set q0 (a, .inr (12, fs.set 15 v)) = ws') (hn : narrow .int v = v) (hfit : fits .int v = true) (hdg : decode b0 pc = .ok (.putfield 211, 3)) (kk : ∀ (H1 : Heap) (locs1 : List Loc), va_P G.1 vwCl ws' H1 → va_D A ws' → va_S A H0 H1 locs1 → W p l e R s m args below meth c H1 locs1 cells slots Q (F0 m (pc + 3) ls rest)) : W p l e R s m args below meth c H locs cells slots Q (F0 m pc ls (v :: .ref a :: rest)) := by
  obtain ⟨hx, hb, hr, hml, hB, hown, hlocks, hnm⟩ := hC
  rw [hy0] at hown
  subst hws
  exact va_put (ci := 12) (ty := .int) (C := RX12) (T := TX12) (N := 41) hx hb hB in_X12 tyX12 tyX12_ok nmX12 hown hK.1 hP hD hS q0 he rfl 15 (by decide) (hB _ m_1045) (fun _ h => h) rfl (by decide +kernel) hn hfit hl hdg kk
theorem gX12_next_3 : (decode cX12_next 59 = .ok (.getfield 206, 3)) ∧ (decode cX12_next 62 = .ok (.if_icmp .ne 9, 3)) ∧ (decode cX12_next 65 = .ok (.aload_n 0, 1)) ∧ (decode cX12_next 66 = .ok (.iconst 0, 1)) ∧ (decode cX12_next 67 = .ok (.putfield 217, 3)) ∧ (decode cX12_next 70 = .ok (.return_, 1)) ∧ (decode cX12_next 71 = .ok (.aload_n 0, 1)) ∧ (decode cX12_next 72 = .ok (.aload_n 0, 1)) ∧ (decode cX12_next 73 = .ok (.aload_n 0, 1)) ∧ (decode cX12_next 74 = .ok (.getfield 214, 3)) := by decide +kernel
theorem gX12_next_4 : (decode cX12_next 77 = .ok (.bipush 97, 2)) ∧ (decode cX12_next 79 = .ok (.bipush 122, 2)) ∧ (decode cX12_next 81 = .ok (.invokevirtual 220, 3)) ∧ (decode cX12_next 84 = .ok (.ifCond .eq 7, 3)) ∧ (decode cX12_next 87 = .ok (.iconst 1, 1)) ∧ (decode cX12_next 88 = .ok (.goto 23, 3)) ∧ (decode cX12_next 91 = .ok (.aload_n 0, 1)) ∧ (decode cX12_next 92 = .ok (.aload_n 0, 1)) ∧ (decode cX12_next 93 = .ok (.getfield 214, 3)) ∧ (decode cX12_next 96 = .ok (.bipush 48, 2)) := by decide +kernel
theorem m_1247 : Cond.code yX12_isIn_ cX12_isIn_ 4 (some .boolean) ∈ BW := iB_BW66 _ (List.mem_of_getElem? (i := 15) rfl)
theorem m_1245 : Cond.methodLink RX12 220 yX12_isIn_ ∈ BW := iB_BW66 _ (List.mem_of_getElem? (i := 13) rfl)
theorem m_1246 : Cond.instanceMethod yX12_isIn_ ∈ BW := iB_BW66 _ (List.mem_of_getElem? (i := 14) rfl)
theorem m_78 : Cond.selects RX12 yX12_isIn_ yX12_isIn_ ∈ BW := iB_BW3 _ (List.mem_of_getElem? (i := 18) rfl)
theorem si_X12_220 : SV RX12 RX12 220 yX12_isIn_ cX12_isIn_ 4 (some .boolean) 3 := ⟨⟨m_1245, m_1246, m_78, m_115, m_1247⟩, rfl, nK_RX12.1, nK_RX12.2, pd_0⟩
theorem gX12_next_5 : (decode cX12_next 98 = .ok (.bipush 57, 2)) ∧ (decode cX12_next 100 = .ok (.invokevirtual 220, 3)) ∧ (decode cX12_next 103 = .ok (.ifCond .eq 7, 3)) ∧ (decode cX12_next 106 = .ok (.iconst 2, 1)) ∧ (decode cX12_next 107 = .ok (.goto 4, 3)) ∧ (decode cX12_next 110 = .ok (.iconst 3, 1)) ∧ (decode cX12_next 111 = .ok (.putfield 217, 3)) ∧ (decode cX12_next 114 = .ok (.aload_n 0, 1)) ∧ (decode cX12_next 115 = .ok (.dup, 1)) ∧ (decode cX12_next 116 = .ok (.getfield 211, 3)) := by decide +kernel
theorem m_1046 : Cond.fieldLink RX12 217 "InquiryBenchModel" "sort" "I" ∈ BW := iB_BW55 _ (List.mem_of_getElem? (i := 15) rfl)
theorem pf_X12_217 (hC : CX p s m meth c y0 b0 mL0 rt0 args) (hy0 : y0.cls = RX12) (hK : KK G s) (hP : va_P G.1 vwCl ws H) (hD : va_D A ws) (hS : va_S A H0 H locs) (q0 : Nat) {fs : List Value} {v : Value} {ws' : va_W} (he : ws[q0]? = some (a, .inr (12, fs))) (hl : 16 < fs.length) (hws : ws.set q0 (a, .inr (12, fs.set 16 v)) = ws') (hn : narrow .int v = v) (hfit : fits .int v = true) (hdg : decode b0 pc = .ok (.putfield 217, 3)) (kk : ∀ (H1 : Heap) (locs1 : List Loc), va_P G.1 vwCl ws' H1 → va_D A ws' → va_S A H0 H1 locs1 → W p l e R s m args below meth c H1 locs1 cells slots Q (F0 m (pc + 3) ls rest)) : W p l e R s m args below meth c H locs cells slots Q (F0 m pc ls (v :: .ref a :: rest)) := by
  obtain ⟨hx, hb, hr, hml, hB, hown, hlocks, hnm⟩ := hC
  rw [hy0] at hown
  subst hws
  exact va_put (ci := 12) (ty := .int) (C := RX12) (T := TX12) (N := 41) hx hb hB in_X12 tyX12 tyX12_ok nmX12 hown hK.1 hP hD hS q0 he rfl 16 (by decide) (hB _ m_1046) (fun _ h => h) rfl (by decide +kernel) hn hfit hl hdg kk
theorem gX12_next_6 : (decode cX12_next 119 = .ok (.iconst 1, 1)) ∧ (decode cX12_next 120 = .ok (.iadd, 1)) ∧ (decode cX12_next 121 = .ok (.putfield 211, 3)) ∧ (decode cX12_next 124 = .ok (.aload_n 0, 1)) ∧ (decode cX12_next 125 = .ok (.getfield 217, 3)) ∧ (decode cX12_next 128 = .ok (.iconst 1, 1)) ∧ (decode cX12_next 129 = .ok (.if_icmp .ne 18, 3)) ∧ (decode cX12_next 132 = .ok (.aload_n 0, 1)) ∧ (decode cX12_next 133 = .ok (.aload_n 0, 1)) ∧ (decode cX12_next 134 = .ok (.getfield 211, 3)) := by decide +kernel
theorem gf_X12_217 (hC : CX p s m meth c y0 b0 mL0 rt0 args) (hy0 : y0.cls = RX12) (hK : KK G s) (hP : va_P G.1 vwCl ws H) (q0 : Nat) {fs : List Value} {v : Value} (he : ws[q0]? = some (a, .inr (12, fs))) (hv : fs[16]? = some v) (hdg : decode b0 pc = .ok (.getfield 217, 3)) (kk : W p l e R s m args below meth c H locs cells slots Q (F0 m (pc + 3) ls (v :: rest))) : W p l e R s m args below meth c H locs cells slots Q (F0 m pc ls (.ref a :: rest)) := by
  obtain ⟨hx, hb, hr, hml, hB, hown, hlocks, hnm⟩ := hC
  rw [hy0] at hown
  exact va_get (ci := 12) (C := RX12) (T := TX12) (N := 41) hx hb hB in_X12 hown hK.1 hP q0 he rfl 16 (by decide) (hB _ m_1046) (fun _ h => h) hv hdg kk
theorem gX12_next_7 : (decode cX12_next 137 = .ok (.bipush 97, 2)) ∧ (decode cX12_next 139 = .ok (.bipush 122, 2)) ∧ (decode cX12_next 141 = .ok (.invokevirtual 220, 3)) ∧ (decode cX12_next 144 = .ok (.ifCond .ne 26, 3)) ∧ (decode cX12_next 147 = .ok (.aload_n 0, 1)) ∧ (decode cX12_next 148 = .ok (.getfield 217, 3)) ∧ (decode cX12_next 151 = .ok (.iconst 2, 1)) ∧ (decode cX12_next 152 = .ok (.if_icmp .ne 31, 3)) ∧ (decode cX12_next 155 = .ok (.aload_n 0, 1)) ∧ (decode cX12_next 156 = .ok (.aload_n 0, 1)) := by decide +kernel
theorem gX12_next_8 : (decode cX12_next 157 = .ok (.getfield 211, 3)) ∧ (decode cX12_next 160 = .ok (.bipush 48, 2)) ∧ (decode cX12_next 162 = .ok (.bipush 57, 2)) ∧ (decode cX12_next 164 = .ok (.invokevirtual 220, 3)) ∧ (decode cX12_next 167 = .ok (.ifCond .eq 16, 3)) ∧ (decode cX12_next 170 = .ok (.aload_n 0, 1)) ∧ (decode cX12_next 171 = .ok (.dup, 1)) ∧ (decode cX12_next 172 = .ok (.getfield 211, 3)) ∧ (decode cX12_next 175 = .ok (.iconst 1, 1)) ∧ (decode cX12_next 176 = .ok (.iadd, 1)) := by decide +kernel
theorem gX12_next_9 : (decode cX12_next 177 = .ok (.putfield 211, 3)) ∧ (decode cX12_next 180 = .ok (.goto (-56), 3)) ∧ (decode cX12_next 183 = .ok (.return_, 1)) := by decide +kernel
theorem gX12_next_1 : (decode cX12_next 20 = .ok (.getfield 16, 3)) ∧ (decode cX12_next 23 = .ok (.aload_n 0, 1)) ∧ (decode cX12_next 24 = .ok (.getfield 214, 3)) ∧ (decode cX12_next 27 = .ok (.iaload, 1)) ∧ (decode cX12_next 28 = .ok (.bipush 32, 2)) ∧ (decode cX12_next 30 = .ok (.if_icmp .ne 16, 3)) ∧ (decode cX12_next 33 = .ok (.aload_n 0, 1)) ∧ (decode cX12_next 34 = .ok (.dup, 1)) ∧ (decode cX12_next 35 = .ok (.getfield 214, 3)) ∧ (decode cX12_next 38 = .ok (.iconst 1, 1)) := by decide +kernel
theorem gX12_isName_0 : (decode cX12_isName 0 = .ok (.aload_n 0, 1)) ∧ (decode cX12_isName 1 = .ok (.getfield 222, 3)) ∧ (decode cX12_isName 4 = .ok (.ifCond .ne 31, 3)) ∧ (decode cX12_isName 7 = .ok (.aload_n 0, 1)) ∧ (decode cX12_isName 8 = .ok (.getfield 217, 3)) ∧ (decode cX12_isName 11 = .ok (.iconst 1, 1)) ∧ (decode cX12_isName 12 = .ok (.if_icmp .ne 23, 3)) ∧ (decode cX12_isName 15 = .ok (.aload_n 0, 1)) ∧ (decode cX12_isName 16 = .ok (.getfield 211, 3)) ∧ (decode cX12_isName 19 = .ok (.aload_n 0, 1)) := by decide +kernel
theorem m_1047 : Cond.fieldLink RX12 222 "InquiryBenchModel" "isFault" "Z" ∈ BW := iB_BW55 _ (List.mem_of_getElem? (i := 16) rfl)
theorem gf_X12_222 (hC : CX p s m meth c y0 b0 mL0 rt0 args) (hy0 : y0.cls = RX12) (hK : KK G s) (hP : va_P G.1 vwCl ws H) (q0 : Nat) {fs : List Value} {v : Value} (he : ws[q0]? = some (a, .inr (12, fs))) (hv : fs[17]? = some v) (hdg : decode b0 pc = .ok (.getfield 222, 3)) (kk : W p l e R s m args below meth c H locs cells slots Q (F0 m (pc + 3) ls (v :: rest))) : W p l e R s m args below meth c H locs cells slots Q (F0 m pc ls (.ref a :: rest)) := by
  obtain ⟨hx, hb, hr, hml, hB, hown, hlocks, hnm⟩ := hC
  rw [hy0] at hown
  exact va_get (ci := 12) (C := RX12) (T := TX12) (N := 41) hx hb hB in_X12 hown hK.1 hP q0 he rfl 17 (by decide) (hB _ m_1047) (fun _ h => h) hv hdg kk
theorem gX12_isName_1 : (decode cX12_isName 20 = .ok (.getfield 214, 3)) ∧ (decode cX12_isName 23 = .ok (.isub, 1)) ∧ (decode cX12_isName 24 = .ok (.aload_n 1, 1)) ∧ (decode cX12_isName 25 = .ok (.invokevirtual 226, 3)) ∧ (decode cX12_isName 28 = .ok (.if_icmp .ne 7, 3)) ∧ (decode cX12_isName 31 = .ok (.iconst 1, 1)) ∧ (decode cX12_isName 32 = .ok (.goto 4, 3)) ∧ (decode cX12_isName 35 = .ok (.iconst 0, 1)) ∧ (decode cX12_isName 36 = .ok (.istore_n 2, 1)) ∧ (decode cX12_isName 37 = .ok (.iconst 0, 1)) := by decide +kernel
theorem gX12_isName_2 : (decode cX12_isName 38 = .ok (.istore_n 3, 1)) ∧ (decode cX12_isName 39 = .ok (.iload_n 2, 1)) ∧ (decode cX12_isName 40 = .ok (.ifCond .eq 42, 3)) ∧ (decode cX12_isName 43 = .ok (.iload_n 3, 1)) ∧ (decode cX12_isName 44 = .ok (.aload_n 1, 1)) ∧ (decode cX12_isName 45 = .ok (.invokevirtual 226, 3)) ∧ (decode cX12_isName 48 = .ok (.if_icmp .ge 34, 3)) ∧ (decode cX12_isName 51 = .ok (.aload_n 0, 1)) ∧ (decode cX12_isName 52 = .ok (.getfield 16, 3)) ∧ (decode cX12_isName 55 = .ok (.aload_n 0, 1)) := by decide +kernel
theorem gX12_isName_4 : (decode cX12_isName 74 = .ok (.iconst 0, 1)) ∧ (decode cX12_isName 75 = .ok (.istore_n 2, 1)) ∧ (decode cX12_isName 76 = .ok (.iinc 3 1, 3)) ∧ (decode cX12_isName 79 = .ok (.goto (-40), 3)) ∧ (decode cX12_isName 82 = .ok (.iload_n 2, 1)) ∧ (decode cX12_isName 83 = .ok (.ireturn, 1)) := by decide +kernel
theorem m_1254 : Cond.methodLink RX12 226 yJ0_length_8abf5 ∈ BW := iB_BW67 _ (List.mem_of_getElem? (i := 2) rfl)
theorem si_X12_226 : SV RX12 RJ0 226 yJ0_length_8abf5 cJ0_length_8abf5 1 (some .int) 0 := ⟨⟨m_1254, m_652, m_653, m_118, m_654⟩, rfl, nK_RJ0.1, nK_RJ0.2, pd_1⟩
theorem gX12_isName_3 : (decode cX12_isName 56 = .ok (.getfield 214, 3)) ∧ (decode cX12_isName 59 = .ok (.iload_n 3, 1)) ∧ (decode cX12_isName 60 = .ok (.iadd, 1)) ∧ (decode cX12_isName 61 = .ok (.iaload, 1)) ∧ (decode cX12_isName 62 = .ok (.aload_n 1, 1)) ∧ (decode cX12_isName 63 = .ok (.iload_n 3, 1)) ∧ (decode cX12_isName 64 = .ok (.invokevirtual 229, 3)) ∧ (decode cX12_isName 67 = .ok (.if_icmp .ne 7, 3)) ∧ (decode cX12_isName 70 = .ok (.iconst 1, 1)) ∧ (decode cX12_isName 71 = .ok (.goto 4, 3)) := by decide +kernel
theorem m_1255 : Cond.methodLink RX12 229 yJ0_charAt_5068e ∈ BW := iB_BW67 _ (List.mem_of_getElem? (i := 3) rfl)
theorem si_X12_229 : SV RX12 RJ0 229 yJ0_charAt_5068e cJ0_charAt_5068e 2 (some .char) 1 := ⟨⟨m_1255, m_661, m_662, m_118, m_663⟩, rfl, nK_RJ0.1, nK_RJ0.2, pd_25⟩
theorem gX12_isSign_0 : (decode cX12_isSign 0 = .ok (.aload_n 0, 1)) ∧ (decode cX12_isSign 1 = .ok (.getfield 222, 3)) ∧ (decode cX12_isSign 4 = .ok (.ifCond .ne 28, 3)) ∧ (decode cX12_isSign 7 = .ok (.aload_n 0, 1)) ∧ (decode cX12_isSign 8 = .ok (.getfield 217, 3)) ∧ (decode cX12_isSign 11 = .ok (.iconst 3, 1)) ∧ (decode cX12_isSign 12 = .ok (.if_icmp .ne 20, 3)) ∧ (decode cX12_isSign 15 = .ok (.aload_n 0, 1)) ∧ (decode cX12_isSign 16 = .ok (.getfield 16, 3)) ∧ (decode cX12_isSign 19 = .ok (.aload_n 0, 1)) := by decide +kernel
theorem gX12_isSign_1 : (decode cX12_isSign 20 = .ok (.getfield 214, 3)) ∧ (decode cX12_isSign 23 = .ok (.iaload, 1)) ∧ (decode cX12_isSign 24 = .ok (.iload_n 1, 1)) ∧ (decode cX12_isSign 25 = .ok (.if_icmp .ne 7, 3)) ∧ (decode cX12_isSign 28 = .ok (.iconst 1, 1)) ∧ (decode cX12_isSign 29 = .ok (.goto 4, 3)) ∧ (decode cX12_isSign 32 = .ok (.iconst 0, 1)) ∧ (decode cX12_isSign 33 = .ok (.ireturn, 1)) := by decide +kernel
theorem gX12_need_0 : (decode cX12_need 0 = .ok (.aload_n 0, 1)) ∧ (decode cX12_need 1 = .ok (.aload_n 0, 1)) ∧ (decode cX12_need 2 = .ok (.getfield 222, 3)) ∧ (decode cX12_need 5 = .ok (.ifCond .ne 7, 3)) ∧ (decode cX12_need 8 = .ok (.iload_n 1, 1)) ∧ (decode cX12_need 9 = .ok (.ifCond .ne 7, 3)) ∧ (decode cX12_need 12 = .ok (.iconst 1, 1)) ∧ (decode cX12_need 13 = .ok (.goto 4, 3)) ∧ (decode cX12_need 16 = .ok (.iconst 0, 1)) ∧ (decode cX12_need 17 = .ok (.putfield 222, 3)) := by decide +kernel
theorem pf_X12_222 (hC : CX p s m meth c y0 b0 mL0 rt0 args) (hy0 : y0.cls = RX12) (hK : KK G s) (hP : va_P G.1 vwCl ws H) (hD : va_D A ws) (hS : va_S A H0 H locs) (q0 : Nat) {fs : List Value} {v : Value} {ws' : va_W} (he : ws[q0]? = some (a, .inr (12, fs))) (hl : 17 < fs.length) (hws : ws.set q0 (a, .inr (12, fs.set 17 v)) = ws') (hn : narrow .boolean v = v) (hfit : fits .boolean v = true) (hdg : decode b0 pc = .ok (.putfield 222, 3)) (kk : ∀ (H1 : Heap) (locs1 : List Loc), va_P G.1 vwCl ws' H1 → va_D A ws' → va_S A H0 H1 locs1 → W p l e R s m args below meth c H1 locs1 cells slots Q (F0 m (pc + 3) ls rest)) : W p l e R s m args below meth c H locs cells slots Q (F0 m pc ls (v :: .ref a :: rest)) := by
  obtain ⟨hx, hb, hr, hml, hB, hown, hlocks, hnm⟩ := hC
  rw [hy0] at hown
  subst hws
  exact va_put (ci := 12) (ty := .boolean) (C := RX12) (T := TX12) (N := 41) hx hb hB in_X12 tyX12 tyX12_ok nmX12 hown hK.1 hP hD hS q0 he rfl 17 (by decide) (hB _ m_1047) (fun _ h => h) rfl (by decide +kernel) hn hfit hl hdg kk
theorem gX12_need_1 : (decode cX12_need 20 = .ok (.aload_n 0, 1)) ∧ (decode cX12_need 21 = .ok (.getfield 222, 3)) ∧ (decode cX12_need 24 = .ok (.ifCond .ne 7, 3)) ∧ (decode cX12_need 27 = .ok (.aload_n 0, 1)) ∧ (decode cX12_need 28 = .ok (.invokevirtual 233, 3)) ∧ (decode cX12_need 31 = .ok (.return_, 1)) := by decide +kernel
theorem m_1244 : Cond.code yX12_next cX12_next 1 none ∈ BW := iB_BW66 _ (List.mem_of_getElem? (i := 12) rfl)
theorem m_1242 : Cond.methodLink RX12 233 yX12_next ∈ BW := iB_BW66 _ (List.mem_of_getElem? (i := 10) rfl)
theorem m_1243 : Cond.instanceMethod yX12_next ∈ BW := iB_BW66 _ (List.mem_of_getElem? (i := 11) rfl)
theorem m_77 : Cond.selects RX12 yX12_next yX12_next ∈ BW := iB_BW3 _ (List.mem_of_getElem? (i := 17) rfl)
theorem si_X12_233 : SV RX12 RX12 233 yX12_next cX12_next 1 none 0 := ⟨⟨m_1242, m_1243, m_77, m_115, m_1244⟩, rfl, nK_RX12.1, nK_RX12.2, pd_9⟩
theorem gX12_number_0 : (decode cX12_number 0 = .ok (.iconst 0, 1)) ∧ (decode cX12_number 1 = .ok (.istore_n 2, 1)) ∧ (decode cX12_number 2 = .ok (.aload_n 0, 1)) ∧ (decode cX12_number 3 = .ok (.getfield 222, 3)) ∧ (decode cX12_number 6 = .ok (.ifCond .ne 28, 3)) ∧ (decode cX12_number 9 = .ok (.aload_n 0, 1)) ∧ (decode cX12_number 10 = .ok (.getfield 217, 3)) ∧ (decode cX12_number 13 = .ok (.iconst 2, 1)) ∧ (decode cX12_number 14 = .ok (.if_icmp .ne 20, 3)) ∧ (decode cX12_number 17 = .ok (.aload_n 0, 1)) := by decide +kernel
theorem gX12_number_1 : (decode cX12_number 18 = .ok (.getfield 211, 3)) ∧ (decode cX12_number 21 = .ok (.aload_n 0, 1)) ∧ (decode cX12_number 22 = .ok (.getfield 214, 3)) ∧ (decode cX12_number 25 = .ok (.isub, 1)) ∧ (decode cX12_number 26 = .ok (.iconst 3, 1)) ∧ (decode cX12_number 27 = .ok (.if_icmp .gt 7, 3)) ∧ (decode cX12_number 30 = .ok (.iconst 1, 1)) ∧ (decode cX12_number 31 = .ok (.goto 4, 3)) ∧ (decode cX12_number 34 = .ok (.iconst 0, 1)) ∧ (decode cX12_number 35 = .ok (.istore_n 3, 1)) := by decide +kernel
theorem gX12_number_2 : (decode cX12_number 36 = .ok (.aload_n 0, 1)) ∧ (decode cX12_number 37 = .ok (.getfield 214, 3)) ∧ (decode cX12_number 40 = .ok (.istore 4, 2)) ∧ (decode cX12_number 42 = .ok (.iload_n 3, 1)) ∧ (decode cX12_number 43 = .ok (.ifCond .eq 34, 3)) ∧ (decode cX12_number 46 = .ok (.iload 4, 2)) ∧ (decode cX12_number 48 = .ok (.aload_n 0, 1)) ∧ (decode cX12_number 49 = .ok (.getfield 211, 3)) ∧ (decode cX12_number 52 = .ok (.if_icmp .ge 25, 3)) ∧ (decode cX12_number 55 = .ok (.bipush 10, 2)) := by decide +kernel
theorem gX12_number_4 : (decode cX12_number 71 = .ok (.iinc 4 1, 3)) ∧ (decode cX12_number 74 = .ok (.goto (-32), 3)) ∧ (decode cX12_number 77 = .ok (.aload_n 0, 1)) ∧ (decode cX12_number 78 = .ok (.iload_n 3, 1)) ∧ (decode cX12_number 79 = .ok (.ifCond .eq 12, 3)) ∧ (decode cX12_number 82 = .ok (.iload_n 2, 1)) ∧ (decode cX12_number 83 = .ok (.iload_n 1, 1)) ∧ (decode cX12_number 84 = .ok (.if_icmp .gt 7, 3)) ∧ (decode cX12_number 87 = .ok (.iconst 1, 1)) ∧ (decode cX12_number 88 = .ok (.goto 4, 3)) := by decide +kernel
theorem gX12_number_5 : (decode cX12_number 91 = .ok (.iconst 0, 1)) ∧ (decode cX12_number 92 = .ok (.invokevirtual 236, 3)) ∧ (decode cX12_number 95 = .ok (.iload_n 2, 1)) ∧ (decode cX12_number 96 = .ok (.ireturn, 1)) := by decide +kernel
theorem m_1258 : Cond.code yX12_need cX12_need 2 none ∈ BW := iB_BW67 _ (List.mem_of_getElem? (i := 6) rfl)
theorem pd_33 : (parseMethodDescriptor "(Z)V").map (fun d => d.parameters.length) = some 1 := by decide +kernel
theorem m_1256 : Cond.methodLink RX12 236 yX12_need ∈ BW := iB_BW67 _ (List.mem_of_getElem? (i := 4) rfl)
theorem m_1257 : Cond.instanceMethod yX12_need ∈ BW := iB_BW67 _ (List.mem_of_getElem? (i := 5) rfl)
theorem m_81 : Cond.selects RX12 yX12_need yX12_need ∈ BW := iB_BW4 _ (List.mem_of_getElem? (i := 1) rfl)
theorem si_X12_236 : SV RX12 RX12 236 yX12_need cX12_need 2 none 1 := ⟨⟨m_1256, m_1257, m_81, m_115, m_1258⟩, rfl, nK_RX12.1, nK_RX12.2, pd_33⟩
theorem gX12_number_3 : (decode cX12_number 57 = .ok (.iload_n 2, 1)) ∧ (decode cX12_number 58 = .ok (.imul, 1)) ∧ (decode cX12_number 59 = .ok (.aload_n 0, 1)) ∧ (decode cX12_number 60 = .ok (.getfield 16, 3)) ∧ (decode cX12_number 63 = .ok (.iload 4, 2)) ∧ (decode cX12_number 65 = .ok (.iaload, 1)) ∧ (decode cX12_number 66 = .ok (.iadd, 1)) ∧ (decode cX12_number 67 = .ok (.bipush 48, 2)) ∧ (decode cX12_number 69 = .ok (.isub, 1)) ∧ (decode cX12_number 70 = .ok (.istore_n 2, 1)) := by decide +kernel
theorem gX12_codes_0 : (decode cX12_codes 0 = .ok (.aload_n 0, 1)) ∧ (decode cX12_codes 1 = .ok (.getfield 222, 3)) ∧ (decode cX12_codes 4 = .ok (.ifCond .ne 23, 3)) ∧ (decode cX12_codes 7 = .ok (.aload_n 0, 1)) ∧ (decode cX12_codes 8 = .ok (.getfield 35, 3)) ∧ (decode cX12_codes 11 = .ok (.aload_n 0, 1)) ∧ (decode cX12_codes 12 = .ok (.getfield 240, 3)) ∧ (decode cX12_codes 15 = .ok (.iload_n 1, 1)) ∧ (decode cX12_codes 16 = .ok (.iastore, 1)) ∧ (decode cX12_codes 17 = .ok (.aload_n 0, 1)) := by decide +kernel
theorem gX12_codes_1 : (decode cX12_codes 18 = .ok (.dup, 1)) ∧ (decode cX12_codes 19 = .ok (.getfield 240, 3)) ∧ (decode cX12_codes 22 = .ok (.iconst 1, 1)) ∧ (decode cX12_codes 23 = .ok (.iadd, 1)) ∧ (decode cX12_codes 24 = .ok (.putfield 240, 3)) ∧ (decode cX12_codes 27 = .ok (.return_, 1)) := by decide +kernel
theorem m_1052 : Cond.fieldLink RX12 35 "InquiryBenchModel" "code" "[I" ∈ BW := iB_BW56 _ (List.mem_of_getElem? (i := 1) rfl)
theorem gf_X12_35 (hC : CX p s m meth c y0 b0 mL0 rt0 args) (hy0 : y0.cls = RX12) (hK : KK G s) (hP : va_P G.1 vwCl ws H) (q0 : Nat) {fs : List Value} {v : Value} (he : ws[q0]? = some (a, .inr (12, fs))) (hv : fs[22]? = some v) (hdg : decode b0 pc = .ok (.getfield 35, 3)) (kk : W p l e R s m args below meth c H locs cells slots Q (F0 m (pc + 3) ls (v :: rest))) : W p l e R s m args below meth c H locs cells slots Q (F0 m pc ls (.ref a :: rest)) := by
  obtain ⟨hx, hb, hr, hml, hB, hown, hlocks, hnm⟩ := hC
  rw [hy0] at hown
  exact va_get (ci := 12) (C := RX12) (T := TX12) (N := 41) hx hb hB in_X12 hown hK.1 hP q0 he rfl 22 (by decide) (hB _ m_1052) (fun _ h => h) hv hdg kk
theorem m_1049 : Cond.fieldLink RX12 240 "InquiryBenchModel" "coded" "I" ∈ BW := iB_BW55 _ (List.mem_of_getElem? (i := 18) rfl)
theorem gf_X12_240 (hC : CX p s m meth c y0 b0 mL0 rt0 args) (hy0 : y0.cls = RX12) (hK : KK G s) (hP : va_P G.1 vwCl ws H) (q0 : Nat) {fs : List Value} {v : Value} (he : ws[q0]? = some (a, .inr (12, fs))) (hv : fs[19]? = some v) (hdg : decode b0 pc = .ok (.getfield 240, 3)) (kk : W p l e R s m args below meth c H locs cells slots Q (F0 m (pc + 3) ls (v :: rest))) : W p l e R s m args below meth c H locs cells slots Q (F0 m pc ls (.ref a :: rest)) := by
  obtain ⟨hx, hb, hr, hml, hB, hown, hlocks, hnm⟩ := hC
  rw [hy0] at hown
  exact va_get (ci := 12) (C := RX12) (T := TX12) (N := 41) hx hb hB in_X12 hown hK.1 hP q0 he rfl 19 (by decide) (hB _ m_1049) (fun _ h => h) hv hdg kk
theorem pf_X12_240 (hC : CX p s m meth c y0 b0 mL0 rt0 args) (hy0 : y0.cls = RX12) (hK : KK G s) (hP : va_P G.1 vwCl ws H) (hD : va_D A ws) (hS : va_S A H0 H locs) (q0 : Nat) {fs : List Value} {v : Value} {ws' : va_W} (he : ws[q0]? = some (a, .inr (12, fs))) (hl : 19 < fs.length) (hws : ws.set q0 (a, .inr (12, fs.set 19 v)) = ws') (hn : narrow .int v = v) (hfit : fits .int v = true) (hdg : decode b0 pc = .ok (.putfield 240, 3)) (kk : ∀ (H1 : Heap) (locs1 : List Loc), va_P G.1 vwCl ws' H1 → va_D A ws' → va_S A H0 H1 locs1 → W p l e R s m args below meth c H1 locs1 cells slots Q (F0 m (pc + 3) ls rest)) : W p l e R s m args below meth c H locs cells slots Q (F0 m pc ls (v :: .ref a :: rest)) := by
  obtain ⟨hx, hb, hr, hml, hB, hown, hlocks, hnm⟩ := hC
  rw [hy0] at hown
  subst hws
  exact va_put (ci := 12) (ty := .int) (C := RX12) (T := TX12) (N := 41) hx hb hB in_X12 tyX12 tyX12_ok nmX12 hown hK.1 hP hD hS q0 he rfl 19 (by decide) (hB _ m_1049) (fun _ h => h) rfl (by decide +kernel) hn hfit hl hdg kk
theorem gX12_one_0 : (decode cX12_one 0 = .ok (.iconst 0, 1)) ∧ (decode cX12_one 1 = .ok (.istore_n 1, 1)) ∧ (decode cX12_one 2 = .ok (.aload_n 0, 1)) ∧ (decode cX12_one 3 = .ok (.ldc_w 260, 3)) ∧ (decode cX12_one 6 = .ok (.invokevirtual 248, 3)) ∧ (decode cX12_one 9 = .ok (.ifCond .eq 13, 3)) ∧ (decode cX12_one 12 = .ok (.aload_n 0, 1)) ∧ (decode cX12_one 13 = .ok (.invokevirtual 233, 3)) ∧ (decode cX12_one 16 = .ok (.iinc 1 1, 3)) ∧ (decode cX12_one 19 = .ok (.goto (-17), 3)) := by decide +kernel
theorem m_1253 : Cond.code yX12_isName cX12_isName 4 (some .boolean) ∈ BW := iB_BW67 _ (List.mem_of_getElem? (i := 1) rfl)
theorem m_1251 : Cond.methodLink RX12 248 yX12_isName ∈ BW := iB_BW66 _ (List.mem_of_getElem? (i := 19) rfl)
theorem m_1252 : Cond.instanceMethod yX12_isName ∈ BW := iB_BW67 _ (List.mem_of_getElem? (i := 0) rfl)
theorem m_80 : Cond.selects RX12 yX12_isName yX12_isName ∈ BW := iB_BW4 _ (List.mem_of_getElem? (i := 0) rfl)
theorem si_X12_248 : SV RX12 RX12 248 yX12_isName cX12_isName 4 (some .boolean) 1 := ⟨⟨m_1251, m_1252, m_80, m_115, m_1253⟩, rfl, nK_RX12.1, nK_RX12.2, pd_26⟩
theorem gX12_one_1 : (decode cX12_one 22 = .ok (.aload_n 0, 1)) ∧ (decode cX12_one 23 = .ok (.bipush 40, 2)) ∧ (decode cX12_one 25 = .ok (.invokevirtual 262, 3)) ∧ (decode cX12_one 28 = .ok (.ifCond .eq 57, 3)) ∧ (decode cX12_one 31 = .ok (.aload_n 0, 1)) ∧ (decode cX12_one 32 = .ok (.dup, 1)) ∧ (decode cX12_one 33 = .ok (.getfield 265, 3)) ∧ (decode cX12_one 36 = .ok (.iconst 1, 1)) ∧ (decode cX12_one 37 = .ok (.iadd, 1)) ∧ (decode cX12_one 38 = .ok (.putfield 265, 3)) := by decide +kernel
theorem m_1273 : Cond.code yX12_isSign cX12_isSign 2 (some .boolean) ∈ BW := iB_BW68 _ (List.mem_of_getElem? (i := 1) rfl)
theorem m_1271 : Cond.methodLink RX12 262 yX12_isSign ∈ BW := iB_BW67 _ (List.mem_of_getElem? (i := 19) rfl)
theorem m_1272 : Cond.instanceMethod yX12_isSign ∈ BW := iB_BW68 _ (List.mem_of_getElem? (i := 0) rfl)
theorem m_86 : Cond.selects RX12 yX12_isSign yX12_isSign ∈ BW := iB_BW4 _ (List.mem_of_getElem? (i := 6) rfl)
theorem si_X12_262 : SV RX12 RX12 262 yX12_isSign cX12_isSign 2 (some .boolean) 1 := ⟨⟨m_1271, m_1272, m_86, m_115, m_1273⟩, rfl, nK_RX12.1, nK_RX12.2, pd_5⟩
theorem gX12_one_4 : (decode cX12_one 78 = .ok (.isub, 1)) ∧ (decode cX12_one 79 = .ok (.putfield 265, 3)) ∧ (decode cX12_one 82 = .ok (.goto 141, 3)) ∧ (decode cX12_one 85 = .ok (.iconst (-1), 1)) ∧ (decode cX12_one 86 = .ok (.istore_n 2, 1)) ∧ (decode cX12_one 87 = .ok (.iconst 0, 1)) ∧ (decode cX12_one 88 = .ok (.istore_n 3, 1)) ∧ (decode cX12_one 89 = .ok (.iload_n 3, 1)) ∧ (decode cX12_one 90 = .ok (.iconst 5, 1)) ∧ (decode cX12_one 91 = .ok (.if_icmp .ge 28, 3)) := by decide +kernel
theorem gX12_one_5 : (decode cX12_one 94 = .ok (.aload_n 0, 1)) ∧ (decode cX12_one 95 = .ok (.aload_n 0, 1)) ∧ (decode cX12_one 96 = .ok (.getfield 50, 3)) ∧ (decode cX12_one 99 = .ok (.iload_n 3, 1)) ∧ (decode cX12_one 100 = .ok (.aaload, 1)) ∧ (decode cX12_one 101 = .ok (.invokevirtual 248, 3)) ∧ (decode cX12_one 104 = .ok (.ifCond .eq 7, 3)) ∧ (decode cX12_one 107 = .ok (.iload_n 3, 1)) ∧ (decode cX12_one 108 = .ok (.goto 4, 3)) ∧ (decode cX12_one 111 = .ok (.iload_n 2, 1)) := by decide +kernel
theorem m_1053 : Cond.fieldLink RX12 50 "InquiryBenchModel" "FACTS" "[Ljava/lang/String;" ∈ BW := iB_BW56 _ (List.mem_of_getElem? (i := 2) rfl)
theorem gf_X12_50 (hC : CX p s m meth c y0 b0 mL0 rt0 args) (hy0 : y0.cls = RX12) (hK : KK G s) (hP : va_P G.1 vwCl ws H) (q0 : Nat) {fs : List Value} {v : Value} (he : ws[q0]? = some (a, .inr (12, fs))) (hv : fs[23]? = some v) (hdg : decode b0 pc = .ok (.getfield 50, 3)) (kk : W p l e R s m args below meth c H locs cells slots Q (F0 m (pc + 3) ls (v :: rest))) : W p l e R s m args below meth c H locs cells slots Q (F0 m pc ls (.ref a :: rest)) := by
  obtain ⟨hx, hb, hr, hml, hB, hown, hlocks, hnm⟩ := hC
  rw [hy0] at hown
  exact va_get (ci := 12) (C := RX12) (T := TX12) (N := 41) hx hb hB in_X12 hown hK.1 hP q0 he rfl 23 (by decide) (hB _ m_1053) (fun _ h => h) hv hdg kk
theorem gX12_one_6 : (decode cX12_one 112 = .ok (.istore_n 2, 1)) ∧ (decode cX12_one 113 = .ok (.iinc 3 1, 3)) ∧ (decode cX12_one 116 = .ok (.goto (-27), 3)) ∧ (decode cX12_one 119 = .ok (.aload_n 0, 1)) ∧ (decode cX12_one 120 = .ok (.iload_n 2, 1)) ∧ (decode cX12_one 121 = .ok (.ifCond .lt 7, 3)) ∧ (decode cX12_one 124 = .ok (.iconst 1, 1)) ∧ (decode cX12_one 125 = .ok (.goto 4, 3)) ∧ (decode cX12_one 128 = .ok (.iconst 0, 1)) ∧ (decode cX12_one 129 = .ok (.invokevirtual 236, 3)) := by decide +kernel
theorem gX12_one_7 : (decode cX12_one 132 = .ok (.aload_n 0, 1)) ∧ (decode cX12_one 133 = .ok (.bipush 60, 2)) ∧ (decode cX12_one 135 = .ok (.invokevirtual 262, 3)) ∧ (decode cX12_one 138 = .ok (.ifCond .eq 7, 3)) ∧ (decode cX12_one 141 = .ok (.iconst 0, 1)) ∧ (decode cX12_one 142 = .ok (.goto 17, 3)) ∧ (decode cX12_one 145 = .ok (.aload_n 0, 1)) ∧ (decode cX12_one 146 = .ok (.bipush 61, 2)) ∧ (decode cX12_one 148 = .ok (.invokevirtual 262, 3)) ∧ (decode cX12_one 151 = .ok (.ifCond .eq 7, 3)) := by decide +kernel
theorem gX12_one_8 : (decode cX12_one 154 = .ok (.iconst 1, 1)) ∧ (decode cX12_one 155 = .ok (.goto 4, 3)) ∧ (decode cX12_one 158 = .ok (.iconst 2, 1)) ∧ (decode cX12_one 159 = .ok (.istore_n 3, 1)) ∧ (decode cX12_one 160 = .ok (.aload_n 0, 1)) ∧ (decode cX12_one 161 = .ok (.aload_n 0, 1)) ∧ (decode cX12_one 162 = .ok (.bipush 60, 2)) ∧ (decode cX12_one 164 = .ok (.invokevirtual 262, 3)) ∧ (decode cX12_one 167 = .ok (.ifCond .ne 21, 3)) ∧ (decode cX12_one 170 = .ok (.aload_n 0, 1)) := by decide +kernel
theorem gX12_one_9 : (decode cX12_one 171 = .ok (.bipush 61, 2)) ∧ (decode cX12_one 173 = .ok (.invokevirtual 262, 3)) ∧ (decode cX12_one 176 = .ok (.ifCond .ne 12, 3)) ∧ (decode cX12_one 179 = .ok (.aload_n 0, 1)) ∧ (decode cX12_one 180 = .ok (.bipush 62, 2)) ∧ (decode cX12_one 182 = .ok (.invokevirtual 262, 3)) ∧ (decode cX12_one 185 = .ok (.ifCond .eq 7, 3)) ∧ (decode cX12_one 188 = .ok (.iconst 1, 1)) ∧ (decode cX12_one 189 = .ok (.goto 4, 3)) ∧ (decode cX12_one 192 = .ok (.iconst 0, 1)) := by decide +kernel
theorem gX12_one_10 : (decode cX12_one 193 = .ok (.invokevirtual 236, 3)) ∧ (decode cX12_one 196 = .ok (.aload_n 0, 1)) ∧ (decode cX12_one 197 = .ok (.sipush 999, 3)) ∧ (decode cX12_one 200 = .ok (.invokevirtual 271, 3)) ∧ (decode cX12_one 203 = .ok (.istore 4, 2)) ∧ (decode cX12_one 205 = .ok (.aload_n 0, 1)) ∧ (decode cX12_one 206 = .ok (.sipush 3000, 3)) ∧ (decode cX12_one 209 = .ok (.iload_n 2, 1)) ∧ (decode cX12_one 210 = .ok (.imul, 1)) ∧ (decode cX12_one 211 = .ok (.sipush 1000, 3)) := by decide +kernel
theorem m_1261 : Cond.code yX12_number cX12_number 5 (some .int) ∈ BW := iB_BW67 _ (List.mem_of_getElem? (i := 9) rfl)
theorem m_1259 : Cond.methodLink RX12 271 yX12_number ∈ BW := iB_BW67 _ (List.mem_of_getElem? (i := 7) rfl)
theorem m_1260 : Cond.instanceMethod yX12_number ∈ BW := iB_BW67 _ (List.mem_of_getElem? (i := 8) rfl)
theorem m_82 : Cond.selects RX12 yX12_number yX12_number ∈ BW := iB_BW4 _ (List.mem_of_getElem? (i := 2) rfl)
theorem si_X12_271 : SV RX12 RX12 271 yX12_number cX12_number 5 (some .int) 1 := ⟨⟨m_1259, m_1260, m_82, m_115, m_1261⟩, rfl, nK_RX12.1, nK_RX12.2, pd_7⟩
theorem gX12_one_11 : (decode cX12_one 214 = .ok (.iload_n 3, 1)) ∧ (decode cX12_one 215 = .ok (.imul, 1)) ∧ (decode cX12_one 216 = .ok (.iadd, 1)) ∧ (decode cX12_one 217 = .ok (.iload 4, 2)) ∧ (decode cX12_one 219 = .ok (.iadd, 1)) ∧ (decode cX12_one 220 = .ok (.invokevirtual 252, 3)) ∧ (decode cX12_one 223 = .ok (.iconst 0, 1)) ∧ (decode cX12_one 224 = .ok (.istore_n 2, 1)) ∧ (decode cX12_one 225 = .ok (.iload_n 2, 1)) ∧ (decode cX12_one 226 = .ok (.iload_n 1, 1)) := by decide +kernel
theorem m_1276 : Cond.code yX12_codes cX12_codes 2 none ∈ BW := iB_BW68 _ (List.mem_of_getElem? (i := 4) rfl)
theorem m_1274 : Cond.methodLink RX12 252 yX12_codes ∈ BW := iB_BW68 _ (List.mem_of_getElem? (i := 2) rfl)
theorem m_1275 : Cond.instanceMethod yX12_codes ∈ BW := iB_BW68 _ (List.mem_of_getElem? (i := 3) rfl)
theorem m_87 : Cond.selects RX12 yX12_codes yX12_codes ∈ BW := iB_BW4 _ (List.mem_of_getElem? (i := 7) rfl)
theorem si_X12_252 : SV RX12 RX12 252 yX12_codes cX12_codes 2 none 1 := ⟨⟨m_1274, m_1275, m_87, m_115, m_1276⟩, rfl, nK_RX12.1, nK_RX12.2, pd_18⟩
theorem gX12_one_12 : (decode cX12_one 227 = .ok (.if_icmp .ge 16, 3)) ∧ (decode cX12_one 230 = .ok (.aload_n 0, 1)) ∧ (decode cX12_one 231 = .ok (.sipush 30000, 3)) ∧ (decode cX12_one 234 = .ok (.invokevirtual 252, 3)) ∧ (decode cX12_one 237 = .ok (.iinc 2 1, 3)) ∧ (decode cX12_one 240 = .ok (.goto (-15), 3)) ∧ (decode cX12_one 243 = .ok (.return_, 1)) := by decide +kernel
theorem gX12_all_0 : (decode cX12_all 0 = .ok (.aload_n 0, 1)) ∧ (decode cX12_all 1 = .ok (.invokevirtual 255, 3)) ∧ (decode cX12_all 4 = .ok (.aload_n 0, 1)) ∧ (decode cX12_all 5 = .ok (.ldc_w 258, 3)) ∧ (decode cX12_all 8 = .ok (.invokevirtual 248, 3)) ∧ (decode cX12_all 11 = .ok (.ifCond .eq 21, 3)) ∧ (decode cX12_all 14 = .ok (.aload_n 0, 1)) ∧ (decode cX12_all 15 = .ok (.invokevirtual 233, 3)) ∧ (decode cX12_all 18 = .ok (.aload_n 0, 1)) ∧ (decode cX12_all 19 = .ok (.invokevirtual 255, 3)) := by decide +kernel
theorem m_1270 : Cond.code yX12_one cX12_one 5 none ∈ BW := iB_BW67 _ (List.mem_of_getElem? (i := 18) rfl)
theorem m_1268 : Cond.methodLink RX12 255 yX12_one ∈ BW := iB_BW67 _ (List.mem_of_getElem? (i := 16) rfl)
theorem m_1269 : Cond.instanceMethod yX12_one ∈ BW := iB_BW67 _ (List.mem_of_getElem? (i := 17) rfl)
theorem m_85 : Cond.selects RX12 yX12_one yX12_one ∈ BW := iB_BW4 _ (List.mem_of_getElem? (i := 5) rfl)
theorem si_X12_255 : SV RX12 RX12 255 yX12_one cX12_one 5 none 0 := ⟨⟨m_1268, m_1269, m_85, m_115, m_1270⟩, rfl, nK_RX12.1, nK_RX12.2, pd_9⟩
theorem gX12_all_1 : (decode cX12_all 22 = .ok (.aload_n 0, 1)) ∧ (decode cX12_all 23 = .ok (.sipush 30001, 3)) ∧ (decode cX12_all 26 = .ok (.invokevirtual 252, 3)) ∧ (decode cX12_all 29 = .ok (.goto (-25), 3)) ∧ (decode cX12_all 32 = .ok (.return_, 1)) := by decide +kernel
theorem gX12_either_0 : (decode cX12_either 0 = .ok (.aload_n 0, 1)) ∧ (decode cX12_either 1 = .ok (.invokevirtual 243, 3)) ∧ (decode cX12_either 4 = .ok (.aload_n 0, 1)) ∧ (decode cX12_either 5 = .ok (.ldc 246, 2)) ∧ (decode cX12_either 7 = .ok (.invokevirtual 248, 3)) ∧ (decode cX12_either 10 = .ok (.ifCond .eq 21, 3)) ∧ (decode cX12_either 13 = .ok (.aload_n 0, 1)) ∧ (decode cX12_either 14 = .ok (.invokevirtual 233, 3)) ∧ (decode cX12_either 17 = .ok (.aload_n 0, 1)) ∧ (decode cX12_either 18 = .ok (.invokevirtual 243, 3)) := by decide +kernel
theorem m_1267 : Cond.code yX12_all cX12_all 1 none ∈ BW := iB_BW67 _ (List.mem_of_getElem? (i := 15) rfl)
theorem m_1265 : Cond.methodLink RX12 243 yX12_all ∈ BW := iB_BW67 _ (List.mem_of_getElem? (i := 13) rfl)
theorem m_1266 : Cond.instanceMethod yX12_all ∈ BW := iB_BW67 _ (List.mem_of_getElem? (i := 14) rfl)
theorem m_84 : Cond.selects RX12 yX12_all yX12_all ∈ BW := iB_BW4 _ (List.mem_of_getElem? (i := 4) rfl)
theorem si_X12_243 : SV RX12 RX12 243 yX12_all cX12_all 1 none 0 := ⟨⟨m_1265, m_1266, m_84, m_115, m_1267⟩, rfl, nK_RX12.1, nK_RX12.2, pd_9⟩
theorem gX12_either_1 : (decode cX12_either 21 = .ok (.aload_n 0, 1)) ∧ (decode cX12_either 22 = .ok (.sipush 30002, 3)) ∧ (decode cX12_either 25 = .ok (.invokevirtual 252, 3)) ∧ (decode cX12_either 28 = .ok (.goto (-24), 3)) ∧ (decode cX12_either 31 = .ok (.return_, 1)) := by decide +kernel
theorem m_1048 : Cond.fieldLink RX12 265 "InquiryBenchModel" "deep" "I" ∈ BW := iB_BW55 _ (List.mem_of_getElem? (i := 17) rfl)
theorem gf_X12_265 (hC : CX p s m meth c y0 b0 mL0 rt0 args) (hy0 : y0.cls = RX12) (hK : KK G s) (hP : va_P G.1 vwCl ws H) (q0 : Nat) {fs : List Value} {v : Value} (he : ws[q0]? = some (a, .inr (12, fs))) (hv : fs[18]? = some v) (hdg : decode b0 pc = .ok (.getfield 265, 3)) (kk : W p l e R s m args below meth c H locs cells slots Q (F0 m (pc + 3) ls (v :: rest))) : W p l e R s m args below meth c H locs cells slots Q (F0 m pc ls (.ref a :: rest)) := by
  obtain ⟨hx, hb, hr, hml, hB, hown, hlocks, hnm⟩ := hC
  rw [hy0] at hown
  exact va_get (ci := 12) (C := RX12) (T := TX12) (N := 41) hx hb hB in_X12 hown hK.1 hP q0 he rfl 18 (by decide) (hB _ m_1048) (fun _ h => h) hv hdg kk
theorem pf_X12_265 (hC : CX p s m meth c y0 b0 mL0 rt0 args) (hy0 : y0.cls = RX12) (hK : KK G s) (hP : va_P G.1 vwCl ws H) (hD : va_D A ws) (hS : va_S A H0 H locs) (q0 : Nat) {fs : List Value} {v : Value} {ws' : va_W} (he : ws[q0]? = some (a, .inr (12, fs))) (hl : 18 < fs.length) (hws : ws.set q0 (a, .inr (12, fs.set 18 v)) = ws') (hn : narrow .int v = v) (hfit : fits .int v = true) (hdg : decode b0 pc = .ok (.putfield 265, 3)) (kk : ∀ (H1 : Heap) (locs1 : List Loc), va_P G.1 vwCl ws' H1 → va_D A ws' → va_S A H0 H1 locs1 → W p l e R s m args below meth c H1 locs1 cells slots Q (F0 m (pc + 3) ls rest)) : W p l e R s m args below meth c H locs cells slots Q (F0 m pc ls (v :: .ref a :: rest)) := by
  obtain ⟨hx, hb, hr, hml, hB, hown, hlocks, hnm⟩ := hC
  rw [hy0] at hown
  subst hws
  exact va_put (ci := 12) (ty := .int) (C := RX12) (T := TX12) (N := 41) hx hb hB in_X12 tyX12 tyX12_ok nmX12 hown hK.1 hP hD hS q0 he rfl 18 (by decide) (hB _ m_1048) (fun _ h => h) rfl (by decide +kernel) hn hfit hl hdg kk
theorem gX12_one_2 : (decode cX12_one 41 = .ok (.aload_n 0, 1)) ∧ (decode cX12_one 42 = .ok (.aload_n 0, 1)) ∧ (decode cX12_one 43 = .ok (.getfield 265, 3)) ∧ (decode cX12_one 46 = .ok (.iconst 4, 1)) ∧ (decode cX12_one 47 = .ok (.if_icmp .gt 7, 3)) ∧ (decode cX12_one 50 = .ok (.iconst 1, 1)) ∧ (decode cX12_one 51 = .ok (.goto 4, 3)) ∧ (decode cX12_one 54 = .ok (.iconst 0, 1)) ∧ (decode cX12_one 55 = .ok (.invokevirtual 236, 3)) ∧ (decode cX12_one 58 = .ok (.aload_n 0, 1)) := by decide +kernel
theorem gX12_one_3 : (decode cX12_one 59 = .ok (.invokevirtual 268, 3)) ∧ (decode cX12_one 62 = .ok (.aload_n 0, 1)) ∧ (decode cX12_one 63 = .ok (.aload_n 0, 1)) ∧ (decode cX12_one 64 = .ok (.bipush 41, 2)) ∧ (decode cX12_one 66 = .ok (.invokevirtual 262, 3)) ∧ (decode cX12_one 69 = .ok (.invokevirtual 236, 3)) ∧ (decode cX12_one 72 = .ok (.aload_n 0, 1)) ∧ (decode cX12_one 73 = .ok (.dup, 1)) ∧ (decode cX12_one 74 = .ok (.getfield 265, 3)) ∧ (decode cX12_one 77 = .ok (.iconst 1, 1)) := by decide +kernel
theorem m_1264 : Cond.code yX12_either cX12_either 1 none ∈ BW := iB_BW67 _ (List.mem_of_getElem? (i := 12) rfl)
theorem m_1262 : Cond.methodLink RX12 268 yX12_either ∈ BW := iB_BW67 _ (List.mem_of_getElem? (i := 10) rfl)
theorem m_1263 : Cond.instanceMethod yX12_either ∈ BW := iB_BW67 _ (List.mem_of_getElem? (i := 11) rfl)
theorem m_83 : Cond.selects RX12 yX12_either yX12_either ∈ BW := iB_BW4 _ (List.mem_of_getElem? (i := 3) rfl)
theorem si_X12_268 : SV RX12 RX12 268 yX12_either cX12_either 1 none 0 := ⟨⟨m_1262, m_1263, m_83, m_115, m_1264⟩, rfl, nK_RX12.1, nK_RX12.2, pd_9⟩
theorem gX12_lineAt_0 : (decode cX12_lineAt 0 = .ok (.aload_n 0, 1)) ∧ (decode cX12_lineAt 1 = .ok (.ldc_w 274, 3)) ∧ (decode cX12_lineAt 4 = .ok (.invokevirtual 248, 3)) ∧ (decode cX12_lineAt 7 = .ok (.ifCond .eq 7, 3)) ∧ (decode cX12_lineAt 10 = .ok (.iconst 0, 1)) ∧ (decode cX12_lineAt 11 = .ok (.goto 46, 3)) ∧ (decode cX12_lineAt 14 = .ok (.aload_n 0, 1)) ∧ (decode cX12_lineAt 15 = .ok (.ldc_w 276, 3)) ∧ (decode cX12_lineAt 18 = .ok (.invokevirtual 248, 3)) ∧ (decode cX12_lineAt 21 = .ok (.ifCond .eq 7, 3)) := by decide +kernel
theorem gX12_lineAt_2 : (decode cX12_lineAt 46 = .ok (.invokevirtual 248, 3)) ∧ (decode cX12_lineAt 49 = .ok (.ifCond .eq 7, 3)) ∧ (decode cX12_lineAt 52 = .ok (.iconst 3, 1)) ∧ (decode cX12_lineAt 53 = .ok (.goto 4, 3)) ∧ (decode cX12_lineAt 56 = .ok (.iconst (-1), 1)) ∧ (decode cX12_lineAt 57 = .ok (.istore_n 2, 1)) ∧ (decode cX12_lineAt 58 = .ok (.aload_n 0, 1)) ∧ (decode cX12_lineAt 59 = .ok (.iload_n 2, 1)) ∧ (decode cX12_lineAt 60 = .ok (.ifCond .lt 7, 3)) ∧ (decode cX12_lineAt 63 = .ok (.iconst 1, 1)) := by decide +kernel
theorem gX12_lineAt_3 : (decode cX12_lineAt 64 = .ok (.goto 4, 3)) ∧ (decode cX12_lineAt 67 = .ok (.iconst 0, 1)) ∧ (decode cX12_lineAt 68 = .ok (.invokevirtual 236, 3)) ∧ (decode cX12_lineAt 71 = .ok (.aload_n 0, 1)) ∧ (decode cX12_lineAt 72 = .ok (.getfield 32, 3)) ∧ (decode cX12_lineAt 75 = .ok (.iload_n 1, 1)) ∧ (decode cX12_lineAt 76 = .ok (.iload_n 2, 1)) ∧ (decode cX12_lineAt 77 = .ok (.iastore, 1)) ∧ (decode cX12_lineAt 78 = .ok (.aload_n 0, 1)) ∧ (decode cX12_lineAt 79 = .ok (.getfield 32, 3)) := by decide +kernel
theorem m_1051 : Cond.fieldLink RX12 32 "InquiryBenchModel" "line" "[I" ∈ BW := iB_BW56 _ (List.mem_of_getElem? (i := 0) rfl)
theorem gf_X12_32 (hC : CX p s m meth c y0 b0 mL0 rt0 args) (hy0 : y0.cls = RX12) (hK : KK G s) (hP : va_P G.1 vwCl ws H) (q0 : Nat) {fs : List Value} {v : Value} (he : ws[q0]? = some (a, .inr (12, fs))) (hv : fs[21]? = some v) (hdg : decode b0 pc = .ok (.getfield 32, 3)) (kk : W p l e R s m args below meth c H locs cells slots Q (F0 m (pc + 3) ls (v :: rest))) : W p l e R s m args below meth c H locs cells slots Q (F0 m pc ls (.ref a :: rest)) := by
  obtain ⟨hx, hb, hr, hml, hB, hown, hlocks, hnm⟩ := hC
  rw [hy0] at hown
  exact va_get (ci := 12) (C := RX12) (T := TX12) (N := 41) hx hb hB in_X12 hown hK.1 hP q0 he rfl 21 (by decide) (hB _ m_1051) (fun _ h => h) hv hdg kk
theorem gX12_lineAt_4 : (decode cX12_lineAt 82 = .ok (.iload_n 1, 1)) ∧ (decode cX12_lineAt 83 = .ok (.iconst 1, 1)) ∧ (decode cX12_lineAt 84 = .ok (.iadd, 1)) ∧ (decode cX12_lineAt 85 = .ok (.aload_n 0, 1)) ∧ (decode cX12_lineAt 86 = .ok (.iload_n 2, 1)) ∧ (decode cX12_lineAt 87 = .ok (.ifCond .eq 8, 3)) ∧ (decode cX12_lineAt 90 = .ok (.iload_n 2, 1)) ∧ (decode cX12_lineAt 91 = .ok (.iconst 1, 1)) ∧ (decode cX12_lineAt 92 = .ok (.if_icmp .ne 8, 3)) ∧ (decode cX12_lineAt 95 = .ok (.bipush 99, 2)) := by decide +kernel
theorem gX12_lineAt_5 : (decode cX12_lineAt 97 = .ok (.goto 15, 3)) ∧ (decode cX12_lineAt 100 = .ok (.iload_n 2, 1)) ∧ (decode cX12_lineAt 101 = .ok (.iconst 2, 1)) ∧ (decode cX12_lineAt 102 = .ok (.if_icmp .ne 8, 3)) ∧ (decode cX12_lineAt 105 = .ok (.bipush 7, 2)) ∧ (decode cX12_lineAt 107 = .ok (.goto 5, 3)) ∧ (decode cX12_lineAt 110 = .ok (.bipush 9, 2)) ∧ (decode cX12_lineAt 112 = .ok (.invokevirtual 271, 3)) ∧ (decode cX12_lineAt 115 = .ok (.iastore, 1)) ∧ (decode cX12_lineAt 116 = .ok (.aload_n 0, 1)) := by decide +kernel
theorem gX12_lineAt_6 : (decode cX12_lineAt 117 = .ok (.getfield 32, 3)) ∧ (decode cX12_lineAt 120 = .ok (.iload_n 1, 1)) ∧ (decode cX12_lineAt 121 = .ok (.iconst 2, 1)) ∧ (decode cX12_lineAt 122 = .ok (.iadd, 1)) ∧ (decode cX12_lineAt 123 = .ok (.bipush (-9), 2)) ∧ (decode cX12_lineAt 125 = .ok (.iastore, 1)) ∧ (decode cX12_lineAt 126 = .ok (.aload_n 0, 1)) ∧ (decode cX12_lineAt 127 = .ok (.getfield 32, 3)) ∧ (decode cX12_lineAt 130 = .ok (.iload_n 1, 1)) ∧ (decode cX12_lineAt 131 = .ok (.iconst 3, 1)) := by decide +kernel
theorem gX12_lineAt_7 : (decode cX12_lineAt 132 = .ok (.iadd, 1)) ∧ (decode cX12_lineAt 133 = .ok (.bipush (-9), 2)) ∧ (decode cX12_lineAt 135 = .ok (.iastore, 1)) ∧ (decode cX12_lineAt 136 = .ok (.iload_n 2, 1)) ∧ (decode cX12_lineAt 137 = .ok (.ifCond .ne 53, 3)) ∧ (decode cX12_lineAt 140 = .ok (.aload_n 0, 1)) ∧ (decode cX12_lineAt 141 = .ok (.aload_n 0, 1)) ∧ (decode cX12_lineAt 142 = .ok (.ldc_w 282, 3)) ∧ (decode cX12_lineAt 145 = .ok (.invokevirtual 248, 3)) ∧ (decode cX12_lineAt 148 = .ok (.invokevirtual 236, 3)) := by decide +kernel
theorem gX12_lineAt_8 : (decode cX12_lineAt 151 = .ok (.aload_n 0, 1)) ∧ (decode cX12_lineAt 152 = .ok (.getfield 32, 3)) ∧ (decode cX12_lineAt 155 = .ok (.iload_n 1, 1)) ∧ (decode cX12_lineAt 156 = .ok (.iconst 2, 1)) ∧ (decode cX12_lineAt 157 = .ok (.iadd, 1)) ∧ (decode cX12_lineAt 158 = .ok (.aload_n 0, 1)) ∧ (decode cX12_lineAt 159 = .ok (.bipush 7, 2)) ∧ (decode cX12_lineAt 161 = .ok (.invokevirtual 271, 3)) ∧ (decode cX12_lineAt 164 = .ok (.iastore, 1)) ∧ (decode cX12_lineAt 165 = .ok (.aload_n 0, 1)) := by decide +kernel
theorem gX12_lineAt_9 : (decode cX12_lineAt 166 = .ok (.aload_n 0, 1)) ∧ (decode cX12_lineAt 167 = .ok (.ldc_w 284, 3)) ∧ (decode cX12_lineAt 170 = .ok (.invokevirtual 248, 3)) ∧ (decode cX12_lineAt 173 = .ok (.invokevirtual 236, 3)) ∧ (decode cX12_lineAt 176 = .ok (.aload_n 0, 1)) ∧ (decode cX12_lineAt 177 = .ok (.getfield 32, 3)) ∧ (decode cX12_lineAt 180 = .ok (.iload_n 1, 1)) ∧ (decode cX12_lineAt 181 = .ok (.iconst 3, 1)) ∧ (decode cX12_lineAt 182 = .ok (.iadd, 1)) ∧ (decode cX12_lineAt 183 = .ok (.aload_n 0, 1)) := by decide +kernel
theorem gX12_lineAt_10 : (decode cX12_lineAt 184 = .ok (.bipush 7, 2)) ∧ (decode cX12_lineAt 186 = .ok (.invokevirtual 271, 3)) ∧ (decode cX12_lineAt 189 = .ok (.iastore, 1)) ∧ (decode cX12_lineAt 190 = .ok (.iload_n 2, 1)) ∧ (decode cX12_lineAt 191 = .ok (.iconst 2, 1)) ∧ (decode cX12_lineAt 192 = .ok (.if_icmp .ne 29, 3)) ∧ (decode cX12_lineAt 195 = .ok (.aload_n 0, 1)) ∧ (decode cX12_lineAt 196 = .ok (.aload_n 0, 1)) ∧ (decode cX12_lineAt 197 = .ok (.ldc_w 285, 3)) ∧ (decode cX12_lineAt 200 = .ok (.invokevirtual 248, 3)) := by decide +kernel
theorem gX12_lineAt_12 : (decode cX12_lineAt 221 = .ok (.aload_n 0, 1)) ∧ (decode cX12_lineAt 222 = .ok (.getfield 32, 3)) ∧ (decode cX12_lineAt 225 = .ok (.iload_n 1, 1)) ∧ (decode cX12_lineAt 226 = .ok (.iconst 4, 1)) ∧ (decode cX12_lineAt 227 = .ok (.iadd, 1)) ∧ (decode cX12_lineAt 228 = .ok (.aload_n 0, 1)) ∧ (decode cX12_lineAt 229 = .ok (.getfield 240, 3)) ∧ (decode cX12_lineAt 232 = .ok (.iastore, 1)) ∧ (decode cX12_lineAt 233 = .ok (.iload_n 2, 1)) ∧ (decode cX12_lineAt 234 = .ok (.iconst 3, 1)) := by decide +kernel
theorem gX12_lineAt_13 : (decode cX12_lineAt 235 = .ok (.if_icmp .eq 21, 3)) ∧ (decode cX12_lineAt 238 = .ok (.aload_n 0, 1)) ∧ (decode cX12_lineAt 239 = .ok (.ldc_w 287, 3)) ∧ (decode cX12_lineAt 242 = .ok (.invokevirtual 248, 3)) ∧ (decode cX12_lineAt 245 = .ok (.ifCond .eq 11, 3)) ∧ (decode cX12_lineAt 248 = .ok (.aload_n 0, 1)) ∧ (decode cX12_lineAt 249 = .ok (.invokevirtual 233, 3)) ∧ (decode cX12_lineAt 252 = .ok (.aload_n 0, 1)) ∧ (decode cX12_lineAt 253 = .ok (.invokevirtual 268, 3)) ∧ (decode cX12_lineAt 256 = .ok (.aload_n 0, 1)) := by decide +kernel
theorem gX12_lineAt_14 : (decode cX12_lineAt 257 = .ok (.getfield 32, 3)) ∧ (decode cX12_lineAt 260 = .ok (.iload_n 1, 1)) ∧ (decode cX12_lineAt 261 = .ok (.iconst 5, 1)) ∧ (decode cX12_lineAt 262 = .ok (.iadd, 1)) ∧ (decode cX12_lineAt 263 = .ok (.aload_n 0, 1)) ∧ (decode cX12_lineAt 264 = .ok (.getfield 240, 3)) ∧ (decode cX12_lineAt 267 = .ok (.iastore, 1)) ∧ (decode cX12_lineAt 268 = .ok (.aload_n 0, 1)) ∧ (decode cX12_lineAt 269 = .ok (.aload_n 0, 1)) ∧ (decode cX12_lineAt 270 = .ok (.bipush 59, 2)) := by decide +kernel
theorem gX12_lineAt_15 : (decode cX12_lineAt 272 = .ok (.invokevirtual 262, 3)) ∧ (decode cX12_lineAt 275 = .ok (.invokevirtual 236, 3)) ∧ (decode cX12_lineAt 278 = .ok (.return_, 1)) := by decide +kernel
theorem gX12_lineAt_1 : (decode cX12_lineAt 24 = .ok (.iconst 1, 1)) ∧ (decode cX12_lineAt 25 = .ok (.goto 32, 3)) ∧ (decode cX12_lineAt 28 = .ok (.aload_n 0, 1)) ∧ (decode cX12_lineAt 29 = .ok (.ldc_w 278, 3)) ∧ (decode cX12_lineAt 32 = .ok (.invokevirtual 248, 3)) ∧ (decode cX12_lineAt 35 = .ok (.ifCond .eq 7, 3)) ∧ (decode cX12_lineAt 38 = .ok (.iconst 2, 1)) ∧ (decode cX12_lineAt 39 = .ok (.goto 18, 3)) ∧ (decode cX12_lineAt 42 = .ok (.aload_n 0, 1)) ∧ (decode cX12_lineAt 43 = .ok (.ldc_w 280, 3)) := by decide +kernel
theorem gX12_lineAt_11 : (decode cX12_lineAt 203 = .ok (.invokevirtual 236, 3)) ∧ (decode cX12_lineAt 206 = .ok (.aload_n 0, 1)) ∧ (decode cX12_lineAt 207 = .ok (.getfield 32, 3)) ∧ (decode cX12_lineAt 210 = .ok (.iload_n 1, 1)) ∧ (decode cX12_lineAt 211 = .ok (.iconst 2, 1)) ∧ (decode cX12_lineAt 212 = .ok (.iadd, 1)) ∧ (decode cX12_lineAt 213 = .ok (.aload_n 0, 1)) ∧ (decode cX12_lineAt 214 = .ok (.sipush 999, 3)) ∧ (decode cX12_lineAt 217 = .ok (.invokevirtual 271, 3)) ∧ (decode cX12_lineAt 220 = .ok (.iastore, 1)) := by decide +kernel
theorem gX12_read_0 : (decode cX12_read 0 = .ok (.aload_n 0, 1)) ∧ (decode cX12_read 1 = .ok (.iconst 0, 1)) ∧ (decode cX12_read 2 = .ok (.putfield 211, 3)) ∧ (decode cX12_read 5 = .ok (.aload_n 0, 1)) ∧ (decode cX12_read 6 = .ok (.iconst 0, 1)) ∧ (decode cX12_read 7 = .ok (.putfield 222, 3)) ∧ (decode cX12_read 10 = .ok (.aload_n 0, 1)) ∧ (decode cX12_read 11 = .ok (.iconst 0, 1)) ∧ (decode cX12_read 12 = .ok (.putfield 265, 3)) ∧ (decode cX12_read 15 = .ok (.aload_n 0, 1)) := by decide +kernel
theorem gX12_read_1 : (decode cX12_read 16 = .ok (.iconst 0, 1)) ∧ (decode cX12_read 17 = .ok (.putfield 240, 3)) ∧ (decode cX12_read 20 = .ok (.aload_n 0, 1)) ∧ (decode cX12_read 21 = .ok (.iconst 0, 1)) ∧ (decode cX12_read 22 = .ok (.putfield 289, 3)) ∧ (decode cX12_read 25 = .ok (.aload_n 0, 1)) ∧ (decode cX12_read 26 = .ok (.invokevirtual 233, 3)) ∧ (decode cX12_read 29 = .ok (.aload_n 0, 1)) ∧ (decode cX12_read 30 = .ok (.getfield 222, 3)) ∧ (decode cX12_read 33 = .ok (.ifCond .ne 59, 3)) := by decide +kernel
theorem m_1050 : Cond.fieldLink RX12 289 "InquiryBenchModel" "lines" "I" ∈ BW := iB_BW55 _ (List.mem_of_getElem? (i := 19) rfl)
theorem pf_X12_289 (hC : CX p s m meth c y0 b0 mL0 rt0 args) (hy0 : y0.cls = RX12) (hK : KK G s) (hP : va_P G.1 vwCl ws H) (hD : va_D A ws) (hS : va_S A H0 H locs) (q0 : Nat) {fs : List Value} {v : Value} {ws' : va_W} (he : ws[q0]? = some (a, .inr (12, fs))) (hl : 20 < fs.length) (hws : ws.set q0 (a, .inr (12, fs.set 20 v)) = ws') (hn : narrow .int v = v) (hfit : fits .int v = true) (hdg : decode b0 pc = .ok (.putfield 289, 3)) (kk : ∀ (H1 : Heap) (locs1 : List Loc), va_P G.1 vwCl ws' H1 → va_D A ws' → va_S A H0 H1 locs1 → W p l e R s m args below meth c H1 locs1 cells slots Q (F0 m (pc + 3) ls rest)) : W p l e R s m args below meth c H locs cells slots Q (F0 m pc ls (v :: .ref a :: rest)) := by
  obtain ⟨hx, hb, hr, hml, hB, hown, hlocks, hnm⟩ := hC
  rw [hy0] at hown
  subst hws
  exact va_put (ci := 12) (ty := .int) (C := RX12) (T := TX12) (N := 41) hx hb hB in_X12 tyX12 tyX12_ok nmX12 hown hK.1 hP hD hS q0 he rfl 20 (by decide) (hB _ m_1050) (fun _ h => h) rfl (by decide +kernel) hn hfit hl hdg kk
theorem gX12_read_4 : (decode cX12_read 76 = .ok (.invokevirtual 292, 3)) ∧ (decode cX12_read 79 = .ok (.aload_n 0, 1)) ∧ (decode cX12_read 80 = .ok (.dup, 1)) ∧ (decode cX12_read 81 = .ok (.getfield 289, 3)) ∧ (decode cX12_read 84 = .ok (.iconst 1, 1)) ∧ (decode cX12_read 85 = .ok (.iadd, 1)) ∧ (decode cX12_read 86 = .ok (.putfield 289, 3)) ∧ (decode cX12_read 89 = .ok (.goto (-60), 3)) ∧ (decode cX12_read 92 = .ok (.aload_n 0, 1)) ∧ (decode cX12_read 93 = .ok (.getfield 214, 3)) := by decide +kernel
theorem gX12_read_5 : (decode cX12_read 96 = .ok (.istore_n 1, 1)) ∧ (decode cX12_read 97 = .ok (.aload_n 0, 1)) ∧ (decode cX12_read 98 = .ok (.iconst 0, 1)) ∧ (decode cX12_read 99 = .ok (.putfield 206, 3)) ∧ (decode cX12_read 102 = .ok (.aload_n 0, 1)) ∧ (decode cX12_read 103 = .ok (.getfield 222, 3)) ∧ (decode cX12_read 106 = .ok (.ifCond .eq 8, 3)) ∧ (decode cX12_read 109 = .ok (.bipush (-100), 2)) ∧ (decode cX12_read 111 = .ok (.iload_n 1, 1)) ∧ (decode cX12_read 112 = .ok (.isub, 1)) := by decide +kernel
theorem gX12_read_6 : (decode cX12_read 113 = .ok (.ireturn, 1)) ∧ (decode cX12_read 114 = .ok (.aload_n 0, 1)) ∧ (decode cX12_read 115 = .ok (.getfield 9, 3)) ∧ (decode cX12_read 118 = .ok (.bipush 7, 2)) ∧ (decode cX12_read 120 = .ok (.iaload, 1)) ∧ (decode cX12_read 121 = .ok (.istore_n 2, 1)) ∧ (decode cX12_read 122 = .ok (.iload_n 2, 1)) ∧ (decode cX12_read 123 = .ok (.bipush 8, 2)) ∧ (decode cX12_read 125 = .ok (.if_icmp .ne 6, 3)) ∧ (decode cX12_read 128 = .ok (.bipush (-2), 2)) := by decide +kernel
theorem gX12_read_2 : (decode cX12_read 36 = .ok (.aload_n 0, 1)) ∧ (decode cX12_read 37 = .ok (.getfield 217, 3)) ∧ (decode cX12_read 40 = .ok (.ifCond .eq 52, 3)) ∧ (decode cX12_read 43 = .ok (.aload_n 0, 1)) ∧ (decode cX12_read 44 = .ok (.aload_n 0, 1)) ∧ (decode cX12_read 45 = .ok (.getfield 289, 3)) ∧ (decode cX12_read 48 = .ok (.bipush 9, 2)) ∧ (decode cX12_read 50 = .ok (.if_icmp .ne 7, 3)) ∧ (decode cX12_read 53 = .ok (.iconst 1, 1)) ∧ (decode cX12_read 54 = .ok (.goto 4, 3)) := by decide +kernel
theorem gX12_read_7 : (decode cX12_read 130 = .ok (.ireturn, 1)) ∧ (decode cX12_read 131 = .ok (.sipush 176, 3)) ∧ (decode cX12_read 134 = .ok (.sipush 156, 3)) ∧ (decode cX12_read 137 = .ok (.iload_n 2, 1)) ∧ (decode cX12_read 138 = .ok (.imul, 1)) ∧ (decode cX12_read 139 = .ok (.iadd, 1)) ∧ (decode cX12_read 140 = .ok (.istore_n 3, 1)) ∧ (decode cX12_read 141 = .ok (.aload_n 0, 1)) ∧ (decode cX12_read 142 = .ok (.getfield 9, 3)) ∧ (decode cX12_read 145 = .ok (.iload_n 3, 1)) := by decide +kernel
theorem gX12_read_8 : (decode cX12_read 146 = .ok (.iconst 0, 1)) ∧ (decode cX12_read 147 = .ok (.iadd, 1)) ∧ (decode cX12_read 148 = .ok (.aload_n 0, 1)) ∧ (decode cX12_read 149 = .ok (.getfield 9, 3)) ∧ (decode cX12_read 152 = .ok (.iconst 0, 1)) ∧ (decode cX12_read 153 = .ok (.iaload, 1)) ∧ (decode cX12_read 154 = .ok (.iastore, 1)) ∧ (decode cX12_read 155 = .ok (.aload_n 0, 1)) ∧ (decode cX12_read 156 = .ok (.getfield 9, 3)) ∧ (decode cX12_read 159 = .ok (.iload_n 3, 1)) := by decide +kernel
theorem gX12_read_9 : (decode cX12_read 160 = .ok (.iconst 1, 1)) ∧ (decode cX12_read 161 = .ok (.iadd, 1)) ∧ (decode cX12_read 162 = .ok (.aload_n 0, 1)) ∧ (decode cX12_read 163 = .ok (.getfield 289, 3)) ∧ (decode cX12_read 166 = .ok (.iastore, 1)) ∧ (decode cX12_read 167 = .ok (.iconst 0, 1)) ∧ (decode cX12_read 168 = .ok (.istore 4, 2)) ∧ (decode cX12_read 170 = .ok (.iload 4, 2)) ∧ (decode cX12_read 172 = .ok (.bipush 54, 2)) ∧ (decode cX12_read 174 = .ok (.if_icmp .ge 27, 3)) := by decide +kernel
theorem gf_X12_289 (hC : CX p s m meth c y0 b0 mL0 rt0 args) (hy0 : y0.cls = RX12) (hK : KK G s) (hP : va_P G.1 vwCl ws H) (q0 : Nat) {fs : List Value} {v : Value} (he : ws[q0]? = some (a, .inr (12, fs))) (hv : fs[20]? = some v) (hdg : decode b0 pc = .ok (.getfield 289, 3)) (kk : W p l e R s m args below meth c H locs cells slots Q (F0 m (pc + 3) ls (v :: rest))) : W p l e R s m args below meth c H locs cells slots Q (F0 m pc ls (.ref a :: rest)) := by
  obtain ⟨hx, hb, hr, hml, hB, hown, hlocks, hnm⟩ := hC
  rw [hy0] at hown
  exact va_get (ci := 12) (C := RX12) (T := TX12) (N := 41) hx hb hB in_X12 hown hK.1 hP q0 he rfl 20 (by decide) (hB _ m_1050) (fun _ h => h) hv hdg kk
theorem gX12_read_11 : (decode cX12_read 193 = .ok (.iaload, 1)) ∧ (decode cX12_read 194 = .ok (.iastore, 1)) ∧ (decode cX12_read 195 = .ok (.iinc 4 1, 3)) ∧ (decode cX12_read 198 = .ok (.goto (-28), 3)) ∧ (decode cX12_read 201 = .ok (.iconst 0, 1)) ∧ (decode cX12_read 202 = .ok (.istore 4, 2)) ∧ (decode cX12_read 204 = .ok (.iload 4, 2)) ∧ (decode cX12_read 206 = .ok (.aload_n 0, 1)) ∧ (decode cX12_read 207 = .ok (.getfield 240, 3)) ∧ (decode cX12_read 210 = .ok (.if_icmp .ge 28, 3)) := by decide +kernel
theorem gX12_read_13 : (decode cX12_read 230 = .ok (.iaload, 1)) ∧ (decode cX12_read 231 = .ok (.iastore, 1)) ∧ (decode cX12_read 232 = .ok (.iinc 4 1, 3)) ∧ (decode cX12_read 235 = .ok (.goto (-31), 3)) ∧ (decode cX12_read 238 = .ok (.aload_n 0, 1)) ∧ (decode cX12_read 239 = .ok (.getfield 9, 3)) ∧ (decode cX12_read 242 = .ok (.bipush 7, 2)) ∧ (decode cX12_read 244 = .ok (.dup2, 1)) ∧ (decode cX12_read 245 = .ok (.iaload, 1)) ∧ (decode cX12_read 246 = .ok (.iconst 1, 1)) := by decide +kernel
theorem gX12_read_14 : (decode cX12_read 247 = .ok (.iadd, 1)) ∧ (decode cX12_read 248 = .ok (.iastore, 1)) ∧ (decode cX12_read 249 = .ok (.iload_n 2, 1)) ∧ (decode cX12_read 250 = .ok (.ireturn, 1)) := by decide +kernel
theorem gX12_read_12 : (decode cX12_read 213 = .ok (.aload_n 0, 1)) ∧ (decode cX12_read 214 = .ok (.getfield 9, 3)) ∧ (decode cX12_read 217 = .ok (.iload_n 3, 1)) ∧ (decode cX12_read 218 = .ok (.bipush 56, 2)) ∧ (decode cX12_read 220 = .ok (.iadd, 1)) ∧ (decode cX12_read 221 = .ok (.iload 4, 2)) ∧ (decode cX12_read 223 = .ok (.iadd, 1)) ∧ (decode cX12_read 224 = .ok (.aload_n 0, 1)) ∧ (decode cX12_read 225 = .ok (.getfield 35, 3)) ∧ (decode cX12_read 228 = .ok (.iload 4, 2)) := by decide +kernel
theorem gX12_read_10 : (decode cX12_read 177 = .ok (.aload_n 0, 1)) ∧ (decode cX12_read 178 = .ok (.getfield 9, 3)) ∧ (decode cX12_read 181 = .ok (.iload_n 3, 1)) ∧ (decode cX12_read 182 = .ok (.iconst 2, 1)) ∧ (decode cX12_read 183 = .ok (.iadd, 1)) ∧ (decode cX12_read 184 = .ok (.iload 4, 2)) ∧ (decode cX12_read 186 = .ok (.iadd, 1)) ∧ (decode cX12_read 187 = .ok (.aload_n 0, 1)) ∧ (decode cX12_read 188 = .ok (.getfield 32, 3)) ∧ (decode cX12_read 191 = .ok (.iload 4, 2)) := by decide +kernel
theorem gX12_read_3 : (decode cX12_read 57 = .ok (.iconst 0, 1)) ∧ (decode cX12_read 58 = .ok (.putfield 222, 3)) ∧ (decode cX12_read 61 = .ok (.aload_n 0, 1)) ∧ (decode cX12_read 62 = .ok (.getfield 222, 3)) ∧ (decode cX12_read 65 = .ok (.ifCond .ne (-36), 3)) ∧ (decode cX12_read 68 = .ok (.aload_n 0, 1)) ∧ (decode cX12_read 69 = .ok (.bipush 6, 2)) ∧ (decode cX12_read 71 = .ok (.aload_n 0, 1)) ∧ (decode cX12_read 72 = .ok (.getfield 289, 3)) ∧ (decode cX12_read 75 = .ok (.imul, 1)) := by decide +kernel
theorem m_1250 : Cond.code yX12_lineAt cX12_lineAt 3 none ∈ BW := iB_BW66 _ (List.mem_of_getElem? (i := 18) rfl)
theorem m_1248 : Cond.methodLink RX12 292 yX12_lineAt ∈ BW := iB_BW66 _ (List.mem_of_getElem? (i := 16) rfl)
theorem m_1249 : Cond.instanceMethod yX12_lineAt ∈ BW := iB_BW66 _ (List.mem_of_getElem? (i := 17) rfl)
theorem m_79 : Cond.selects RX12 yX12_lineAt yX12_lineAt ∈ BW := iB_BW3 _ (List.mem_of_getElem? (i := 19) rfl)
theorem si_X12_292 : SV RX12 RX12 292 yX12_lineAt cX12_lineAt 3 none 1 := ⟨⟨m_1248, m_1249, m_79, m_115, m_1250⟩, rfl, nK_RX12.1, nK_RX12.2, pd_18⟩
end WR
theorem rm_7_4_2 {mc ms : Nat} : 4 + 1 ≤ (RM 7 mc ms).frames ∧ 8 + (2 + 11) + 40 * 4 ≤ (RM 7 mc ms).locals := ⟨by show 4 + 1 ≤ 7; decide, by show 8 + (2 + 11) + 40 * 4 ≤ 40 * 7; decide⟩
theorem dj_1__0 : ∀ i ∈ ([0] : List Nat), i ∉ ([1] : List Nat) := by decide
theorem rm_8_7_5 {mc ms : Nat} : 7 + 1 ≤ (RM 8 mc ms).frames ∧ 8 + (5 + 11) + 40 * 7 ≤ (RM 8 mc ms).locals := ⟨by show 7 + 1 ≤ 8; decide, by show 8 + (5 + 11) + 40 * 7 ≤ 40 * 8; decide⟩
theorem rm_9_8_1 {mc ms : Nat} : 8 + 1 ≤ (RM 9 mc ms).frames ∧ 8 + (1 + 11) + 40 * 8 ≤ (RM 9 mc ms).locals := ⟨by show 8 + 1 ≤ 9; decide, by show 8 + (1 + 11) + 40 * 8 ≤ 40 * 9; decide⟩
theorem rm_9_5_4 {mc ms : Nat} : 5 + 1 ≤ (RM 9 mc ms).frames ∧ 8 + (4 + 11) + 40 * 5 ≤ (RM 9 mc ms).locals := ⟨by show 5 + 1 ≤ 9; decide, by show 8 + (4 + 11) + 40 * 5 ≤ 40 * 9; decide⟩
theorem dj_3__0_1_2 : ∀ i ∈ ([0, 1, 2] : List Nat), i ∉ ([3] : List Nat) := by decide
theorem sm_2_0 {a0 a1 a2 : Nat × va_E} {l : va_W} : ([2, 0] : List Nat).map (fun i => (a0 :: a1 :: a2 :: l : va_W)[i]?) = ([a2, a0] : va_W).map some := rfl
theorem fm_2_0 {a0 a1 a2 : Nat × va_E} {l : va_W} : ([2, 0] : List Nat).filterMap (fun i => (a0 :: a1 :: a2 :: l : va_W)[i]?) = ([a2, a0] : va_W) := rfl
theorem nd_2_0 : va_nd [2, 0] = true := by decide
theorem dj_2_0__1_3 : ∀ i ∈ ([1, 3] : List Nat), i ∉ ([2, 0] : List Nat) := by decide
theorem fm_3_0_2_1 {a0 a1 a2 a3 : Nat × va_E} {l : va_W} : ([3, 0, 2, 1] : List Nat).filterMap (fun i => (a0 :: a1 :: a2 :: a3 :: l : va_W)[i]?) = ([a3, a0, a2, a1] : va_W) := rfl
theorem nd_3_0_2_1 : va_nd [3, 0, 2, 1] = true := by decide
theorem sm_3_0_2_1 {a0 a1 a2 a3 : Nat × va_E} {l : va_W} : ([3, 0, 2, 1] : List Nat).map (fun i => (a0 :: a1 :: a2 :: a3 :: l : va_W)[i]?) = ([a3, a0, a2, a1] : va_W).map some := rfl
theorem dj_0_2__1_3 : ∀ i ∈ ([1, 3] : List Nat), i ∉ ([0, 2] : List Nat) := by decide
theorem fm_2_0_3_1 {a0 a1 a2 a3 : Nat × va_E} {l : va_W} : ([2, 0, 3, 1] : List Nat).filterMap (fun i => (a0 :: a1 :: a2 :: a3 :: l : va_W)[i]?) = ([a2, a0, a3, a1] : va_W) := rfl
theorem nd_2_0_3_1 : va_nd [2, 0, 3, 1] = true := by decide
theorem sm_2_0_3_1 {a0 a1 a2 a3 : Nat × va_E} {l : va_W} : ([2, 0, 3, 1] : List Nat).map (fun i => (a0 :: a1 :: a2 :: a3 :: l : va_W)[i]?) = ([a2, a0, a3, a1] : va_W).map some := rfl
theorem rm_32_5_4 {mc ms : Nat} : 5 + 1 ≤ (RM 32 mc ms).frames ∧ 8 + (4 + 11) + 40 * 5 ≤ (RM 32 mc ms).locals := ⟨by show 5 + 1 ≤ 32; decide, by show 8 + (4 + 11) + 40 * 5 ≤ 40 * 32; decide⟩
theorem rm_32_4_2 {mc ms : Nat} : 4 + 1 ≤ (RM 32 mc ms).frames ∧ 8 + (2 + 11) + 40 * 4 ≤ (RM 32 mc ms).locals := ⟨by show 4 + 1 ≤ 32; decide, by show 8 + (2 + 11) + 40 * 4 ≤ 40 * 32; decide⟩
theorem rm_32_5_5 {mc ms : Nat} : 5 + 1 ≤ (RM 32 mc ms).frames ∧ 8 + (5 + 11) + 40 * 5 ≤ (RM 32 mc ms).locals := ⟨by show 5 + 1 ≤ 32; decide, by show 8 + (5 + 11) + 40 * 5 ≤ 40 * 32; decide⟩
theorem sm_0_1_2_4 {a0 a1 a2 a3 a4 : Nat × va_E} {l : va_W} : ([0, 1, 2, 4] : List Nat).map (fun i => (a0 :: a1 :: a2 :: a3 :: a4 :: l : va_W)[i]?) = ([a0, a1, a2, a4] : va_W).map some := rfl
theorem nd_0_1_2_4 : va_nd [0, 1, 2, 4] = true := by decide
theorem dj_3__0_1_2_4 : ∀ i ∈ ([0, 1, 2, 4] : List Nat), i ∉ ([3] : List Nat) := by decide
theorem dj_4__0_1_2_3 : ∀ i ∈ ([0, 1, 2, 3] : List Nat), i ∉ ([4] : List Nat) := by decide
theorem rm_32_3_1 {mc ms : Nat} : 3 + 1 ≤ (RM 32 mc ms).frames ∧ 8 + (1 + 11) + 40 * 3 ≤ (RM 32 mc ms).locals := ⟨by show 3 + 1 ≤ 32; decide, by show 8 + (1 + 11) + 40 * 3 ≤ 40 * 32; decide⟩
theorem sm_3_4_0_2 {a0 a1 a2 a3 a4 : Nat × va_E} {l : va_W} : ([3, 4, 0, 2] : List Nat).map (fun i => (a0 :: a1 :: a2 :: a3 :: a4 :: l : va_W)[i]?) = ([a3, a4, a0, a2] : va_W).map some := rfl
theorem fm_3_4_0_2 {a0 a1 a2 a3 a4 : Nat × va_E} {l : va_W} : ([3, 4, 0, 2] : List Nat).filterMap (fun i => (a0 :: a1 :: a2 :: a3 :: a4 :: l : va_W)[i]?) = ([a3, a4, a0, a2] : va_W) := rfl
theorem nd_3_4_0_2 : va_nd [3, 4, 0, 2] = true := by decide
theorem dj_3_4_0_2__1 : ∀ i ∈ ([1] : List Nat), i ∉ ([3, 4, 0, 2] : List Nat) := by decide
theorem dj_1__0_2_3_4 : ∀ i ∈ ([0, 2, 3, 4] : List Nat), i ∉ ([1] : List Nat) := by decide
theorem sm_0_3_4 {a0 a1 a2 a3 a4 : Nat × va_E} {l : va_W} : ([0, 3, 4] : List Nat).map (fun i => (a0 :: a1 :: a2 :: a3 :: a4 :: l : va_W)[i]?) = ([a0, a3, a4] : va_W).map some := rfl
theorem nd_0_3_4 : va_nd [0, 3, 4] = true := by decide
theorem dj_1_2__0_3_4 : ∀ i ∈ ([0, 3, 4] : List Nat), i ∉ ([1, 2] : List Nat) := by decide
theorem dj_0__1_2_3_4 : ∀ i ∈ ([1, 2, 3, 4] : List Nat), i ∉ ([0] : List Nat) := by decide
theorem rm_33_3_1 {mc ms : Nat} : 3 + 1 ≤ (RM 33 mc ms).frames ∧ 8 + (1 + 11) + 40 * 3 ≤ (RM 33 mc ms).locals := ⟨by show 3 + 1 ≤ 33; decide, by show 8 + (1 + 11) + 40 * 3 ≤ 40 * 33; decide⟩
theorem sm_1_3_4_5 {a0 a1 a2 a3 a4 a5 : Nat × va_E} {l : va_W} : ([1, 3, 4, 5] : List Nat).map (fun i => (a0 :: a1 :: a2 :: a3 :: a4 :: a5 :: l : va_W)[i]?) = ([a1, a3, a4, a5] : va_W).map some := rfl
theorem nd_1_3_4_5 : va_nd [1, 3, 4, 5] = true := by decide
theorem dj_0_2__1_3_4_5 : ∀ i ∈ ([1, 3, 4, 5] : List Nat), i ∉ ([0, 2] : List Nat) := by decide
theorem rm_33_32_3 {mc ms : Nat} : 32 + 1 ≤ (RM 33 mc ms).frames ∧ 8 + (3 + 11) + 40 * 32 ≤ (RM 33 mc ms).locals := ⟨by show 32 + 1 ≤ 33; decide, by show 8 + (3 + 11) + 40 * 32 ≤ 40 * 33; decide⟩
theorem sm_4_5_1_2_3 {a0 a1 a2 a3 a4 a5 : Nat × va_E} {l : va_W} : ([4, 5, 1, 2, 3] : List Nat).map (fun i => (a0 :: a1 :: a2 :: a3 :: a4 :: a5 :: l : va_W)[i]?) = ([a4, a5, a1, a2, a3] : va_W).map some := rfl
theorem fm_4_5_1_2_3 {a0 a1 a2 a3 a4 a5 : Nat × va_E} {l : va_W} : ([4, 5, 1, 2, 3] : List Nat).filterMap (fun i => (a0 :: a1 :: a2 :: a3 :: a4 :: a5 :: l : va_W)[i]?) = ([a4, a5, a1, a2, a3] : va_W) := rfl
theorem nd_4_5_1_2_3 : va_nd [4, 5, 1, 2, 3] = true := by decide
theorem dj_4_5_1_2_3__0 : ∀ i ∈ ([0] : List Nat), i ∉ ([4, 5, 1, 2, 3] : List Nat) := by decide
theorem fm_0_3_4_5_1_2 {a0 a1 a2 a3 a4 a5 : Nat × va_E} {l : va_W} : ([0, 3, 4, 5, 1, 2] : List Nat).filterMap (fun i => (a0 :: a1 :: a2 :: a3 :: a4 :: a5 :: l : va_W)[i]?) = ([a0, a3, a4, a5, a1, a2] : va_W) := rfl
theorem nd_0_3_4_5_1_2 : va_nd [0, 3, 4, 5, 1, 2] = true := by decide
theorem sm_0_3_4_5_1_2 {a0 a1 a2 a3 a4 a5 : Nat × va_E} {l : va_W} : ([0, 3, 4, 5, 1, 2] : List Nat).map (fun i => (a0 :: a1 :: a2 :: a3 :: a4 :: a5 :: l : va_W)[i]?) = ([a0, a3, a4, a5, a1, a2] : va_W).map some := rfl
def K_w_feed (l : Launch) (G : GG) (h0 : Nat) (ee : Int64) (x2 : Int32) (nw : Nat) (nk : Nat) (mhasKept : Int32) (nt : Nat) (ktp : Nat) (nr : Nat) (mrowMany : Int32) (mroundOf : Int32) (mroundFrom : Int32) (mouts : Int32) (nm : Nat) (mfromHour : Int32) (mtoHour : Int32) (ns : Nat) (mfrom : Int32) (mto : Int32) (msort : Int32) (misFault : Int32) (mdeep : Int32) (mcoded : Int32) (mlines : Int32) (nl : Nat) (nc : Nat) (nF : Nat) (np : Nat) (ntr : Nat) (nb : Nat) (mbestCost : Int32) (nso : Nat) (nsi : Nat) (nit : Nat) (nsh : Nat) (nsf : Nat) (nss : Nat) (nrc : Nat) (mtraced : Int32) (mdealer : Int32) (mnumber : Int32) (mwhose : Int32) (msize : Int32) (misParted : Int32) (fnt : Nat → Int32) : Prop := MI l G yX12_feed cX12_feed 5 (some .int) 2 0 0 [.ref h0, .long ee, .int x2] [(h0, oX12 nw nk mhasKept nt (nI ktp) nr mrowMany mroundOf mroundFrom mouts nm mfromHour mtoHour ns mfrom mto msort misFault mdeep mcoded mlines nl nc nF np ntr nb mbestCost nso nsi nit nsh nsf nss nrc mtraced mdealer mnumber mwhose msize misParted), (nt, iA G 240 fnt)] (fun (r : Int32) (u : Nat × (Nat → Int32)) => (r = ifc (Wi x2 1 8) (ifc (nI ktp + x2 ≤ 240) (nI ktp + x2) (-2)) (-1)) ∧ (u.1 ≤ 240 ∧ nI u.1 = ifc (Wi x2 1 8) (ifc (nI ktp + x2 ≤ 240) (nI ktp + x2) (nI ktp)) (nI ktp))) (fun u : Nat × (Nat → Int32) => [(h0, oX12 nw nk mhasKept nt (nI u.1) nr mrowMany mroundOf mroundFrom mouts nm mfromHour mtoHour ns mfrom mto msort misFault mdeep mcoded mlines nl nc nF np ntr nb mbestCost nso nsi nit nsh nsf nss nrc mtraced mdealer mnumber mwhose msize misParted), (nt, iA G 240 u.2)])
set_option maxHeartbeats 4000000 in
set_option maxRecDepth 100000 in
theorem w_feed (l : Launch) (G : GG) (h0 : Nat) (ee : Int64) (x2 : Int32) (nw : Nat) (nk : Nat) (mhasKept : Int32) (nt : Nat) (ktp : Nat) (nr : Nat) (mrowMany : Int32) (mroundOf : Int32) (mroundFrom : Int32) (mouts : Int32) (nm : Nat) (mfromHour : Int32) (mtoHour : Int32) (ns : Nat) (mfrom : Int32) (mto : Int32) (msort : Int32) (misFault : Int32) (mdeep : Int32) (mcoded : Int32) (mlines : Int32) (nl : Nat) (nc : Nat) (nF : Nat) (np : Nat) (ntr : Nat) (nb : Nat) (mbestCost : Int32) (nso : Nat) (nsi : Nat) (nit : Nat) (nsh : Nat) (nsf : Nat) (nss : Nat) (nrc : Nat) (mtraced : Int32) (mdealer : Int32) (mnumber : Int32) (mwhose : Int32) (msize : Int32) (misParted : Int32) (fnt : Nat → Int32) (htp : ktp ≤ 240) : K_w_feed l G h0 ee x2 nw nk mhasKept nt ktp nr mrowMany mroundOf mroundFrom mouts nm mfromHour mtoHour ns mfrom mto msort misFault mdeep mcoded mlines nl nc nF np ntr nb mbestCost nso nsi nit nsh nsf nss nrc mtraced mdealer mnumber mwhose msize misParted fnt := by
  refine MI.start (by decide +kernel) (Nat.le_of_ble_eq_true rfl) ?_
  intro p e s m below meth c A ls hC hK hP hD hS hA hl
  refine absQ (fun Q0 hQ0 => ?_)
  have hl : lv_has ls 5 [(0, .ref h0), (1, .long ee), (3, .int x2)] := hl
  refine Kan8 hC (fun hx hb hr hml hB hown hlocks hnm => ?_)
  refine lv_iload_n hx hb gX12_feed_0.1 rfl (lv_at2 hl) ?_
  refine lv_iconst (v := 1) hx hb gX12_feed_0.2.1 (by decide) ?_
  refine lv_bipush (v := 8) hx hb gX12_feed_0.2.2.1 (by decide) ?_
  refine pS hC hK hl (m_within l G x2 1 8) si_X12_84 rfl rfl (Nat.le_of_ble_eq_true rfl) rm_2_1_3 ⟨by first | exact Nat.le_of_ble_eq_true rfl | exact Nat.zero_le _, by first | exact Nat.le_of_ble_eq_true rfl | exact Nat.zero_le _⟩ gX12_feed_0.2.2.2.1 (Kors (Keqa fun a7514 => ?_) (Keqa fun a7514 => ?_))
  · refine lv_if_ne (tgt := 12) hx hb gX12_feed_0.2.2.2.2.1 (by decide) (fun _ => ?_) (fun c9 => absurd c9 (by decide))
    obtain ⟨jn, hjn, rfl⟩ := Wi1_nat (N := 8) (by decide) a7514
    refine lv_aload_n hx hb gX12_feed_0.2.2.2.2.2.2.2.1 rfl (lv_at0 hl) ?_
    refine gf_X12_206 hC rfl hK hP 0 rfl rfl gX12_feed_0.2.2.2.2.2.2.2.2.1 ?_
    refine lv_iload_n hx hb gX12_feed_0.2.2.2.2.2.2.2.2.2 rfl (lv_at2 hl) ?_
    refine lv_iadd hx hb gX12_feed_1.1 ?_
    refine eqi (x1 := nI (ktp + jn)) (nI_add ktp jn) ?_
    refine lv_sipush (v := 240) hx hb gX12_feed_1.2.1 (by decide) ?_
    refine lv_icmp_le (tgt := 27) hx hb gX12_feed_1.2.2.1 (by decide) (fun c_21_7515 => ?_) (fun c_21_7515 => ?_)
    · have hfit9 := (nI_leI (a := ktp + jn) (b := 240) (by omega) (by decide)).mp c_21_7515
      refine lv_iconst (v := 0) hx hb gX12_feed_1.2.2.2.2.2.1 (by decide) ?_
      refine lv_istore (lv' := [(4, .int 0), (0, .ref h0), (1, .long ee), (3, .int (nI jn))]) hx hb gX12_feed_1.2.2.2.2.2.2.1 hl (by decide) rfl (fun ls hl => ?_)
      have keyP : ∀ (nP kP : Nat) (vT : Nat → Int32) (H : Heap) (locs : List Loc) (ls : Array Slot), kP + nP = jn → va_PD G A [(h0, oX12 nw nk mhasKept nt (nI (ktp + kP)) nr mrowMany mroundOf mroundFrom mouts nm mfromHour mtoHour ns mfrom mto msort misFault mdeep mcoded mlines nl nc nF np ntr nb mbestCost nso nsi nit nsh nsf nss nrc mtraced mdealer mnumber mwhose msize misParted), (nt, iA G 240 vT)] H → va_S A s.heap H locs → lv_has ls 5 [(4, .int (nI kP)), (0, .ref h0), (1, .long ee), (3, .int (nI jn))] → W p l e (RM 2 0 0) s m ([.ref h0, .long ee, .int (nI jn)] : List Value).toArray below meth c H locs 0 0 Q0 (F0 m 30 ls []) := by
        intro nP
        induction nP with
        | zero =>
          intro kP vT H locs ls hkP hPD hS hl
          refine Kan2 hPD (fun hP hD => ?_)
          obtain rfl : jn = kP := by omega
          refine Kpdr (ws := [(h0, oX12 nw nk mhasKept nt (nI (ktp + jn)) nr mrowMany mroundOf mroundFrom mouts nm mfromHour mtoHour ns mfrom mto msort misFault mdeep mcoded mlines nl nc nF np ntr nb mbestCost nso nsi nit nsh nsf nss nrc mtraced mdealer mnumber mwhose msize misParted), (nt, iA G 240 vT)]) hP hD (fun hP hD => ?_)
          have hl : lv_has ls 5 [(4, .int (nI jn)), (0, .ref h0), (1, .long ee), (3, .int (nI jn))] := hl
          refine lv_iload hx hb gX12_feed_1.2.2.2.2.2.2.2.1 (lv_at0 hl) ?_
          refine lv_iload_n hx hb gX12_feed_1.2.2.2.2.2.2.2.2.1 rfl (lv_at3 hl) ?_
          refine lv_icmp_ge (tgt := 73) hx hb gX12_feed_1.2.2.2.2.2.2.2.2.2 (by decide) (fun _ => ?_) (fun c9 => absurd (Int32.le_refl _) c9)
          refine lv_aload_n hx hb gX12_feed_4.2.1 rfl (lv_at1 hl) ?_
          refine gf_X12_206 hC rfl hK hP 0 rfl rfl gX12_feed_4.2.2.1 ?_
          refine toQ hQ0 ?_
          exact RI (v := nI (ktp + jn)) hC hP hD hS [0, 1] ((ktp + jn), vT) rfl rfl (by decide) (⟨(by first | rfl | (simp only [ifc_t htp, ifc_t a7514, ifc_t (q := nI ktp + nI jn ≤ 240) (nI_add ktp jn ▸ c_21_7515)]; done) | (simp only [ifc_t htp, ifc_t a7514, ifc_t (q := nI ktp + nI jn ≤ 240) (nI_add ktp jn ▸ c_21_7515)]; exact (nI_add _ _).symm) | (dsimp only; simp only [ifc_t htp, ifc_t a7514, ifc_t (q := nI ktp + nI jn ≤ 240) (nI_add ktp jn ▸ c_21_7515)]; done) | (dsimp only; simp only [ifc_t htp, ifc_t a7514, ifc_t (q := nI ktp + nI jn ≤ 240) (nI_add ktp jn ▸ c_21_7515)]; exact (nI_add _ _).symm)), ⟨by omega, (by first | rfl | (simp only [ifc_t htp, ifc_t a7514, ifc_t (q := nI ktp + nI jn ≤ 240) (nI_add ktp jn ▸ c_21_7515)]; done) | (simp only [ifc_t htp, ifc_t a7514, ifc_t (q := nI ktp + nI jn ≤ 240) (nI_add ktp jn ▸ c_21_7515)]; exact (nI_add _ _).symm) | (dsimp only; simp only [ifc_t htp, ifc_t a7514, ifc_t (q := nI ktp + nI jn ≤ 240) (nI_add ktp jn ▸ c_21_7515)]; done) | (dsimp only; simp only [ifc_t htp, ifc_t a7514, ifc_t (q := nI ktp + nI jn ≤ 240) (nI_add ktp jn ▸ c_21_7515)]; exact (nI_add _ _).symm))⟩⟩) rfl gX12_feed_4.2.2.2
        | succ nP ihP =>
          intro kP vT H locs ls hkP hPD hS hl
          refine Kan2 hPD (fun hP hD => ?_)
          refine lv_iload hx hb gX12_feed_1.2.2.2.2.2.2.2.1 (lv_at0 hl) ?_
          refine lv_iload_n hx hb gX12_feed_1.2.2.2.2.2.2.2.2.1 rfl (lv_at3 hl) ?_
          refine lv_icmp_ge (tgt := 73) hx hb gX12_feed_1.2.2.2.2.2.2.2.2.2 (by decide) (fun c9 => absurd c9 (nI_ge (a := kP) (b := jn) (by omega) (by omega))) (fun _ => ?_)
          refine lv_aload_n hx hb gX12_feed_2.1 rfl (lv_at1 hl) ?_
          refine gf_X12_16 hC rfl hK hP 0 rfl rfl gX12_feed_2.2.1 ?_
          refine lv_aload_n hx hb gX12_feed_2.2.2.1 rfl (lv_at1 hl) ?_
          refine gf_X12_206 hC rfl hK hP 0 rfl rfl gX12_feed_2.2.2.2.1 ?_
          refine lv_lload_n hx hb gX12_feed_2.2.2.2.2.1 rfl (lv_at2 hl) ?_
          refine lv_bipush (v := 8) hx hb gX12_feed_2.2.2.2.2.2.1 (by decide) ?_
          refine lv_iload hx hb gX12_feed_2.2.2.2.2.2.2.1 (lv_at0 hl) ?_
          refine lv_imul hx hb gX12_feed_2.2.2.2.2.2.2.2.1 ?_
          refine eqi (x1 := nI (8 * kP)) (nI_mul 8 kP) ?_
          refine lv_lshr hx hb gX12_feed_2.2.2.2.2.2.2.2.2.1 rfl ?_
          refine lv_topl (fun x7516 _ => ?_)
          refine lv_ldc2 hx hb hown (hB _ m_1237) gX12_feed_2.2.2.2.2.2.2.2.2.2 ?_
          refine lv_land hx hb gX12_feed_3.1 ?_
          refine lv_l2i hx hb gX12_feed_3.2.1 rfl ?_
          refine lv_topi (fun x7517 _ => ?_)
          refine astN hC hK hP hD hS 1 (ws' := [(h0, oX12 nw nk mhasKept nt (nI (ktp + kP)) nr mrowMany mroundOf mroundFrom mouts nm mfromHour mtoHour ns mfrom mto msort misFault mdeep mcoded mlines nl nc nF np ntr nb mbestCost nso nsi nit nsh nsf nss nrc mtraced mdealer mnumber mwhose msize misParted), (nt, iA G 240 (upd vT (ktp + kP) x7517))]) rfl (k := (ktp + kP)) (by omega) (Nat.le_of_ble_eq_true rfl) (rfl) gX12_feed_3.2.2.1 (fun H locs hP hD hS => ?_)
          refine lv_aload_n hx hb gX12_feed_3.2.2.2.1 rfl (lv_at1 hl) ?_
          refine lv_dup hx hb gX12_feed_3.2.2.2.2.1 rfl ?_
          refine gf_X12_206 hC rfl hK hP 0 rfl rfl gX12_feed_3.2.2.2.2.2.1 ?_
          refine lv_iconst (v := 1) hx hb gX12_feed_3.2.2.2.2.2.2.1 (by decide) ?_
          refine lv_iadd hx hb gX12_feed_3.2.2.2.2.2.2.2.1 ?_
          refine eqi (x1 := nI (ktp + kP + 1)) (nI_add (ktp + kP) 1) ?_
          refine pf_X12_206 hC rfl hK hP hD hS 0 (ws' := [(h0, oX12 nw nk mhasKept nt (nI (ktp + kP + 1)) nr mrowMany mroundOf mroundFrom mouts nm mfromHour mtoHour ns mfrom mto msort misFault mdeep mcoded mlines nl nc nF np ntr nb mbestCost nso nsi nit nsh nsf nss nrc mtraced mdealer mnumber mwhose msize misParted), (nt, iA G 240 (upd vT (ktp + kP) x7517))]) rfl (Nat.le_of_ble_eq_true rfl) rfl rfl rfl gX12_feed_3.2.2.2.2.2.2.2.2.1 (fun H locs hP hD hS => ?_)
          refine lv_iinc (v := nI (kP + 1)) (lv' := [(4, .int (nI (kP + 1))), (0, .ref h0), (1, .long ee), (3, .int (nI jn))]) hx hb gX12_feed_3.2.2.2.2.2.2.2.2.2 hl (k := 0) rfl (nI_1 _) (by decide) rfl (fun ls hl => ?_)
          refine lv_goto (tgt := 30) hx hb gX12_feed_4.1 (by decide) ?_
          exact ihP (kP + 1) (upd vT (ktp + kP) x7517) _ _ _ (by omega) (And.intro hP hD) hS (lv_sub hl [0, 1, 2, 3] rfl)
      exact keyP jn 0 fnt _ _ _ (by omega) (And.intro hP hD) hS (lv_sub hl [0, 1, 2, 3] rfl)
    · refine lv_bipush (v := (-2)) hx hb gX12_feed_1.2.2.2.1 (by decide) ?_
      refine toQ hQ0 ?_
      exact RI (v := (-2)) hC hP hD hS [0, 1] (ktp, fnt) rfl rfl (by decide) (⟨(by first | rfl | (simp only [ifc_t htp, ifc_t a7514, ifc_f (q := nI ktp + nI jn ≤ 240) (fun h9 => c_21_7515 (nI_add ktp jn ▸ h9))]; done) | (simp only [ifc_t htp, ifc_t a7514, ifc_f (q := nI ktp + nI jn ≤ 240) (fun h9 => c_21_7515 (nI_add ktp jn ▸ h9))]; exact (nI_add _ _).symm) | (dsimp only; simp only [ifc_t htp, ifc_t a7514, ifc_f (q := nI ktp + nI jn ≤ 240) (fun h9 => c_21_7515 (nI_add ktp jn ▸ h9))]; done) | (dsimp only; simp only [ifc_t htp, ifc_t a7514, ifc_f (q := nI ktp + nI jn ≤ 240) (fun h9 => c_21_7515 (nI_add ktp jn ▸ h9))]; exact (nI_add _ _).symm)), ⟨by omega, (by first | rfl | (simp only [ifc_t htp, ifc_t a7514, ifc_f (q := nI ktp + nI jn ≤ 240) (fun h9 => c_21_7515 (nI_add ktp jn ▸ h9))]; done) | (simp only [ifc_t htp, ifc_t a7514, ifc_f (q := nI ktp + nI jn ≤ 240) (fun h9 => c_21_7515 (nI_add ktp jn ▸ h9))]; exact (nI_add _ _).symm) | (dsimp only; simp only [ifc_t htp, ifc_t a7514, ifc_f (q := nI ktp + nI jn ≤ 240) (fun h9 => c_21_7515 (nI_add ktp jn ▸ h9))]; done) | (dsimp only; simp only [ifc_t htp, ifc_t a7514, ifc_f (q := nI ktp + nI jn ≤ 240) (fun h9 => c_21_7515 (nI_add ktp jn ▸ h9))]; exact (nI_add _ _).symm))⟩⟩) rfl gX12_feed_1.2.2.2.2.1
  · refine lv_if_ne (tgt := 12) hx hb gX12_feed_0.2.2.2.2.1 (by decide) (fun c9 => absurd (by decide) c9) (fun _ => ?_)
    refine lv_iconst (v := (-1)) hx hb gX12_feed_0.2.2.2.2.2.1 (by decide) ?_
    refine toQ hQ0 ?_
    exact RI (v := (-1)) hC hP hD hS [0, 1] (ktp, fnt) rfl rfl (by decide) (⟨(by first | rfl | (simp only [ifc_t htp, ifc_f a7514]; done) | (simp only [ifc_t htp, ifc_f a7514]; exact (nI_add _ _).symm) | (dsimp only; simp only [ifc_t htp, ifc_f a7514]; done) | (dsimp only; simp only [ifc_t htp, ifc_f a7514]; exact (nI_add _ _).symm)), ⟨by omega, (by first | rfl | (simp only [ifc_t htp, ifc_f a7514]; done) | (simp only [ifc_t htp, ifc_f a7514]; exact (nI_add _ _).symm) | (dsimp only; simp only [ifc_t htp, ifc_f a7514]; done) | (dsimp only; simp only [ifc_t htp, ifc_f a7514]; exact (nI_add _ _).symm))⟩⟩) rfl gX12_feed_0.2.2.2.2.2.2.1
def K_m_isInT (l : Launch) (G : GG) (h0 : Nat) (ja : Nat) (lo : Int32) (hi : Int32) (nw : Nat) (nk : Nat) (mhasKept : Int32) (nt : Nat) (ktp : Nat) (nr : Nat) (mrowMany : Int32) (mroundOf : Int32) (mroundFrom : Int32) (mouts : Int32) (nm : Nat) (mfromHour : Int32) (mtoHour : Int32) (ns : Nat) (mfrom : Int32) (mto : Int32) (msort : Int32) (misFault : Int32) (mdeep : Int32) (mcoded : Int32) (mlines : Int32) (nl : Nat) (nc : Nat) (nF : Nat) (np : Nat) (ntr : Nat) (nb : Nat) (mbestCost : Int32) (nso : Nat) (nsi : Nat) (nit : Nat) (nsh : Nat) (nsf : Nat) (nss : Nat) (nrc : Nat) (mtraced : Int32) (mdealer : Int32) (mnumber : Int32) (mwhose : Int32) (msize : Int32) (misParted : Int32) (fnt : Nat → Int32) : Prop := MP l G yX12_isIn_ cX12_isIn_ 4 (some .boolean) 2 [.ref h0, .int (nI ja), .int lo, .int hi] [(h0, oX12 nw nk mhasKept nt (nI ktp) nr mrowMany mroundOf mroundFrom mouts nm mfromHour mtoHour ns mfrom mto msort misFault mdeep mcoded mlines nl nc nF np ntr nb mbestCost nso nsi nit nsh nsf nss nrc mtraced mdealer mnumber mwhose msize misParted), (nt, iA G 240 fnt)] (fun r : Int32 => (r = 1 ∧ ja < ktp ∧ Wi (fnt ja) lo hi) ∨ r = 0)
set_option maxHeartbeats 4000000 in
set_option maxRecDepth 100000 in
theorem m_isInT (l : Launch) (G : GG) (h0 : Nat) (ja : Nat) (lo : Int32) (hi : Int32) (nw : Nat) (nk : Nat) (mhasKept : Int32) (nt : Nat) (ktp : Nat) (nr : Nat) (mrowMany : Int32) (mroundOf : Int32) (mroundFrom : Int32) (mouts : Int32) (nm : Nat) (mfromHour : Int32) (mtoHour : Int32) (ns : Nat) (mfrom : Int32) (mto : Int32) (msort : Int32) (misFault : Int32) (mdeep : Int32) (mcoded : Int32) (mlines : Int32) (nl : Nat) (nc : Nat) (nF : Nat) (np : Nat) (ntr : Nat) (nb : Nat) (mbestCost : Int32) (nso : Nat) (nsi : Nat) (nit : Nat) (nsh : Nat) (nsf : Nat) (nss : Nat) (nrc : Nat) (mtraced : Int32) (mdealer : Int32) (mnumber : Int32) (mwhose : Int32) (msize : Int32) (misParted : Int32) (fnt : Nat → Int32) (hja : ja < 2 ^ 31) (htp : ktp ≤ 240) : K_m_isInT l G h0 ja lo hi nw nk mhasKept nt ktp nr mrowMany mroundOf mroundFrom mouts nm mfromHour mtoHour ns mfrom mto msort misFault mdeep mcoded mlines nl nc nF np ntr nb mbestCost nso nsi nit nsh nsf nss nrc mtraced mdealer mnumber mwhose msize misParted fnt := by
  refine MP.start (by decide +kernel) (Nat.le_of_ble_eq_true rfl) ?_
  intro p e s m below meth c ls hC hK hP hD hl
  refine absQ (fun Q0 hQ0 => ?_)
  have hl : lv_has ls 4 [(0, .ref h0), (1, .int (nI ja)), (2, .int lo), (3, .int hi)] := hl
  refine Kan8 hC (fun hx hb hr hml hB hown hlocks hnm => ?_)
  refine lv_iload_n hx hb gX12_isIn__0.1 rfl (lv_at1 hl) ?_
  refine lv_aload_n hx hb gX12_isIn__0.2.1 rfl (lv_at0 hl) ?_
  refine gf_X12_206 hC rfl hK hP 0 rfl rfl gX12_isIn__0.2.2.1 ?_
  refine lv_icmp_ge (tgt := 26) hx hb gX12_isIn__0.2.2.2.1 (by decide) (fun c_5_7518 => ?_) (fun c_5_7518 => ?_)
  · refine lv_iconst (v := 0) hx hb gX12_isIn__1.2.2.2.2.1 (by decide) ?_
    refine toQ hQ0 ?_
    exact RP (v := 0) hC (Or.inr rfl) (by decide +kernel) gX12_isIn__1.2.2.2.2.2
  · have hja9 := nge_nat (R := ktp) (k := ja) (by omega) (by omega) c_5_7518
    refine lv_aload_n hx hb gX12_isIn__0.2.2.2.2.1 rfl (lv_at0 hl) ?_
    refine gf_X12_16 hC rfl hK hP 0 rfl rfl gX12_isIn__0.2.2.2.2.2.1 ?_
    refine lv_iload_n hx hb gX12_isIn__0.2.2.2.2.2.2.1 rfl (lv_at1 hl) ?_
    refine aldN hC hK hP 1 rfl (k := ja) (by omega) (Nat.le_of_ble_eq_true rfl) (v := fnt ja) rfl gX12_isIn__0.2.2.2.2.2.2.2.1 ?_
    refine lv_topi (fun x7519 ex7519 => ?_)
    refine lv_iload_n hx hb gX12_isIn__0.2.2.2.2.2.2.2.2.1 rfl (lv_at2 hl) ?_
    refine lv_iload_n hx hb gX12_isIn__0.2.2.2.2.2.2.2.2.2 rfl (lv_at3 hl) ?_
    refine pS hC hK hl (m_within l G x7519 lo hi) si_X12_84 rfl rfl (Nat.le_of_ble_eq_true rfl) rm_2_1_3 ⟨by first | exact Nat.le_of_ble_eq_true rfl | exact Nat.zero_le _, by first | exact Nat.le_of_ble_eq_true rfl | exact Nat.zero_le _⟩ gX12_isIn__1.1 (Kors (Keqa fun a7521 => ?_) (Keqa fun a7521 => ?_))
    · refine lv_if_eq (tgt := 26) hx hb gX12_isIn__1.2.1 (by decide) (fun c9 => absurd c9 (by decide)) (fun _ => ?_)
      refine lv_iconst (v := 1) hx hb gX12_isIn__1.2.2.1 (by decide) ?_
      refine lv_goto (tgt := 27) hx hb gX12_isIn__1.2.2.2.1 (by decide) ?_
      refine toQ hQ0 ?_
      exact RP (v := 1) hC (Or.inl ⟨rfl, hja9, by rw [← ex7519]; exact a7521⟩) (by decide +kernel) gX12_isIn__1.2.2.2.2.2
    · refine lv_if_eq (tgt := 26) hx hb gX12_isIn__1.2.1 (by decide) (fun _ => ?_) (fun c9 => absurd (by decide) c9)
      refine lv_iconst (v := 0) hx hb gX12_isIn__1.2.2.2.2.1 (by decide) ?_
      refine toQ hQ0 ?_
      exact RP (v := 0) hC (Or.inr rfl) (by decide +kernel) gX12_isIn__1.2.2.2.2.2
def K_m_next (l : Launch) (G : GG) (h0 : Nat) (nw : Nat) (nk : Nat) (mhasKept : Int32) (nt : Nat) (ktp : Nat) (nr : Nat) (mrowMany : Int32) (mroundOf : Int32) (mroundFrom : Int32) (mouts : Int32) (nm : Nat) (mfromHour : Int32) (mtoHour : Int32) (ns : Nat) (mfrom : Int32) (kt : Nat) (msort : Int32) (misFault : Int32) (mdeep : Int32) (mcoded : Int32) (mlines : Int32) (nl : Nat) (nc : Nat) (nF : Nat) (np : Nat) (ntr : Nat) (nb : Nat) (mbestCost : Int32) (nso : Nat) (nsi : Nat) (nit : Nat) (nsh : Nat) (nsf : Nat) (nss : Nat) (nrc : Nat) (mtraced : Int32) (mdealer : Int32) (mnumber : Int32) (mwhose : Int32) (msize : Int32) (misParted : Int32) (fnt : Nat → Int32) : Prop := MV l G yX12_next cX12_next 1 3 0 0 [.ref h0] [(h0, oX12 nw nk mhasKept nt (nI ktp) nr mrowMany mroundOf mroundFrom mouts nm mfromHour mtoHour ns mfrom (nI kt) msort misFault mdeep mcoded mlines nl nc nF np ntr nb mbestCost nso nsi nit nsh nsf nss nrc mtraced mdealer mnumber mwhose msize misParted), (nt, iA G 240 fnt)] (fun u : Nat × Nat × Int32 => kt ≤ u.1 ∧ TOK fnt u.2.2 u.1 u.2.1 ktp) (fun u : Nat × Nat × Int32 => [(h0, oX12 nw nk mhasKept nt (nI ktp) nr mrowMany mroundOf mroundFrom mouts nm mfromHour mtoHour ns (nI u.1) (nI u.2.1) u.2.2 misFault mdeep mcoded mlines nl nc nF np ntr nb mbestCost nso nsi nit nsh nsf nss nrc mtraced mdealer mnumber mwhose msize misParted), (nt, iA G 240 fnt)])
set_option maxHeartbeats 4000000 in
set_option maxRecDepth 100000 in
theorem m_next (l : Launch) (G : GG) (h0 : Nat) (nw : Nat) (nk : Nat) (mhasKept : Int32) (nt : Nat) (ktp : Nat) (nr : Nat) (mrowMany : Int32) (mroundOf : Int32) (mroundFrom : Int32) (mouts : Int32) (nm : Nat) (mfromHour : Int32) (mtoHour : Int32) (ns : Nat) (mfrom : Int32) (kt : Nat) (msort : Int32) (misFault : Int32) (mdeep : Int32) (mcoded : Int32) (mlines : Int32) (nl : Nat) (nc : Nat) (nF : Nat) (np : Nat) (ntr : Nat) (nb : Nat) (mbestCost : Int32) (nso : Nat) (nsi : Nat) (nit : Nat) (nsh : Nat) (nsf : Nat) (nss : Nat) (nrc : Nat) (mtraced : Int32) (mdealer : Int32) (mnumber : Int32) (mwhose : Int32) (msize : Int32) (misParted : Int32) (fnt : Nat → Int32) (hkt : kt ≤ ktp) (htp : ktp ≤ 240) : K_m_next l G h0 nw nk mhasKept nt ktp nr mrowMany mroundOf mroundFrom mouts nm mfromHour mtoHour ns mfrom kt msort misFault mdeep mcoded mlines nl nc nF np ntr nb mbestCost nso nsi nit nsh nsf nss nrc mtraced mdealer mnumber mwhose msize misParted fnt := by
  refine MV.start (by decide +kernel) (Nat.le_of_ble_eq_true rfl) ?_
  intro p e s m below meth c A ls hC hK hP hD hS hA hl
  refine absQ (fun Q0 hQ0 => ?_)
  have hl : lv_has ls 1 [(0, .ref h0)] := hl
  refine Kan8 hC (fun hx hb hr hml hB hown hlocks hnm => ?_)
  refine lv_aload_n hx hb gX12_next_0.1 rfl (lv_at0 hl) ?_
  refine lv_aload_n hx hb gX12_next_0.2.1 rfl (lv_at0 hl) ?_
  refine gf_X12_211 hC rfl hK hP 0 rfl rfl gX12_next_0.2.2.1 ?_
  refine pf_X12_214 hC rfl hK hP hD hS 0 (ws' := [(h0, oX12 nw nk mhasKept nt (nI ktp) nr mrowMany mroundOf mroundFrom mouts nm mfromHour mtoHour ns (nI kt) (nI kt) msort misFault mdeep mcoded mlines nl nc nF np ntr nb mbestCost nso nsi nit nsh nsf nss nrc mtraced mdealer mnumber mwhose msize misParted), (nt, iA G 240 fnt)]) rfl (Nat.le_of_ble_eq_true rfl) rfl rfl rfl gX12_next_0.2.2.2.1 (fun H locs hP hD hS => ?_)
  have keyA : ∀ (nA : Nat) (vf : Nat) (H : Heap) (locs : List Loc) (ls : Array Slot), (kt ≤ vf ∧ vf ≤ ktp ∧ ktp < vf + nA) → va_PD G A [(h0, oX12 nw nk mhasKept nt (nI ktp) nr mrowMany mroundOf mroundFrom mouts nm mfromHour mtoHour ns (nI vf) (nI kt) msort misFault mdeep mcoded mlines nl nc nF np ntr nb mbestCost nso nsi nit nsh nsf nss nrc mtraced mdealer mnumber mwhose msize misParted), (nt, iA G 240 fnt)] H → va_S A s.heap H locs → lv_has ls 1 [(0, .ref h0)] → W p l e (RM 3 0 0) s m ([.ref h0] : List Value).toArray below meth c H locs 0 0 Q0 (F0 m 8 ls []) := by
    intro nA
    induction nA with
    | zero =>
      intro vf H locs ls hiA hPD hS hl
      refine Kan2 hPD (fun hP hD => ?_)
      exact (show False by omega).elim
    | succ nA ihA =>
      intro vf H locs ls hiA hPD hS hl
      refine Kan2 hPD (fun hP hD => ?_)
      refine lv_aload_n hx hb gX12_next_0.2.2.2.2.1 rfl (lv_at0 hl) ?_
      refine gf_X12_214 hC rfl hK hP 0 rfl rfl gX12_next_0.2.2.2.2.2.1 ?_
      refine lv_aload_n hx hb gX12_next_0.2.2.2.2.2.2.1 rfl (lv_at0 hl) ?_
      refine gf_X12_206 hC rfl hK hP 0 rfl rfl gX12_next_0.2.2.2.2.2.2.2.1 ?_
      refine lv_icmp_ge (tgt := 46) hx hb gX12_next_0.2.2.2.2.2.2.2.2.1 (by decide) (fun c_16_7522 => ?_) (fun c_16_7522 => ?_)
      · refine lv_aload_n hx hb gX12_next_2.2.2.2.1 rfl (lv_at0 hl) ?_
        refine lv_aload_n hx hb gX12_next_2.2.2.2.2.1 rfl (lv_at0 hl) ?_
        refine gf_X12_214 hC rfl hK hP 0 rfl rfl gX12_next_2.2.2.2.2.2.1 ?_
        refine pf_X12_211 hC rfl hK hP hD hS 0 (ws' := [(h0, oX12 nw nk mhasKept nt (nI ktp) nr mrowMany mroundOf mroundFrom mouts nm mfromHour mtoHour ns (nI vf) (nI vf) msort misFault mdeep mcoded mlines nl nc nF np ntr nb mbestCost nso nsi nit nsh nsf nss nrc mtraced mdealer mnumber mwhose msize misParted), (nt, iA G 240 fnt)]) rfl (Nat.le_of_ble_eq_true rfl) rfl rfl rfl gX12_next_2.2.2.2.2.2.2.1 (fun H locs hP hD hS => ?_)
        refine lv_aload_n hx hb gX12_next_2.2.2.2.2.2.2.2.1 rfl (lv_at0 hl) ?_
        refine gf_X12_214 hC rfl hK hP 0 rfl rfl gX12_next_2.2.2.2.2.2.2.2.2.1 ?_
        refine lv_aload_n hx hb gX12_next_2.2.2.2.2.2.2.2.2.2 rfl (lv_at0 hl) ?_
        refine gf_X12_206 hC rfl hK hP 0 rfl rfl gX12_next_3.1 ?_
        refine lv_icmp_ne (tgt := 71) hx hb gX12_next_3.2.1 (by decide) (fun c_62_7523 => ?_) (fun c_62_7523 => ?_)
        · have hvf8 := nI_neq (a := vf) (b := ktp) (by omega) (by omega) c_62_7523
          refine lv_aload_n hx hb gX12_next_3.2.2.2.2.2.2.1 rfl (lv_at0 hl) ?_
          refine lv_aload_n hx hb gX12_next_3.2.2.2.2.2.2.2.1 rfl (lv_at0 hl) ?_
          refine lv_aload_n hx hb gX12_next_3.2.2.2.2.2.2.2.2.1 rfl (lv_at0 hl) ?_
          refine gf_X12_214 hC rfl hK hP 0 rfl rfl gX12_next_3.2.2.2.2.2.2.2.2.2 ?_
          refine lv_bipush (v := 97) hx hb gX12_next_4.1 (by decide) ?_
          refine lv_bipush (v := 122) hx hb gX12_next_4.2.1 (by decide) ?_
          refine pV hC hK hl hP hD (m_isInT l G h0 vf 97 122 nw nk mhasKept nt ktp nr mrowMany mroundOf mroundFrom mouts nm mfromHour mtoHour ns (nI vf) (nI vf) msort misFault mdeep mcoded mlines nl nc nF np ntr nb mbestCost nso nsi nit nsh nsf nss nrc mtraced mdealer mnumber mwhose msize misParted fnt (by omega) (htp)) si_X12_220 [0, 1] sm_0_1 fm_0_1 nd_0_1 rfl rfl rfl rfl rfl (Nat.le_of_ble_eq_true rfl) rm_3_2_4 ⟨by first | exact Nat.le_of_ble_eq_true rfl | exact Nat.zero_le _, by first | exact Nat.le_of_ble_eq_true rfl | exact Nat.zero_le _⟩ gX12_next_4.2.2.1 (Kors (Keqa fun a7525 => ?_) (Keqr ?_))
          · refine lv_if_eq (tgt := 91) hx hb gX12_next_4.2.2.2.1 (by decide) (fun c9 => absurd c9 (by decide)) (fun _ => ?_)
            refine lv_iconst (v := 1) hx hb gX12_next_4.2.2.2.2.1 (by decide) ?_
            refine lv_goto (tgt := 111) hx hb gX12_next_4.2.2.2.2.2.1 (by decide) ?_
            refine pf_X12_217 hC rfl hK hP hD hS 0 (ws' := [(h0, oX12 nw nk mhasKept nt (nI ktp) nr mrowMany mroundOf mroundFrom mouts nm mfromHour mtoHour ns (nI vf) (nI vf) 1 misFault mdeep mcoded mlines nl nc nF np ntr nb mbestCost nso nsi nit nsh nsf nss nrc mtraced mdealer mnumber mwhose msize misParted), (nt, iA G 240 fnt)]) rfl (Nat.le_of_ble_eq_true rfl) rfl rfl rfl gX12_next_5.2.2.2.2.2.2.1 (fun H locs hP hD hS => ?_)
            refine lv_aload_n hx hb gX12_next_5.2.2.2.2.2.2.2.1 rfl (lv_at0 hl) ?_
            refine lv_dup hx hb gX12_next_5.2.2.2.2.2.2.2.2.1 rfl ?_
            refine gf_X12_211 hC rfl hK hP 0 rfl rfl gX12_next_5.2.2.2.2.2.2.2.2.2 ?_
            refine lv_iconst (v := 1) hx hb gX12_next_6.1 (by decide) ?_
            refine lv_iadd hx hb gX12_next_6.2.1 ?_
            refine eqi (x1 := nI (vf + 1)) (nI_add vf 1) ?_
            refine pf_X12_211 hC rfl hK hP hD hS 0 (ws' := [(h0, oX12 nw nk mhasKept nt (nI ktp) nr mrowMany mroundOf mroundFrom mouts nm mfromHour mtoHour ns (nI vf) (nI (vf + 1)) 1 misFault mdeep mcoded mlines nl nc nF np ntr nb mbestCost nso nsi nit nsh nsf nss nrc mtraced mdealer mnumber mwhose msize misParted), (nt, iA G 240 fnt)]) rfl (Nat.le_of_ble_eq_true rfl) rfl rfl rfl gX12_next_6.2.2.1 (fun H locs hP hD hS => ?_)
            have keyB : ∀ (nB : Nat) (vt : Nat) (H : Heap) (locs : List Loc) (ls : Array Slot), (vf < vt ∧ vt ≤ ktp ∧ ktp < vt + nB) → va_PD G A [(h0, oX12 nw nk mhasKept nt (nI ktp) nr mrowMany mroundOf mroundFrom mouts nm mfromHour mtoHour ns (nI vf) (nI vt) 1 misFault mdeep mcoded mlines nl nc nF np ntr nb mbestCost nso nsi nit nsh nsf nss nrc mtraced mdealer mnumber mwhose msize misParted), (nt, iA G 240 fnt)] H → va_S A s.heap H locs → lv_has ls 1 [(0, .ref h0)] → W p l e (RM 3 0 0) s m ([.ref h0] : List Value).toArray below meth c H locs 0 0 Q0 (F0 m 124 ls []) := by
              intro nB
              induction nB with
              | zero =>
                intro vt H locs ls hiB hPD hS hl
                refine Kan2 hPD (fun hP hD => ?_)
                exact (show False by omega).elim
              | succ nB ihB =>
                intro vt H locs ls hiB hPD hS hl
                refine Kan2 hPD (fun hP hD => ?_)
                refine lv_aload_n hx hb gX12_next_6.2.2.2.1 rfl (lv_at0 hl) ?_
                refine gf_X12_217 hC rfl hK hP 0 rfl rfl gX12_next_6.2.2.2.2.1 ?_
                refine lv_iconst (v := 1) hx hb gX12_next_6.2.2.2.2.2.1 (by decide) ?_
                refine lv_icmp_ne (tgt := 147) hx hb gX12_next_6.2.2.2.2.2.2.1 (by decide) (fun c9 => absurd (by decide) c9) (fun _ => ?_)
                refine lv_aload_n hx hb gX12_next_6.2.2.2.2.2.2.2.1 rfl (lv_at0 hl) ?_
                refine lv_aload_n hx hb gX12_next_6.2.2.2.2.2.2.2.2.1 rfl (lv_at0 hl) ?_
                refine gf_X12_211 hC rfl hK hP 0 rfl rfl gX12_next_6.2.2.2.2.2.2.2.2.2 ?_
                refine lv_bipush (v := 97) hx hb gX12_next_7.1 (by decide) ?_
                refine lv_bipush (v := 122) hx hb gX12_next_7.2.1 (by decide) ?_
                refine pV hC hK hl hP hD (m_isInT l G h0 vt 97 122 nw nk mhasKept nt ktp nr mrowMany mroundOf mroundFrom mouts nm mfromHour mtoHour ns (nI vf) (nI vt) 1 misFault mdeep mcoded mlines nl nc nF np ntr nb mbestCost nso nsi nit nsh nsf nss nrc mtraced mdealer mnumber mwhose msize misParted fnt (by omega) (htp)) si_X12_220 [0, 1] sm_0_1 fm_0_1 nd_0_1 rfl rfl rfl rfl rfl (Nat.le_of_ble_eq_true rfl) rm_3_2_4 ⟨by first | exact Nat.le_of_ble_eq_true rfl | exact Nat.zero_le _, by first | exact Nat.le_of_ble_eq_true rfl | exact Nat.zero_le _⟩ gX12_next_7.2.2.1 (Kors (Keqa fun a7527 => ?_) (Keqr ?_))
                · refine lv_if_ne (tgt := 170) hx hb gX12_next_7.2.2.2.1 (by decide) (fun _ => ?_) (fun c9 => absurd c9 (by decide))
                  refine lv_aload_n hx hb gX12_next_8.2.2.2.2.2.1 rfl (lv_at0 hl) ?_
                  refine lv_dup hx hb gX12_next_8.2.2.2.2.2.2.1 rfl ?_
                  refine gf_X12_211 hC rfl hK hP 0 rfl rfl gX12_next_8.2.2.2.2.2.2.2.1 ?_
                  refine lv_iconst (v := 1) hx hb gX12_next_8.2.2.2.2.2.2.2.2.1 (by decide) ?_
                  refine lv_iadd hx hb gX12_next_8.2.2.2.2.2.2.2.2.2 ?_
                  refine eqi (x1 := nI (vt + 1)) (nI_add vt 1) ?_
                  refine pf_X12_211 hC rfl hK hP hD hS 0 (ws' := [(h0, oX12 nw nk mhasKept nt (nI ktp) nr mrowMany mroundOf mroundFrom mouts nm mfromHour mtoHour ns (nI vf) (nI (vt + 1)) 1 misFault mdeep mcoded mlines nl nc nF np ntr nb mbestCost nso nsi nit nsh nsf nss nrc mtraced mdealer mnumber mwhose msize misParted), (nt, iA G 240 fnt)]) rfl (Nat.le_of_ble_eq_true rfl) rfl rfl rfl gX12_next_9.1 (fun H locs hP hD hS => ?_)
                  refine lv_goto (tgt := 124) hx hb gX12_next_9.2.1 (by decide) ?_
                  exact ihB (vt + 1) _ _ _ (by omega) (And.intro hP hD) hS (lv_sub hl [0] rfl)
                · refine lv_if_ne (tgt := 170) hx hb gX12_next_7.2.2.2.1 (by decide) (fun c9 => absurd (by decide) c9) (fun _ => ?_)
                  refine lv_aload_n hx hb gX12_next_7.2.2.2.2.1 rfl (lv_at0 hl) ?_
                  refine gf_X12_217 hC rfl hK hP 0 rfl rfl gX12_next_7.2.2.2.2.2.1 ?_
                  refine lv_iconst (v := 2) hx hb gX12_next_7.2.2.2.2.2.2.1 (by decide) ?_
                  refine lv_icmp_ne (tgt := 183) hx hb gX12_next_7.2.2.2.2.2.2.2.1 (by decide) (fun _ => ?_) (fun c9 => absurd c9 (by decide))
                  refine toQ hQ0 ?_
                  exact RV hC hP hD hS [0, 1] (vf, vt, 1) rfl rfl (by decide) (⟨by (try dsimp only); omega, TOK.n1 (by (try dsimp only); omega) (by (try dsimp only); omega)⟩) gX12_next_9.2.2
            exact keyB (ktp + 1) (vf + 1) _ _ _ (by omega) (And.intro hP hD) hS (lv_sub hl [0] rfl)
          · refine lv_if_eq (tgt := 91) hx hb gX12_next_4.2.2.2.1 (by decide) (fun _ => ?_) (fun c9 => absurd (by decide) c9)
            refine lv_aload_n hx hb gX12_next_4.2.2.2.2.2.2.1 rfl (lv_at0 hl) ?_
            refine lv_aload_n hx hb gX12_next_4.2.2.2.2.2.2.2.1 rfl (lv_at0 hl) ?_
            refine gf_X12_214 hC rfl hK hP 0 rfl rfl gX12_next_4.2.2.2.2.2.2.2.2.1 ?_
            refine lv_bipush (v := 48) hx hb gX12_next_4.2.2.2.2.2.2.2.2.2 (by decide) ?_
            refine lv_bipush (v := 57) hx hb gX12_next_5.1 (by decide) ?_
            refine pV hC hK hl hP hD (m_isInT l G h0 vf 48 57 nw nk mhasKept nt ktp nr mrowMany mroundOf mroundFrom mouts nm mfromHour mtoHour ns (nI vf) (nI vf) msort misFault mdeep mcoded mlines nl nc nF np ntr nb mbestCost nso nsi nit nsh nsf nss nrc mtraced mdealer mnumber mwhose msize misParted fnt (by omega) (htp)) si_X12_220 [0, 1] sm_0_1 fm_0_1 nd_0_1 rfl rfl rfl rfl rfl (Nat.le_of_ble_eq_true rfl) rm_3_2_4 ⟨by first | exact Nat.le_of_ble_eq_true rfl | exact Nat.zero_le _, by first | exact Nat.le_of_ble_eq_true rfl | exact Nat.zero_le _⟩ gX12_next_5.2.1 (Kors (Keqa fun a7529 => ?_) (Keqr ?_))
            · refine lv_if_eq (tgt := 110) hx hb gX12_next_5.2.2.1 (by decide) (fun c9 => absurd c9 (by decide)) (fun _ => ?_)
              refine lv_iconst (v := 2) hx hb gX12_next_5.2.2.2.1 (by decide) ?_
              refine lv_goto (tgt := 111) hx hb gX12_next_5.2.2.2.2.1 (by decide) ?_
              refine pf_X12_217 hC rfl hK hP hD hS 0 (ws' := [(h0, oX12 nw nk mhasKept nt (nI ktp) nr mrowMany mroundOf mroundFrom mouts nm mfromHour mtoHour ns (nI vf) (nI vf) 2 misFault mdeep mcoded mlines nl nc nF np ntr nb mbestCost nso nsi nit nsh nsf nss nrc mtraced mdealer mnumber mwhose msize misParted), (nt, iA G 240 fnt)]) rfl (Nat.le_of_ble_eq_true rfl) rfl rfl rfl gX12_next_5.2.2.2.2.2.2.1 (fun H locs hP hD hS => ?_)
              refine lv_aload_n hx hb gX12_next_5.2.2.2.2.2.2.2.1 rfl (lv_at0 hl) ?_
              refine lv_dup hx hb gX12_next_5.2.2.2.2.2.2.2.2.1 rfl ?_
              refine gf_X12_211 hC rfl hK hP 0 rfl rfl gX12_next_5.2.2.2.2.2.2.2.2.2 ?_
              refine lv_iconst (v := 1) hx hb gX12_next_6.1 (by decide) ?_
              refine lv_iadd hx hb gX12_next_6.2.1 ?_
              refine eqi (x1 := nI (vf + 1)) (nI_add vf 1) ?_
              refine pf_X12_211 hC rfl hK hP hD hS 0 (ws' := [(h0, oX12 nw nk mhasKept nt (nI ktp) nr mrowMany mroundOf mroundFrom mouts nm mfromHour mtoHour ns (nI vf) (nI (vf + 1)) 2 misFault mdeep mcoded mlines nl nc nF np ntr nb mbestCost nso nsi nit nsh nsf nss nrc mtraced mdealer mnumber mwhose msize misParted), (nt, iA G 240 fnt)]) rfl (Nat.le_of_ble_eq_true rfl) rfl rfl rfl gX12_next_6.2.2.1 (fun H locs hP hD hS => ?_)
              have keyB : ∀ (nB : Nat) (vt : Nat) (H : Heap) (locs : List Loc) (ls : Array Slot), (vf < vt ∧ vt ≤ ktp ∧ ktp < vt + nB) → (DG fnt vf vt) → va_PD G A [(h0, oX12 nw nk mhasKept nt (nI ktp) nr mrowMany mroundOf mroundFrom mouts nm mfromHour mtoHour ns (nI vf) (nI vt) 2 misFault mdeep mcoded mlines nl nc nF np ntr nb mbestCost nso nsi nit nsh nsf nss nrc mtraced mdealer mnumber mwhose msize misParted), (nt, iA G 240 fnt)] H → va_S A s.heap H locs → lv_has ls 1 [(0, .ref h0)] → W p l e (RM 3 0 0) s m ([.ref h0] : List Value).toArray below meth c H locs 0 0 Q0 (F0 m 124 ls []) := by
                intro nB
                induction nB with
                | zero =>
                  intro vt H locs ls hiB hdB hPD hS hl
                  refine Kan2 hPD (fun hP hD => ?_)
                  exact (show False by omega).elim
                | succ nB ihB =>
                  intro vt H locs ls hiB hdB hPD hS hl
                  refine Kan2 hPD (fun hP hD => ?_)
                  refine lv_aload_n hx hb gX12_next_6.2.2.2.1 rfl (lv_at0 hl) ?_
                  refine gf_X12_217 hC rfl hK hP 0 rfl rfl gX12_next_6.2.2.2.2.1 ?_
                  refine lv_iconst (v := 1) hx hb gX12_next_6.2.2.2.2.2.1 (by decide) ?_
                  refine lv_icmp_ne (tgt := 147) hx hb gX12_next_6.2.2.2.2.2.2.1 (by decide) (fun _ => ?_) (fun c9 => absurd c9 (by decide))
                  refine lv_aload_n hx hb gX12_next_7.2.2.2.2.1 rfl (lv_at0 hl) ?_
                  refine gf_X12_217 hC rfl hK hP 0 rfl rfl gX12_next_7.2.2.2.2.2.1 ?_
                  refine lv_iconst (v := 2) hx hb gX12_next_7.2.2.2.2.2.2.1 (by decide) ?_
                  refine lv_icmp_ne (tgt := 183) hx hb gX12_next_7.2.2.2.2.2.2.2.1 (by decide) (fun c9 => absurd (by decide) c9) (fun _ => ?_)
                  refine lv_aload_n hx hb gX12_next_7.2.2.2.2.2.2.2.2.1 rfl (lv_at0 hl) ?_
                  refine lv_aload_n hx hb gX12_next_7.2.2.2.2.2.2.2.2.2 rfl (lv_at0 hl) ?_
                  refine gf_X12_211 hC rfl hK hP 0 rfl rfl gX12_next_8.1 ?_
                  refine lv_bipush (v := 48) hx hb gX12_next_8.2.1 (by decide) ?_
                  refine lv_bipush (v := 57) hx hb gX12_next_8.2.2.1 (by decide) ?_
                  refine pV hC hK hl hP hD (m_isInT l G h0 vt 48 57 nw nk mhasKept nt ktp nr mrowMany mroundOf mroundFrom mouts nm mfromHour mtoHour ns (nI vf) (nI vt) 2 misFault mdeep mcoded mlines nl nc nF np ntr nb mbestCost nso nsi nit nsh nsf nss nrc mtraced mdealer mnumber mwhose msize misParted fnt (by omega) (htp)) si_X12_220 [0, 1] sm_0_1 fm_0_1 nd_0_1 rfl rfl rfl rfl rfl (Nat.le_of_ble_eq_true rfl) rm_3_2_4 ⟨by first | exact Nat.le_of_ble_eq_true rfl | exact Nat.zero_le _, by first | exact Nat.le_of_ble_eq_true rfl | exact Nat.zero_le _⟩ gX12_next_8.2.2.2.1 (Kors (Keqa fun a7533 => ?_) (Keqr ?_))
                  · refine lv_if_eq (tgt := 183) hx hb gX12_next_8.2.2.2.2.1 (by decide) (fun c9 => absurd c9 (by decide)) (fun _ => ?_)
                    refine lv_aload_n hx hb gX12_next_8.2.2.2.2.2.1 rfl (lv_at0 hl) ?_
                    refine lv_dup hx hb gX12_next_8.2.2.2.2.2.2.1 rfl ?_
                    refine gf_X12_211 hC rfl hK hP 0 rfl rfl gX12_next_8.2.2.2.2.2.2.2.1 ?_
                    refine lv_iconst (v := 1) hx hb gX12_next_8.2.2.2.2.2.2.2.2.1 (by decide) ?_
                    refine lv_iadd hx hb gX12_next_8.2.2.2.2.2.2.2.2.2 ?_
                    refine eqi (x1 := nI (vt + 1)) (nI_add vt 1) ?_
                    refine pf_X12_211 hC rfl hK hP hD hS 0 (ws' := [(h0, oX12 nw nk mhasKept nt (nI ktp) nr mrowMany mroundOf mroundFrom mouts nm mfromHour mtoHour ns (nI vf) (nI (vt + 1)) 2 misFault mdeep mcoded mlines nl nc nF np ntr nb mbestCost nso nsi nit nsh nsf nss nrc mtraced mdealer mnumber mwhose msize misParted), (nt, iA G 240 fnt)]) rfl (Nat.le_of_ble_eq_true rfl) rfl rfl rfl gX12_next_9.1 (fun H locs hP hD hS => ?_)
                    refine lv_goto (tgt := 124) hx hb gX12_next_9.2.1 (by decide) ?_
                    exact ihB (vt + 1) _ _ _ (by omega) (hdB.next a7533.2) (And.intro hP hD) hS (lv_sub hl [0] rfl)
                  · refine lv_if_eq (tgt := 183) hx hb gX12_next_8.2.2.2.2.1 (by decide) (fun _ => ?_) (fun c9 => absurd (by decide) c9)
                    refine toQ hQ0 ?_
                    exact RV hC hP hD hS [0, 1] (vf, vt, 2) rfl rfl (by decide) (⟨by (try dsimp only); omega, TOK.n2 (by (try dsimp only); omega) (by (try dsimp only); omega) (by first | assumption)⟩) gX12_next_9.2.2
              exact keyB (ktp + 1) (vf + 1) _ _ _ (by omega) (DG.zero.next a7529.2) (And.intro hP hD) hS (lv_sub hl [0] rfl)
            · refine lv_if_eq (tgt := 110) hx hb gX12_next_5.2.2.1 (by decide) (fun _ => ?_) (fun c9 => absurd (by decide) c9)
              refine lv_iconst (v := 3) hx hb gX12_next_5.2.2.2.2.2.1 (by decide) ?_
              refine pf_X12_217 hC rfl hK hP hD hS 0 (ws' := [(h0, oX12 nw nk mhasKept nt (nI ktp) nr mrowMany mroundOf mroundFrom mouts nm mfromHour mtoHour ns (nI vf) (nI vf) 3 misFault mdeep mcoded mlines nl nc nF np ntr nb mbestCost nso nsi nit nsh nsf nss nrc mtraced mdealer mnumber mwhose msize misParted), (nt, iA G 240 fnt)]) rfl (Nat.le_of_ble_eq_true rfl) rfl rfl rfl gX12_next_5.2.2.2.2.2.2.1 (fun H locs hP hD hS => ?_)
              refine lv_aload_n hx hb gX12_next_5.2.2.2.2.2.2.2.1 rfl (lv_at0 hl) ?_
              refine lv_dup hx hb gX12_next_5.2.2.2.2.2.2.2.2.1 rfl ?_
              refine gf_X12_211 hC rfl hK hP 0 rfl rfl gX12_next_5.2.2.2.2.2.2.2.2.2 ?_
              refine lv_iconst (v := 1) hx hb gX12_next_6.1 (by decide) ?_
              refine lv_iadd hx hb gX12_next_6.2.1 ?_
              refine eqi (x1 := nI (vf + 1)) (nI_add vf 1) ?_
              refine pf_X12_211 hC rfl hK hP hD hS 0 (ws' := [(h0, oX12 nw nk mhasKept nt (nI ktp) nr mrowMany mroundOf mroundFrom mouts nm mfromHour mtoHour ns (nI vf) (nI (vf + 1)) 3 misFault mdeep mcoded mlines nl nc nF np ntr nb mbestCost nso nsi nit nsh nsf nss nrc mtraced mdealer mnumber mwhose msize misParted), (nt, iA G 240 fnt)]) rfl (Nat.le_of_ble_eq_true rfl) rfl rfl rfl gX12_next_6.2.2.1 (fun H locs hP hD hS => ?_)
              refine lv_aload_n hx hb gX12_next_6.2.2.2.1 rfl (lv_at0 hl) ?_
              refine gf_X12_217 hC rfl hK hP 0 rfl rfl gX12_next_6.2.2.2.2.1 ?_
              refine lv_iconst (v := 1) hx hb gX12_next_6.2.2.2.2.2.1 (by decide) ?_
              refine lv_icmp_ne (tgt := 147) hx hb gX12_next_6.2.2.2.2.2.2.1 (by decide) (fun _ => ?_) (fun c9 => absurd c9 (by decide))
              refine lv_aload_n hx hb gX12_next_7.2.2.2.2.1 rfl (lv_at0 hl) ?_
              refine gf_X12_217 hC rfl hK hP 0 rfl rfl gX12_next_7.2.2.2.2.2.1 ?_
              refine lv_iconst (v := 2) hx hb gX12_next_7.2.2.2.2.2.2.1 (by decide) ?_
              refine lv_icmp_ne (tgt := 183) hx hb gX12_next_7.2.2.2.2.2.2.2.1 (by decide) (fun _ => ?_) (fun c9 => absurd c9 (by decide))
              refine toQ hQ0 ?_
              exact RV hC hP hD hS [0, 1] (vf, (vf + 1), 3) rfl rfl (by decide) (⟨by (try dsimp only); omega, TOK.n3 (by (try dsimp only); omega) (by (try dsimp only); omega)⟩) gX12_next_9.2.2
        · refine lv_aload_n hx hb gX12_next_3.2.2.1 rfl (lv_at0 hl) ?_
          refine lv_iconst (v := 0) hx hb gX12_next_3.2.2.2.1 (by decide) ?_
          refine pf_X12_217 hC rfl hK hP hD hS 0 (ws' := [(h0, oX12 nw nk mhasKept nt (nI ktp) nr mrowMany mroundOf mroundFrom mouts nm mfromHour mtoHour ns (nI vf) (nI vf) 0 misFault mdeep mcoded mlines nl nc nF np ntr nb mbestCost nso nsi nit nsh nsf nss nrc mtraced mdealer mnumber mwhose msize misParted), (nt, iA G 240 fnt)]) rfl (Nat.le_of_ble_eq_true rfl) rfl rfl rfl gX12_next_3.2.2.2.2.1 (fun H locs hP hD hS => ?_)
          refine toQ hQ0 ?_
          exact RV hC hP hD hS [0, 1] (vf, vf, 0) rfl rfl (by decide) (⟨by (try dsimp only); omega, TOK.n0 (by (try dsimp only); omega)⟩) gX12_next_3.2.2.2.2.2.1
      · have hvf9 := nge_nat (R := ktp) (k := vf) (by omega) (by omega) c_16_7522
        refine lv_aload_n hx hb gX12_next_0.2.2.2.2.2.2.2.2.2 rfl (lv_at0 hl) ?_
        refine gf_X12_16 hC rfl hK hP 0 rfl rfl gX12_next_1.1 ?_
        refine lv_aload_n hx hb gX12_next_1.2.1 rfl (lv_at0 hl) ?_
        refine gf_X12_214 hC rfl hK hP 0 rfl rfl gX12_next_1.2.2.1 ?_
        refine aldN hC hK hP 1 rfl (k := vf) (by omega) (Nat.le_of_ble_eq_true rfl) (v := fnt vf) rfl gX12_next_1.2.2.2.1 ?_
        refine lv_topi (fun x7534 ex7534 => ?_)
        refine lv_bipush (v := 32) hx hb gX12_next_1.2.2.2.2.1 (by decide) ?_
        refine lv_icmp_ne (tgt := 46) hx hb gX12_next_1.2.2.2.2.2.1 (by decide) (fun c_30_7535 => ?_) (fun c_30_7535 => ?_)
        · refine lv_aload_n hx hb gX12_next_2.2.2.2.1 rfl (lv_at0 hl) ?_
          refine lv_aload_n hx hb gX12_next_2.2.2.2.2.1 rfl (lv_at0 hl) ?_
          refine gf_X12_214 hC rfl hK hP 0 rfl rfl gX12_next_2.2.2.2.2.2.1 ?_
          refine pf_X12_211 hC rfl hK hP hD hS 0 (ws' := [(h0, oX12 nw nk mhasKept nt (nI ktp) nr mrowMany mroundOf mroundFrom mouts nm mfromHour mtoHour ns (nI vf) (nI vf) msort misFault mdeep mcoded mlines nl nc nF np ntr nb mbestCost nso nsi nit nsh nsf nss nrc mtraced mdealer mnumber mwhose msize misParted), (nt, iA G 240 fnt)]) rfl (Nat.le_of_ble_eq_true rfl) rfl rfl rfl gX12_next_2.2.2.2.2.2.2.1 (fun H locs hP hD hS => ?_)
          refine lv_aload_n hx hb gX12_next_2.2.2.2.2.2.2.2.1 rfl (lv_at0 hl) ?_
          refine gf_X12_214 hC rfl hK hP 0 rfl rfl gX12_next_2.2.2.2.2.2.2.2.2.1 ?_
          refine lv_aload_n hx hb gX12_next_2.2.2.2.2.2.2.2.2.2 rfl (lv_at0 hl) ?_
          refine gf_X12_206 hC rfl hK hP 0 rfl rfl gX12_next_3.1 ?_
          refine lv_icmp_ne (tgt := 71) hx hb gX12_next_3.2.1 (by decide) (fun c_62_7536 => ?_) (fun c_62_7536 => ?_)
          · have hvf8 := nI_neq (a := vf) (b := ktp) (by omega) (by omega) c_62_7536
            refine lv_aload_n hx hb gX12_next_3.2.2.2.2.2.2.1 rfl (lv_at0 hl) ?_
            refine lv_aload_n hx hb gX12_next_3.2.2.2.2.2.2.2.1 rfl (lv_at0 hl) ?_
            refine lv_aload_n hx hb gX12_next_3.2.2.2.2.2.2.2.2.1 rfl (lv_at0 hl) ?_
            refine gf_X12_214 hC rfl hK hP 0 rfl rfl gX12_next_3.2.2.2.2.2.2.2.2.2 ?_
            refine lv_bipush (v := 97) hx hb gX12_next_4.1 (by decide) ?_
            refine lv_bipush (v := 122) hx hb gX12_next_4.2.1 (by decide) ?_
            refine pV hC hK hl hP hD (m_isInT l G h0 vf 97 122 nw nk mhasKept nt ktp nr mrowMany mroundOf mroundFrom mouts nm mfromHour mtoHour ns (nI vf) (nI vf) msort misFault mdeep mcoded mlines nl nc nF np ntr nb mbestCost nso nsi nit nsh nsf nss nrc mtraced mdealer mnumber mwhose msize misParted fnt (by omega) (htp)) si_X12_220 [0, 1] sm_0_1 fm_0_1 nd_0_1 rfl rfl rfl rfl rfl (Nat.le_of_ble_eq_true rfl) rm_3_2_4 ⟨by first | exact Nat.le_of_ble_eq_true rfl | exact Nat.zero_le _, by first | exact Nat.le_of_ble_eq_true rfl | exact Nat.zero_le _⟩ gX12_next_4.2.2.1 (Kors (Keqa fun a7538 => ?_) (Keqr ?_))
            · refine lv_if_eq (tgt := 91) hx hb gX12_next_4.2.2.2.1 (by decide) (fun c9 => absurd c9 (by decide)) (fun _ => ?_)
              refine lv_iconst (v := 1) hx hb gX12_next_4.2.2.2.2.1 (by decide) ?_
              refine lv_goto (tgt := 111) hx hb gX12_next_4.2.2.2.2.2.1 (by decide) ?_
              refine pf_X12_217 hC rfl hK hP hD hS 0 (ws' := [(h0, oX12 nw nk mhasKept nt (nI ktp) nr mrowMany mroundOf mroundFrom mouts nm mfromHour mtoHour ns (nI vf) (nI vf) 1 misFault mdeep mcoded mlines nl nc nF np ntr nb mbestCost nso nsi nit nsh nsf nss nrc mtraced mdealer mnumber mwhose msize misParted), (nt, iA G 240 fnt)]) rfl (Nat.le_of_ble_eq_true rfl) rfl rfl rfl gX12_next_5.2.2.2.2.2.2.1 (fun H locs hP hD hS => ?_)
              refine lv_aload_n hx hb gX12_next_5.2.2.2.2.2.2.2.1 rfl (lv_at0 hl) ?_
              refine lv_dup hx hb gX12_next_5.2.2.2.2.2.2.2.2.1 rfl ?_
              refine gf_X12_211 hC rfl hK hP 0 rfl rfl gX12_next_5.2.2.2.2.2.2.2.2.2 ?_
              refine lv_iconst (v := 1) hx hb gX12_next_6.1 (by decide) ?_
              refine lv_iadd hx hb gX12_next_6.2.1 ?_
              refine eqi (x1 := nI (vf + 1)) (nI_add vf 1) ?_
              refine pf_X12_211 hC rfl hK hP hD hS 0 (ws' := [(h0, oX12 nw nk mhasKept nt (nI ktp) nr mrowMany mroundOf mroundFrom mouts nm mfromHour mtoHour ns (nI vf) (nI (vf + 1)) 1 misFault mdeep mcoded mlines nl nc nF np ntr nb mbestCost nso nsi nit nsh nsf nss nrc mtraced mdealer mnumber mwhose msize misParted), (nt, iA G 240 fnt)]) rfl (Nat.le_of_ble_eq_true rfl) rfl rfl rfl gX12_next_6.2.2.1 (fun H locs hP hD hS => ?_)
              have keyB : ∀ (nB : Nat) (vt : Nat) (H : Heap) (locs : List Loc) (ls : Array Slot), (vf < vt ∧ vt ≤ ktp ∧ ktp < vt + nB) → va_PD G A [(h0, oX12 nw nk mhasKept nt (nI ktp) nr mrowMany mroundOf mroundFrom mouts nm mfromHour mtoHour ns (nI vf) (nI vt) 1 misFault mdeep mcoded mlines nl nc nF np ntr nb mbestCost nso nsi nit nsh nsf nss nrc mtraced mdealer mnumber mwhose msize misParted), (nt, iA G 240 fnt)] H → va_S A s.heap H locs → lv_has ls 1 [(0, .ref h0)] → W p l e (RM 3 0 0) s m ([.ref h0] : List Value).toArray below meth c H locs 0 0 Q0 (F0 m 124 ls []) := by
                intro nB
                induction nB with
                | zero =>
                  intro vt H locs ls hiB hPD hS hl
                  refine Kan2 hPD (fun hP hD => ?_)
                  exact (show False by omega).elim
                | succ nB ihB =>
                  intro vt H locs ls hiB hPD hS hl
                  refine Kan2 hPD (fun hP hD => ?_)
                  refine lv_aload_n hx hb gX12_next_6.2.2.2.1 rfl (lv_at0 hl) ?_
                  refine gf_X12_217 hC rfl hK hP 0 rfl rfl gX12_next_6.2.2.2.2.1 ?_
                  refine lv_iconst (v := 1) hx hb gX12_next_6.2.2.2.2.2.1 (by decide) ?_
                  refine lv_icmp_ne (tgt := 147) hx hb gX12_next_6.2.2.2.2.2.2.1 (by decide) (fun c9 => absurd (by decide) c9) (fun _ => ?_)
                  refine lv_aload_n hx hb gX12_next_6.2.2.2.2.2.2.2.1 rfl (lv_at0 hl) ?_
                  refine lv_aload_n hx hb gX12_next_6.2.2.2.2.2.2.2.2.1 rfl (lv_at0 hl) ?_
                  refine gf_X12_211 hC rfl hK hP 0 rfl rfl gX12_next_6.2.2.2.2.2.2.2.2.2 ?_
                  refine lv_bipush (v := 97) hx hb gX12_next_7.1 (by decide) ?_
                  refine lv_bipush (v := 122) hx hb gX12_next_7.2.1 (by decide) ?_
                  refine pV hC hK hl hP hD (m_isInT l G h0 vt 97 122 nw nk mhasKept nt ktp nr mrowMany mroundOf mroundFrom mouts nm mfromHour mtoHour ns (nI vf) (nI vt) 1 misFault mdeep mcoded mlines nl nc nF np ntr nb mbestCost nso nsi nit nsh nsf nss nrc mtraced mdealer mnumber mwhose msize misParted fnt (by omega) (htp)) si_X12_220 [0, 1] sm_0_1 fm_0_1 nd_0_1 rfl rfl rfl rfl rfl (Nat.le_of_ble_eq_true rfl) rm_3_2_4 ⟨by first | exact Nat.le_of_ble_eq_true rfl | exact Nat.zero_le _, by first | exact Nat.le_of_ble_eq_true rfl | exact Nat.zero_le _⟩ gX12_next_7.2.2.1 (Kors (Keqa fun a7540 => ?_) (Keqr ?_))
                  · refine lv_if_ne (tgt := 170) hx hb gX12_next_7.2.2.2.1 (by decide) (fun _ => ?_) (fun c9 => absurd c9 (by decide))
                    refine lv_aload_n hx hb gX12_next_8.2.2.2.2.2.1 rfl (lv_at0 hl) ?_
                    refine lv_dup hx hb gX12_next_8.2.2.2.2.2.2.1 rfl ?_
                    refine gf_X12_211 hC rfl hK hP 0 rfl rfl gX12_next_8.2.2.2.2.2.2.2.1 ?_
                    refine lv_iconst (v := 1) hx hb gX12_next_8.2.2.2.2.2.2.2.2.1 (by decide) ?_
                    refine lv_iadd hx hb gX12_next_8.2.2.2.2.2.2.2.2.2 ?_
                    refine eqi (x1 := nI (vt + 1)) (nI_add vt 1) ?_
                    refine pf_X12_211 hC rfl hK hP hD hS 0 (ws' := [(h0, oX12 nw nk mhasKept nt (nI ktp) nr mrowMany mroundOf mroundFrom mouts nm mfromHour mtoHour ns (nI vf) (nI (vt + 1)) 1 misFault mdeep mcoded mlines nl nc nF np ntr nb mbestCost nso nsi nit nsh nsf nss nrc mtraced mdealer mnumber mwhose msize misParted), (nt, iA G 240 fnt)]) rfl (Nat.le_of_ble_eq_true rfl) rfl rfl rfl gX12_next_9.1 (fun H locs hP hD hS => ?_)
                    refine lv_goto (tgt := 124) hx hb gX12_next_9.2.1 (by decide) ?_
                    exact ihB (vt + 1) _ _ _ (by omega) (And.intro hP hD) hS (lv_sub hl [0] rfl)
                  · refine lv_if_ne (tgt := 170) hx hb gX12_next_7.2.2.2.1 (by decide) (fun c9 => absurd (by decide) c9) (fun _ => ?_)
                    refine lv_aload_n hx hb gX12_next_7.2.2.2.2.1 rfl (lv_at0 hl) ?_
                    refine gf_X12_217 hC rfl hK hP 0 rfl rfl gX12_next_7.2.2.2.2.2.1 ?_
                    refine lv_iconst (v := 2) hx hb gX12_next_7.2.2.2.2.2.2.1 (by decide) ?_
                    refine lv_icmp_ne (tgt := 183) hx hb gX12_next_7.2.2.2.2.2.2.2.1 (by decide) (fun _ => ?_) (fun c9 => absurd c9 (by decide))
                    refine toQ hQ0 ?_
                    exact RV hC hP hD hS [0, 1] (vf, vt, 1) rfl rfl (by decide) (⟨by (try dsimp only); omega, TOK.n1 (by (try dsimp only); omega) (by (try dsimp only); omega)⟩) gX12_next_9.2.2
              exact keyB (ktp + 1) (vf + 1) _ _ _ (by omega) (And.intro hP hD) hS (lv_sub hl [0] rfl)
            · refine lv_if_eq (tgt := 91) hx hb gX12_next_4.2.2.2.1 (by decide) (fun _ => ?_) (fun c9 => absurd (by decide) c9)
              refine lv_aload_n hx hb gX12_next_4.2.2.2.2.2.2.1 rfl (lv_at0 hl) ?_
              refine lv_aload_n hx hb gX12_next_4.2.2.2.2.2.2.2.1 rfl (lv_at0 hl) ?_
              refine gf_X12_214 hC rfl hK hP 0 rfl rfl gX12_next_4.2.2.2.2.2.2.2.2.1 ?_
              refine lv_bipush (v := 48) hx hb gX12_next_4.2.2.2.2.2.2.2.2.2 (by decide) ?_
              refine lv_bipush (v := 57) hx hb gX12_next_5.1 (by decide) ?_
              refine pV hC hK hl hP hD (m_isInT l G h0 vf 48 57 nw nk mhasKept nt ktp nr mrowMany mroundOf mroundFrom mouts nm mfromHour mtoHour ns (nI vf) (nI vf) msort misFault mdeep mcoded mlines nl nc nF np ntr nb mbestCost nso nsi nit nsh nsf nss nrc mtraced mdealer mnumber mwhose msize misParted fnt (by omega) (htp)) si_X12_220 [0, 1] sm_0_1 fm_0_1 nd_0_1 rfl rfl rfl rfl rfl (Nat.le_of_ble_eq_true rfl) rm_3_2_4 ⟨by first | exact Nat.le_of_ble_eq_true rfl | exact Nat.zero_le _, by first | exact Nat.le_of_ble_eq_true rfl | exact Nat.zero_le _⟩ gX12_next_5.2.1 (Kors (Keqa fun a7542 => ?_) (Keqr ?_))
              · refine lv_if_eq (tgt := 110) hx hb gX12_next_5.2.2.1 (by decide) (fun c9 => absurd c9 (by decide)) (fun _ => ?_)
                refine lv_iconst (v := 2) hx hb gX12_next_5.2.2.2.1 (by decide) ?_
                refine lv_goto (tgt := 111) hx hb gX12_next_5.2.2.2.2.1 (by decide) ?_
                refine pf_X12_217 hC rfl hK hP hD hS 0 (ws' := [(h0, oX12 nw nk mhasKept nt (nI ktp) nr mrowMany mroundOf mroundFrom mouts nm mfromHour mtoHour ns (nI vf) (nI vf) 2 misFault mdeep mcoded mlines nl nc nF np ntr nb mbestCost nso nsi nit nsh nsf nss nrc mtraced mdealer mnumber mwhose msize misParted), (nt, iA G 240 fnt)]) rfl (Nat.le_of_ble_eq_true rfl) rfl rfl rfl gX12_next_5.2.2.2.2.2.2.1 (fun H locs hP hD hS => ?_)
                refine lv_aload_n hx hb gX12_next_5.2.2.2.2.2.2.2.1 rfl (lv_at0 hl) ?_
                refine lv_dup hx hb gX12_next_5.2.2.2.2.2.2.2.2.1 rfl ?_
                refine gf_X12_211 hC rfl hK hP 0 rfl rfl gX12_next_5.2.2.2.2.2.2.2.2.2 ?_
                refine lv_iconst (v := 1) hx hb gX12_next_6.1 (by decide) ?_
                refine lv_iadd hx hb gX12_next_6.2.1 ?_
                refine eqi (x1 := nI (vf + 1)) (nI_add vf 1) ?_
                refine pf_X12_211 hC rfl hK hP hD hS 0 (ws' := [(h0, oX12 nw nk mhasKept nt (nI ktp) nr mrowMany mroundOf mroundFrom mouts nm mfromHour mtoHour ns (nI vf) (nI (vf + 1)) 2 misFault mdeep mcoded mlines nl nc nF np ntr nb mbestCost nso nsi nit nsh nsf nss nrc mtraced mdealer mnumber mwhose msize misParted), (nt, iA G 240 fnt)]) rfl (Nat.le_of_ble_eq_true rfl) rfl rfl rfl gX12_next_6.2.2.1 (fun H locs hP hD hS => ?_)
                have keyB : ∀ (nB : Nat) (vt : Nat) (H : Heap) (locs : List Loc) (ls : Array Slot), (vf < vt ∧ vt ≤ ktp ∧ ktp < vt + nB) → (DG fnt vf vt) → va_PD G A [(h0, oX12 nw nk mhasKept nt (nI ktp) nr mrowMany mroundOf mroundFrom mouts nm mfromHour mtoHour ns (nI vf) (nI vt) 2 misFault mdeep mcoded mlines nl nc nF np ntr nb mbestCost nso nsi nit nsh nsf nss nrc mtraced mdealer mnumber mwhose msize misParted), (nt, iA G 240 fnt)] H → va_S A s.heap H locs → lv_has ls 1 [(0, .ref h0)] → W p l e (RM 3 0 0) s m ([.ref h0] : List Value).toArray below meth c H locs 0 0 Q0 (F0 m 124 ls []) := by
                  intro nB
                  induction nB with
                  | zero =>
                    intro vt H locs ls hiB hdB hPD hS hl
                    refine Kan2 hPD (fun hP hD => ?_)
                    exact (show False by omega).elim
                  | succ nB ihB =>
                    intro vt H locs ls hiB hdB hPD hS hl
                    refine Kan2 hPD (fun hP hD => ?_)
                    refine lv_aload_n hx hb gX12_next_6.2.2.2.1 rfl (lv_at0 hl) ?_
                    refine gf_X12_217 hC rfl hK hP 0 rfl rfl gX12_next_6.2.2.2.2.1 ?_
                    refine lv_iconst (v := 1) hx hb gX12_next_6.2.2.2.2.2.1 (by decide) ?_
                    refine lv_icmp_ne (tgt := 147) hx hb gX12_next_6.2.2.2.2.2.2.1 (by decide) (fun _ => ?_) (fun c9 => absurd c9 (by decide))
                    refine lv_aload_n hx hb gX12_next_7.2.2.2.2.1 rfl (lv_at0 hl) ?_
                    refine gf_X12_217 hC rfl hK hP 0 rfl rfl gX12_next_7.2.2.2.2.2.1 ?_
                    refine lv_iconst (v := 2) hx hb gX12_next_7.2.2.2.2.2.2.1 (by decide) ?_
                    refine lv_icmp_ne (tgt := 183) hx hb gX12_next_7.2.2.2.2.2.2.2.1 (by decide) (fun c9 => absurd (by decide) c9) (fun _ => ?_)
                    refine lv_aload_n hx hb gX12_next_7.2.2.2.2.2.2.2.2.1 rfl (lv_at0 hl) ?_
                    refine lv_aload_n hx hb gX12_next_7.2.2.2.2.2.2.2.2.2 rfl (lv_at0 hl) ?_
                    refine gf_X12_211 hC rfl hK hP 0 rfl rfl gX12_next_8.1 ?_
                    refine lv_bipush (v := 48) hx hb gX12_next_8.2.1 (by decide) ?_
                    refine lv_bipush (v := 57) hx hb gX12_next_8.2.2.1 (by decide) ?_
                    refine pV hC hK hl hP hD (m_isInT l G h0 vt 48 57 nw nk mhasKept nt ktp nr mrowMany mroundOf mroundFrom mouts nm mfromHour mtoHour ns (nI vf) (nI vt) 2 misFault mdeep mcoded mlines nl nc nF np ntr nb mbestCost nso nsi nit nsh nsf nss nrc mtraced mdealer mnumber mwhose msize misParted fnt (by omega) (htp)) si_X12_220 [0, 1] sm_0_1 fm_0_1 nd_0_1 rfl rfl rfl rfl rfl (Nat.le_of_ble_eq_true rfl) rm_3_2_4 ⟨by first | exact Nat.le_of_ble_eq_true rfl | exact Nat.zero_le _, by first | exact Nat.le_of_ble_eq_true rfl | exact Nat.zero_le _⟩ gX12_next_8.2.2.2.1 (Kors (Keqa fun a7546 => ?_) (Keqr ?_))
                    · refine lv_if_eq (tgt := 183) hx hb gX12_next_8.2.2.2.2.1 (by decide) (fun c9 => absurd c9 (by decide)) (fun _ => ?_)
                      refine lv_aload_n hx hb gX12_next_8.2.2.2.2.2.1 rfl (lv_at0 hl) ?_
                      refine lv_dup hx hb gX12_next_8.2.2.2.2.2.2.1 rfl ?_
                      refine gf_X12_211 hC rfl hK hP 0 rfl rfl gX12_next_8.2.2.2.2.2.2.2.1 ?_
                      refine lv_iconst (v := 1) hx hb gX12_next_8.2.2.2.2.2.2.2.2.1 (by decide) ?_
                      refine lv_iadd hx hb gX12_next_8.2.2.2.2.2.2.2.2.2 ?_
                      refine eqi (x1 := nI (vt + 1)) (nI_add vt 1) ?_
                      refine pf_X12_211 hC rfl hK hP hD hS 0 (ws' := [(h0, oX12 nw nk mhasKept nt (nI ktp) nr mrowMany mroundOf mroundFrom mouts nm mfromHour mtoHour ns (nI vf) (nI (vt + 1)) 2 misFault mdeep mcoded mlines nl nc nF np ntr nb mbestCost nso nsi nit nsh nsf nss nrc mtraced mdealer mnumber mwhose msize misParted), (nt, iA G 240 fnt)]) rfl (Nat.le_of_ble_eq_true rfl) rfl rfl rfl gX12_next_9.1 (fun H locs hP hD hS => ?_)
                      refine lv_goto (tgt := 124) hx hb gX12_next_9.2.1 (by decide) ?_
                      exact ihB (vt + 1) _ _ _ (by omega) (hdB.next a7546.2) (And.intro hP hD) hS (lv_sub hl [0] rfl)
                    · refine lv_if_eq (tgt := 183) hx hb gX12_next_8.2.2.2.2.1 (by decide) (fun _ => ?_) (fun c9 => absurd (by decide) c9)
                      refine toQ hQ0 ?_
                      exact RV hC hP hD hS [0, 1] (vf, vt, 2) rfl rfl (by decide) (⟨by (try dsimp only); omega, TOK.n2 (by (try dsimp only); omega) (by (try dsimp only); omega) (by first | assumption)⟩) gX12_next_9.2.2
                exact keyB (ktp + 1) (vf + 1) _ _ _ (by omega) (DG.zero.next a7542.2) (And.intro hP hD) hS (lv_sub hl [0] rfl)
              · refine lv_if_eq (tgt := 110) hx hb gX12_next_5.2.2.1 (by decide) (fun _ => ?_) (fun c9 => absurd (by decide) c9)
                refine lv_iconst (v := 3) hx hb gX12_next_5.2.2.2.2.2.1 (by decide) ?_
                refine pf_X12_217 hC rfl hK hP hD hS 0 (ws' := [(h0, oX12 nw nk mhasKept nt (nI ktp) nr mrowMany mroundOf mroundFrom mouts nm mfromHour mtoHour ns (nI vf) (nI vf) 3 misFault mdeep mcoded mlines nl nc nF np ntr nb mbestCost nso nsi nit nsh nsf nss nrc mtraced mdealer mnumber mwhose msize misParted), (nt, iA G 240 fnt)]) rfl (Nat.le_of_ble_eq_true rfl) rfl rfl rfl gX12_next_5.2.2.2.2.2.2.1 (fun H locs hP hD hS => ?_)
                refine lv_aload_n hx hb gX12_next_5.2.2.2.2.2.2.2.1 rfl (lv_at0 hl) ?_
                refine lv_dup hx hb gX12_next_5.2.2.2.2.2.2.2.2.1 rfl ?_
                refine gf_X12_211 hC rfl hK hP 0 rfl rfl gX12_next_5.2.2.2.2.2.2.2.2.2 ?_
                refine lv_iconst (v := 1) hx hb gX12_next_6.1 (by decide) ?_
                refine lv_iadd hx hb gX12_next_6.2.1 ?_
                refine eqi (x1 := nI (vf + 1)) (nI_add vf 1) ?_
                refine pf_X12_211 hC rfl hK hP hD hS 0 (ws' := [(h0, oX12 nw nk mhasKept nt (nI ktp) nr mrowMany mroundOf mroundFrom mouts nm mfromHour mtoHour ns (nI vf) (nI (vf + 1)) 3 misFault mdeep mcoded mlines nl nc nF np ntr nb mbestCost nso nsi nit nsh nsf nss nrc mtraced mdealer mnumber mwhose msize misParted), (nt, iA G 240 fnt)]) rfl (Nat.le_of_ble_eq_true rfl) rfl rfl rfl gX12_next_6.2.2.1 (fun H locs hP hD hS => ?_)
                refine lv_aload_n hx hb gX12_next_6.2.2.2.1 rfl (lv_at0 hl) ?_
                refine gf_X12_217 hC rfl hK hP 0 rfl rfl gX12_next_6.2.2.2.2.1 ?_
                refine lv_iconst (v := 1) hx hb gX12_next_6.2.2.2.2.2.1 (by decide) ?_
                refine lv_icmp_ne (tgt := 147) hx hb gX12_next_6.2.2.2.2.2.2.1 (by decide) (fun _ => ?_) (fun c9 => absurd c9 (by decide))
                refine lv_aload_n hx hb gX12_next_7.2.2.2.2.1 rfl (lv_at0 hl) ?_
                refine gf_X12_217 hC rfl hK hP 0 rfl rfl gX12_next_7.2.2.2.2.2.1 ?_
                refine lv_iconst (v := 2) hx hb gX12_next_7.2.2.2.2.2.2.1 (by decide) ?_
                refine lv_icmp_ne (tgt := 183) hx hb gX12_next_7.2.2.2.2.2.2.2.1 (by decide) (fun _ => ?_) (fun c9 => absurd c9 (by decide))
                refine toQ hQ0 ?_
                exact RV hC hP hD hS [0, 1] (vf, (vf + 1), 3) rfl rfl (by decide) (⟨by (try dsimp only); omega, TOK.n3 (by (try dsimp only); omega) (by (try dsimp only); omega)⟩) gX12_next_9.2.2
          · refine lv_aload_n hx hb gX12_next_3.2.2.1 rfl (lv_at0 hl) ?_
            refine lv_iconst (v := 0) hx hb gX12_next_3.2.2.2.1 (by decide) ?_
            refine pf_X12_217 hC rfl hK hP hD hS 0 (ws' := [(h0, oX12 nw nk mhasKept nt (nI ktp) nr mrowMany mroundOf mroundFrom mouts nm mfromHour mtoHour ns (nI vf) (nI vf) 0 misFault mdeep mcoded mlines nl nc nF np ntr nb mbestCost nso nsi nit nsh nsf nss nrc mtraced mdealer mnumber mwhose msize misParted), (nt, iA G 240 fnt)]) rfl (Nat.le_of_ble_eq_true rfl) rfl rfl rfl gX12_next_3.2.2.2.2.1 (fun H locs hP hD hS => ?_)
            refine toQ hQ0 ?_
            exact RV hC hP hD hS [0, 1] (vf, vf, 0) rfl rfl (by decide) (⟨by (try dsimp only); omega, TOK.n0 (by (try dsimp only); omega)⟩) gX12_next_3.2.2.2.2.2.1
        · refine lv_aload_n hx hb gX12_next_1.2.2.2.2.2.2.1 rfl (lv_at0 hl) ?_
          refine lv_dup hx hb gX12_next_1.2.2.2.2.2.2.2.1 rfl ?_
          refine gf_X12_214 hC rfl hK hP 0 rfl rfl gX12_next_1.2.2.2.2.2.2.2.2.1 ?_
          refine lv_iconst (v := 1) hx hb gX12_next_1.2.2.2.2.2.2.2.2.2 (by decide) ?_
          refine lv_iadd hx hb gX12_next_2.1 ?_
          refine eqi (x1 := nI (vf + 1)) (nI_add vf 1) ?_
          refine pf_X12_214 hC rfl hK hP hD hS 0 (ws' := [(h0, oX12 nw nk mhasKept nt (nI ktp) nr mrowMany mroundOf mroundFrom mouts nm mfromHour mtoHour ns (nI (vf + 1)) (nI kt) msort misFault mdeep mcoded mlines nl nc nF np ntr nb mbestCost nso nsi nit nsh nsf nss nrc mtraced mdealer mnumber mwhose msize misParted), (nt, iA G 240 fnt)]) rfl (Nat.le_of_ble_eq_true rfl) rfl rfl rfl gX12_next_2.2.1 (fun H locs hP hD hS => ?_)
          refine lv_goto (tgt := 8) hx hb gX12_next_2.2.2.1 (by decide) ?_
          exact ihA (vf + 1) _ _ _ (by omega) (And.intro hP hD) hS (lv_sub hl [0] rfl)
  exact keyA (ktp + 1) kt _ _ _ (by omega) (And.intro hP hD) hS (lv_sub hl [0] rfl)
def K_m_isNameF (l : Launch) (G : GG) (K : OO) (i9 : Nat) (h0 : Nat) (nw : Nat) (nk : Nat) (mhasKept : Int32) (nt : Nat) (mtaped : Int32) (nr : Nat) (mrowMany : Int32) (mroundOf : Int32) (mroundFrom : Int32) (mouts : Int32) (nm : Nat) (mfromHour : Int32) (mtoHour : Int32) (ns : Nat) (mfrom : Int32) (mto : Int32) (msort : Int32) (mdeep : Int32) (mcoded : Int32) (mlines : Int32) (nl : Nat) (nc : Nat) (nF : Nat) (np : Nat) (ntr : Nat) (nb : Nat) (mbestCost : Int32) (nso : Nat) (nsi : Nat) (nit : Nat) (nsh : Nat) (nsf : Nat) (nss : Nat) (nrc : Nat) (mtraced : Int32) (mdealer : Int32) (mnumber : Int32) (mwhose : Int32) (msize : Int32) (misParted : Int32) : Prop := MPo l G K yX12_isName cX12_isName 4 (some .boolean) 5 [.ref h0, .ref (K.1 i9)] [(h0, oX12 nw nk mhasKept nt mtaped nr mrowMany mroundOf mroundFrom mouts nm mfromHour mtoHour ns mfrom mto msort 1 mdeep mcoded mlines nl nc nF np ntr nb mbestCost nso nsi nit nsh nsf nss nrc mtraced mdealer mnumber mwhose msize misParted)] (fun r : Int32 => r = 0)
set_option maxHeartbeats 4000000 in
set_option maxRecDepth 100000 in
theorem m_isNameF (l : Launch) (G : GG) (K : OO) (i9 : Nat) (h0 : Nat) (nw : Nat) (nk : Nat) (mhasKept : Int32) (nt : Nat) (mtaped : Int32) (nr : Nat) (mrowMany : Int32) (mroundOf : Int32) (mroundFrom : Int32) (mouts : Int32) (nm : Nat) (mfromHour : Int32) (mtoHour : Int32) (ns : Nat) (mfrom : Int32) (mto : Int32) (msort : Int32) (mdeep : Int32) (mcoded : Int32) (mlines : Int32) (nl : Nat) (nc : Nat) (nF : Nat) (np : Nat) (ntr : Nat) (nb : Nat) (mbestCost : Int32) (nso : Nat) (nsi : Nat) (nit : Nat) (nsh : Nat) (nsf : Nat) (nss : Nat) (nrc : Nat) (mtraced : Int32) (mdealer : Int32) (mnumber : Int32) (mwhose : Int32) (msize : Int32) (misParted : Int32) (hi9 : i9 < 16) : K_m_isNameF l G K i9 h0 nw nk mhasKept nt mtaped nr mrowMany mroundOf mroundFrom mouts nm mfromHour mtoHour ns mfrom mto msort mdeep mcoded mlines nl nc nF np ntr nb mbestCost nso nsi nit nsh nsf nss nrc mtraced mdealer mnumber mwhose msize misParted := by
  refine MPo.start (by decide +kernel) (Nat.le_of_ble_eq_true rfl) ?_
  intro p e s m below meth c ls hC hK hP hD hl hO hS
  refine absQ (fun Q0 hQ0 => ?_)
  have hl : lv_has ls 4 [(0, .ref h0), (1, .ref (K.1 i9))] := hl
  refine Kan8 hC (fun hx hb hr hml hB hown hlocks hnm => ?_)
  refine lv_aload_n hx hb gX12_isName_0.1 rfl (lv_at0 hl) ?_
  refine gf_X12_222 hC rfl hK hP 0 rfl rfl gX12_isName_0.2.1 ?_
  refine lv_if_ne (tgt := 35) hx hb gX12_isName_0.2.2.1 (by decide) (fun _ => ?_) (fun c9 => absurd c9 (by decide))
  refine lv_iconst (v := 0) hx hb gX12_isName_1.2.2.2.2.2.2.2.1 (by decide) ?_
  refine lv_istore_n (lv' := [(2, .int 0), (0, .ref h0), (1, .ref (K.1 i9))]) hx hb gX12_isName_1.2.2.2.2.2.2.2.2.1 rfl hl (by decide) rfl (fun ls hl => ?_)
  refine lv_iconst (v := 0) hx hb gX12_isName_1.2.2.2.2.2.2.2.2.2 (by decide) ?_
  refine lv_istore_n (lv' := [(3, .int 0), (2, .int 0), (0, .ref h0), (1, .ref (K.1 i9))]) hx hb gX12_isName_2.1 rfl hl (by decide) rfl (fun ls hl => ?_)
  refine lv_iload_n hx hb gX12_isName_2.2.1 rfl (lv_at1 hl) ?_
  refine lv_if_eq (tgt := 82) hx hb gX12_isName_2.2.2.1 (by decide) (fun _ => ?_) (fun c9 => absurd (by decide) c9)
  refine lv_iload_n hx hb gX12_isName_4.2.2.2.2.1 rfl (lv_at1 hl) ?_
  refine toQ hQ0 ?_
  exact RP (v := 0) hC (rfl) (by decide +kernel) gX12_isName_4.2.2.2.2.2
def K_m_isName0 (l : Launch) (G : GG) (K : OO) (i9 : Nat) (h0 : Nat) (nw : Nat) (nk : Nat) (mhasKept : Int32) (nt : Nat) (ktp : Nat) (nr : Nat) (mrowMany : Int32) (mroundOf : Int32) (mroundFrom : Int32) (mouts : Int32) (nm : Nat) (mfromHour : Int32) (mtoHour : Int32) (ns : Nat) (kf : Nat) (kt : Nat) (so : Int32) (mdeep : Int32) (mcoded : Int32) (mlines : Int32) (nl : Nat) (nc : Nat) (nF : Nat) (np : Nat) (ntr : Nat) (nb : Nat) (mbestCost : Int32) (nso : Nat) (nsi : Nat) (nit : Nat) (nsh : Nat) (nsf : Nat) (nss : Nat) (nrc : Nat) (mtraced : Int32) (mdealer : Int32) (mnumber : Int32) (mwhose : Int32) (msize : Int32) (misParted : Int32) (fnt : Nat → Int32) : Prop := MPo l G K yX12_isName cX12_isName 4 (some .boolean) 5 [.ref h0, .ref (K.1 i9)] [(h0, oX12 nw nk mhasKept nt (nI ktp) nr mrowMany mroundOf mroundFrom mouts nm mfromHour mtoHour ns (nI kf) (nI kt) so 0 mdeep mcoded mlines nl nc nF np ntr nb mbestCost nso nsi nit nsh nsf nss nrc mtraced mdealer mnumber mwhose msize misParted), (nt, iA G 240 fnt)] (fun r : Int32 => (r = 1 ∧ so = 1 ∧ kt = kf + SLEN.getD i9 0) ∨ r = 0)
set_option maxHeartbeats 4000000 in
set_option maxRecDepth 100000 in
theorem m_isName0 (l : Launch) (G : GG) (K : OO) (i9 : Nat) (h0 : Nat) (nw : Nat) (nk : Nat) (mhasKept : Int32) (nt : Nat) (ktp : Nat) (nr : Nat) (mrowMany : Int32) (mroundOf : Int32) (mroundFrom : Int32) (mouts : Int32) (nm : Nat) (mfromHour : Int32) (mtoHour : Int32) (ns : Nat) (kf : Nat) (kt : Nat) (so : Int32) (mdeep : Int32) (mcoded : Int32) (mlines : Int32) (nl : Nat) (nc : Nat) (nF : Nat) (np : Nat) (ntr : Nat) (nb : Nat) (mbestCost : Int32) (nso : Nat) (nsi : Nat) (nit : Nat) (nsh : Nat) (nsf : Nat) (nss : Nat) (nrc : Nat) (mtraced : Int32) (mdealer : Int32) (mnumber : Int32) (mwhose : Int32) (msize : Int32) (misParted : Int32) (fnt : Nat → Int32) (hi9 : i9 < 16) (hT : TOK fnt so kf kt ktp) (htp : ktp ≤ 240) : K_m_isName0 l G K i9 h0 nw nk mhasKept nt ktp nr mrowMany mroundOf mroundFrom mouts nm mfromHour mtoHour ns kf kt so mdeep mcoded mlines nl nc nF np ntr nb mbestCost nso nsi nit nsh nsf nss nrc mtraced mdealer mnumber mwhose msize misParted fnt := by
  refine MPo.start (by decide +kernel) (Nat.le_of_ble_eq_true rfl) ?_
  intro p e s m below meth c ls hC hK hP hD hl hO hS
  refine absQ (fun Q0 hQ0 => ?_)
  have hl : lv_has ls 4 [(0, .ref h0), (1, .ref (K.1 i9))] := hl
  refine Kan8 hC (fun hx hb hr hml hB hown hlocks hnm => ?_)
  have hs6 := slen6 i9 hi9
  have tA := hT.1
  have tB := hT.2.1
  refine lv_aload_n hx hb gX12_isName_0.1 rfl (lv_at0 hl) ?_
  refine gf_X12_222 hC rfl hK hP 0 rfl rfl gX12_isName_0.2.1 ?_
  refine lv_if_ne (tgt := 35) hx hb gX12_isName_0.2.2.1 (by decide) (fun c9 => absurd (by decide) c9) (fun _ => ?_)
  refine lv_aload_n hx hb gX12_isName_0.2.2.2.1 rfl (lv_at0 hl) ?_
  refine gf_X12_217 hC rfl hK hP 0 rfl rfl gX12_isName_0.2.2.2.2.1 ?_
  refine lv_iconst (v := 1) hx hb gX12_isName_0.2.2.2.2.2.1 (by decide) ?_
  refine lv_icmp_ne (tgt := 35) hx hb gX12_isName_0.2.2.2.2.2.2.1 (by decide) (fun c_12_7547 => ?_) (fun c_12_7547 => ?_)
  · refine lv_iconst (v := 0) hx hb gX12_isName_1.2.2.2.2.2.2.2.1 (by decide) ?_
    refine lv_istore_n (lv' := [(2, .int 0), (0, .ref h0), (1, .ref (K.1 i9))]) hx hb gX12_isName_1.2.2.2.2.2.2.2.2.1 rfl hl (by decide) rfl (fun ls hl => ?_)
    refine lv_iconst (v := 0) hx hb gX12_isName_1.2.2.2.2.2.2.2.2.2 (by decide) ?_
    refine lv_istore_n (lv' := [(3, .int 0), (2, .int 0), (0, .ref h0), (1, .ref (K.1 i9))]) hx hb gX12_isName_2.1 rfl hl (by decide) rfl (fun ls hl => ?_)
    refine lv_iload_n hx hb gX12_isName_2.2.1 rfl (lv_at1 hl) ?_
    refine lv_if_eq (tgt := 82) hx hb gX12_isName_2.2.2.1 (by decide) (fun _ => ?_) (fun c9 => absurd (by decide) c9)
    refine lv_iload_n hx hb gX12_isName_4.2.2.2.2.1 rfl (lv_at1 hl) ?_
    refine toQ hQ0 ?_
    exact RP (v := 0) hC (Or.inr rfl) (by decide +kernel) gX12_isName_4.2.2.2.2.2
  · refine lv_aload_n hx hb gX12_isName_0.2.2.2.2.2.2.2.1 rfl (lv_at0 hl) ?_
    refine gf_X12_211 hC rfl hK hP 0 rfl rfl gX12_isName_0.2.2.2.2.2.2.2.2.1 ?_
    refine lv_aload_n hx hb gX12_isName_0.2.2.2.2.2.2.2.2.2 rfl (lv_at0 hl) ?_
    refine gf_X12_214 hC rfl hK hP 0 rfl rfl gX12_isName_1.1 ?_
    refine lv_isub hx hb gX12_isName_1.2.1 ?_
    refine eqi (x1 := nI (kt - kf)) (nI_subR (by omega)) ?_
    refine lv_aload_n hx hb gX12_isName_1.2.2.1 rfl (lv_at1 hl) ?_
    refine pTo (i := i9) (hi9) hO hS hC hK hl (j_len l G K i9 ((hi9))) si_X12_226 rfl rfl (Nat.le_of_ble_eq_true rfl) rm_5_2_1 ⟨by first | exact Nat.le_of_ble_eq_true rfl | exact Nat.zero_le _, by first | exact Nat.le_of_ble_eq_true rfl | exact Nat.zero_le _⟩ gX12_isName_1.2.2.2.1 (fun r7548 hr7548 => ?_)
    obtain rfl := hr7548
    refine lv_icmp_ne (tgt := 35) hx hb gX12_isName_1.2.2.2.2.1 (by decide) (fun c_28_7550 => ?_) (fun c_28_7550 => ?_)
    · refine lv_iconst (v := 0) hx hb gX12_isName_1.2.2.2.2.2.2.2.1 (by decide) ?_
      refine lv_istore_n (lv' := [(2, .int 0), (0, .ref h0), (1, .ref (K.1 i9))]) hx hb gX12_isName_1.2.2.2.2.2.2.2.2.1 rfl hl (by decide) rfl (fun ls hl => ?_)
      refine lv_iconst (v := 0) hx hb gX12_isName_1.2.2.2.2.2.2.2.2.2 (by decide) ?_
      refine lv_istore_n (lv' := [(3, .int 0), (2, .int 0), (0, .ref h0), (1, .ref (K.1 i9))]) hx hb gX12_isName_2.1 rfl hl (by decide) rfl (fun ls hl => ?_)
      refine lv_iload_n hx hb gX12_isName_2.2.1 rfl (lv_at1 hl) ?_
      refine lv_if_eq (tgt := 82) hx hb gX12_isName_2.2.2.1 (by decide) (fun _ => ?_) (fun c9 => absurd (by decide) c9)
      refine lv_iload_n hx hb gX12_isName_4.2.2.2.2.1 rfl (lv_at1 hl) ?_
      refine toQ hQ0 ?_
      exact RP (v := 0) hC (Or.inr rfl) (by decide +kernel) gX12_isName_4.2.2.2.2.2
    · have hlen9 : kt - kf = SLEN.getD i9 0 := (nI_eq (by omega) (by omega)).mp c_28_7550
      refine lv_iconst (v := 1) hx hb gX12_isName_1.2.2.2.2.2.1 (by decide) ?_
      refine lv_goto (tgt := 36) hx hb gX12_isName_1.2.2.2.2.2.2.1 (by decide) ?_
      refine lv_istore_n (lv' := [(2, .int 1), (0, .ref h0), (1, .ref (K.1 i9))]) hx hb gX12_isName_1.2.2.2.2.2.2.2.2.1 rfl hl (by decide) rfl (fun ls hl => ?_)
      refine lv_iconst (v := 0) hx hb gX12_isName_1.2.2.2.2.2.2.2.2.2 (by decide) ?_
      refine lv_istore_n (lv' := [(3, .int 0), (2, .int 1), (0, .ref h0), (1, .ref (K.1 i9))]) hx hb gX12_isName_2.1 rfl hl (by decide) rfl (fun ls hl => ?_)
      have keyP : ∀ (nP kP : Nat) (is9 : Int32) (ls : Array Slot), kP + nP = (SLEN.getD i9 0) → (is9 = 0 ∨ is9 = 1) → lv_has ls 4 [(3, .int (nI kP)), (2, .int is9), (0, .ref h0), (1, .ref (K.1 i9))] → W p l e (RM 5 0 0) s m ([.ref h0, .ref (K.1 i9)] : List Value).toArray below meth c s.heap [] 0 0 Q0 (F0 m 39 ls []) := by
        intro nP
        induction nP with
        | zero =>
          intro kP is9 ls hkP his hl
          obtain rfl : (SLEN.getD i9 0) = kP := by omega
          have hl : lv_has ls 4 [(3, .int (nI (SLEN.getD i9 0))), (2, .int is9), (0, .ref h0), (1, .ref (K.1 i9))] := hl
          refine lv_iload_n hx hb gX12_isName_2.2.1 rfl (lv_at1 hl) ?_
          refine lv_if_eq (tgt := 82) hx hb gX12_isName_2.2.2.1 (by decide) (fun c_40_7551 => ?_) (fun c_40_7551 => ?_)
          · rcases his with rfl | rfl
            · refine lv_iload_n hx hb gX12_isName_4.2.2.2.2.1 rfl (lv_at1 hl) ?_
              refine toQ hQ0 ?_
              exact RP (v := 0) hC (Or.inr rfl) (by decide +kernel) gX12_isName_4.2.2.2.2.2
            · refine lv_iload_n hx hb gX12_isName_4.2.2.2.2.1 rfl (lv_at1 hl) ?_
              refine toQ hQ0 ?_
              exact RP (v := 1) hC (Or.inl ⟨rfl, c_12_7547, by omega⟩) (by decide +kernel) gX12_isName_4.2.2.2.2.2
          · refine lv_iload_n hx hb gX12_isName_2.2.2.2.1 rfl (lv_at0 hl) ?_
            refine lv_aload_n hx hb gX12_isName_2.2.2.2.2.1 rfl (lv_at3 hl) ?_
            refine pTo (i := i9) (hi9) hO hS hC hK hl (j_len l G K i9 ((hi9))) si_X12_226 rfl rfl (Nat.le_of_ble_eq_true rfl) rm_5_2_1 ⟨by first | exact Nat.le_of_ble_eq_true rfl | exact Nat.zero_le _, by first | exact Nat.le_of_ble_eq_true rfl | exact Nat.zero_le _⟩ gX12_isName_2.2.2.2.2.2.1 (fun r7552 hr7552 => ?_)
            obtain rfl := hr7552
            refine lv_icmp_ge (tgt := 82) hx hb gX12_isName_2.2.2.2.2.2.2.1 (by decide) (fun _ => ?_) (fun c9 => absurd (Int32.le_refl _) c9)
            rcases his with rfl | rfl
            · refine lv_iload_n hx hb gX12_isName_4.2.2.2.2.1 rfl (lv_at1 hl) ?_
              refine toQ hQ0 ?_
              exact RP (v := 0) hC (Or.inr rfl) (by decide +kernel) gX12_isName_4.2.2.2.2.2
            · refine lv_iload_n hx hb gX12_isName_4.2.2.2.2.1 rfl (lv_at1 hl) ?_
              refine toQ hQ0 ?_
              exact RP (v := 1) hC (Or.inl ⟨rfl, c_12_7547, by omega⟩) (by decide +kernel) gX12_isName_4.2.2.2.2.2
        | succ nP ihP =>
          intro kP is9 ls hkP his hl
          refine lv_iload_n hx hb gX12_isName_2.2.1 rfl (lv_at1 hl) ?_
          refine lv_if_eq (tgt := 82) hx hb gX12_isName_2.2.2.1 (by decide) (fun c_40_7554 => ?_) (fun c_40_7554 => ?_)
          · rcases his with rfl | rfl
            · refine lv_iload_n hx hb gX12_isName_4.2.2.2.2.1 rfl (lv_at1 hl) ?_
              refine toQ hQ0 ?_
              exact RP (v := 0) hC (Or.inr rfl) (by decide +kernel) gX12_isName_4.2.2.2.2.2
            · refine lv_iload_n hx hb gX12_isName_4.2.2.2.2.1 rfl (lv_at1 hl) ?_
              refine toQ hQ0 ?_
              exact RP (v := 1) hC (Or.inl ⟨rfl, c_12_7547, by omega⟩) (by decide +kernel) gX12_isName_4.2.2.2.2.2
          · refine lv_iload_n hx hb gX12_isName_2.2.2.2.1 rfl (lv_at0 hl) ?_
            refine lv_aload_n hx hb gX12_isName_2.2.2.2.2.1 rfl (lv_at3 hl) ?_
            refine pTo (i := i9) (hi9) hO hS hC hK hl (j_len l G K i9 ((hi9))) si_X12_226 rfl rfl (Nat.le_of_ble_eq_true rfl) rm_5_2_1 ⟨by first | exact Nat.le_of_ble_eq_true rfl | exact Nat.zero_le _, by first | exact Nat.le_of_ble_eq_true rfl | exact Nat.zero_le _⟩ gX12_isName_2.2.2.2.2.2.1 (fun r7555 hr7555 => ?_)
            obtain rfl := hr7555
            refine lv_icmp_ge (tgt := 82) hx hb gX12_isName_2.2.2.2.2.2.2.1 (by decide) (fun c9 => absurd c9 (nI_ge (a := kP) (b := (SLEN.getD i9 0)) (by omega) (by omega))) (fun _ => ?_)
            refine lv_aload_n hx hb gX12_isName_2.2.2.2.2.2.2.2.1 rfl (lv_at2 hl) ?_
            refine gf_X12_16 hC rfl hK hP 0 rfl rfl gX12_isName_2.2.2.2.2.2.2.2.2.1 ?_
            refine lv_aload_n hx hb gX12_isName_2.2.2.2.2.2.2.2.2.2 rfl (lv_at2 hl) ?_
            refine gf_X12_214 hC rfl hK hP 0 rfl rfl gX12_isName_3.1 ?_
            refine lv_iload_n hx hb gX12_isName_3.2.1 rfl (lv_at0 hl) ?_
            refine lv_iadd hx hb gX12_isName_3.2.2.1 ?_
            refine eqi (x1 := nI (kf + kP)) (nI_add kf kP) ?_
            refine aldN hC hK hP 1 rfl (k := (kf + kP)) (by omega) (Nat.le_of_ble_eq_true rfl) (v := fnt (kf + kP)) rfl gX12_isName_3.2.2.2.1 ?_
            refine lv_topi (fun x7557 ex7557 => ?_)
            refine lv_aload_n hx hb gX12_isName_3.2.2.2.2.1 rfl (lv_at3 hl) ?_
            refine lv_iload_n hx hb gX12_isName_3.2.2.2.2.2.1 rfl (lv_at0 hl) ?_
            refine pTo (i := i9) (hi9) hO hS hC hK hl (j_chr l G K i9 kP ((hi9)) (by omega)) si_X12_229 rfl rfl (Nat.le_of_ble_eq_true rfl) rm_5_4_2 ⟨by first | exact Nat.le_of_ble_eq_true rfl | exact Nat.zero_le _, by first | exact Nat.le_of_ble_eq_true rfl | exact Nat.zero_le _⟩ gX12_isName_3.2.2.2.2.2.2.1 (fun r7558 hr7558 => ?_)
            obtain rfl := hr7558
            refine lv_icmp_ne (tgt := 74) hx hb gX12_isName_3.2.2.2.2.2.2.2.1 (by decide) (fun c_67_7560 => ?_) (fun c_67_7560 => ?_)
            · refine lv_iconst (v := 0) hx hb gX12_isName_4.1 (by decide) ?_
              refine lv_istore_n (lv' := [(2, .int 0), (3, .int (nI kP)), (0, .ref h0), (1, .ref (K.1 i9))]) hx hb gX12_isName_4.2.1 rfl hl (by decide) rfl (fun ls hl => ?_)
              refine lv_iinc (v := nI (kP + 1)) (lv' := [(3, .int (nI (kP + 1))), (2, .int 0), (0, .ref h0), (1, .ref (K.1 i9))]) hx hb gX12_isName_4.2.2.1 hl (k := 1) rfl (nI_1 _) (by decide) rfl (fun ls hl => ?_)
              refine lv_goto (tgt := 39) hx hb gX12_isName_4.2.2.2.1 (by decide) ?_
              exact ihP (kP + 1) 0 _ (by omega) (by first | assumption | exact Or.inl rfl | exact Or.inr rfl) (lv_sub hl [0, 1, 2, 3] rfl)
            · refine lv_iconst (v := 1) hx hb gX12_isName_3.2.2.2.2.2.2.2.2.1 (by decide) ?_
              refine lv_goto (tgt := 75) hx hb gX12_isName_3.2.2.2.2.2.2.2.2.2 (by decide) ?_
              refine lv_istore_n (lv' := [(2, .int 1), (3, .int (nI kP)), (0, .ref h0), (1, .ref (K.1 i9))]) hx hb gX12_isName_4.2.1 rfl hl (by decide) rfl (fun ls hl => ?_)
              refine lv_iinc (v := nI (kP + 1)) (lv' := [(3, .int (nI (kP + 1))), (2, .int 1), (0, .ref h0), (1, .ref (K.1 i9))]) hx hb gX12_isName_4.2.2.1 hl (k := 1) rfl (nI_1 _) (by decide) rfl (fun ls hl => ?_)
              refine lv_goto (tgt := 39) hx hb gX12_isName_4.2.2.2.1 (by decide) ?_
              exact ihP (kP + 1) 1 _ (by omega) (by first | assumption | exact Or.inl rfl | exact Or.inr rfl) (lv_sub hl [0, 1, 2, 3] rfl)
      exact keyP (SLEN.getD i9 0) 0 1 _ (by omega) (by first | assumption | exact Or.inl rfl | exact Or.inr rfl) (lv_sub hl [0, 1, 2, 3] rfl)
def K_m_isSignF (l : Launch) (G : GG) (h0 : Nat) (cc : Int32) (nw : Nat) (nk : Nat) (mhasKept : Int32) (nt : Nat) (mtaped : Int32) (nr : Nat) (mrowMany : Int32) (mroundOf : Int32) (mroundFrom : Int32) (mouts : Int32) (nm : Nat) (mfromHour : Int32) (mtoHour : Int32) (ns : Nat) (mfrom : Int32) (mto : Int32) (msort : Int32) (mdeep : Int32) (mcoded : Int32) (mlines : Int32) (nl : Nat) (nc : Nat) (nF : Nat) (np : Nat) (ntr : Nat) (nb : Nat) (mbestCost : Int32) (nso : Nat) (nsi : Nat) (nit : Nat) (nsh : Nat) (nsf : Nat) (nss : Nat) (nrc : Nat) (mtraced : Int32) (mdealer : Int32) (mnumber : Int32) (mwhose : Int32) (msize : Int32) (misParted : Int32) : Prop := MP l G yX12_isSign cX12_isSign 2 (some .boolean) 1 [.ref h0, .int cc] [(h0, oX12 nw nk mhasKept nt mtaped nr mrowMany mroundOf mroundFrom mouts nm mfromHour mtoHour ns mfrom mto msort 1 mdeep mcoded mlines nl nc nF np ntr nb mbestCost nso nsi nit nsh nsf nss nrc mtraced mdealer mnumber mwhose msize misParted)] (fun r : Int32 => r = 0)
set_option maxHeartbeats 4000000 in
set_option maxRecDepth 100000 in
theorem m_isSignF (l : Launch) (G : GG) (h0 : Nat) (cc : Int32) (nw : Nat) (nk : Nat) (mhasKept : Int32) (nt : Nat) (mtaped : Int32) (nr : Nat) (mrowMany : Int32) (mroundOf : Int32) (mroundFrom : Int32) (mouts : Int32) (nm : Nat) (mfromHour : Int32) (mtoHour : Int32) (ns : Nat) (mfrom : Int32) (mto : Int32) (msort : Int32) (mdeep : Int32) (mcoded : Int32) (mlines : Int32) (nl : Nat) (nc : Nat) (nF : Nat) (np : Nat) (ntr : Nat) (nb : Nat) (mbestCost : Int32) (nso : Nat) (nsi : Nat) (nit : Nat) (nsh : Nat) (nsf : Nat) (nss : Nat) (nrc : Nat) (mtraced : Int32) (mdealer : Int32) (mnumber : Int32) (mwhose : Int32) (msize : Int32) (misParted : Int32) : K_m_isSignF l G h0 cc nw nk mhasKept nt mtaped nr mrowMany mroundOf mroundFrom mouts nm mfromHour mtoHour ns mfrom mto msort mdeep mcoded mlines nl nc nF np ntr nb mbestCost nso nsi nit nsh nsf nss nrc mtraced mdealer mnumber mwhose msize misParted := by
  refine MP.start (by decide +kernel) (Nat.le_of_ble_eq_true rfl) ?_
  intro p e s m below meth c ls hC hK hP hD hl
  refine absQ (fun Q0 hQ0 => ?_)
  have hl : lv_has ls 2 [(0, .ref h0), (1, .int cc)] := hl
  refine Kan8 hC (fun hx hb hr hml hB hown hlocks hnm => ?_)
  refine lv_aload_n hx hb gX12_isSign_0.1 rfl (lv_at0 hl) ?_
  refine gf_X12_222 hC rfl hK hP 0 rfl rfl gX12_isSign_0.2.1 ?_
  refine lv_if_ne (tgt := 32) hx hb gX12_isSign_0.2.2.1 (by decide) (fun _ => ?_) (fun c9 => absurd c9 (by decide))
  refine lv_iconst (v := 0) hx hb gX12_isSign_1.2.2.2.2.2.2.1 (by decide) ?_
  refine toQ hQ0 ?_
  exact RP (v := 0) hC (rfl) (by decide +kernel) gX12_isSign_1.2.2.2.2.2.2.2
def K_m_isSign0 (l : Launch) (G : GG) (h0 : Nat) (cc : Int32) (nw : Nat) (nk : Nat) (mhasKept : Int32) (nt : Nat) (ktp : Nat) (nr : Nat) (mrowMany : Int32) (mroundOf : Int32) (mroundFrom : Int32) (mouts : Int32) (nm : Nat) (mfromHour : Int32) (mtoHour : Int32) (ns : Nat) (kf : Nat) (kt : Nat) (so : Int32) (mdeep : Int32) (mcoded : Int32) (mlines : Int32) (nl : Nat) (nc : Nat) (nF : Nat) (np : Nat) (ntr : Nat) (nb : Nat) (mbestCost : Int32) (nso : Nat) (nsi : Nat) (nit : Nat) (nsh : Nat) (nsf : Nat) (nss : Nat) (nrc : Nat) (mtraced : Int32) (mdealer : Int32) (mnumber : Int32) (mwhose : Int32) (msize : Int32) (misParted : Int32) (fnt : Nat → Int32) : Prop := MP l G yX12_isSign cX12_isSign 2 (some .boolean) 1 [.ref h0, .int cc] [(h0, oX12 nw nk mhasKept nt (nI ktp) nr mrowMany mroundOf mroundFrom mouts nm mfromHour mtoHour ns (nI kf) (nI kt) so 0 mdeep mcoded mlines nl nc nF np ntr nb mbestCost nso nsi nit nsh nsf nss nrc mtraced mdealer mnumber mwhose msize misParted), (nt, iA G 240 fnt)] (fun r : Int32 => (r = 1 ∧ ISG fnt so kf kt cc) ∨ (r = 0 ∧ ¬ ISG fnt so kf kt cc))
set_option maxHeartbeats 4000000 in
set_option maxRecDepth 100000 in
theorem m_isSign0 (l : Launch) (G : GG) (h0 : Nat) (cc : Int32) (nw : Nat) (nk : Nat) (mhasKept : Int32) (nt : Nat) (ktp : Nat) (nr : Nat) (mrowMany : Int32) (mroundOf : Int32) (mroundFrom : Int32) (mouts : Int32) (nm : Nat) (mfromHour : Int32) (mtoHour : Int32) (ns : Nat) (kf : Nat) (kt : Nat) (so : Int32) (mdeep : Int32) (mcoded : Int32) (mlines : Int32) (nl : Nat) (nc : Nat) (nF : Nat) (np : Nat) (ntr : Nat) (nb : Nat) (mbestCost : Int32) (nso : Nat) (nsi : Nat) (nit : Nat) (nsh : Nat) (nsf : Nat) (nss : Nat) (nrc : Nat) (mtraced : Int32) (mdealer : Int32) (mnumber : Int32) (mwhose : Int32) (msize : Int32) (misParted : Int32) (fnt : Nat → Int32) (hT : TOK fnt so kf kt ktp) (htp : ktp ≤ 240) : K_m_isSign0 l G h0 cc nw nk mhasKept nt ktp nr mrowMany mroundOf mroundFrom mouts nm mfromHour mtoHour ns kf kt so mdeep mcoded mlines nl nc nF np ntr nb mbestCost nso nsi nit nsh nsf nss nrc mtraced mdealer mnumber mwhose msize misParted fnt := by
  refine MP.start (by decide +kernel) (Nat.le_of_ble_eq_true rfl) ?_
  intro p e s m below meth c ls hC hK hP hD hl
  refine absQ (fun Q0 hQ0 => ?_)
  have hl : lv_has ls 2 [(0, .ref h0), (1, .int cc)] := hl
  refine Kan8 hC (fun hx hb hr hml hB hown hlocks hnm => ?_)
  refine lv_aload_n hx hb gX12_isSign_0.1 rfl (lv_at0 hl) ?_
  refine gf_X12_222 hC rfl hK hP 0 rfl rfl gX12_isSign_0.2.1 ?_
  refine lv_if_ne (tgt := 32) hx hb gX12_isSign_0.2.2.1 (by decide) (fun c9 => absurd (by decide) c9) (fun _ => ?_)
  refine lv_aload_n hx hb gX12_isSign_0.2.2.2.1 rfl (lv_at0 hl) ?_
  refine gf_X12_217 hC rfl hK hP 0 rfl rfl gX12_isSign_0.2.2.2.2.1 ?_
  refine lv_iconst (v := 3) hx hb gX12_isSign_0.2.2.2.2.2.1 (by decide) ?_
  refine lv_icmp_ne (tgt := 32) hx hb gX12_isSign_0.2.2.2.2.2.2.1 (by decide) (fun c_12_7561 => ?_) (fun c_12_7561 => ?_)
  · refine lv_iconst (v := 0) hx hb gX12_isSign_1.2.2.2.2.2.2.1 (by decide) ?_
    refine toQ hQ0 ?_
    exact RP (v := 0) hC (Or.inr ⟨rfl, fun h9 => c_12_7561 h9.2.1⟩) (by decide +kernel) gX12_isSign_1.2.2.2.2.2.2.2
  · have hlt9 := hT.lt (by rw [c_12_7561]; decide)
    have tB := hT.2.1
    refine lv_aload_n hx hb gX12_isSign_0.2.2.2.2.2.2.2.1 rfl (lv_at0 hl) ?_
    refine gf_X12_16 hC rfl hK hP 0 rfl rfl gX12_isSign_0.2.2.2.2.2.2.2.2.1 ?_
    refine lv_aload_n hx hb gX12_isSign_0.2.2.2.2.2.2.2.2.2 rfl (lv_at0 hl) ?_
    refine gf_X12_214 hC rfl hK hP 0 rfl rfl gX12_isSign_1.1 ?_
    refine aldN hC hK hP 1 rfl (k := kf) (by omega) (Nat.le_of_ble_eq_true rfl) (v := fnt kf) rfl gX12_isSign_1.2.1 ?_
    refine lv_topi (fun x7562 ex7562 => ?_)
    refine lv_iload_n hx hb gX12_isSign_1.2.2.1 rfl (lv_at1 hl) ?_
    refine lv_icmp_ne (tgt := 32) hx hb gX12_isSign_1.2.2.2.1 (by decide) (fun c_25_7563 => ?_) (fun c_25_7563 => ?_)
    · refine lv_iconst (v := 0) hx hb gX12_isSign_1.2.2.2.2.2.2.1 (by decide) ?_
      refine toQ hQ0 ?_
      exact RP (v := 0) hC (Or.inr ⟨rfl, fun h9 => c_25_7563 (ex7562.trans h9.2.2)⟩) (by decide +kernel) gX12_isSign_1.2.2.2.2.2.2.2
    · refine lv_iconst (v := 1) hx hb gX12_isSign_1.2.2.2.2.1 (by decide) ?_
      refine lv_goto (tgt := 33) hx hb gX12_isSign_1.2.2.2.2.2.1 (by decide) ?_
      refine toQ hQ0 ?_
      exact RP (v := 1) hC (Or.inl ⟨rfl, hlt9, c_12_7561, ex7562.symm.trans c_25_7563⟩) (by decide +kernel) gX12_isSign_1.2.2.2.2.2.2.2
def K_m_needF (l : Launch) (G : GG) (h0 : Nat) (is9 : Int32) (nw : Nat) (nk : Nat) (mhasKept : Int32) (nt : Nat) (mtaped : Int32) (nr : Nat) (mrowMany : Int32) (mroundOf : Int32) (mroundFrom : Int32) (mouts : Int32) (nm : Nat) (mfromHour : Int32) (mtoHour : Int32) (ns : Nat) (mfrom : Int32) (mto : Int32) (msort : Int32) (mdeep : Int32) (mcoded : Int32) (mlines : Int32) (nl : Nat) (nc : Nat) (nF : Nat) (np : Nat) (ntr : Nat) (nb : Nat) (mbestCost : Int32) (nso : Nat) (nsi : Nat) (nit : Nat) (nsh : Nat) (nsf : Nat) (nss : Nat) (nrc : Nat) (mtraced : Int32) (mdealer : Int32) (mnumber : Int32) (mwhose : Int32) (msize : Int32) (misParted : Int32) : Prop := MV l G yX12_need cX12_need 2 4 0 0 [.ref h0, .int is9] [(h0, oX12 nw nk mhasKept nt mtaped nr mrowMany mroundOf mroundFrom mouts nm mfromHour mtoHour ns mfrom mto msort 1 mdeep mcoded mlines nl nc nF np ntr nb mbestCost nso nsi nit nsh nsf nss nrc mtraced mdealer mnumber mwhose msize misParted)] (fun u : Unit => True) (fun u : Unit => [(h0, oX12 nw nk mhasKept nt mtaped nr mrowMany mroundOf mroundFrom mouts nm mfromHour mtoHour ns mfrom mto msort 1 mdeep mcoded mlines nl nc nF np ntr nb mbestCost nso nsi nit nsh nsf nss nrc mtraced mdealer mnumber mwhose msize misParted)])
set_option maxHeartbeats 4000000 in
set_option maxRecDepth 100000 in
theorem m_needF (l : Launch) (G : GG) (h0 : Nat) (is9 : Int32) (nw : Nat) (nk : Nat) (mhasKept : Int32) (nt : Nat) (mtaped : Int32) (nr : Nat) (mrowMany : Int32) (mroundOf : Int32) (mroundFrom : Int32) (mouts : Int32) (nm : Nat) (mfromHour : Int32) (mtoHour : Int32) (ns : Nat) (mfrom : Int32) (mto : Int32) (msort : Int32) (mdeep : Int32) (mcoded : Int32) (mlines : Int32) (nl : Nat) (nc : Nat) (nF : Nat) (np : Nat) (ntr : Nat) (nb : Nat) (mbestCost : Int32) (nso : Nat) (nsi : Nat) (nit : Nat) (nsh : Nat) (nsf : Nat) (nss : Nat) (nrc : Nat) (mtraced : Int32) (mdealer : Int32) (mnumber : Int32) (mwhose : Int32) (msize : Int32) (misParted : Int32) : K_m_needF l G h0 is9 nw nk mhasKept nt mtaped nr mrowMany mroundOf mroundFrom mouts nm mfromHour mtoHour ns mfrom mto msort mdeep mcoded mlines nl nc nF np ntr nb mbestCost nso nsi nit nsh nsf nss nrc mtraced mdealer mnumber mwhose msize misParted := by
  refine MV.start (by decide +kernel) (Nat.le_of_ble_eq_true rfl) ?_
  intro p e s m below meth c A ls hC hK hP hD hS hA hl
  refine absQ (fun Q0 hQ0 => ?_)
  have hl : lv_has ls 2 [(0, .ref h0), (1, .int is9)] := hl
  refine Kan8 hC (fun hx hb hr hml hB hown hlocks hnm => ?_)
  refine lv_aload_n hx hb gX12_need_0.1 rfl (lv_at0 hl) ?_
  refine lv_aload_n hx hb gX12_need_0.2.1 rfl (lv_at0 hl) ?_
  refine gf_X12_222 hC rfl hK hP 0 rfl rfl gX12_need_0.2.2.1 ?_
  refine lv_if_ne (tgt := 12) hx hb gX12_need_0.2.2.2.1 (by decide) (fun _ => ?_) (fun c9 => absurd c9 (by decide))
  refine lv_iconst (v := 1) hx hb gX12_need_0.2.2.2.2.2.2.1 (by decide) ?_
  refine lv_goto (tgt := 17) hx hb gX12_need_0.2.2.2.2.2.2.2.1 (by decide) ?_
  refine pf_X12_222 hC rfl hK hP hD hS 0 (ws' := [(h0, oX12 nw nk mhasKept nt mtaped nr mrowMany mroundOf mroundFrom mouts nm mfromHour mtoHour ns mfrom mto msort 1 mdeep mcoded mlines nl nc nF np ntr nb mbestCost nso nsi nit nsh nsf nss nrc mtraced mdealer mnumber mwhose msize misParted)]) rfl (Nat.le_of_ble_eq_true rfl) rfl (by decide +kernel) (by decide +kernel) gX12_need_0.2.2.2.2.2.2.2.2.2 (fun H locs hP hD hS => ?_)
  refine lv_aload_n hx hb gX12_need_1.1 rfl (lv_at0 hl) ?_
  refine gf_X12_222 hC rfl hK hP 0 rfl rfl gX12_need_1.2.1 ?_
  refine lv_if_ne (tgt := 31) hx hb gX12_need_1.2.2.1 (by decide) (fun _ => ?_) (fun c9 => absurd c9 (by decide))
  refine toQ hQ0 ?_
  exact RV hC hP hD hS [0] () rfl rfl (by decide) (trivial) gX12_need_1.2.2.2.2.2
def K_m_need0 (l : Launch) (G : GG) (h0 : Nat) (nw : Nat) (nk : Nat) (mhasKept : Int32) (nt : Nat) (mtaped : Int32) (nr : Nat) (mrowMany : Int32) (mroundOf : Int32) (mroundFrom : Int32) (mouts : Int32) (nm : Nat) (mfromHour : Int32) (mtoHour : Int32) (ns : Nat) (mfrom : Int32) (mto : Int32) (msort : Int32) (mdeep : Int32) (mcoded : Int32) (mlines : Int32) (nl : Nat) (nc : Nat) (nF : Nat) (np : Nat) (ntr : Nat) (nb : Nat) (mbestCost : Int32) (nso : Nat) (nsi : Nat) (nit : Nat) (nsh : Nat) (nsf : Nat) (nss : Nat) (nrc : Nat) (mtraced : Int32) (mdealer : Int32) (mnumber : Int32) (mwhose : Int32) (msize : Int32) (misParted : Int32) : Prop := MV l G yX12_need cX12_need 2 4 0 0 [.ref h0, .int 0] [(h0, oX12 nw nk mhasKept nt mtaped nr mrowMany mroundOf mroundFrom mouts nm mfromHour mtoHour ns mfrom mto msort 0 mdeep mcoded mlines nl nc nF np ntr nb mbestCost nso nsi nit nsh nsf nss nrc mtraced mdealer mnumber mwhose msize misParted)] (fun u : Unit => True) (fun u : Unit => [(h0, oX12 nw nk mhasKept nt mtaped nr mrowMany mroundOf mroundFrom mouts nm mfromHour mtoHour ns mfrom mto msort 1 mdeep mcoded mlines nl nc nF np ntr nb mbestCost nso nsi nit nsh nsf nss nrc mtraced mdealer mnumber mwhose msize misParted)])
set_option maxHeartbeats 4000000 in
set_option maxRecDepth 100000 in
theorem m_need0 (l : Launch) (G : GG) (h0 : Nat) (nw : Nat) (nk : Nat) (mhasKept : Int32) (nt : Nat) (mtaped : Int32) (nr : Nat) (mrowMany : Int32) (mroundOf : Int32) (mroundFrom : Int32) (mouts : Int32) (nm : Nat) (mfromHour : Int32) (mtoHour : Int32) (ns : Nat) (mfrom : Int32) (mto : Int32) (msort : Int32) (mdeep : Int32) (mcoded : Int32) (mlines : Int32) (nl : Nat) (nc : Nat) (nF : Nat) (np : Nat) (ntr : Nat) (nb : Nat) (mbestCost : Int32) (nso : Nat) (nsi : Nat) (nit : Nat) (nsh : Nat) (nsf : Nat) (nss : Nat) (nrc : Nat) (mtraced : Int32) (mdealer : Int32) (mnumber : Int32) (mwhose : Int32) (msize : Int32) (misParted : Int32) : K_m_need0 l G h0 nw nk mhasKept nt mtaped nr mrowMany mroundOf mroundFrom mouts nm mfromHour mtoHour ns mfrom mto msort mdeep mcoded mlines nl nc nF np ntr nb mbestCost nso nsi nit nsh nsf nss nrc mtraced mdealer mnumber mwhose msize misParted := by
  refine MV.start (by decide +kernel) (Nat.le_of_ble_eq_true rfl) ?_
  intro p e s m below meth c A ls hC hK hP hD hS hA hl
  refine absQ (fun Q0 hQ0 => ?_)
  have hl : lv_has ls 2 [(0, .ref h0), (1, .int 0)] := hl
  refine Kan8 hC (fun hx hb hr hml hB hown hlocks hnm => ?_)
  refine lv_aload_n hx hb gX12_need_0.1 rfl (lv_at0 hl) ?_
  refine lv_aload_n hx hb gX12_need_0.2.1 rfl (lv_at0 hl) ?_
  refine gf_X12_222 hC rfl hK hP 0 rfl rfl gX12_need_0.2.2.1 ?_
  refine lv_if_ne (tgt := 12) hx hb gX12_need_0.2.2.2.1 (by decide) (fun c9 => absurd (by decide) c9) (fun _ => ?_)
  refine lv_iload_n hx hb gX12_need_0.2.2.2.2.1 rfl (lv_at1 hl) ?_
  refine lv_if_ne (tgt := 16) hx hb gX12_need_0.2.2.2.2.2.1 (by decide) (fun c9 => absurd (by decide) c9) (fun _ => ?_)
  refine lv_iconst (v := 1) hx hb gX12_need_0.2.2.2.2.2.2.1 (by decide) ?_
  refine lv_goto (tgt := 17) hx hb gX12_need_0.2.2.2.2.2.2.2.1 (by decide) ?_
  refine pf_X12_222 hC rfl hK hP hD hS 0 (ws' := [(h0, oX12 nw nk mhasKept nt mtaped nr mrowMany mroundOf mroundFrom mouts nm mfromHour mtoHour ns mfrom mto msort 1 mdeep mcoded mlines nl nc nF np ntr nb mbestCost nso nsi nit nsh nsf nss nrc mtraced mdealer mnumber mwhose msize misParted)]) rfl (Nat.le_of_ble_eq_true rfl) rfl (by decide +kernel) (by decide +kernel) gX12_need_0.2.2.2.2.2.2.2.2.2 (fun H locs hP hD hS => ?_)
  refine lv_aload_n hx hb gX12_need_1.1 rfl (lv_at0 hl) ?_
  refine gf_X12_222 hC rfl hK hP 0 rfl rfl gX12_need_1.2.1 ?_
  refine lv_if_ne (tgt := 31) hx hb gX12_need_1.2.2.1 (by decide) (fun _ => ?_) (fun c9 => absurd c9 (by decide))
  refine toQ hQ0 ?_
  exact RV hC hP hD hS [0] () rfl rfl (by decide) (trivial) gX12_need_1.2.2.2.2.2
def K_m_need1 (l : Launch) (G : GG) (h0 : Nat) (nw : Nat) (nk : Nat) (mhasKept : Int32) (nt : Nat) (ktp : Nat) (nr : Nat) (mrowMany : Int32) (mroundOf : Int32) (mroundFrom : Int32) (mouts : Int32) (nm : Nat) (mfromHour : Int32) (mtoHour : Int32) (ns : Nat) (mfrom : Int32) (kt : Nat) (msort : Int32) (mdeep : Int32) (mcoded : Int32) (mlines : Int32) (nl : Nat) (nc : Nat) (nF : Nat) (np : Nat) (ntr : Nat) (nb : Nat) (mbestCost : Int32) (nso : Nat) (nsi : Nat) (nit : Nat) (nsh : Nat) (nsf : Nat) (nss : Nat) (nrc : Nat) (mtraced : Int32) (mdealer : Int32) (mnumber : Int32) (mwhose : Int32) (msize : Int32) (misParted : Int32) (fnt : Nat → Int32) : Prop := MV l G yX12_need cX12_need 2 4 0 0 [.ref h0, .int 1] [(h0, oX12 nw nk mhasKept nt (nI ktp) nr mrowMany mroundOf mroundFrom mouts nm mfromHour mtoHour ns mfrom (nI kt) msort 0 mdeep mcoded mlines nl nc nF np ntr nb mbestCost nso nsi nit nsh nsf nss nrc mtraced mdealer mnumber mwhose msize misParted), (nt, iA G 240 fnt)] (fun u : Nat × Nat × Int32 => kt ≤ u.1 ∧ TOK fnt u.2.2 u.1 u.2.1 ktp) (fun u : Nat × Nat × Int32 => [(h0, oX12 nw nk mhasKept nt (nI ktp) nr mrowMany mroundOf mroundFrom mouts nm mfromHour mtoHour ns (nI u.1) (nI u.2.1) u.2.2 0 mdeep mcoded mlines nl nc nF np ntr nb mbestCost nso nsi nit nsh nsf nss nrc mtraced mdealer mnumber mwhose msize misParted), (nt, iA G 240 fnt)])
set_option maxHeartbeats 4000000 in
set_option maxRecDepth 100000 in
theorem m_need1 (l : Launch) (G : GG) (h0 : Nat) (nw : Nat) (nk : Nat) (mhasKept : Int32) (nt : Nat) (ktp : Nat) (nr : Nat) (mrowMany : Int32) (mroundOf : Int32) (mroundFrom : Int32) (mouts : Int32) (nm : Nat) (mfromHour : Int32) (mtoHour : Int32) (ns : Nat) (mfrom : Int32) (kt : Nat) (msort : Int32) (mdeep : Int32) (mcoded : Int32) (mlines : Int32) (nl : Nat) (nc : Nat) (nF : Nat) (np : Nat) (ntr : Nat) (nb : Nat) (mbestCost : Int32) (nso : Nat) (nsi : Nat) (nit : Nat) (nsh : Nat) (nsf : Nat) (nss : Nat) (nrc : Nat) (mtraced : Int32) (mdealer : Int32) (mnumber : Int32) (mwhose : Int32) (msize : Int32) (misParted : Int32) (fnt : Nat → Int32) (hkt : kt ≤ ktp) (htp : ktp ≤ 240) : K_m_need1 l G h0 nw nk mhasKept nt ktp nr mrowMany mroundOf mroundFrom mouts nm mfromHour mtoHour ns mfrom kt msort mdeep mcoded mlines nl nc nF np ntr nb mbestCost nso nsi nit nsh nsf nss nrc mtraced mdealer mnumber mwhose msize misParted fnt := by
  refine MV.start (by decide +kernel) (Nat.le_of_ble_eq_true rfl) ?_
  intro p e s m below meth c A ls hC hK hP hD hS hA hl
  refine absQ (fun Q0 hQ0 => ?_)
  have hl : lv_has ls 2 [(0, .ref h0), (1, .int 1)] := hl
  refine Kan8 hC (fun hx hb hr hml hB hown hlocks hnm => ?_)
  refine lv_aload_n hx hb gX12_need_0.1 rfl (lv_at0 hl) ?_
  refine lv_aload_n hx hb gX12_need_0.2.1 rfl (lv_at0 hl) ?_
  refine gf_X12_222 hC rfl hK hP 0 rfl rfl gX12_need_0.2.2.1 ?_
  refine lv_if_ne (tgt := 12) hx hb gX12_need_0.2.2.2.1 (by decide) (fun c9 => absurd (by decide) c9) (fun _ => ?_)
  refine lv_iload_n hx hb gX12_need_0.2.2.2.2.1 rfl (lv_at1 hl) ?_
  refine lv_if_ne (tgt := 16) hx hb gX12_need_0.2.2.2.2.2.1 (by decide) (fun _ => ?_) (fun c9 => absurd c9 (by decide))
  refine lv_iconst (v := 0) hx hb gX12_need_0.2.2.2.2.2.2.2.2.1 (by decide) ?_
  refine pf_X12_222 hC rfl hK hP hD hS 0 (ws' := [(h0, oX12 nw nk mhasKept nt (nI ktp) nr mrowMany mroundOf mroundFrom mouts nm mfromHour mtoHour ns mfrom (nI kt) msort 0 mdeep mcoded mlines nl nc nF np ntr nb mbestCost nso nsi nit nsh nsf nss nrc mtraced mdealer mnumber mwhose msize misParted), (nt, iA G 240 fnt)]) rfl (Nat.le_of_ble_eq_true rfl) rfl (by decide +kernel) (by decide +kernel) gX12_need_0.2.2.2.2.2.2.2.2.2 (fun H locs hP hD hS => ?_)
  refine lv_aload_n hx hb gX12_need_1.1 rfl (lv_at0 hl) ?_
  refine gf_X12_222 hC rfl hK hP 0 rfl rfl gX12_need_1.2.1 ?_
  refine lv_if_ne (tgt := 31) hx hb gX12_need_1.2.2.1 (by decide) (fun c9 => absurd (by decide) c9) (fun _ => ?_)
  refine lv_aload_n hx hb gX12_need_1.2.2.2.1 rfl (lv_at0 hl) ?_
  refine vV (wr := []) hC hK hl hP hD hS hA (m_next l G h0 nw nk mhasKept nt ktp nr mrowMany mroundOf mroundFrom mouts nm mfromHour mtoHour ns mfrom kt msort 0 mdeep mcoded mlines nl nc nF np ntr nb mbestCost nso nsi nit nsh nsf nss nrc mtraced mdealer mnumber mwhose msize misParted fnt (hkt) (htp)) si_X12_233 [0, 1] [] sm_0_1 fm_0_1 nd_0_1 rfl rfl (by decide) rfl rfl rfl rfl rfl (Nat.le_of_ble_eq_true rfl) rm_4_3_1 ⟨Nat.le_of_ble_eq_true rfl, Nat.le_of_ble_eq_true rfl⟩ gX12_need_1.2.2.2.2.1 (Ktu3 fun kf17566 kt17567 so17568 => ?_)
  intro H locs hr7564 hP hD hS
  try dsimp only at hr7564
  refine Kpdr (ws := [(h0, oX12 nw nk mhasKept nt (nI ktp) nr mrowMany mroundOf mroundFrom mouts nm mfromHour mtoHour ns (nI kf17566) (nI kt17567) so17568 0 mdeep mcoded mlines nl nc nF np ntr nb mbestCost nso nsi nit nsh nsf nss nrc mtraced mdealer mnumber mwhose msize misParted), (nt, iA G 240 fnt)]) hP hD (fun hP hD => ?_)
  have hw7570_0 := hr7564.1
  have hw7570_1 := hr7564.2
  have tA7572 := hw7570_1.1
  have tB7572 := hw7570_1.2.1
  refine toQ hQ0 ?_
  exact RV hC hP hD hS [0, 1] (kf17566, kt17567, so17568) rfl rfl (by decide) (⟨by assumption, by assumption⟩) gX12_need_1.2.2.2.2.2
def K_m_numberF (l : Launch) (G : GG) (h0 : Nat) (mo9 : Int32) (nw : Nat) (nk : Nat) (mhasKept : Int32) (nt : Nat) (mtaped : Int32) (nr : Nat) (mrowMany : Int32) (mroundOf : Int32) (mroundFrom : Int32) (mouts : Int32) (nm : Nat) (mfromHour : Int32) (mtoHour : Int32) (ns : Nat) (mfrom : Int32) (mto : Int32) (msort : Int32) (mdeep : Int32) (mcoded : Int32) (mlines : Int32) (nl : Nat) (nc : Nat) (nF : Nat) (np : Nat) (ntr : Nat) (nb : Nat) (mbestCost : Int32) (nso : Nat) (nsi : Nat) (nit : Nat) (nsh : Nat) (nsf : Nat) (nss : Nat) (nrc : Nat) (mtraced : Int32) (mdealer : Int32) (mnumber : Int32) (mwhose : Int32) (msize : Int32) (misParted : Int32) : Prop := MI l G yX12_number cX12_number 5 (some .int) 5 0 0 [.ref h0, .int mo9] [(h0, oX12 nw nk mhasKept nt mtaped nr mrowMany mroundOf mroundFrom mouts nm mfromHour mtoHour ns mfrom mto msort 1 mdeep mcoded mlines nl nc nF np ntr nb mbestCost nso nsi nit nsh nsf nss nrc mtraced mdealer mnumber mwhose msize misParted)] (fun (r : Int32) (u : Unit) => (r = 0)) (fun u : Unit => [(h0, oX12 nw nk mhasKept nt mtaped nr mrowMany mroundOf mroundFrom mouts nm mfromHour mtoHour ns mfrom mto msort 1 mdeep mcoded mlines nl nc nF np ntr nb mbestCost nso nsi nit nsh nsf nss nrc mtraced mdealer mnumber mwhose msize misParted)])
set_option maxHeartbeats 4000000 in
set_option maxRecDepth 100000 in
theorem m_numberF (l : Launch) (G : GG) (h0 : Nat) (mo9 : Int32) (nw : Nat) (nk : Nat) (mhasKept : Int32) (nt : Nat) (mtaped : Int32) (nr : Nat) (mrowMany : Int32) (mroundOf : Int32) (mroundFrom : Int32) (mouts : Int32) (nm : Nat) (mfromHour : Int32) (mtoHour : Int32) (ns : Nat) (mfrom : Int32) (mto : Int32) (msort : Int32) (mdeep : Int32) (mcoded : Int32) (mlines : Int32) (nl : Nat) (nc : Nat) (nF : Nat) (np : Nat) (ntr : Nat) (nb : Nat) (mbestCost : Int32) (nso : Nat) (nsi : Nat) (nit : Nat) (nsh : Nat) (nsf : Nat) (nss : Nat) (nrc : Nat) (mtraced : Int32) (mdealer : Int32) (mnumber : Int32) (mwhose : Int32) (msize : Int32) (misParted : Int32) : K_m_numberF l G h0 mo9 nw nk mhasKept nt mtaped nr mrowMany mroundOf mroundFrom mouts nm mfromHour mtoHour ns mfrom mto msort mdeep mcoded mlines nl nc nF np ntr nb mbestCost nso nsi nit nsh nsf nss nrc mtraced mdealer mnumber mwhose msize misParted := by
  refine MI.start (by decide +kernel) (Nat.le_of_ble_eq_true rfl) ?_
  intro p e s m below meth c A ls hC hK hP hD hS hA hl
  refine absQ (fun Q0 hQ0 => ?_)
  have hl : lv_has ls 5 [(0, .ref h0), (1, .int mo9)] := hl
  refine Kan8 hC (fun hx hb hr hml hB hown hlocks hnm => ?_)
  refine lv_iconst (v := 0) hx hb gX12_number_0.1 (by decide) ?_
  refine lv_istore_n (lv' := [(2, .int 0), (0, .ref h0), (1, .int mo9)]) hx hb gX12_number_0.2.1 rfl hl (by decide) rfl (fun ls hl => ?_)
  refine lv_aload_n hx hb gX12_number_0.2.2.1 rfl (lv_at1 hl) ?_
  refine gf_X12_222 hC rfl hK hP 0 rfl rfl gX12_number_0.2.2.2.1 ?_
  refine lv_if_ne (tgt := 34) hx hb gX12_number_0.2.2.2.2.1 (by decide) (fun _ => ?_) (fun c9 => absurd c9 (by decide))
  refine lv_iconst (v := 0) hx hb gX12_number_1.2.2.2.2.2.2.2.2.1 (by decide) ?_
  refine lv_istore_n (lv' := [(3, .int 0), (2, .int 0), (0, .ref h0), (1, .int mo9)]) hx hb gX12_number_1.2.2.2.2.2.2.2.2.2 rfl hl (by decide) rfl (fun ls hl => ?_)
  refine lv_aload_n hx hb gX12_number_2.1 rfl (lv_at2 hl) ?_
  refine gf_X12_214 hC rfl hK hP 0 rfl rfl gX12_number_2.2.1 ?_
  refine lv_istore (lv' := [(4, .int mfrom), (3, .int 0), (2, .int 0), (0, .ref h0), (1, .int mo9)]) hx hb gX12_number_2.2.2.1 hl (by decide) rfl (fun ls hl => ?_)
  refine lv_iload_n hx hb gX12_number_2.2.2.2.1 rfl (lv_at1 hl) ?_
  refine lv_if_eq (tgt := 77) hx hb gX12_number_2.2.2.2.2.1 (by decide) (fun _ => ?_) (fun c9 => absurd (by decide) c9)
  refine lv_aload_n hx hb gX12_number_4.2.2.1 rfl (lv_at3 hl) ?_
  refine lv_iload_n hx hb gX12_number_4.2.2.2.1 rfl (lv_at1 hl) ?_
  refine lv_if_eq (tgt := 91) hx hb gX12_number_4.2.2.2.2.1 (by decide) (fun _ => ?_) (fun c9 => absurd (by decide) c9)
  refine lv_iconst (v := 0) hx hb gX12_number_5.1 (by decide) ?_
  refine vV (wr := []) hC hK hl hP hD hS hA (m_needF l G h0 0 nw nk mhasKept nt mtaped nr mrowMany mroundOf mroundFrom mouts nm mfromHour mtoHour ns mfrom mto msort mdeep mcoded mlines nl nc nF np ntr nb mbestCost nso nsi nit nsh nsf nss nrc mtraced mdealer mnumber mwhose msize misParted) si_X12_236 [0] [] sm_0 fm_0 nd_0 rfl rfl (by decide) rfl rfl rfl rfl rfl (Nat.le_of_ble_eq_true rfl) rm_5_4_2 ⟨Nat.le_of_ble_eq_true rfl, Nat.le_of_ble_eq_true rfl⟩ gX12_number_5.2.1 (fun u7574 H locs hr7573 hP hD hS => ?_)
  refine Kpdr (ws := [(h0, oX12 nw nk mhasKept nt mtaped nr mrowMany mroundOf mroundFrom mouts nm mfromHour mtoHour ns mfrom mto msort 1 mdeep mcoded mlines nl nc nF np ntr nb mbestCost nso nsi nit nsh nsf nss nrc mtraced mdealer mnumber mwhose msize misParted)]) hP hD (fun hP hD => ?_)
  refine lv_iload_n hx hb gX12_number_5.2.2.1 rfl (lv_at2 hl) ?_
  refine toQ hQ0 ?_
  exact RI (v := 0) hC hP hD hS [0] () rfl rfl (by decide) (rfl) rfl gX12_number_5.2.2.2
def K_m_number0 (l : Launch) (G : GG) (h0 : Nat) (mq : Nat) (nw : Nat) (nk : Nat) (mhasKept : Int32) (nt : Nat) (ktp : Nat) (nr : Nat) (mrowMany : Int32) (mroundOf : Int32) (mroundFrom : Int32) (mouts : Int32) (nm : Nat) (mfromHour : Int32) (mtoHour : Int32) (ns : Nat) (kf : Nat) (kt : Nat) (so : Int32) (mdeep : Int32) (mcoded : Int32) (mlines : Int32) (nl : Nat) (nc : Nat) (nF : Nat) (np : Nat) (ntr : Nat) (nb : Nat) (mbestCost : Int32) (nso : Nat) (nsi : Nat) (nit : Nat) (nsh : Nat) (nsf : Nat) (nss : Nat) (nrc : Nat) (mtraced : Int32) (mdealer : Int32) (mnumber : Int32) (mwhose : Int32) (msize : Int32) (misParted : Int32) (fnt : Nat → Int32) : Prop := MI l G yX12_number cX12_number 5 (some .int) 5 0 0 [.ref h0, .int (nI mq)] [(h0, oX12 nw nk mhasKept nt (nI ktp) nr mrowMany mroundOf mroundFrom mouts nm mfromHour mtoHour ns (nI kf) (nI kt) so 0 mdeep mcoded mlines nl nc nF np ntr nb mbestCost nso nsi nit nsh nsf nss nrc mtraced mdealer mnumber mwhose msize misParted), (nt, iA G 240 fnt)] (fun (r : Int32) (u : Int32 × Nat × Nat × Int32) => (True) ∧ (u.1 = 1 ∨ (u.1 = 0 ∧ (∃ v, v ≤ mq ∧ r = nI v) ∧ kf < u.2.1 ∧ TOK fnt u.2.2.2 u.2.1 u.2.2.1 ktp))) (fun u : Int32 × Nat × Nat × Int32 => [(h0, oX12 nw nk mhasKept nt (nI ktp) nr mrowMany mroundOf mroundFrom mouts nm mfromHour mtoHour ns (nI u.2.1) (nI u.2.2.1) u.2.2.2 u.1 mdeep mcoded mlines nl nc nF np ntr nb mbestCost nso nsi nit nsh nsf nss nrc mtraced mdealer mnumber mwhose msize misParted), (nt, iA G 240 fnt)])
set_option maxHeartbeats 4000000 in
set_option maxRecDepth 100000 in
theorem m_number0 (l : Launch) (G : GG) (h0 : Nat) (mq : Nat) (nw : Nat) (nk : Nat) (mhasKept : Int32) (nt : Nat) (ktp : Nat) (nr : Nat) (mrowMany : Int32) (mroundOf : Int32) (mroundFrom : Int32) (mouts : Int32) (nm : Nat) (mfromHour : Int32) (mtoHour : Int32) (ns : Nat) (kf : Nat) (kt : Nat) (so : Int32) (mdeep : Int32) (mcoded : Int32) (mlines : Int32) (nl : Nat) (nc : Nat) (nF : Nat) (np : Nat) (ntr : Nat) (nb : Nat) (mbestCost : Int32) (nso : Nat) (nsi : Nat) (nit : Nat) (nsh : Nat) (nsf : Nat) (nss : Nat) (nrc : Nat) (mtraced : Int32) (mdealer : Int32) (mnumber : Int32) (mwhose : Int32) (msize : Int32) (misParted : Int32) (fnt : Nat → Int32) (hT : TOK fnt so kf kt ktp) (htp : ktp ≤ 240) (hmq : mq ≤ 999) : K_m_number0 l G h0 mq nw nk mhasKept nt ktp nr mrowMany mroundOf mroundFrom mouts nm mfromHour mtoHour ns kf kt so mdeep mcoded mlines nl nc nF np ntr nb mbestCost nso nsi nit nsh nsf nss nrc mtraced mdealer mnumber mwhose msize misParted fnt := by
  refine MI.start (by decide +kernel) (Nat.le_of_ble_eq_true rfl) ?_
  intro p e s m below meth c A ls hC hK hP hD hS hA hl
  refine absQ (fun Q0 hQ0 => ?_)
  have hl : lv_has ls 5 [(0, .ref h0), (1, .int (nI mq))] := hl
  refine Kan8 hC (fun hx hb hr hml hB hown hlocks hnm => ?_)
  have tA := hT.1
  have tB := hT.2.1
  refine lv_iconst (v := 0) hx hb gX12_number_0.1 (by decide) ?_
  refine lv_istore_n (lv' := [(2, .int 0), (0, .ref h0), (1, .int (nI mq))]) hx hb gX12_number_0.2.1 rfl hl (by decide) rfl (fun ls hl => ?_)
  refine lv_aload_n hx hb gX12_number_0.2.2.1 rfl (lv_at1 hl) ?_
  refine gf_X12_222 hC rfl hK hP 0 rfl rfl gX12_number_0.2.2.2.1 ?_
  refine lv_if_ne (tgt := 34) hx hb gX12_number_0.2.2.2.2.1 (by decide) (fun c9 => absurd (by decide) c9) (fun _ => ?_)
  refine lv_aload_n hx hb gX12_number_0.2.2.2.2.2.1 rfl (lv_at1 hl) ?_
  refine gf_X12_217 hC rfl hK hP 0 rfl rfl gX12_number_0.2.2.2.2.2.2.1 ?_
  refine lv_iconst (v := 2) hx hb gX12_number_0.2.2.2.2.2.2.2.1 (by decide) ?_
  refine lv_icmp_ne (tgt := 34) hx hb gX12_number_0.2.2.2.2.2.2.2.2.1 (by decide) (fun c_14_7575 => ?_) (fun c_14_7575 => ?_)
  · refine lv_iconst (v := 0) hx hb gX12_number_1.2.2.2.2.2.2.2.2.1 (by decide) ?_
    refine lv_istore_n (lv' := [(3, .int 0), (2, .int 0), (0, .ref h0), (1, .int (nI mq))]) hx hb gX12_number_1.2.2.2.2.2.2.2.2.2 rfl hl (by decide) rfl (fun ls hl => ?_)
    refine lv_aload_n hx hb gX12_number_2.1 rfl (lv_at2 hl) ?_
    refine gf_X12_214 hC rfl hK hP 0 rfl rfl gX12_number_2.2.1 ?_
    refine lv_istore (lv' := [(4, .int (nI kf)), (3, .int 0), (2, .int 0), (0, .ref h0), (1, .int (nI mq))]) hx hb gX12_number_2.2.2.1 hl (by decide) rfl (fun ls hl => ?_)
    refine lv_iload_n hx hb gX12_number_2.2.2.2.1 rfl (lv_at1 hl) ?_
    refine lv_if_eq (tgt := 77) hx hb gX12_number_2.2.2.2.2.1 (by decide) (fun _ => ?_) (fun c9 => absurd (by decide) c9)
    refine lv_aload_n hx hb gX12_number_4.2.2.1 rfl (lv_at3 hl) ?_
    refine lv_iload_n hx hb gX12_number_4.2.2.2.1 rfl (lv_at1 hl) ?_
    refine lv_if_eq (tgt := 91) hx hb gX12_number_4.2.2.2.2.1 (by decide) (fun _ => ?_) (fun c9 => absurd (by decide) c9)
    refine lv_iconst (v := 0) hx hb gX12_number_5.1 (by decide) ?_
    refine vV (wr := [(nt, iA G 240 fnt)]) hC hK hl hP hD hS hA (m_need0 l G h0 nw nk mhasKept nt (nI ktp) nr mrowMany mroundOf mroundFrom mouts nm mfromHour mtoHour ns (nI kf) (nI kt) so mdeep mcoded mlines nl nc nF np ntr nb mbestCost nso nsi nit nsh nsf nss nrc mtraced mdealer mnumber mwhose msize misParted) si_X12_236 [0] [1] sm_0 fm_0 nd_0 sm_1 nd_1 dj_0__1 rfl rfl rfl rfl rfl (Nat.le_of_ble_eq_true rfl) rm_5_4_2 ⟨Nat.le_of_ble_eq_true rfl, Nat.le_of_ble_eq_true rfl⟩ gX12_number_5.2.1 (fun u7577 H locs hr7576 hP hD hS => ?_)
    refine Kpdr (ws := [(nt, iA G 240 fnt), (h0, oX12 nw nk mhasKept nt (nI ktp) nr mrowMany mroundOf mroundFrom mouts nm mfromHour mtoHour ns (nI kf) (nI kt) so 1 mdeep mcoded mlines nl nc nF np ntr nb mbestCost nso nsi nit nsh nsf nss nrc mtraced mdealer mnumber mwhose msize misParted)]) hP hD (fun hP hD => ?_)
    refine lv_iload_n hx hb gX12_number_5.2.2.1 rfl (lv_at2 hl) ?_
    refine toQ hQ0 ?_
    exact RI (v := 0) hC hP hD hS [1, 0] (1, kf, kt, so) rfl rfl (by decide) (⟨trivial, Or.inl rfl⟩) rfl gX12_number_5.2.2.2
  · refine lv_aload_n hx hb gX12_number_0.2.2.2.2.2.2.2.2.2 rfl (lv_at1 hl) ?_
    refine gf_X12_211 hC rfl hK hP 0 rfl rfl gX12_number_1.1 ?_
    refine lv_aload_n hx hb gX12_number_1.2.1 rfl (lv_at1 hl) ?_
    refine gf_X12_214 hC rfl hK hP 0 rfl rfl gX12_number_1.2.2.1 ?_
    refine lv_isub hx hb gX12_number_1.2.2.2.1 ?_
    refine eqi (x1 := nI (kt - kf)) (nI_subR (by omega)) ?_
    refine lv_iconst (v := 3) hx hb gX12_number_1.2.2.2.2.1 (by decide) ?_
    refine lv_icmp_gt (tgt := 34) hx hb gX12_number_1.2.2.2.2.2.1 (by decide) (fun c_27_7578 => ?_) (fun c_27_7578 => ?_)
    · refine lv_iconst (v := 0) hx hb gX12_number_1.2.2.2.2.2.2.2.2.1 (by decide) ?_
      refine lv_istore_n (lv' := [(3, .int 0), (2, .int 0), (0, .ref h0), (1, .int (nI mq))]) hx hb gX12_number_1.2.2.2.2.2.2.2.2.2 rfl hl (by decide) rfl (fun ls hl => ?_)
      refine lv_aload_n hx hb gX12_number_2.1 rfl (lv_at2 hl) ?_
      refine gf_X12_214 hC rfl hK hP 0 rfl rfl gX12_number_2.2.1 ?_
      refine lv_istore (lv' := [(4, .int (nI kf)), (3, .int 0), (2, .int 0), (0, .ref h0), (1, .int (nI mq))]) hx hb gX12_number_2.2.2.1 hl (by decide) rfl (fun ls hl => ?_)
      refine lv_iload_n hx hb gX12_number_2.2.2.2.1 rfl (lv_at1 hl) ?_
      refine lv_if_eq (tgt := 77) hx hb gX12_number_2.2.2.2.2.1 (by decide) (fun _ => ?_) (fun c9 => absurd (by decide) c9)
      refine lv_aload_n hx hb gX12_number_4.2.2.1 rfl (lv_at3 hl) ?_
      refine lv_iload_n hx hb gX12_number_4.2.2.2.1 rfl (lv_at1 hl) ?_
      refine lv_if_eq (tgt := 91) hx hb gX12_number_4.2.2.2.2.1 (by decide) (fun _ => ?_) (fun c9 => absurd (by decide) c9)
      refine lv_iconst (v := 0) hx hb gX12_number_5.1 (by decide) ?_
      refine vV (wr := [(nt, iA G 240 fnt)]) hC hK hl hP hD hS hA (m_need0 l G h0 nw nk mhasKept nt (nI ktp) nr mrowMany mroundOf mroundFrom mouts nm mfromHour mtoHour ns (nI kf) (nI kt) so mdeep mcoded mlines nl nc nF np ntr nb mbestCost nso nsi nit nsh nsf nss nrc mtraced mdealer mnumber mwhose msize misParted) si_X12_236 [0] [1] sm_0 fm_0 nd_0 sm_1 nd_1 dj_0__1 rfl rfl rfl rfl rfl (Nat.le_of_ble_eq_true rfl) rm_5_4_2 ⟨Nat.le_of_ble_eq_true rfl, Nat.le_of_ble_eq_true rfl⟩ gX12_number_5.2.1 (fun u7580 H locs hr7579 hP hD hS => ?_)
      refine Kpdr (ws := [(nt, iA G 240 fnt), (h0, oX12 nw nk mhasKept nt (nI ktp) nr mrowMany mroundOf mroundFrom mouts nm mfromHour mtoHour ns (nI kf) (nI kt) so 1 mdeep mcoded mlines nl nc nF np ntr nb mbestCost nso nsi nit nsh nsf nss nrc mtraced mdealer mnumber mwhose msize misParted)]) hP hD (fun hP hD => ?_)
      refine lv_iload_n hx hb gX12_number_5.2.2.1 rfl (lv_at2 hl) ?_
      refine toQ hQ0 ?_
      exact RI (v := 0) hC hP hD hS [1, 0] (1, kf, kt, so) rfl rfl (by decide) (⟨trivial, Or.inl rfl⟩) rfl gX12_number_5.2.2.2
    · have hle3 : kt - kf ≤ 3 := nle_of (a := 3) (b := kt - kf) (by decide) (by omega) c_27_7578
      have hdg9 := hT.2.2.2 c_14_7575
      refine lv_iconst (v := 1) hx hb gX12_number_1.2.2.2.2.2.2.1 (by decide) ?_
      refine lv_goto (tgt := 35) hx hb gX12_number_1.2.2.2.2.2.2.2.1 (by decide) ?_
      refine lv_istore_n (lv' := [(3, .int 1), (2, .int 0), (0, .ref h0), (1, .int (nI mq))]) hx hb gX12_number_1.2.2.2.2.2.2.2.2.2 rfl hl (by decide) rfl (fun ls hl => ?_)
      refine lv_aload_n hx hb gX12_number_2.1 rfl (lv_at2 hl) ?_
      refine gf_X12_214 hC rfl hK hP 0 rfl rfl gX12_number_2.2.1 ?_
      refine lv_istore (lv' := [(4, .int (nI kf)), (3, .int 1), (2, .int 0), (0, .ref h0), (1, .int (nI mq))]) hx hb gX12_number_2.2.2.1 hl (by decide) rfl (fun ls hl => ?_)
      have keyP : ∀ (nP kP : Nat) (vv : Nat) (H : Heap) (locs : List Loc) (ls : Array Slot), kP + nP = kt → ((kP = kf ∧ vv = 0) ∨ (kP = kf + 1 ∧ vv ≤ 9) ∨ (kP = kf + 2 ∧ vv ≤ 99) ∨ (kP = kf + 3 ∧ vv ≤ 999)) → va_PD G A [(h0, oX12 nw nk mhasKept nt (nI ktp) nr mrowMany mroundOf mroundFrom mouts nm mfromHour mtoHour ns (nI kf) (nI kt) so 0 mdeep mcoded mlines nl nc nF np ntr nb mbestCost nso nsi nit nsh nsf nss nrc mtraced mdealer mnumber mwhose msize misParted), (nt, iA G 240 fnt)] H → va_S A s.heap H locs → lv_has ls 5 [(4, .int (nI kP)), (3, .int 1), (2, .int (nI vv)), (0, .ref h0), (1, .int (nI mq))] → W p l e (RM 5 0 0) s m ([.ref h0, .int (nI mq)] : List Value).toArray below meth c H locs 0 0 Q0 (F0 m 42 ls []) := by
        intro nP
        induction nP with
        | zero =>
          intro kP vv H locs ls hkP hvv hPD hS hl
          refine Kan2 hPD (fun hP hD => ?_)
          obtain rfl : kt = kP := by omega
          have hl : lv_has ls 5 [(4, .int (nI kt)), (3, .int 1), (2, .int (nI vv)), (0, .ref h0), (1, .int (nI mq))] := hl
          refine lv_iload_n hx hb gX12_number_2.2.2.2.1 rfl (lv_at1 hl) ?_
          refine lv_if_eq (tgt := 77) hx hb gX12_number_2.2.2.2.2.1 (by decide) (fun c9 => absurd c9 (by decide)) (fun _ => ?_)
          refine lv_iload hx hb gX12_number_2.2.2.2.2.2.1 (lv_at0 hl) ?_
          refine lv_aload_n hx hb gX12_number_2.2.2.2.2.2.2.1 rfl (lv_at3 hl) ?_
          refine gf_X12_211 hC rfl hK hP 0 rfl rfl gX12_number_2.2.2.2.2.2.2.2.1 ?_
          refine lv_icmp_ge (tgt := 77) hx hb gX12_number_2.2.2.2.2.2.2.2.2.1 (by decide) (fun _ => ?_) (fun c9 => absurd (Int32.le_refl _) c9)
          refine lv_aload_n hx hb gX12_number_4.2.2.1 rfl (lv_at3 hl) ?_
          refine lv_iload_n hx hb gX12_number_4.2.2.2.1 rfl (lv_at1 hl) ?_
          refine lv_if_eq (tgt := 91) hx hb gX12_number_4.2.2.2.2.1 (by decide) (fun c9 => absurd c9 (by decide)) (fun _ => ?_)
          refine lv_iload_n hx hb gX12_number_4.2.2.2.2.2.1 rfl (lv_at2 hl) ?_
          refine lv_iload_n hx hb gX12_number_4.2.2.2.2.2.2.1 rfl (lv_at4 hl) ?_
          refine lv_icmp_gt (tgt := 91) hx hb gX12_number_4.2.2.2.2.2.2.2.1 (by decide) (fun c_84_7581 => ?_) (fun c_84_7581 => ?_)
          · refine lv_iconst (v := 0) hx hb gX12_number_5.1 (by decide) ?_
            refine vV (wr := [(nt, iA G 240 fnt)]) hC hK hl hP hD hS hA (m_need0 l G h0 nw nk mhasKept nt (nI ktp) nr mrowMany mroundOf mroundFrom mouts nm mfromHour mtoHour ns (nI kf) (nI kt) so mdeep mcoded mlines nl nc nF np ntr nb mbestCost nso nsi nit nsh nsf nss nrc mtraced mdealer mnumber mwhose msize misParted) si_X12_236 [0] [1] sm_0 fm_0 nd_0 sm_1 nd_1 dj_0__1 rfl rfl rfl rfl rfl (Nat.le_of_ble_eq_true rfl) rm_5_4_2 ⟨Nat.le_of_ble_eq_true rfl, Nat.le_of_ble_eq_true rfl⟩ gX12_number_5.2.1 (fun u7583 H locs hr7582 hP hD hS => ?_)
            refine Kpdr (ws := [(nt, iA G 240 fnt), (h0, oX12 nw nk mhasKept nt (nI ktp) nr mrowMany mroundOf mroundFrom mouts nm mfromHour mtoHour ns (nI kf) (nI kt) so 1 mdeep mcoded mlines nl nc nF np ntr nb mbestCost nso nsi nit nsh nsf nss nrc mtraced mdealer mnumber mwhose msize misParted)]) hP hD (fun hP hD => ?_)
            refine lv_iload_n hx hb gX12_number_5.2.2.1 rfl (lv_at2 hl) ?_
            refine toQ hQ0 ?_
            exact RI (v := nI vv) hC hP hD hS [1, 0] (1, kf, kt, so) rfl rfl (by decide) (⟨trivial, Or.inl rfl⟩) rfl gX12_number_5.2.2.2
          · refine lv_iconst (v := 1) hx hb gX12_number_4.2.2.2.2.2.2.2.2.1 (by decide) ?_
            refine lv_goto (tgt := 92) hx hb gX12_number_4.2.2.2.2.2.2.2.2.2 (by decide) ?_
            have hlt8 := hT.lt (by rw [c_14_7575]; decide)
            refine vV (wr := []) hC hK hl hP hD hS hA (m_need1 l G h0 nw nk mhasKept nt ktp nr mrowMany mroundOf mroundFrom mouts nm mfromHour mtoHour ns (nI kf) kt so mdeep mcoded mlines nl nc nF np ntr nb mbestCost nso nsi nit nsh nsf nss nrc mtraced mdealer mnumber mwhose msize misParted fnt (by omega) (htp)) si_X12_236 [0, 1] [] sm_0_1 fm_0_1 nd_0_1 rfl rfl (by decide) rfl rfl rfl rfl rfl (Nat.le_of_ble_eq_true rfl) rm_5_4_2 ⟨Nat.le_of_ble_eq_true rfl, Nat.le_of_ble_eq_true rfl⟩ gX12_number_5.2.1 (Ktu3 fun kf17586 kt17587 so17588 => ?_)
            intro H locs hr7584 hP hD hS
            try dsimp only at hr7584
            refine Kpdr (ws := [(h0, oX12 nw nk mhasKept nt (nI ktp) nr mrowMany mroundOf mroundFrom mouts nm mfromHour mtoHour ns (nI kf17586) (nI kt17587) so17588 0 mdeep mcoded mlines nl nc nF np ntr nb mbestCost nso nsi nit nsh nsf nss nrc mtraced mdealer mnumber mwhose msize misParted), (nt, iA G 240 fnt)]) hP hD (fun hP hD => ?_)
            have hw7590_0 := hr7584.1
            have hw7590_1 := hr7584.2
            have tA7592 := hw7590_1.1
            have tB7592 := hw7590_1.2.1
            refine lv_iload_n hx hb gX12_number_5.2.2.1 rfl (lv_at2 hl) ?_
            refine toQ hQ0 ?_
            exact RI (v := nI vv) hC hP hD hS [0, 1] (0, kf17586, kt17587, so17588) rfl rfl (by decide) (⟨trivial, Or.inr ⟨rfl, ⟨_, nle_of (by omega) (by omega) c_84_7581, rfl⟩, by (try dsimp only); omega, hw7590_1⟩⟩) rfl gX12_number_5.2.2.2
        | succ nP ihP =>
          intro kP vv H locs ls hkP hvv hPD hS hl
          refine Kan2 hPD (fun hP hD => ?_)
          refine lv_iload_n hx hb gX12_number_2.2.2.2.1 rfl (lv_at1 hl) ?_
          refine lv_if_eq (tgt := 77) hx hb gX12_number_2.2.2.2.2.1 (by decide) (fun c9 => absurd c9 (by decide)) (fun _ => ?_)
          refine lv_iload hx hb gX12_number_2.2.2.2.2.2.1 (lv_at0 hl) ?_
          refine lv_aload_n hx hb gX12_number_2.2.2.2.2.2.2.1 rfl (lv_at3 hl) ?_
          refine gf_X12_211 hC rfl hK hP 0 rfl rfl gX12_number_2.2.2.2.2.2.2.2.1 ?_
          refine lv_icmp_ge (tgt := 77) hx hb gX12_number_2.2.2.2.2.2.2.2.2.1 (by decide) (fun c9 => absurd c9 (nI_ge (a := kP) (b := kt) (by omega) (by omega))) (fun _ => ?_)
          refine lv_bipush (v := 10) hx hb gX12_number_2.2.2.2.2.2.2.2.2.2 (by decide) ?_
          refine lv_iload_n hx hb gX12_number_3.1 rfl (lv_at2 hl) ?_
          refine lv_imul hx hb gX12_number_3.2.1 ?_
          refine eqi (x1 := nI (10 * vv)) (nI_mul 10 vv) ?_
          refine lv_aload_n hx hb gX12_number_3.2.2.1 rfl (lv_at3 hl) ?_
          refine gf_X12_16 hC rfl hK hP 0 rfl rfl gX12_number_3.2.2.2.1 ?_
          refine lv_iload hx hb gX12_number_3.2.2.2.2.1 (lv_at0 hl) ?_
          obtain ⟨dd, hdd, edd⟩ := hdg9 kP (by omega) (by omega)
          refine aldN hC hK hP 1 rfl (k := kP) (by omega) (Nat.le_of_ble_eq_true rfl) (v := nI (48 + dd)) (edd) gX12_number_3.2.2.2.2.2.1 ?_
          refine lv_iadd hx hb gX12_number_3.2.2.2.2.2.2.1 ?_
          refine eqi (x1 := nI (10 * vv + (48 + dd))) (nI_add (10 * vv) (48 + dd)) ?_
          refine lv_bipush (v := 48) hx hb gX12_number_3.2.2.2.2.2.2.2.1 (by decide) ?_
          refine lv_isub hx hb gX12_number_3.2.2.2.2.2.2.2.2.1 ?_
          refine eqi (x1 := nI (10 * vv + dd)) ((nI_subR (b := 48) (by omega)).trans (congrArg nI (by omega))) ?_
          refine lv_istore_n (lv' := [(2, .int (nI (10 * vv + dd))), (4, .int (nI kP)), (3, .int 1), (0, .ref h0), (1, .int (nI mq))]) hx hb gX12_number_3.2.2.2.2.2.2.2.2.2 rfl hl (by decide) rfl (fun ls hl => ?_)
          refine lv_iinc (v := nI (kP + 1)) (lv' := [(4, .int (nI (kP + 1))), (2, .int (nI (10 * vv + dd))), (3, .int 1), (0, .ref h0), (1, .int (nI mq))]) hx hb gX12_number_4.1 hl (k := 1) rfl (nI_1 _) (by decide) rfl (fun ls hl => ?_)
          refine lv_goto (tgt := 42) hx hb gX12_number_4.2.1 (by decide) ?_
          exact ihP (kP + 1) (10 * vv + dd) _ _ _ (by omega) (by first | assumption | exact Or.inl rfl | exact Or.inr rfl | omega | omega) (And.intro hP hD) hS (lv_sub hl [0, 2, 1, 3, 4] rfl)
      exact keyP (kt - kf) kf 0 _ _ _ (by omega) (by first | assumption | exact Or.inl rfl | exact Or.inr rfl | omega | omega) (And.intro hP hD) hS (lv_sub hl [0, 1, 2, 3, 4] rfl)
def K_m_codesF (l : Launch) (G : GG) (h0 : Nat) (vv : Int32) (nw : Nat) (nk : Nat) (mhasKept : Int32) (nt : Nat) (mtaped : Int32) (nr : Nat) (mrowMany : Int32) (mroundOf : Int32) (mroundFrom : Int32) (mouts : Int32) (nm : Nat) (mfromHour : Int32) (mtoHour : Int32) (ns : Nat) (mfrom : Int32) (mto : Int32) (msort : Int32) (mdeep : Int32) (mcoded : Int32) (mlines : Int32) (nl : Nat) (nc : Nat) (nF : Nat) (np : Nat) (ntr : Nat) (nb : Nat) (mbestCost : Int32) (nso : Nat) (nsi : Nat) (nit : Nat) (nsh : Nat) (nsf : Nat) (nss : Nat) (nrc : Nat) (mtraced : Int32) (mdealer : Int32) (mnumber : Int32) (mwhose : Int32) (msize : Int32) (misParted : Int32) : Prop := MV l G yX12_codes cX12_codes 2 1 0 0 [.ref h0, .int vv] [(h0, oX12 nw nk mhasKept nt mtaped nr mrowMany mroundOf mroundFrom mouts nm mfromHour mtoHour ns mfrom mto msort 1 mdeep mcoded mlines nl nc nF np ntr nb mbestCost nso nsi nit nsh nsf nss nrc mtraced mdealer mnumber mwhose msize misParted)] (fun u : Unit => True) (fun u : Unit => [(h0, oX12 nw nk mhasKept nt mtaped nr mrowMany mroundOf mroundFrom mouts nm mfromHour mtoHour ns mfrom mto msort 1 mdeep mcoded mlines nl nc nF np ntr nb mbestCost nso nsi nit nsh nsf nss nrc mtraced mdealer mnumber mwhose msize misParted)])
set_option maxHeartbeats 4000000 in
set_option maxRecDepth 100000 in
theorem m_codesF (l : Launch) (G : GG) (h0 : Nat) (vv : Int32) (nw : Nat) (nk : Nat) (mhasKept : Int32) (nt : Nat) (mtaped : Int32) (nr : Nat) (mrowMany : Int32) (mroundOf : Int32) (mroundFrom : Int32) (mouts : Int32) (nm : Nat) (mfromHour : Int32) (mtoHour : Int32) (ns : Nat) (mfrom : Int32) (mto : Int32) (msort : Int32) (mdeep : Int32) (mcoded : Int32) (mlines : Int32) (nl : Nat) (nc : Nat) (nF : Nat) (np : Nat) (ntr : Nat) (nb : Nat) (mbestCost : Int32) (nso : Nat) (nsi : Nat) (nit : Nat) (nsh : Nat) (nsf : Nat) (nss : Nat) (nrc : Nat) (mtraced : Int32) (mdealer : Int32) (mnumber : Int32) (mwhose : Int32) (msize : Int32) (misParted : Int32) : K_m_codesF l G h0 vv nw nk mhasKept nt mtaped nr mrowMany mroundOf mroundFrom mouts nm mfromHour mtoHour ns mfrom mto msort mdeep mcoded mlines nl nc nF np ntr nb mbestCost nso nsi nit nsh nsf nss nrc mtraced mdealer mnumber mwhose msize misParted := by
  refine MV.start (by decide +kernel) (Nat.le_of_ble_eq_true rfl) ?_
  intro p e s m below meth c A ls hC hK hP hD hS hA hl
  refine absQ (fun Q0 hQ0 => ?_)
  have hl : lv_has ls 2 [(0, .ref h0), (1, .int vv)] := hl
  refine Kan8 hC (fun hx hb hr hml hB hown hlocks hnm => ?_)
  refine lv_aload_n hx hb gX12_codes_0.1 rfl (lv_at0 hl) ?_
  refine gf_X12_222 hC rfl hK hP 0 rfl rfl gX12_codes_0.2.1 ?_
  refine lv_if_ne (tgt := 27) hx hb gX12_codes_0.2.2.1 (by decide) (fun _ => ?_) (fun c9 => absurd c9 (by decide))
  refine toQ hQ0 ?_
  exact RV hC hP hD hS [0] () rfl rfl (by decide) (trivial) gX12_codes_1.2.2.2.2.2
def K_m_codes0 (l : Launch) (G : GG) (h0 : Nat) (vv : Int32) (nw : Nat) (nk : Nat) (mhasKept : Int32) (nt : Nat) (mtaped : Int32) (nr : Nat) (mrowMany : Int32) (mroundOf : Int32) (mroundFrom : Int32) (mouts : Int32) (nm : Nat) (mfromHour : Int32) (mtoHour : Int32) (ns : Nat) (mfrom : Int32) (mto : Int32) (msort : Int32) (mdeep : Int32) (kc : Nat) (mlines : Int32) (nl : Nat) (nc : Nat) (nF : Nat) (np : Nat) (ntr : Nat) (nb : Nat) (mbestCost : Int32) (nso : Nat) (nsi : Nat) (nit : Nat) (nsh : Nat) (nsf : Nat) (nss : Nat) (nrc : Nat) (mtraced : Int32) (mdealer : Int32) (mnumber : Int32) (mwhose : Int32) (msize : Int32) (misParted : Int32) (fnc : Nat → Int32) : Prop := MV l G yX12_codes cX12_codes 2 1 0 0 [.ref h0, .int vv] [(h0, oX12 nw nk mhasKept nt mtaped nr mrowMany mroundOf mroundFrom mouts nm mfromHour mtoHour ns mfrom mto msort 0 mdeep (nI kc) mlines nl nc nF np ntr nb mbestCost nso nsi nit nsh nsf nss nrc mtraced mdealer mnumber mwhose msize misParted), (nc, iA G 100 fnc)] (fun u : Unit => True) (fun u : Unit => [(h0, oX12 nw nk mhasKept nt mtaped nr mrowMany mroundOf mroundFrom mouts nm mfromHour mtoHour ns mfrom mto msort 0 mdeep (nI (kc + 1)) mlines nl nc nF np ntr nb mbestCost nso nsi nit nsh nsf nss nrc mtraced mdealer mnumber mwhose msize misParted), (nc, iA G 100 (upd fnc kc vv))])
set_option maxHeartbeats 4000000 in
set_option maxRecDepth 100000 in
theorem m_codes0 (l : Launch) (G : GG) (h0 : Nat) (vv : Int32) (nw : Nat) (nk : Nat) (mhasKept : Int32) (nt : Nat) (mtaped : Int32) (nr : Nat) (mrowMany : Int32) (mroundOf : Int32) (mroundFrom : Int32) (mouts : Int32) (nm : Nat) (mfromHour : Int32) (mtoHour : Int32) (ns : Nat) (mfrom : Int32) (mto : Int32) (msort : Int32) (mdeep : Int32) (kc : Nat) (mlines : Int32) (nl : Nat) (nc : Nat) (nF : Nat) (np : Nat) (ntr : Nat) (nb : Nat) (mbestCost : Int32) (nso : Nat) (nsi : Nat) (nit : Nat) (nsh : Nat) (nsf : Nat) (nss : Nat) (nrc : Nat) (mtraced : Int32) (mdealer : Int32) (mnumber : Int32) (mwhose : Int32) (msize : Int32) (misParted : Int32) (fnc : Nat → Int32) (hkc : kc < 100) : K_m_codes0 l G h0 vv nw nk mhasKept nt mtaped nr mrowMany mroundOf mroundFrom mouts nm mfromHour mtoHour ns mfrom mto msort mdeep kc mlines nl nc nF np ntr nb mbestCost nso nsi nit nsh nsf nss nrc mtraced mdealer mnumber mwhose msize misParted fnc := by
  refine MV.start (by decide +kernel) (Nat.le_of_ble_eq_true rfl) ?_
  intro p e s m below meth c A ls hC hK hP hD hS hA hl
  refine absQ (fun Q0 hQ0 => ?_)
  have hl : lv_has ls 2 [(0, .ref h0), (1, .int vv)] := hl
  refine Kan8 hC (fun hx hb hr hml hB hown hlocks hnm => ?_)
  refine lv_aload_n hx hb gX12_codes_0.1 rfl (lv_at0 hl) ?_
  refine gf_X12_222 hC rfl hK hP 0 rfl rfl gX12_codes_0.2.1 ?_
  refine lv_if_ne (tgt := 27) hx hb gX12_codes_0.2.2.1 (by decide) (fun c9 => absurd (by decide) c9) (fun _ => ?_)
  refine lv_aload_n hx hb gX12_codes_0.2.2.2.1 rfl (lv_at0 hl) ?_
  refine gf_X12_35 hC rfl hK hP 0 rfl rfl gX12_codes_0.2.2.2.2.1 ?_
  refine lv_aload_n hx hb gX12_codes_0.2.2.2.2.2.1 rfl (lv_at0 hl) ?_
  refine gf_X12_240 hC rfl hK hP 0 rfl rfl gX12_codes_0.2.2.2.2.2.2.1 ?_
  refine lv_iload_n hx hb gX12_codes_0.2.2.2.2.2.2.2.1 rfl (lv_at1 hl) ?_
  refine astN hC hK hP hD hS 1 (ws' := [(h0, oX12 nw nk mhasKept nt mtaped nr mrowMany mroundOf mroundFrom mouts nm mfromHour mtoHour ns mfrom mto msort 0 mdeep (nI kc) mlines nl nc nF np ntr nb mbestCost nso nsi nit nsh nsf nss nrc mtraced mdealer mnumber mwhose msize misParted), (nc, iA G 100 (upd fnc kc vv))]) rfl (k := kc) (by omega) (Nat.le_of_ble_eq_true rfl) (rfl) gX12_codes_0.2.2.2.2.2.2.2.2.1 (fun H locs hP hD hS => ?_)
  refine lv_aload_n hx hb gX12_codes_0.2.2.2.2.2.2.2.2.2 rfl (lv_at0 hl) ?_
  refine lv_dup hx hb gX12_codes_1.1 rfl ?_
  refine gf_X12_240 hC rfl hK hP 0 rfl rfl gX12_codes_1.2.1 ?_
  refine lv_iconst (v := 1) hx hb gX12_codes_1.2.2.1 (by decide) ?_
  refine lv_iadd hx hb gX12_codes_1.2.2.2.1 ?_
  refine eqi (x1 := nI (kc + 1)) (nI_add kc 1) ?_
  refine pf_X12_240 hC rfl hK hP hD hS 0 (ws' := [(h0, oX12 nw nk mhasKept nt mtaped nr mrowMany mroundOf mroundFrom mouts nm mfromHour mtoHour ns mfrom mto msort 0 mdeep (nI (kc + 1)) mlines nl nc nF np ntr nb mbestCost nso nsi nit nsh nsf nss nrc mtraced mdealer mnumber mwhose msize misParted), (nc, iA G 100 (upd fnc kc vv))]) rfl (Nat.le_of_ble_eq_true rfl) rfl rfl rfl gX12_codes_1.2.2.2.2.1 (fun H locs hP hD hS => ?_)
  refine toQ hQ0 ?_
  exact RV hC hP hD hS [0, 1] () rfl rfl (by decide) (trivial) gX12_codes_1.2.2.2.2.2
def K_m_oneF (l : Launch) (G : GG) (K : OO) (h0 : Nat) (nw : Nat) (nk : Nat) (mhasKept : Int32) (nt : Nat) (mtaped : Int32) (nr : Nat) (mrowMany : Int32) (mroundOf : Int32) (mroundFrom : Int32) (mouts : Int32) (nm : Nat) (mfromHour : Int32) (mtoHour : Int32) (ns : Nat) (mfrom : Int32) (mto : Int32) (msort : Int32) (mdeep : Int32) (mcoded : Int32) (mlines : Int32) (nl : Nat) (nc : Nat) (nF : Nat) (np : Nat) (ntr : Nat) (nb : Nat) (mbestCost : Int32) (nso : Nat) (nsi : Nat) (nit : Nat) (nsh : Nat) (nsf : Nat) (nss : Nat) (nrc : Nat) (mtraced : Int32) (mdealer : Int32) (mnumber : Int32) (mwhose : Int32) (msize : Int32) (misParted : Int32) : Prop := MVo l G K yX12_one cX12_one 5 7 0 0 [.ref h0] [(h0, oX12 nw nk mhasKept nt mtaped nr mrowMany mroundOf mroundFrom mouts nm mfromHour mtoHour ns mfrom mto msort 1 mdeep mcoded mlines nl nc nF np ntr nb mbestCost nso nsi nit nsh nsf nss nrc mtraced mdealer mnumber mwhose msize misParted), (nF, sA G 5 (FCT K))] (fun u : Unit => True) (fun u : Unit => [(h0, oX12 nw nk mhasKept nt mtaped nr mrowMany mroundOf mroundFrom mouts nm mfromHour mtoHour ns mfrom mto msort 1 mdeep mcoded mlines nl nc nF np ntr nb mbestCost nso nsi nit nsh nsf nss nrc mtraced mdealer mnumber mwhose msize misParted), (nF, sA G 5 (FCT K))])
set_option maxHeartbeats 4000000 in
set_option maxRecDepth 100000 in
theorem m_oneF (l : Launch) (G : GG) (K : OO) (h0 : Nat) (nw : Nat) (nk : Nat) (mhasKept : Int32) (nt : Nat) (mtaped : Int32) (nr : Nat) (mrowMany : Int32) (mroundOf : Int32) (mroundFrom : Int32) (mouts : Int32) (nm : Nat) (mfromHour : Int32) (mtoHour : Int32) (ns : Nat) (mfrom : Int32) (mto : Int32) (msort : Int32) (mdeep : Int32) (mcoded : Int32) (mlines : Int32) (nl : Nat) (nc : Nat) (nF : Nat) (np : Nat) (ntr : Nat) (nb : Nat) (mbestCost : Int32) (nso : Nat) (nsi : Nat) (nit : Nat) (nsh : Nat) (nsf : Nat) (nss : Nat) (nrc : Nat) (mtraced : Int32) (mdealer : Int32) (mnumber : Int32) (mwhose : Int32) (msize : Int32) (misParted : Int32) : K_m_oneF l G K h0 nw nk mhasKept nt mtaped nr mrowMany mroundOf mroundFrom mouts nm mfromHour mtoHour ns mfrom mto msort mdeep mcoded mlines nl nc nF np ntr nb mbestCost nso nsi nit nsh nsf nss nrc mtraced mdealer mnumber mwhose msize misParted := by
  refine MVo.start (by decide +kernel) (Nat.le_of_ble_eq_true rfl) ?_
  intro p e s m below meth c A ls hC hK hP hD hS hA hl hO
  refine absQ (fun Q0 hQ0 => ?_)
  have hl : lv_has ls 5 [(0, .ref h0)] := hl
  refine Kan8 hC (fun hx hb hr hml hB hown hlocks hnm => ?_)
  refine lv_iconst (v := 0) hx hb gX12_one_0.1 (by decide) ?_
  refine lv_istore_n (lv' := [(1, .int 0), (0, .ref h0)]) hx hb gX12_one_0.2.1 rfl hl (by decide) rfl (fun ls hl => ?_)
  refine lv_aload_n hx hb gX12_one_0.2.2.1 rfl (lv_at1 hl) ?_
  refine va_ldcSw (index := 260) (tx := "not") hx hb hown (hO.2.2 10 (by decide)) gX12_one_0.2.2.2.1 ?_
  refine pVo hO hS hC hK hl hP hD (m_isNameF l G K 10 h0 nw nk mhasKept nt mtaped nr mrowMany mroundOf mroundFrom mouts nm mfromHour mtoHour ns mfrom mto msort mdeep mcoded mlines nl nc nF np ntr nb mbestCost nso nsi nit nsh nsf nss nrc mtraced mdealer mnumber mwhose msize misParted ((by decide))) si_X12_248 [0] sm_0 fm_0 nd_0 rfl rfl rfl rfl rfl (Nat.le_of_ble_eq_true rfl) rm_7_5_4 ⟨by first | exact Nat.le_of_ble_eq_true rfl | exact Nat.zero_le _, by first | exact Nat.le_of_ble_eq_true rfl | exact Nat.zero_le _⟩ gX12_one_0.2.2.2.2.1 (Keqr ?_)
  refine lv_if_eq (tgt := 22) hx hb gX12_one_0.2.2.2.2.2.1 (by decide) (fun _ => ?_) (fun c9 => absurd (by decide) c9)
  refine lv_aload_n hx hb gX12_one_1.1 rfl (lv_at1 hl) ?_
  refine lv_bipush (v := 40) hx hb gX12_one_1.2.1 (by decide) ?_
  refine pV hC hK hl hP hD (m_isSignF l G h0 40 nw nk mhasKept nt mtaped nr mrowMany mroundOf mroundFrom mouts nm mfromHour mtoHour ns mfrom mto msort mdeep mcoded mlines nl nc nF np ntr nb mbestCost nso nsi nit nsh nsf nss nrc mtraced mdealer mnumber mwhose msize misParted) si_X12_262 [0] sm_0 fm_0 nd_0 rfl rfl rfl rfl rfl (Nat.le_of_ble_eq_true rfl) rm_7_1_2 ⟨by first | exact Nat.le_of_ble_eq_true rfl | exact Nat.zero_le _, by first | exact Nat.le_of_ble_eq_true rfl | exact Nat.zero_le _⟩ gX12_one_1.2.2.1 (Keqr ?_)
  refine lv_if_eq (tgt := 85) hx hb gX12_one_1.2.2.2.1 (by decide) (fun _ => ?_) (fun c9 => absurd (by decide) c9)
  refine lv_iconst (v := (-1)) hx hb gX12_one_4.2.2.2.1 (by decide) ?_
  refine lv_istore_n (lv' := [(2, .int (-1)), (1, .int 0), (0, .ref h0)]) hx hb gX12_one_4.2.2.2.2.1 rfl hl (by decide) rfl (fun ls hl => ?_)
  refine lv_iconst (v := 0) hx hb gX12_one_4.2.2.2.2.2.1 (by decide) ?_
  refine lv_istore_n (lv' := [(3, .int 0), (2, .int (-1)), (1, .int 0), (0, .ref h0)]) hx hb gX12_one_4.2.2.2.2.2.2.1 rfl hl (by decide) rfl (fun ls hl => ?_)
  refine lv_iload_n hx hb gX12_one_4.2.2.2.2.2.2.2.1 rfl (lv_at0 hl) ?_
  refine lv_iconst (v := 5) hx hb gX12_one_4.2.2.2.2.2.2.2.2.1 (by decide) ?_
  refine lv_icmp_ge (tgt := 119) hx hb gX12_one_4.2.2.2.2.2.2.2.2.2 (by decide) (fun c9 => absurd c9 (by decide)) (fun _ => ?_)
  refine lv_aload_n hx hb gX12_one_5.1 rfl (lv_at3 hl) ?_
  refine lv_aload_n hx hb gX12_one_5.2.1 rfl (lv_at3 hl) ?_
  refine gf_X12_50 hC rfl hK hP 0 rfl rfl gX12_one_5.2.2.1 ?_
  refine lv_iload_n hx hb gX12_one_5.2.2.2.1 rfl (lv_at0 hl) ?_
  refine aldS hC hK hP 1 rfl (vin (by decide +kernel)) (k := 0) (by decide +kernel) (v := (K.1 11)) (rfl) gX12_one_5.2.2.2.2.1 ?_
  refine pVo hO hS hC hK hl hP hD (m_isNameF l G K 11 h0 nw nk mhasKept nt mtaped nr mrowMany mroundOf mroundFrom mouts nm mfromHour mtoHour ns mfrom mto msort mdeep mcoded mlines nl nc nF np ntr nb mbestCost nso nsi nit nsh nsf nss nrc mtraced mdealer mnumber mwhose msize misParted ((by decide))) si_X12_248 [0] sm_0 fm_0 nd_0 rfl rfl rfl rfl rfl (Nat.le_of_ble_eq_true rfl) rm_7_5_4 ⟨by first | exact Nat.le_of_ble_eq_true rfl | exact Nat.zero_le _, by first | exact Nat.le_of_ble_eq_true rfl | exact Nat.zero_le _⟩ gX12_one_5.2.2.2.2.2.1 (Keqr ?_)
  refine lv_if_eq (tgt := 111) hx hb gX12_one_5.2.2.2.2.2.2.1 (by decide) (fun _ => ?_) (fun c9 => absurd (by decide) c9)
  refine lv_iload_n hx hb gX12_one_5.2.2.2.2.2.2.2.2.2 rfl (lv_at1 hl) ?_
  refine lv_istore_n (lv' := [(2, .int (-1)), (3, .int 0), (1, .int 0), (0, .ref h0)]) hx hb gX12_one_6.1 rfl hl (by decide) rfl (fun ls hl => ?_)
  refine lv_iinc (v := 1) (lv' := [(3, .int 1), (2, .int (-1)), (1, .int 0), (0, .ref h0)]) hx hb gX12_one_6.2.1 hl (k := 1) rfl (by decide) (by decide) rfl (fun ls hl => ?_)
  refine lv_goto (tgt := 89) hx hb gX12_one_6.2.2.1 (by decide) ?_
  refine lv_iload_n hx hb gX12_one_4.2.2.2.2.2.2.2.1 rfl (lv_at0 hl) ?_
  refine lv_iconst (v := 5) hx hb gX12_one_4.2.2.2.2.2.2.2.2.1 (by decide) ?_
  refine lv_icmp_ge (tgt := 119) hx hb gX12_one_4.2.2.2.2.2.2.2.2.2 (by decide) (fun c9 => absurd c9 (by decide)) (fun _ => ?_)
  refine lv_aload_n hx hb gX12_one_5.1 rfl (lv_at3 hl) ?_
  refine lv_aload_n hx hb gX12_one_5.2.1 rfl (lv_at3 hl) ?_
  refine gf_X12_50 hC rfl hK hP 0 rfl rfl gX12_one_5.2.2.1 ?_
  refine lv_iload_n hx hb gX12_one_5.2.2.2.1 rfl (lv_at0 hl) ?_
  refine aldS hC hK hP 1 rfl (vin (by decide +kernel)) (k := 1) (by decide +kernel) (v := (K.1 12)) (rfl) gX12_one_5.2.2.2.2.1 ?_
  refine pVo hO hS hC hK hl hP hD (m_isNameF l G K 12 h0 nw nk mhasKept nt mtaped nr mrowMany mroundOf mroundFrom mouts nm mfromHour mtoHour ns mfrom mto msort mdeep mcoded mlines nl nc nF np ntr nb mbestCost nso nsi nit nsh nsf nss nrc mtraced mdealer mnumber mwhose msize misParted ((by decide))) si_X12_248 [0] sm_0 fm_0 nd_0 rfl rfl rfl rfl rfl (Nat.le_of_ble_eq_true rfl) rm_7_5_4 ⟨by first | exact Nat.le_of_ble_eq_true rfl | exact Nat.zero_le _, by first | exact Nat.le_of_ble_eq_true rfl | exact Nat.zero_le _⟩ gX12_one_5.2.2.2.2.2.1 (Keqr ?_)
  refine lv_if_eq (tgt := 111) hx hb gX12_one_5.2.2.2.2.2.2.1 (by decide) (fun _ => ?_) (fun c9 => absurd (by decide) c9)
  refine lv_iload_n hx hb gX12_one_5.2.2.2.2.2.2.2.2.2 rfl (lv_at1 hl) ?_
  refine lv_istore_n (lv' := [(2, .int (-1)), (3, .int 1), (1, .int 0), (0, .ref h0)]) hx hb gX12_one_6.1 rfl hl (by decide) rfl (fun ls hl => ?_)
  refine lv_iinc (v := 2) (lv' := [(3, .int 2), (2, .int (-1)), (1, .int 0), (0, .ref h0)]) hx hb gX12_one_6.2.1 hl (k := 1) rfl (by decide) (by decide) rfl (fun ls hl => ?_)
  refine lv_goto (tgt := 89) hx hb gX12_one_6.2.2.1 (by decide) ?_
  refine lv_iload_n hx hb gX12_one_4.2.2.2.2.2.2.2.1 rfl (lv_at0 hl) ?_
  refine lv_iconst (v := 5) hx hb gX12_one_4.2.2.2.2.2.2.2.2.1 (by decide) ?_
  refine lv_icmp_ge (tgt := 119) hx hb gX12_one_4.2.2.2.2.2.2.2.2.2 (by decide) (fun c9 => absurd c9 (by decide)) (fun _ => ?_)
  refine lv_aload_n hx hb gX12_one_5.1 rfl (lv_at3 hl) ?_
  refine lv_aload_n hx hb gX12_one_5.2.1 rfl (lv_at3 hl) ?_
  refine gf_X12_50 hC rfl hK hP 0 rfl rfl gX12_one_5.2.2.1 ?_
  refine lv_iload_n hx hb gX12_one_5.2.2.2.1 rfl (lv_at0 hl) ?_
  refine aldS hC hK hP 1 rfl (vin (by decide +kernel)) (k := 2) (by decide +kernel) (v := (K.1 13)) (rfl) gX12_one_5.2.2.2.2.1 ?_
  refine pVo hO hS hC hK hl hP hD (m_isNameF l G K 13 h0 nw nk mhasKept nt mtaped nr mrowMany mroundOf mroundFrom mouts nm mfromHour mtoHour ns mfrom mto msort mdeep mcoded mlines nl nc nF np ntr nb mbestCost nso nsi nit nsh nsf nss nrc mtraced mdealer mnumber mwhose msize misParted ((by decide))) si_X12_248 [0] sm_0 fm_0 nd_0 rfl rfl rfl rfl rfl (Nat.le_of_ble_eq_true rfl) rm_7_5_4 ⟨by first | exact Nat.le_of_ble_eq_true rfl | exact Nat.zero_le _, by first | exact Nat.le_of_ble_eq_true rfl | exact Nat.zero_le _⟩ gX12_one_5.2.2.2.2.2.1 (Keqr ?_)
  refine lv_if_eq (tgt := 111) hx hb gX12_one_5.2.2.2.2.2.2.1 (by decide) (fun _ => ?_) (fun c9 => absurd (by decide) c9)
  refine lv_iload_n hx hb gX12_one_5.2.2.2.2.2.2.2.2.2 rfl (lv_at1 hl) ?_
  refine lv_istore_n (lv' := [(2, .int (-1)), (3, .int 2), (1, .int 0), (0, .ref h0)]) hx hb gX12_one_6.1 rfl hl (by decide) rfl (fun ls hl => ?_)
  refine lv_iinc (v := 3) (lv' := [(3, .int 3), (2, .int (-1)), (1, .int 0), (0, .ref h0)]) hx hb gX12_one_6.2.1 hl (k := 1) rfl (by decide) (by decide) rfl (fun ls hl => ?_)
  refine lv_goto (tgt := 89) hx hb gX12_one_6.2.2.1 (by decide) ?_
  refine lv_iload_n hx hb gX12_one_4.2.2.2.2.2.2.2.1 rfl (lv_at0 hl) ?_
  refine lv_iconst (v := 5) hx hb gX12_one_4.2.2.2.2.2.2.2.2.1 (by decide) ?_
  refine lv_icmp_ge (tgt := 119) hx hb gX12_one_4.2.2.2.2.2.2.2.2.2 (by decide) (fun c9 => absurd c9 (by decide)) (fun _ => ?_)
  refine lv_aload_n hx hb gX12_one_5.1 rfl (lv_at3 hl) ?_
  refine lv_aload_n hx hb gX12_one_5.2.1 rfl (lv_at3 hl) ?_
  refine gf_X12_50 hC rfl hK hP 0 rfl rfl gX12_one_5.2.2.1 ?_
  refine lv_iload_n hx hb gX12_one_5.2.2.2.1 rfl (lv_at0 hl) ?_
  refine aldS hC hK hP 1 rfl (vin (by decide +kernel)) (k := 3) (by decide +kernel) (v := (K.1 14)) (rfl) gX12_one_5.2.2.2.2.1 ?_
  refine pVo hO hS hC hK hl hP hD (m_isNameF l G K 14 h0 nw nk mhasKept nt mtaped nr mrowMany mroundOf mroundFrom mouts nm mfromHour mtoHour ns mfrom mto msort mdeep mcoded mlines nl nc nF np ntr nb mbestCost nso nsi nit nsh nsf nss nrc mtraced mdealer mnumber mwhose msize misParted ((by decide))) si_X12_248 [0] sm_0 fm_0 nd_0 rfl rfl rfl rfl rfl (Nat.le_of_ble_eq_true rfl) rm_7_5_4 ⟨by first | exact Nat.le_of_ble_eq_true rfl | exact Nat.zero_le _, by first | exact Nat.le_of_ble_eq_true rfl | exact Nat.zero_le _⟩ gX12_one_5.2.2.2.2.2.1 (Keqr ?_)
  refine lv_if_eq (tgt := 111) hx hb gX12_one_5.2.2.2.2.2.2.1 (by decide) (fun _ => ?_) (fun c9 => absurd (by decide) c9)
  refine lv_iload_n hx hb gX12_one_5.2.2.2.2.2.2.2.2.2 rfl (lv_at1 hl) ?_
  refine lv_istore_n (lv' := [(2, .int (-1)), (3, .int 3), (1, .int 0), (0, .ref h0)]) hx hb gX12_one_6.1 rfl hl (by decide) rfl (fun ls hl => ?_)
  refine lv_iinc (v := 4) (lv' := [(3, .int 4), (2, .int (-1)), (1, .int 0), (0, .ref h0)]) hx hb gX12_one_6.2.1 hl (k := 1) rfl (by decide) (by decide) rfl (fun ls hl => ?_)
  refine lv_goto (tgt := 89) hx hb gX12_one_6.2.2.1 (by decide) ?_
  refine lv_iload_n hx hb gX12_one_4.2.2.2.2.2.2.2.1 rfl (lv_at0 hl) ?_
  refine lv_iconst (v := 5) hx hb gX12_one_4.2.2.2.2.2.2.2.2.1 (by decide) ?_
  refine lv_icmp_ge (tgt := 119) hx hb gX12_one_4.2.2.2.2.2.2.2.2.2 (by decide) (fun c9 => absurd c9 (by decide)) (fun _ => ?_)
  refine lv_aload_n hx hb gX12_one_5.1 rfl (lv_at3 hl) ?_
  refine lv_aload_n hx hb gX12_one_5.2.1 rfl (lv_at3 hl) ?_
  refine gf_X12_50 hC rfl hK hP 0 rfl rfl gX12_one_5.2.2.1 ?_
  refine lv_iload_n hx hb gX12_one_5.2.2.2.1 rfl (lv_at0 hl) ?_
  refine aldS hC hK hP 1 rfl (vin (by decide +kernel)) (k := 4) (by decide +kernel) (v := (K.1 15)) (rfl) gX12_one_5.2.2.2.2.1 ?_
  refine pVo hO hS hC hK hl hP hD (m_isNameF l G K 15 h0 nw nk mhasKept nt mtaped nr mrowMany mroundOf mroundFrom mouts nm mfromHour mtoHour ns mfrom mto msort mdeep mcoded mlines nl nc nF np ntr nb mbestCost nso nsi nit nsh nsf nss nrc mtraced mdealer mnumber mwhose msize misParted ((by decide))) si_X12_248 [0] sm_0 fm_0 nd_0 rfl rfl rfl rfl rfl (Nat.le_of_ble_eq_true rfl) rm_7_5_4 ⟨by first | exact Nat.le_of_ble_eq_true rfl | exact Nat.zero_le _, by first | exact Nat.le_of_ble_eq_true rfl | exact Nat.zero_le _⟩ gX12_one_5.2.2.2.2.2.1 (Keqr ?_)
  refine lv_if_eq (tgt := 111) hx hb gX12_one_5.2.2.2.2.2.2.1 (by decide) (fun _ => ?_) (fun c9 => absurd (by decide) c9)
  refine lv_iload_n hx hb gX12_one_5.2.2.2.2.2.2.2.2.2 rfl (lv_at1 hl) ?_
  refine lv_istore_n (lv' := [(2, .int (-1)), (3, .int 4), (1, .int 0), (0, .ref h0)]) hx hb gX12_one_6.1 rfl hl (by decide) rfl (fun ls hl => ?_)
  refine lv_iinc (v := 5) (lv' := [(3, .int 5), (2, .int (-1)), (1, .int 0), (0, .ref h0)]) hx hb gX12_one_6.2.1 hl (k := 1) rfl (by decide) (by decide) rfl (fun ls hl => ?_)
  refine lv_goto (tgt := 89) hx hb gX12_one_6.2.2.1 (by decide) ?_
  refine lv_iload_n hx hb gX12_one_4.2.2.2.2.2.2.2.1 rfl (lv_at0 hl) ?_
  refine lv_iconst (v := 5) hx hb gX12_one_4.2.2.2.2.2.2.2.2.1 (by decide) ?_
  refine lv_icmp_ge (tgt := 119) hx hb gX12_one_4.2.2.2.2.2.2.2.2.2 (by decide) (fun _ => ?_) (fun c9 => absurd (by decide) c9)
  refine lv_aload_n hx hb gX12_one_6.2.2.2.1 rfl (lv_at3 hl) ?_
  refine lv_iload_n hx hb gX12_one_6.2.2.2.2.1 rfl (lv_at1 hl) ?_
  refine lv_if_lt (tgt := 128) hx hb gX12_one_6.2.2.2.2.2.1 (by decide) (fun _ => ?_) (fun c9 => absurd (by decide) c9)
  refine lv_iconst (v := 0) hx hb gX12_one_6.2.2.2.2.2.2.2.2.1 (by decide) ?_
  refine vV (wr := [(nF, sA G 5 (FCT K))]) hC hK hl hP hD hS hA (m_needF l G h0 0 nw nk mhasKept nt mtaped nr mrowMany mroundOf mroundFrom mouts nm mfromHour mtoHour ns mfrom mto msort mdeep mcoded mlines nl nc nF np ntr nb mbestCost nso nsi nit nsh nsf nss nrc mtraced mdealer mnumber mwhose msize misParted) si_X12_236 [0] [1] sm_0 fm_0 nd_0 sm_1 nd_1 dj_0__1 rfl rfl rfl rfl rfl (Nat.le_of_ble_eq_true rfl) rm_7_4_2 ⟨Nat.le_of_ble_eq_true rfl, Nat.le_of_ble_eq_true rfl⟩ gX12_one_6.2.2.2.2.2.2.2.2.2 (fun u7608 H locs hr7607 hP hD hS => ?_)
  refine Kpdr (ws := [(nF, sA G 5 (FCT K)), (h0, oX12 nw nk mhasKept nt mtaped nr mrowMany mroundOf mroundFrom mouts nm mfromHour mtoHour ns mfrom mto msort 1 mdeep mcoded mlines nl nc nF np ntr nb mbestCost nso nsi nit nsh nsf nss nrc mtraced mdealer mnumber mwhose msize misParted)]) hP hD (fun hP hD => ?_)
  refine lv_aload_n hx hb gX12_one_7.1 rfl (lv_at3 hl) ?_
  refine lv_bipush (v := 60) hx hb gX12_one_7.2.1 (by decide) ?_
  refine pV hC hK hl hP hD (m_isSignF l G h0 60 nw nk mhasKept nt mtaped nr mrowMany mroundOf mroundFrom mouts nm mfromHour mtoHour ns mfrom mto msort mdeep mcoded mlines nl nc nF np ntr nb mbestCost nso nsi nit nsh nsf nss nrc mtraced mdealer mnumber mwhose msize misParted) si_X12_262 [1] sm_1 fm_1 nd_1 rfl rfl rfl rfl rfl (Nat.le_of_ble_eq_true rfl) rm_7_1_2 ⟨by first | exact Nat.le_of_ble_eq_true rfl | exact Nat.zero_le _, by first | exact Nat.le_of_ble_eq_true rfl | exact Nat.zero_le _⟩ gX12_one_7.2.2.1 (Keqr ?_)
  refine lv_if_eq (tgt := 145) hx hb gX12_one_7.2.2.2.1 (by decide) (fun _ => ?_) (fun c9 => absurd (by decide) c9)
  refine lv_aload_n hx hb gX12_one_7.2.2.2.2.2.2.1 rfl (lv_at3 hl) ?_
  refine lv_bipush (v := 61) hx hb gX12_one_7.2.2.2.2.2.2.2.1 (by decide) ?_
  refine pV hC hK hl hP hD (m_isSignF l G h0 61 nw nk mhasKept nt mtaped nr mrowMany mroundOf mroundFrom mouts nm mfromHour mtoHour ns mfrom mto msort mdeep mcoded mlines nl nc nF np ntr nb mbestCost nso nsi nit nsh nsf nss nrc mtraced mdealer mnumber mwhose msize misParted) si_X12_262 [1] sm_1 fm_1 nd_1 rfl rfl rfl rfl rfl (Nat.le_of_ble_eq_true rfl) rm_7_1_2 ⟨by first | exact Nat.le_of_ble_eq_true rfl | exact Nat.zero_le _, by first | exact Nat.le_of_ble_eq_true rfl | exact Nat.zero_le _⟩ gX12_one_7.2.2.2.2.2.2.2.2.1 (Keqr ?_)
  refine lv_if_eq (tgt := 158) hx hb gX12_one_7.2.2.2.2.2.2.2.2.2 (by decide) (fun _ => ?_) (fun c9 => absurd (by decide) c9)
  refine lv_iconst (v := 2) hx hb gX12_one_8.2.2.1 (by decide) ?_
  refine lv_istore_n (lv' := [(3, .int 2), (2, .int (-1)), (1, .int 0), (0, .ref h0)]) hx hb gX12_one_8.2.2.2.1 rfl hl (by decide) rfl (fun ls hl => ?_)
  refine lv_aload_n hx hb gX12_one_8.2.2.2.2.1 rfl (lv_at3 hl) ?_
  refine lv_aload_n hx hb gX12_one_8.2.2.2.2.2.1 rfl (lv_at3 hl) ?_
  refine lv_bipush (v := 60) hx hb gX12_one_8.2.2.2.2.2.2.1 (by decide) ?_
  refine pV hC hK hl hP hD (m_isSignF l G h0 60 nw nk mhasKept nt mtaped nr mrowMany mroundOf mroundFrom mouts nm mfromHour mtoHour ns mfrom mto msort mdeep mcoded mlines nl nc nF np ntr nb mbestCost nso nsi nit nsh nsf nss nrc mtraced mdealer mnumber mwhose msize misParted) si_X12_262 [1] sm_1 fm_1 nd_1 rfl rfl rfl rfl rfl (Nat.le_of_ble_eq_true rfl) rm_7_1_2 ⟨by first | exact Nat.le_of_ble_eq_true rfl | exact Nat.zero_le _, by first | exact Nat.le_of_ble_eq_true rfl | exact Nat.zero_le _⟩ gX12_one_8.2.2.2.2.2.2.2.1 (Keqr ?_)
  refine lv_if_ne (tgt := 188) hx hb gX12_one_8.2.2.2.2.2.2.2.2.1 (by decide) (fun c9 => absurd (by decide) c9) (fun _ => ?_)
  refine lv_aload_n hx hb gX12_one_8.2.2.2.2.2.2.2.2.2 rfl (lv_at3 hl) ?_
  refine lv_bipush (v := 61) hx hb gX12_one_9.1 (by decide) ?_
  refine pV hC hK hl hP hD (m_isSignF l G h0 61 nw nk mhasKept nt mtaped nr mrowMany mroundOf mroundFrom mouts nm mfromHour mtoHour ns mfrom mto msort mdeep mcoded mlines nl nc nF np ntr nb mbestCost nso nsi nit nsh nsf nss nrc mtraced mdealer mnumber mwhose msize misParted) si_X12_262 [1] sm_1 fm_1 nd_1 rfl rfl rfl rfl rfl (Nat.le_of_ble_eq_true rfl) rm_7_1_2 ⟨by first | exact Nat.le_of_ble_eq_true rfl | exact Nat.zero_le _, by first | exact Nat.le_of_ble_eq_true rfl | exact Nat.zero_le _⟩ gX12_one_9.2.1 (Keqr ?_)
  refine lv_if_ne (tgt := 188) hx hb gX12_one_9.2.2.1 (by decide) (fun c9 => absurd (by decide) c9) (fun _ => ?_)
  refine lv_aload_n hx hb gX12_one_9.2.2.2.1 rfl (lv_at3 hl) ?_
  refine lv_bipush (v := 62) hx hb gX12_one_9.2.2.2.2.1 (by decide) ?_
  refine pV hC hK hl hP hD (m_isSignF l G h0 62 nw nk mhasKept nt mtaped nr mrowMany mroundOf mroundFrom mouts nm mfromHour mtoHour ns mfrom mto msort mdeep mcoded mlines nl nc nF np ntr nb mbestCost nso nsi nit nsh nsf nss nrc mtraced mdealer mnumber mwhose msize misParted) si_X12_262 [1] sm_1 fm_1 nd_1 rfl rfl rfl rfl rfl (Nat.le_of_ble_eq_true rfl) rm_7_1_2 ⟨by first | exact Nat.le_of_ble_eq_true rfl | exact Nat.zero_le _, by first | exact Nat.le_of_ble_eq_true rfl | exact Nat.zero_le _⟩ gX12_one_9.2.2.2.2.2.1 (Keqr ?_)
  refine lv_if_eq (tgt := 192) hx hb gX12_one_9.2.2.2.2.2.2.1 (by decide) (fun _ => ?_) (fun c9 => absurd (by decide) c9)
  refine lv_iconst (v := 0) hx hb gX12_one_9.2.2.2.2.2.2.2.2.2 (by decide) ?_
  refine vV (wr := [(nF, sA G 5 (FCT K))]) hC hK hl hP hD hS hA (m_needF l G h0 0 nw nk mhasKept nt mtaped nr mrowMany mroundOf mroundFrom mouts nm mfromHour mtoHour ns mfrom mto msort mdeep mcoded mlines nl nc nF np ntr nb mbestCost nso nsi nit nsh nsf nss nrc mtraced mdealer mnumber mwhose msize misParted) si_X12_236 [1] [0] sm_1 fm_1 nd_1 sm_0 nd_0 dj_1__0 rfl rfl rfl rfl rfl (Nat.le_of_ble_eq_true rfl) rm_7_4_2 ⟨Nat.le_of_ble_eq_true rfl, Nat.le_of_ble_eq_true rfl⟩ gX12_one_10.1 (fun u7620 H locs hr7619 hP hD hS => ?_)
  refine Kpdr (ws := [(nF, sA G 5 (FCT K)), (h0, oX12 nw nk mhasKept nt mtaped nr mrowMany mroundOf mroundFrom mouts nm mfromHour mtoHour ns mfrom mto msort 1 mdeep mcoded mlines nl nc nF np ntr nb mbestCost nso nsi nit nsh nsf nss nrc mtraced mdealer mnumber mwhose msize misParted)]) hP hD (fun hP hD => ?_)
  refine lv_aload_n hx hb gX12_one_10.2.1 rfl (lv_at3 hl) ?_
  refine lv_sipush (v := 999) hx hb gX12_one_10.2.2.1 (by decide) ?_
  refine iV (wr := [(nF, sA G 5 (FCT K))]) hC hK hl hP hD hS hA (m_numberF l G h0 999 nw nk mhasKept nt mtaped nr mrowMany mroundOf mroundFrom mouts nm mfromHour mtoHour ns mfrom mto msort mdeep mcoded mlines nl nc nF np ntr nb mbestCost nso nsi nit nsh nsf nss nrc mtraced mdealer mnumber mwhose msize misParted) si_X12_271 [1] [0] sm_1 fm_1 nd_1 sm_0 nd_0 dj_1__0 rfl rfl rfl rfl rfl (Nat.le_of_ble_eq_true rfl) rm_7_5_5 ⟨Nat.le_of_ble_eq_true rfl, Nat.le_of_ble_eq_true rfl⟩ gX12_one_10.2.2.2.1 (fun r7621 u7622 H locs hr7621 hP hD hS => ?_)
  refine Kpdr (ws := [(nF, sA G 5 (FCT K)), (h0, oX12 nw nk mhasKept nt mtaped nr mrowMany mroundOf mroundFrom mouts nm mfromHour mtoHour ns mfrom mto msort 1 mdeep mcoded mlines nl nc nF np ntr nb mbestCost nso nsi nit nsh nsf nss nrc mtraced mdealer mnumber mwhose msize misParted)]) hP hD (fun hP hD => ?_)
  obtain rfl := hr7621
  refine lv_istore (lv' := [(4, .int 0), (3, .int 2), (2, .int (-1)), (1, .int 0), (0, .ref h0)]) hx hb gX12_one_10.2.2.2.2.1 hl (by decide) rfl (fun ls hl => ?_)
  refine lv_aload_n hx hb gX12_one_10.2.2.2.2.2.1 rfl (lv_at4 hl) ?_
  refine lv_sipush (v := 3000) hx hb gX12_one_10.2.2.2.2.2.2.1 (by decide) ?_
  refine lv_iload_n hx hb gX12_one_10.2.2.2.2.2.2.2.1 rfl (lv_at2 hl) ?_
  refine lv_imul hx hb gX12_one_10.2.2.2.2.2.2.2.2.1 ?_
  refine eqi (x1 := (-3000)) (by decide) ?_
  refine lv_sipush (v := 1000) hx hb gX12_one_10.2.2.2.2.2.2.2.2.2 (by decide) ?_
  refine lv_iload_n hx hb gX12_one_11.1 rfl (lv_at1 hl) ?_
  refine lv_imul hx hb gX12_one_11.2.1 ?_
  refine eqi (x1 := 2000) (by decide) ?_
  refine lv_iadd hx hb gX12_one_11.2.2.1 ?_
  refine eqi (x1 := (-1000)) (by decide) ?_
  refine lv_iload hx hb gX12_one_11.2.2.2.1 (lv_at0 hl) ?_
  refine lv_iadd hx hb gX12_one_11.2.2.2.2.1 ?_
  refine eqi (x1 := (-1000)) (by decide) ?_
  refine vV (wr := [(nF, sA G 5 (FCT K))]) hC hK hl hP hD hS hA (m_codesF l G h0 (-1000) nw nk mhasKept nt mtaped nr mrowMany mroundOf mroundFrom mouts nm mfromHour mtoHour ns mfrom mto msort mdeep mcoded mlines nl nc nF np ntr nb mbestCost nso nsi nit nsh nsf nss nrc mtraced mdealer mnumber mwhose msize misParted) si_X12_252 [1] [0] sm_1 fm_1 nd_1 sm_0 nd_0 dj_1__0 rfl rfl rfl rfl rfl (Nat.le_of_ble_eq_true rfl) rm_7_1_2 ⟨Nat.le_of_ble_eq_true rfl, Nat.le_of_ble_eq_true rfl⟩ gX12_one_11.2.2.2.2.2.1 (fun u7625 H locs hr7624 hP hD hS => ?_)
  refine Kpdr (ws := [(nF, sA G 5 (FCT K)), (h0, oX12 nw nk mhasKept nt mtaped nr mrowMany mroundOf mroundFrom mouts nm mfromHour mtoHour ns mfrom mto msort 1 mdeep mcoded mlines nl nc nF np ntr nb mbestCost nso nsi nit nsh nsf nss nrc mtraced mdealer mnumber mwhose msize misParted)]) hP hD (fun hP hD => ?_)
  refine lv_iconst (v := 0) hx hb gX12_one_11.2.2.2.2.2.2.1 (by decide) ?_
  refine lv_istore_n (lv' := [(2, .int 0), (4, .int 0), (3, .int 2), (1, .int 0), (0, .ref h0)]) hx hb gX12_one_11.2.2.2.2.2.2.2.1 rfl hl (by decide) rfl (fun ls hl => ?_)
  refine lv_iload_n hx hb gX12_one_11.2.2.2.2.2.2.2.2.1 rfl (lv_at0 hl) ?_
  refine lv_iload_n hx hb gX12_one_11.2.2.2.2.2.2.2.2.2 rfl (lv_at3 hl) ?_
  refine lv_icmp_ge (tgt := 243) hx hb gX12_one_12.1 (by decide) (fun _ => ?_) (fun c9 => absurd (by decide) c9)
  refine toQ hQ0 ?_
  exact RV hC hP hD hS [1, 0] () rfl rfl (by decide) (trivial) gX12_one_12.2.2.2.2.2.2
def K_m_allF (l : Launch) (G : GG) (K : OO) (h0 : Nat) (nw : Nat) (nk : Nat) (mhasKept : Int32) (nt : Nat) (mtaped : Int32) (nr : Nat) (mrowMany : Int32) (mroundOf : Int32) (mroundFrom : Int32) (mouts : Int32) (nm : Nat) (mfromHour : Int32) (mtoHour : Int32) (ns : Nat) (mfrom : Int32) (mto : Int32) (msort : Int32) (mdeep : Int32) (mcoded : Int32) (mlines : Int32) (nl : Nat) (nc : Nat) (nF : Nat) (np : Nat) (ntr : Nat) (nb : Nat) (mbestCost : Int32) (nso : Nat) (nsi : Nat) (nit : Nat) (nsh : Nat) (nsf : Nat) (nss : Nat) (nrc : Nat) (mtraced : Int32) (mdealer : Int32) (mnumber : Int32) (mwhose : Int32) (msize : Int32) (misParted : Int32) : Prop := MVo l G K yX12_all cX12_all 1 8 0 0 [.ref h0] [(h0, oX12 nw nk mhasKept nt mtaped nr mrowMany mroundOf mroundFrom mouts nm mfromHour mtoHour ns mfrom mto msort 1 mdeep mcoded mlines nl nc nF np ntr nb mbestCost nso nsi nit nsh nsf nss nrc mtraced mdealer mnumber mwhose msize misParted), (nF, sA G 5 (FCT K))] (fun u : Unit => True) (fun u : Unit => [(h0, oX12 nw nk mhasKept nt mtaped nr mrowMany mroundOf mroundFrom mouts nm mfromHour mtoHour ns mfrom mto msort 1 mdeep mcoded mlines nl nc nF np ntr nb mbestCost nso nsi nit nsh nsf nss nrc mtraced mdealer mnumber mwhose msize misParted), (nF, sA G 5 (FCT K))])
set_option maxHeartbeats 4000000 in
set_option maxRecDepth 100000 in
theorem m_allF (l : Launch) (G : GG) (K : OO) (h0 : Nat) (nw : Nat) (nk : Nat) (mhasKept : Int32) (nt : Nat) (mtaped : Int32) (nr : Nat) (mrowMany : Int32) (mroundOf : Int32) (mroundFrom : Int32) (mouts : Int32) (nm : Nat) (mfromHour : Int32) (mtoHour : Int32) (ns : Nat) (mfrom : Int32) (mto : Int32) (msort : Int32) (mdeep : Int32) (mcoded : Int32) (mlines : Int32) (nl : Nat) (nc : Nat) (nF : Nat) (np : Nat) (ntr : Nat) (nb : Nat) (mbestCost : Int32) (nso : Nat) (nsi : Nat) (nit : Nat) (nsh : Nat) (nsf : Nat) (nss : Nat) (nrc : Nat) (mtraced : Int32) (mdealer : Int32) (mnumber : Int32) (mwhose : Int32) (msize : Int32) (misParted : Int32) : K_m_allF l G K h0 nw nk mhasKept nt mtaped nr mrowMany mroundOf mroundFrom mouts nm mfromHour mtoHour ns mfrom mto msort mdeep mcoded mlines nl nc nF np ntr nb mbestCost nso nsi nit nsh nsf nss nrc mtraced mdealer mnumber mwhose msize misParted := by
  refine MVo.start (by decide +kernel) (Nat.le_of_ble_eq_true rfl) ?_
  intro p e s m below meth c A ls hC hK hP hD hS hA hl hO
  refine absQ (fun Q0 hQ0 => ?_)
  have hl : lv_has ls 1 [(0, .ref h0)] := hl
  refine Kan8 hC (fun hx hb hr hml hB hown hlocks hnm => ?_)
  refine lv_aload_n hx hb gX12_all_0.1 rfl (lv_at0 hl) ?_
  refine vVo (wr := []) hO hC hK hl hP hD hS hA (m_oneF l G K h0 nw nk mhasKept nt mtaped nr mrowMany mroundOf mroundFrom mouts nm mfromHour mtoHour ns mfrom mto msort mdeep mcoded mlines nl nc nF np ntr nb mbestCost nso nsi nit nsh nsf nss nrc mtraced mdealer mnumber mwhose msize misParted) si_X12_255 [0, 1] [] sm_0_1 fm_0_1 nd_0_1 rfl rfl (by decide) rfl rfl rfl rfl rfl (Nat.le_of_ble_eq_true rfl) rm_8_7_5 ⟨Nat.le_of_ble_eq_true rfl, Nat.le_of_ble_eq_true rfl⟩ gX12_all_0.2.1 (fun u7627 H locs hr7626 hP hD hS => ?_)
  refine Kpdr (ws := [(h0, oX12 nw nk mhasKept nt mtaped nr mrowMany mroundOf mroundFrom mouts nm mfromHour mtoHour ns mfrom mto msort 1 mdeep mcoded mlines nl nc nF np ntr nb mbestCost nso nsi nit nsh nsf nss nrc mtraced mdealer mnumber mwhose msize misParted), (nF, sA G 5 (FCT K))]) hP hD (fun hP hD => ?_)
  refine lv_aload_n hx hb gX12_all_0.2.2.1 rfl (lv_at0 hl) ?_
  refine va_ldcSw (index := 258) (tx := "and") hx hb hown (hO.2.2 9 (by decide)) gX12_all_0.2.2.2.1 ?_
  refine pVo hO hS hC hK hl hP hD (m_isNameF l G K 9 h0 nw nk mhasKept nt mtaped nr mrowMany mroundOf mroundFrom mouts nm mfromHour mtoHour ns mfrom mto msort mdeep mcoded mlines nl nc nF np ntr nb mbestCost nso nsi nit nsh nsf nss nrc mtraced mdealer mnumber mwhose msize misParted ((by decide))) si_X12_248 [0] sm_0 fm_0 nd_0 rfl rfl rfl rfl rfl (Nat.le_of_ble_eq_true rfl) rm_8_5_4 ⟨by first | exact Nat.le_of_ble_eq_true rfl | exact Nat.zero_le _, by first | exact Nat.le_of_ble_eq_true rfl | exact Nat.zero_le _⟩ gX12_all_0.2.2.2.2.1 (Keqr ?_)
  refine lv_if_eq (tgt := 32) hx hb gX12_all_0.2.2.2.2.2.1 (by decide) (fun _ => ?_) (fun c9 => absurd (by decide) c9)
  refine toQ hQ0 ?_
  exact RV hC hP hD hS [0, 1] () rfl rfl (by decide) (trivial) gX12_all_1.2.2.2.2
def K_m_eitherF (l : Launch) (G : GG) (K : OO) (h0 : Nat) (nw : Nat) (nk : Nat) (mhasKept : Int32) (nt : Nat) (mtaped : Int32) (nr : Nat) (mrowMany : Int32) (mroundOf : Int32) (mroundFrom : Int32) (mouts : Int32) (nm : Nat) (mfromHour : Int32) (mtoHour : Int32) (ns : Nat) (mfrom : Int32) (mto : Int32) (msort : Int32) (mdeep : Int32) (mcoded : Int32) (mlines : Int32) (nl : Nat) (nc : Nat) (nF : Nat) (np : Nat) (ntr : Nat) (nb : Nat) (mbestCost : Int32) (nso : Nat) (nsi : Nat) (nit : Nat) (nsh : Nat) (nsf : Nat) (nss : Nat) (nrc : Nat) (mtraced : Int32) (mdealer : Int32) (mnumber : Int32) (mwhose : Int32) (msize : Int32) (misParted : Int32) : Prop := MVo l G K yX12_either cX12_either 1 9 0 0 [.ref h0] [(h0, oX12 nw nk mhasKept nt mtaped nr mrowMany mroundOf mroundFrom mouts nm mfromHour mtoHour ns mfrom mto msort 1 mdeep mcoded mlines nl nc nF np ntr nb mbestCost nso nsi nit nsh nsf nss nrc mtraced mdealer mnumber mwhose msize misParted), (nF, sA G 5 (FCT K))] (fun u : Unit => True) (fun u : Unit => [(h0, oX12 nw nk mhasKept nt mtaped nr mrowMany mroundOf mroundFrom mouts nm mfromHour mtoHour ns mfrom mto msort 1 mdeep mcoded mlines nl nc nF np ntr nb mbestCost nso nsi nit nsh nsf nss nrc mtraced mdealer mnumber mwhose msize misParted), (nF, sA G 5 (FCT K))])
set_option maxHeartbeats 4000000 in
set_option maxRecDepth 100000 in
theorem m_eitherF (l : Launch) (G : GG) (K : OO) (h0 : Nat) (nw : Nat) (nk : Nat) (mhasKept : Int32) (nt : Nat) (mtaped : Int32) (nr : Nat) (mrowMany : Int32) (mroundOf : Int32) (mroundFrom : Int32) (mouts : Int32) (nm : Nat) (mfromHour : Int32) (mtoHour : Int32) (ns : Nat) (mfrom : Int32) (mto : Int32) (msort : Int32) (mdeep : Int32) (mcoded : Int32) (mlines : Int32) (nl : Nat) (nc : Nat) (nF : Nat) (np : Nat) (ntr : Nat) (nb : Nat) (mbestCost : Int32) (nso : Nat) (nsi : Nat) (nit : Nat) (nsh : Nat) (nsf : Nat) (nss : Nat) (nrc : Nat) (mtraced : Int32) (mdealer : Int32) (mnumber : Int32) (mwhose : Int32) (msize : Int32) (misParted : Int32) : K_m_eitherF l G K h0 nw nk mhasKept nt mtaped nr mrowMany mroundOf mroundFrom mouts nm mfromHour mtoHour ns mfrom mto msort mdeep mcoded mlines nl nc nF np ntr nb mbestCost nso nsi nit nsh nsf nss nrc mtraced mdealer mnumber mwhose msize misParted := by
  refine MVo.start (by decide +kernel) (Nat.le_of_ble_eq_true rfl) ?_
  intro p e s m below meth c A ls hC hK hP hD hS hA hl hO
  refine absQ (fun Q0 hQ0 => ?_)
  have hl : lv_has ls 1 [(0, .ref h0)] := hl
  refine Kan8 hC (fun hx hb hr hml hB hown hlocks hnm => ?_)
  refine lv_aload_n hx hb gX12_either_0.1 rfl (lv_at0 hl) ?_
  refine vVo (wr := []) hO hC hK hl hP hD hS hA (m_allF l G K h0 nw nk mhasKept nt mtaped nr mrowMany mroundOf mroundFrom mouts nm mfromHour mtoHour ns mfrom mto msort mdeep mcoded mlines nl nc nF np ntr nb mbestCost nso nsi nit nsh nsf nss nrc mtraced mdealer mnumber mwhose msize misParted) si_X12_243 [0, 1] [] sm_0_1 fm_0_1 nd_0_1 rfl rfl (by decide) rfl rfl rfl rfl rfl (Nat.le_of_ble_eq_true rfl) rm_9_8_1 ⟨Nat.le_of_ble_eq_true rfl, Nat.le_of_ble_eq_true rfl⟩ gX12_either_0.2.1 (fun u7631 H locs hr7630 hP hD hS => ?_)
  refine Kpdr (ws := [(h0, oX12 nw nk mhasKept nt mtaped nr mrowMany mroundOf mroundFrom mouts nm mfromHour mtoHour ns mfrom mto msort 1 mdeep mcoded mlines nl nc nF np ntr nb mbestCost nso nsi nit nsh nsf nss nrc mtraced mdealer mnumber mwhose msize misParted), (nF, sA G 5 (FCT K))]) hP hD (fun hP hD => ?_)
  refine lv_aload_n hx hb gX12_either_0.2.2.1 rfl (lv_at0 hl) ?_
  refine va_ldcS (index := 246) (tx := "o\x72") hx hb hown (hO.2.2 8 (by decide)) gX12_either_0.2.2.2.1 ?_
  refine pVo hO hS hC hK hl hP hD (m_isNameF l G K 8 h0 nw nk mhasKept nt mtaped nr mrowMany mroundOf mroundFrom mouts nm mfromHour mtoHour ns mfrom mto msort mdeep mcoded mlines nl nc nF np ntr nb mbestCost nso nsi nit nsh nsf nss nrc mtraced mdealer mnumber mwhose msize misParted ((by decide))) si_X12_248 [0] sm_0 fm_0 nd_0 rfl rfl rfl rfl rfl (Nat.le_of_ble_eq_true rfl) rm_9_5_4 ⟨by first | exact Nat.le_of_ble_eq_true rfl | exact Nat.zero_le _, by first | exact Nat.le_of_ble_eq_true rfl | exact Nat.zero_le _⟩ gX12_either_0.2.2.2.2.1 (Keqr ?_)
  refine lv_if_eq (tgt := 31) hx hb gX12_either_0.2.2.2.2.2.1 (by decide) (fun _ => ?_) (fun c9 => absurd (by decide) c9)
  refine toQ hQ0 ?_
  exact RV hC hP hD hS [0, 1] () rfl rfl (by decide) (trivial) gX12_either_1.2.2.2.2
def K_m_one (l : Launch) (G : GG) (K : OO) (mn : Nat) (h0 : Nat) (nw : Nat) (nk : Nat) (mhasKept : Int32) (nt : Nat) (ktp : Nat) (nr : Nat) (mrowMany : Int32) (mroundOf : Int32) (mroundFrom : Int32) (mouts : Int32) (nm : Nat) (mfromHour : Int32) (mtoHour : Int32) (ns : Nat) (kf : Nat) (kt : Nat) (so : Int32) (jd : Nat) (kc : Nat) (mlines : Int32) (nl : Nat) (nc : Nat) (nF : Nat) (np : Nat) (ntr : Nat) (nb : Nat) (mbestCost : Int32) (nso : Nat) (nsi : Nat) (nit : Nat) (nsh : Nat) (nsf : Nat) (nss : Nat) (nrc : Nat) (mtraced : Int32) (mdealer : Int32) (mnumber : Int32) (mwhose : Int32) (msize : Int32) (misParted : Int32) (fnt : Nat → Int32) (fnc : Nat → Int32) : Prop := MVo l G K yX12_one cX12_one 5 (10 + 4 * mn) 0 0 [.ref h0] [(h0, oX12 nw nk mhasKept nt (nI ktp) nr mrowMany mroundOf mroundFrom mouts nm mfromHour mtoHour ns (nI kf) (nI kt) so 0 (nI jd) (nI kc) mlines nl nc nF np ntr nb mbestCost nso nsi nit nsh nsf nss nrc mtraced mdealer mnumber mwhose msize misParted), (nt, iA G 240 fnt), (nc, iA G 100 fnc), (nF, sA G 5 (FCT K))] (fun u : Int32 × Nat × Nat × Int32 × Nat × (Nat → Int32) => u.1 = 1 ∨ (u.1 = 0 ∧ TOK fnt u.2.2.2.1 u.2.1 u.2.2.1 ktp ∧ EXPR fnc u.2.2.2.2.2 kc u.2.2.2.2.1 kf u.2.1)) (fun u : Int32 × Nat × Nat × Int32 × Nat × (Nat → Int32) => [(h0, oX12 nw nk mhasKept nt (nI ktp) nr mrowMany mroundOf mroundFrom mouts nm mfromHour mtoHour ns (nI u.2.1) (nI u.2.2.1) u.2.2.2.1 u.1 (nI jd) (nI u.2.2.2.2.1) mlines nl nc nF np ntr nb mbestCost nso nsi nit nsh nsf nss nrc mtraced mdealer mnumber mwhose msize misParted), (nt, iA G 240 fnt), (nc, iA G 100 u.2.2.2.2.2), (nF, sA G 5 (FCT K))])
set_option maxHeartbeats 4000000 in
set_option maxRecDepth 100000 in
theorem m_one (l : Launch) (G : GG) (K : OO) (mn : Nat) (h0 : Nat) (nw : Nat) (nk : Nat) (mhasKept : Int32) (nt : Nat) (ktp : Nat) (nr : Nat) (mrowMany : Int32) (mroundOf : Int32) (mroundFrom : Int32) (mouts : Int32) (nm : Nat) (mfromHour : Int32) (mtoHour : Int32) (ns : Nat) (kf : Nat) (kt : Nat) (so : Int32) (jd : Nat) (kc : Nat) (mlines : Int32) (nl : Nat) (nc : Nat) (nF : Nat) (np : Nat) (ntr : Nat) (nb : Nat) (mbestCost : Int32) (nso : Nat) (nsi : Nat) (nit : Nat) (nsh : Nat) (nsf : Nat) (nss : Nat) (nrc : Nat) (mtraced : Int32) (mdealer : Int32) (mnumber : Int32) (mwhose : Int32) (msize : Int32) (misParted : Int32) (fnt : Nat → Int32) (fnc : Nat → Int32) (hT : TOK fnt so kf kt ktp) (htp : ktp ≤ 240) (h3c : 3 * kc ≤ kf) (hjm : jd + mn = 4) (ihE : ∀ m9, m9 < mn → ∀ (h0 : Nat) (nw : Nat) (nk : Nat) (mhasKept : Int32) (nt : Nat) (ktp : Nat) (nr : Nat) (mrowMany : Int32) (mroundOf : Int32) (mroundFrom : Int32) (mouts : Int32) (nm : Nat) (mfromHour : Int32) (mtoHour : Int32) (ns : Nat) (kf : Nat) (kt : Nat) (so : Int32) (jd : Nat) (kc : Nat) (mlines : Int32) (nl : Nat) (nc : Nat) (nF : Nat) (np : Nat) (ntr : Nat) (nb : Nat) (mbestCost : Int32) (nso : Nat) (nsi : Nat) (nit : Nat) (nsh : Nat) (nsf : Nat) (nss : Nat) (nrc : Nat) (mtraced : Int32) (mdealer : Int32) (mnumber : Int32) (mwhose : Int32) (msize : Int32) (misParted : Int32) (fnt : Nat → Int32) (fnc : Nat → Int32) (hT : TOK fnt so kf kt ktp) (htp : ktp ≤ 240) (h3c : 3 * kc ≤ kf) (hjm : jd + m9 = 4), MVo l G K yX12_either cX12_either 1 (12 + 4 * m9) 0 0 [.ref h0] [(h0, oX12 nw nk mhasKept nt (nI ktp) nr mrowMany mroundOf mroundFrom mouts nm mfromHour mtoHour ns (nI kf) (nI kt) so 0 (nI jd) (nI kc) mlines nl nc nF np ntr nb mbestCost nso nsi nit nsh nsf nss nrc mtraced mdealer mnumber mwhose msize misParted), (nt, iA G 240 fnt), (nc, iA G 100 fnc), (nF, sA G 5 (FCT K))] (fun u : Int32 × Nat × Nat × Int32 × Nat × (Nat → Int32) => u.1 = 1 ∨ (u.1 = 0 ∧ TOK fnt u.2.2.2.1 u.2.1 u.2.2.1 ktp ∧ EXPR fnc u.2.2.2.2.2 kc u.2.2.2.2.1 kf u.2.1)) (fun u : Int32 × Nat × Nat × Int32 × Nat × (Nat → Int32) => [(h0, oX12 nw nk mhasKept nt (nI ktp) nr mrowMany mroundOf mroundFrom mouts nm mfromHour mtoHour ns (nI u.2.1) (nI u.2.2.1) u.2.2.2.1 u.1 (nI jd) (nI u.2.2.2.2.1) mlines nl nc nF np ntr nb mbestCost nso nsi nit nsh nsf nss nrc mtraced mdealer mnumber mwhose msize misParted), (nt, iA G 240 fnt), (nc, iA G 100 u.2.2.2.2.2), (nF, sA G 5 (FCT K))])) : K_m_one l G K mn h0 nw nk mhasKept nt ktp nr mrowMany mroundOf mroundFrom mouts nm mfromHour mtoHour ns kf kt so jd kc mlines nl nc nF np ntr nb mbestCost nso nsi nit nsh nsf nss nrc mtraced mdealer mnumber mwhose msize misParted fnt fnc := by
  refine MVo.start (by decide +kernel) (Nat.le_of_ble_eq_true rfl) ?_
  intro p e s m below meth c A ls hC hK hP hD hS hA hl hO
  refine absQ (fun Q0 hQ0 => ?_)
  have hl : lv_has ls 5 [(0, .ref h0)] := hl
  refine Kan8 hC (fun hx hb hr hml hB hown hlocks hnm => ?_)
  refine lv_iconst (v := 0) hx hb gX12_one_0.1 (by decide) ?_
  refine lv_istore_n (lv' := [(1, .int 0), (0, .ref h0)]) hx hb gX12_one_0.2.1 rfl hl (by decide) rfl (fun ls hl => ?_)
  have keyT : ∀ (nT : Nat) (vn : Nat) (vs : Int32) (vf : Nat) (vt : Nat) (H : Heap) (locs : List Loc) (ls : Array Slot), (TOK fnt vs vf vt ktp) → (kf + 3 * vn ≤ vf) → (241 ≤ vf + nT) → va_PD G A [(h0, oX12 nw nk mhasKept nt (nI ktp) nr mrowMany mroundOf mroundFrom mouts nm mfromHour mtoHour ns (nI vf) (nI vt) vs 0 (nI jd) (nI kc) mlines nl nc nF np ntr nb mbestCost nso nsi nit nsh nsf nss nrc mtraced mdealer mnumber mwhose msize misParted), (nt, iA G 240 fnt), (nc, iA G 100 fnc), (nF, sA G 5 (FCT K))] H → va_S A s.heap H locs → lv_has ls 5 [(1, .int (nI vn)), (0, .ref h0)] → W p l e (RM (10 + 4 * mn) 0 0) s m ([.ref h0] : List Value).toArray below meth c H locs 0 0 Q0 (F0 m 2 ls []) := by
    intro nT
    induction nT with
    | zero =>
      intro vn vs vf vt H locs ls hTT hT2 hT3 hPD hS hl
      refine Kan2 hPD (fun hP hD => ?_)
      have tA7634 := hTT.1
      have tB7634 := hTT.2.1
      exact (show False by omega).elim
    | succ nT ihT =>
      intro vn vs vf vt H locs ls hTT hT2 hT3 hPD hS hl
      refine Kan2 hPD (fun hP hD => ?_)
      have tA7636 := hTT.1
      have tB7636 := hTT.2.1
      refine lv_aload_n hx hb gX12_one_0.2.2.1 rfl (lv_at1 hl) ?_
      refine va_ldcSw (index := 260) (tx := "not") hx hb hown (hO.2.2 10 (by decide)) gX12_one_0.2.2.2.1 ?_
      refine pVo hO hS hC hK hl hP hD (m_isName0 l G K 10 h0 nw nk mhasKept nt ktp nr mrowMany mroundOf mroundFrom mouts nm mfromHour mtoHour ns vf vt vs (nI jd) (nI kc) mlines nl nc nF np ntr nb mbestCost nso nsi nit nsh nsf nss nrc mtraced mdealer mnumber mwhose msize misParted fnt ((by decide)) (hTT) (htp)) si_X12_248 [0, 1] sm_0_1 fm_0_1 nd_0_1 rfl rfl rfl rfl rfl (Nat.le_of_ble_eq_true rfl) (rmT (Nat.le_of_ble_eq_true rfl) (Nat.le_of_ble_eq_true rfl)) ⟨by first | exact Nat.le_of_ble_eq_true rfl | exact Nat.zero_le _, by first | exact Nat.le_of_ble_eq_true rfl | exact Nat.zero_le _⟩ gX12_one_0.2.2.2.2.1 (Kors (Keqa fun a7639 => ?_) (Keqr ?_))
      · refine lv_if_eq (tgt := 22) hx hb gX12_one_0.2.2.2.2.2.1 (by decide) (fun c9 => absurd c9 (by decide)) (fun _ => ?_)
        refine lv_aload_n hx hb gX12_one_0.2.2.2.2.2.2.1 rfl (lv_at1 hl) ?_
        have tI7640 : vt = vf + 3 := a7639.2
        refine vV (wr := [(nc, iA G 100 fnc), (nF, sA G 5 (FCT K))]) hC hK hl hP hD hS hA (m_next l G h0 nw nk mhasKept nt ktp nr mrowMany mroundOf mroundFrom mouts nm mfromHour mtoHour ns (nI vf) vt vs 0 (nI jd) (nI kc) mlines nl nc nF np ntr nb mbestCost nso nsi nit nsh nsf nss nrc mtraced mdealer mnumber mwhose msize misParted fnt (by omega) (htp)) si_X12_233 [0, 1] [2, 3] sm_0_1 fm_0_1 nd_0_1 sm_2_3 nd_2_3 dj_0_1__2_3 rfl rfl rfl rfl rfl (Nat.le_of_ble_eq_true rfl) (rmT (Nat.le_of_ble_eq_true rfl) (Nat.le_of_ble_eq_true rfl)) ⟨Nat.le_of_ble_eq_true rfl, Nat.le_of_ble_eq_true rfl⟩ gX12_one_0.2.2.2.2.2.2.2.1 (Ktu3 fun kf17643 kt17644 so17645 => ?_)
        intro H locs hr7641 hP hD hS
        try dsimp only at hr7641
        refine Kpdr (ws := [(nc, iA G 100 fnc), (nF, sA G 5 (FCT K)), (h0, oX12 nw nk mhasKept nt (nI ktp) nr mrowMany mroundOf mroundFrom mouts nm mfromHour mtoHour ns (nI kf17643) (nI kt17644) so17645 0 (nI jd) (nI kc) mlines nl nc nF np ntr nb mbestCost nso nsi nit nsh nsf nss nrc mtraced mdealer mnumber mwhose msize misParted), (nt, iA G 240 fnt)]) hP hD (fun hP hD => ?_)
        have hw7647_0 := hr7641.1
        have hw7647_1 := hr7641.2
        have tA7649 := hw7647_1.1
        have tB7649 := hw7647_1.2.1
        refine lv_iinc (v := nI (vn + 1)) (lv' := [(1, .int (nI (vn + 1))), (0, .ref h0)]) hx hb gX12_one_0.2.2.2.2.2.2.2.2.1 hl (k := 0) rfl (nI_1 _) (by decide) rfl (fun ls hl => ?_)
        refine lv_goto (tgt := 2) hx hb gX12_one_0.2.2.2.2.2.2.2.2.2 (by decide) ?_
        refine Kpds (ws' := [(h0, oX12 nw nk mhasKept nt (nI ktp) nr mrowMany mroundOf mroundFrom mouts nm mfromHour mtoHour ns (nI kf17643) (nI kt17644) so17645 0 (nI jd) (nI kc) mlines nl nc nF np ntr nb mbestCost nso nsi nit nsh nsf nss nrc mtraced mdealer mnumber mwhose msize misParted), (nt, iA G 240 fnt), (nc, iA G 100 fnc), (nF, sA G 5 (FCT K))]) hP hD [2, 3, 0, 1] fm_2_3_0_1 nd_2_3_0_1 sm_2_3_0_1 (fun hP hD => ?_)
        exact ihT (vn + 1) so17645 kf17643 kt17644 _ _ _ (hw7647_1) (by omega) (by omega) (And.intro hP hD) hS (lv_sub hl [0, 1] rfl)
      · refine lv_if_eq (tgt := 22) hx hb gX12_one_0.2.2.2.2.2.1 (by decide) (fun _ => ?_) (fun c9 => absurd (by decide) c9)
        refine lv_aload_n hx hb gX12_one_1.1 rfl (lv_at1 hl) ?_
        refine lv_bipush (v := 40) hx hb gX12_one_1.2.1 (by decide) ?_
        refine pV hC hK hl hP hD (m_isSign0 l G h0 40 nw nk mhasKept nt ktp nr mrowMany mroundOf mroundFrom mouts nm mfromHour mtoHour ns vf vt vs (nI jd) (nI kc) mlines nl nc nF np ntr nb mbestCost nso nsi nit nsh nsf nss nrc mtraced mdealer mnumber mwhose msize misParted fnt (hTT) (htp)) si_X12_262 [0, 1] sm_0_1 fm_0_1 nd_0_1 rfl rfl rfl rfl rfl (Nat.le_of_ble_eq_true rfl) (rmT (Nat.le_of_ble_eq_true rfl) (Nat.le_of_ble_eq_true rfl)) ⟨by first | exact Nat.le_of_ble_eq_true rfl | exact Nat.zero_le _, by first | exact Nat.le_of_ble_eq_true rfl | exact Nat.zero_le _⟩ gX12_one_1.2.2.1 (Kors (Keqa fun a7651 => ?_) (Keqa fun a7651 => ?_))
        · refine lv_if_eq (tgt := 85) hx hb gX12_one_1.2.2.2.1 (by decide) (fun c9 => absurd c9 (by decide)) (fun _ => ?_)
          refine lv_aload_n hx hb gX12_one_1.2.2.2.2.1 rfl (lv_at1 hl) ?_
          refine lv_dup hx hb gX12_one_1.2.2.2.2.2.1 rfl ?_
          refine gf_X12_265 hC rfl hK hP 0 rfl rfl gX12_one_1.2.2.2.2.2.2.1 ?_
          refine lv_iconst (v := 1) hx hb gX12_one_1.2.2.2.2.2.2.2.1 (by decide) ?_
          refine lv_iadd hx hb gX12_one_1.2.2.2.2.2.2.2.2.1 ?_
          refine eqi (x1 := nI (jd + 1)) (nI_add jd 1) ?_
          refine pf_X12_265 hC rfl hK hP hD hS 0 (ws' := [(h0, oX12 nw nk mhasKept nt (nI ktp) nr mrowMany mroundOf mroundFrom mouts nm mfromHour mtoHour ns (nI vf) (nI vt) vs 0 (nI (jd + 1)) (nI kc) mlines nl nc nF np ntr nb mbestCost nso nsi nit nsh nsf nss nrc mtraced mdealer mnumber mwhose msize misParted), (nt, iA G 240 fnt), (nc, iA G 100 fnc), (nF, sA G 5 (FCT K))]) rfl (Nat.le_of_ble_eq_true rfl) rfl rfl rfl gX12_one_1.2.2.2.2.2.2.2.2.2 (fun H locs hP hD hS => ?_)
          refine lv_aload_n hx hb gX12_one_2.1 rfl (lv_at1 hl) ?_
          refine lv_aload_n hx hb gX12_one_2.2.1 rfl (lv_at1 hl) ?_
          refine gf_X12_265 hC rfl hK hP 0 rfl rfl gX12_one_2.2.2.1 ?_
          refine lv_iconst (v := 4) hx hb gX12_one_2.2.2.2.1 (by decide) ?_
          refine lv_icmp_gt (tgt := 54) hx hb gX12_one_2.2.2.2.2.1 (by decide) (fun c_47_7652 => ?_) (fun c_47_7652 => ?_)
          · refine lv_iconst (v := 0) hx hb gX12_one_2.2.2.2.2.2.2.2.1 (by decide) ?_
            have tI7653 := a7651.1
            refine vV (wr := [(nt, iA G 240 fnt), (nc, iA G 100 fnc), (nF, sA G 5 (FCT K))]) hC hK hl hP hD hS hA (m_need0 l G h0 nw nk mhasKept nt (nI ktp) nr mrowMany mroundOf mroundFrom mouts nm mfromHour mtoHour ns (nI vf) (nI vt) vs (nI (jd + 1)) (nI kc) mlines nl nc nF np ntr nb mbestCost nso nsi nit nsh nsf nss nrc mtraced mdealer mnumber mwhose msize misParted) si_X12_236 [0] [1, 2, 3] sm_0 fm_0 nd_0 sm_1_2_3 nd_1_2_3 dj_0__1_2_3 rfl rfl rfl rfl rfl (Nat.le_of_ble_eq_true rfl) (rmT (Nat.le_of_ble_eq_true rfl) (Nat.le_of_ble_eq_true rfl)) ⟨Nat.le_of_ble_eq_true rfl, Nat.le_of_ble_eq_true rfl⟩ gX12_one_2.2.2.2.2.2.2.2.2.1 (fun u7655 H locs hr7654 hP hD hS => ?_)
            refine Kpdr (ws := [(nt, iA G 240 fnt), (nc, iA G 100 fnc), (nF, sA G 5 (FCT K)), (h0, oX12 nw nk mhasKept nt (nI ktp) nr mrowMany mroundOf mroundFrom mouts nm mfromHour mtoHour ns (nI vf) (nI vt) vs 1 (nI (jd + 1)) (nI kc) mlines nl nc nF np ntr nb mbestCost nso nsi nit nsh nsf nss nrc mtraced mdealer mnumber mwhose msize misParted)]) hP hD (fun hP hD => ?_)
            refine lv_aload_n hx hb gX12_one_2.2.2.2.2.2.2.2.2.2 rfl (lv_at1 hl) ?_
            refine vVo (wr := [(nt, iA G 240 fnt), (nc, iA G 100 fnc)]) hO hC hK hl hP hD hS hA (m_eitherF l G K h0 nw nk mhasKept nt (nI ktp) nr mrowMany mroundOf mroundFrom mouts nm mfromHour mtoHour ns (nI vf) (nI vt) vs (nI (jd + 1)) (nI kc) mlines nl nc nF np ntr nb mbestCost nso nsi nit nsh nsf nss nrc mtraced mdealer mnumber mwhose msize misParted) si_X12_268 [3, 2] [0, 1] sm_3_2 fm_3_2 nd_3_2 sm_0_1 nd_0_1 dj_3_2__0_1 rfl rfl rfl rfl rfl (Nat.le_of_ble_eq_true rfl) (rmT (Nat.le_of_ble_eq_true rfl) (Nat.le_of_ble_eq_true rfl)) ⟨Nat.le_of_ble_eq_true rfl, Nat.le_of_ble_eq_true rfl⟩ gX12_one_3.1 (fun u7657 H locs hr7656 hP hD hS => ?_)
            refine Kpdr (ws := [(nt, iA G 240 fnt), (nc, iA G 100 fnc), (h0, oX12 nw nk mhasKept nt (nI ktp) nr mrowMany mroundOf mroundFrom mouts nm mfromHour mtoHour ns (nI vf) (nI vt) vs 1 (nI (jd + 1)) (nI kc) mlines nl nc nF np ntr nb mbestCost nso nsi nit nsh nsf nss nrc mtraced mdealer mnumber mwhose msize misParted), (nF, sA G 5 (FCT K))]) hP hD (fun hP hD => ?_)
            refine lv_aload_n hx hb gX12_one_3.2.1 rfl (lv_at1 hl) ?_
            refine lv_aload_n hx hb gX12_one_3.2.2.1 rfl (lv_at1 hl) ?_
            refine lv_bipush (v := 41) hx hb gX12_one_3.2.2.2.1 (by decide) ?_
            refine pV hC hK hl hP hD (m_isSignF l G h0 41 nw nk mhasKept nt (nI ktp) nr mrowMany mroundOf mroundFrom mouts nm mfromHour mtoHour ns (nI vf) (nI vt) vs (nI (jd + 1)) (nI kc) mlines nl nc nF np ntr nb mbestCost nso nsi nit nsh nsf nss nrc mtraced mdealer mnumber mwhose msize misParted) si_X12_262 [2] sm_2 fm_2 nd_2 rfl rfl rfl rfl rfl (Nat.le_of_ble_eq_true rfl) (rmT (Nat.le_of_ble_eq_true rfl) (Nat.le_of_ble_eq_true rfl)) ⟨by first | exact Nat.le_of_ble_eq_true rfl | exact Nat.zero_le _, by first | exact Nat.le_of_ble_eq_true rfl | exact Nat.zero_le _⟩ gX12_one_3.2.2.2.2.1 (Keqr ?_)
            refine vV (wr := [(nt, iA G 240 fnt), (nc, iA G 100 fnc), (nF, sA G 5 (FCT K))]) hC hK hl hP hD hS hA (m_needF l G h0 0 nw nk mhasKept nt (nI ktp) nr mrowMany mroundOf mroundFrom mouts nm mfromHour mtoHour ns (nI vf) (nI vt) vs (nI (jd + 1)) (nI kc) mlines nl nc nF np ntr nb mbestCost nso nsi nit nsh nsf nss nrc mtraced mdealer mnumber mwhose msize misParted) si_X12_236 [2] [0, 1, 3] sm_2 fm_2 nd_2 sm_0_1_3 nd_0_1_3 dj_2__0_1_3 rfl rfl rfl rfl rfl (Nat.le_of_ble_eq_true rfl) (rmT (Nat.le_of_ble_eq_true rfl) (Nat.le_of_ble_eq_true rfl)) ⟨Nat.le_of_ble_eq_true rfl, Nat.le_of_ble_eq_true rfl⟩ gX12_one_3.2.2.2.2.2.1 (fun u7661 H locs hr7660 hP hD hS => ?_)
            refine Kpdr (ws := [(nt, iA G 240 fnt), (nc, iA G 100 fnc), (nF, sA G 5 (FCT K)), (h0, oX12 nw nk mhasKept nt (nI ktp) nr mrowMany mroundOf mroundFrom mouts nm mfromHour mtoHour ns (nI vf) (nI vt) vs 1 (nI (jd + 1)) (nI kc) mlines nl nc nF np ntr nb mbestCost nso nsi nit nsh nsf nss nrc mtraced mdealer mnumber mwhose msize misParted)]) hP hD (fun hP hD => ?_)
            refine lv_aload_n hx hb gX12_one_3.2.2.2.2.2.2.1 rfl (lv_at1 hl) ?_
            refine lv_dup hx hb gX12_one_3.2.2.2.2.2.2.2.1 rfl ?_
            refine gf_X12_265 hC rfl hK hP 3 rfl rfl gX12_one_3.2.2.2.2.2.2.2.2.1 ?_
            refine lv_iconst (v := 1) hx hb gX12_one_3.2.2.2.2.2.2.2.2.2 (by decide) ?_
            refine lv_isub hx hb gX12_one_4.1 ?_
            refine eqi (x1 := nI jd) (nI_sub1 jd) ?_
            refine pf_X12_265 hC rfl hK hP hD hS 3 (ws' := [(nt, iA G 240 fnt), (nc, iA G 100 fnc), (nF, sA G 5 (FCT K)), (h0, oX12 nw nk mhasKept nt (nI ktp) nr mrowMany mroundOf mroundFrom mouts nm mfromHour mtoHour ns (nI vf) (nI vt) vs 1 (nI jd) (nI kc) mlines nl nc nF np ntr nb mbestCost nso nsi nit nsh nsf nss nrc mtraced mdealer mnumber mwhose msize misParted)]) rfl (Nat.le_of_ble_eq_true rfl) rfl rfl rfl gX12_one_4.2.1 (fun H locs hP hD hS => ?_)
            refine lv_goto (tgt := 223) hx hb gX12_one_4.2.2.1 (by decide) ?_
            refine lv_iconst (v := 0) hx hb gX12_one_11.2.2.2.2.2.2.1 (by decide) ?_
            refine lv_istore_n (lv' := [(2, .int 0), (1, .int (nI vn)), (0, .ref h0)]) hx hb gX12_one_11.2.2.2.2.2.2.2.1 rfl hl (by decide) rfl (fun ls hl => ?_)
            have keyN : ∀ (nN kN : Nat) (H : Heap) (locs : List Loc) (ls : Array Slot), kN + nN = vn → va_PD G A [(nt, iA G 240 fnt), (nc, iA G 100 fnc), (nF, sA G 5 (FCT K)), (h0, oX12 nw nk mhasKept nt (nI ktp) nr mrowMany mroundOf mroundFrom mouts nm mfromHour mtoHour ns (nI vf) (nI vt) vs 1 (nI jd) (nI kc) mlines nl nc nF np ntr nb mbestCost nso nsi nit nsh nsf nss nrc mtraced mdealer mnumber mwhose msize misParted)] H → va_S A s.heap H locs → lv_has ls 5 [(2, .int (nI kN)), (1, .int (nI vn)), (0, .ref h0)] → W p l e (RM (10 + 4 * mn) 0 0) s m ([.ref h0] : List Value).toArray below meth c H locs 0 0 Q0 (F0 m 225 ls []) := by
              intro nN
              induction nN with
              | zero =>
                intro kN H locs ls hkN hPD hS hl
                refine Kan2 hPD (fun hP hD => ?_)
                obtain rfl : vn = kN := by omega
                have hl : lv_has ls 5 [(2, .int (nI vn)), (1, .int (nI vn)), (0, .ref h0)] := hl
                refine lv_iload_n hx hb gX12_one_11.2.2.2.2.2.2.2.2.1 rfl (lv_at0 hl) ?_
                refine lv_iload_n hx hb gX12_one_11.2.2.2.2.2.2.2.2.2 rfl (lv_at1 hl) ?_
                refine lv_icmp_ge (tgt := 243) hx hb gX12_one_12.1 (by decide) (fun _ => ?_) (fun c9 => absurd (Int32.le_refl _) c9)
                refine toQ hQ0 ?_
                exact RV hC hP hD hS [3, 0, 1, 2] (1, vf, vt, vs, kc, fnc) rfl rfl (by decide) (Or.inl rfl) gX12_one_12.2.2.2.2.2.2
              | succ nN ihN =>
                intro kN H locs ls hkN hPD hS hl
                refine Kan2 hPD (fun hP hD => ?_)
                refine lv_iload_n hx hb gX12_one_11.2.2.2.2.2.2.2.2.1 rfl (lv_at0 hl) ?_
                refine lv_iload_n hx hb gX12_one_11.2.2.2.2.2.2.2.2.2 rfl (lv_at1 hl) ?_
                refine lv_icmp_ge (tgt := 243) hx hb gX12_one_12.1 (by decide) (fun c9 => absurd c9 (nI_ge (a := kN) (b := vn) (by omega) (by omega))) (fun _ => ?_)
                refine lv_aload_n hx hb gX12_one_12.2.1 rfl (lv_at2 hl) ?_
                refine lv_sipush (v := 30000) hx hb gX12_one_12.2.2.1 (by decide) ?_
                refine vV (wr := [(nt, iA G 240 fnt), (nc, iA G 100 fnc), (nF, sA G 5 (FCT K))]) hC hK hl hP hD hS hA (m_codesF l G h0 30000 nw nk mhasKept nt (nI ktp) nr mrowMany mroundOf mroundFrom mouts nm mfromHour mtoHour ns (nI vf) (nI vt) vs (nI jd) (nI kc) mlines nl nc nF np ntr nb mbestCost nso nsi nit nsh nsf nss nrc mtraced mdealer mnumber mwhose msize misParted) si_X12_252 [3] [0, 1, 2] sm_3 fm_3 nd_3 sm_0_1_2 nd_0_1_2 dj_3__0_1_2 rfl rfl rfl rfl rfl (Nat.le_of_ble_eq_true rfl) (rmT (Nat.le_of_ble_eq_true rfl) (Nat.le_of_ble_eq_true rfl)) ⟨Nat.le_of_ble_eq_true rfl, Nat.le_of_ble_eq_true rfl⟩ gX12_one_12.2.2.2.1 (fun u7663 H locs hr7662 hP hD hS => ?_)
                refine Kpdr (ws := [(nt, iA G 240 fnt), (nc, iA G 100 fnc), (nF, sA G 5 (FCT K)), (h0, oX12 nw nk mhasKept nt (nI ktp) nr mrowMany mroundOf mroundFrom mouts nm mfromHour mtoHour ns (nI vf) (nI vt) vs 1 (nI jd) (nI kc) mlines nl nc nF np ntr nb mbestCost nso nsi nit nsh nsf nss nrc mtraced mdealer mnumber mwhose msize misParted)]) hP hD (fun hP hD => ?_)
                refine lv_iinc (v := nI (kN + 1)) (lv' := [(2, .int (nI (kN + 1))), (1, .int (nI vn)), (0, .ref h0)]) hx hb gX12_one_12.2.2.2.2.1 hl (k := 0) rfl (nI_1 _) (by decide) rfl (fun ls hl => ?_)
                refine lv_goto (tgt := 225) hx hb gX12_one_12.2.2.2.2.2.1 (by decide) ?_
                exact ihN (kN + 1) _ _ _ (by omega) (And.intro hP hD) hS (lv_sub hl [0, 1, 2] rfl)
            exact keyN vn 0 _ _ _ (by omega) (And.intro hP hD) hS (lv_sub hl [0, 1, 2] rfl)
          · refine lv_iconst (v := 1) hx hb gX12_one_2.2.2.2.2.2.1 (by decide) ?_
            refine lv_goto (tgt := 55) hx hb gX12_one_2.2.2.2.2.2.2.1 (by decide) ?_
            have tI7664 := a7651.1
            refine vV (wr := [(nc, iA G 100 fnc), (nF, sA G 5 (FCT K))]) hC hK hl hP hD hS hA (m_need1 l G h0 nw nk mhasKept nt ktp nr mrowMany mroundOf mroundFrom mouts nm mfromHour mtoHour ns (nI vf) vt vs (nI (jd + 1)) (nI kc) mlines nl nc nF np ntr nb mbestCost nso nsi nit nsh nsf nss nrc mtraced mdealer mnumber mwhose msize misParted fnt (by omega) (htp)) si_X12_236 [0, 1] [2, 3] sm_0_1 fm_0_1 nd_0_1 sm_2_3 nd_2_3 dj_0_1__2_3 rfl rfl rfl rfl rfl (Nat.le_of_ble_eq_true rfl) (rmT (Nat.le_of_ble_eq_true rfl) (Nat.le_of_ble_eq_true rfl)) ⟨Nat.le_of_ble_eq_true rfl, Nat.le_of_ble_eq_true rfl⟩ gX12_one_2.2.2.2.2.2.2.2.2.1 (Ktu3 fun kf17667 kt17668 so17669 => ?_)
            intro H locs hr7665 hP hD hS
            try dsimp only at hr7665
            refine Kpdr (ws := [(nc, iA G 100 fnc), (nF, sA G 5 (FCT K)), (h0, oX12 nw nk mhasKept nt (nI ktp) nr mrowMany mroundOf mroundFrom mouts nm mfromHour mtoHour ns (nI kf17667) (nI kt17668) so17669 0 (nI (jd + 1)) (nI kc) mlines nl nc nF np ntr nb mbestCost nso nsi nit nsh nsf nss nrc mtraced mdealer mnumber mwhose msize misParted), (nt, iA G 240 fnt)]) hP hD (fun hP hD => ?_)
            have hw7671_0 := hr7665.1
            have hw7671_1 := hr7665.2
            have tA7673 := hw7671_1.1
            have tB7673 := hw7671_1.2.1
            refine lv_aload_n hx hb gX12_one_2.2.2.2.2.2.2.2.2.2 rfl (lv_at1 hl) ?_
            have hjd4 : jd + 1 ≤ 4 := nle_of (a := 4) (b := jd + 1) (by decide) (by omega) c_47_7652
            refine vVo (wr := []) hO hC hK hl hP hD hS hA (ihE (mn - 1) (by omega) h0 nw nk mhasKept nt ktp nr mrowMany mroundOf mroundFrom mouts nm mfromHour mtoHour ns kf17667 kt17668 so17669 (jd + 1) kc mlines nl nc nF np ntr nb mbestCost nso nsi nit nsh nsf nss nrc mtraced mdealer mnumber mwhose msize misParted fnt fnc (hw7671_1) (by omega) (by omega) (by omega)) si_X12_268 [2, 3, 0, 1] [] sm_2_3_0_1 fm_2_3_0_1 nd_2_3_0_1 rfl rfl (by decide) rfl rfl rfl rfl rfl (Nat.le_of_ble_eq_true rfl) ⟨by simp only [RM]; omega, by simp only [RM]; omega⟩ ⟨Nat.le_of_ble_eq_true rfl, Nat.le_of_ble_eq_true rfl⟩ gX12_one_3.1 (Ktu6 fun ff17676 kf17677 kt17678 so17679 kc17680 gnc7681 => ?_)
            intro H locs hr7674 hP hD hS
            try dsimp only at hr7674
            refine Kpdr (ws := [(h0, oX12 nw nk mhasKept nt (nI ktp) nr mrowMany mroundOf mroundFrom mouts nm mfromHour mtoHour ns (nI kf17677) (nI kt17678) so17679 ff17676 (nI (jd + 1)) (nI kc17680) mlines nl nc nF np ntr nb mbestCost nso nsi nit nsh nsf nss nrc mtraced mdealer mnumber mwhose msize misParted), (nt, iA G 240 fnt), (nc, iA G 100 gnc7681), (nF, sA G 5 (FCT K))]) hP hD (fun hP hD => ?_)
            have w7682 := hr7674
            rcases w7682 with rfl | ⟨rfl, hw7683_0, hw7683_1⟩
            · refine lv_aload_n hx hb gX12_one_3.2.1 rfl (lv_at1 hl) ?_
              refine lv_aload_n hx hb gX12_one_3.2.2.1 rfl (lv_at1 hl) ?_
              refine lv_bipush (v := 41) hx hb gX12_one_3.2.2.2.1 (by decide) ?_
              refine pV hC hK hl hP hD (m_isSignF l G h0 41 nw nk mhasKept nt (nI ktp) nr mrowMany mroundOf mroundFrom mouts nm mfromHour mtoHour ns (nI kf17677) (nI kt17678) so17679 (nI (jd + 1)) (nI kc17680) mlines nl nc nF np ntr nb mbestCost nso nsi nit nsh nsf nss nrc mtraced mdealer mnumber mwhose msize misParted) si_X12_262 [0] sm_0 fm_0 nd_0 rfl rfl rfl rfl rfl (Nat.le_of_ble_eq_true rfl) (rmT (Nat.le_of_ble_eq_true rfl) (Nat.le_of_ble_eq_true rfl)) ⟨by first | exact Nat.le_of_ble_eq_true rfl | exact Nat.zero_le _, by first | exact Nat.le_of_ble_eq_true rfl | exact Nat.zero_le _⟩ gX12_one_3.2.2.2.2.1 (Keqr ?_)
              refine vV (wr := [(nt, iA G 240 fnt), (nc, iA G 100 gnc7681), (nF, sA G 5 (FCT K))]) hC hK hl hP hD hS hA (m_needF l G h0 0 nw nk mhasKept nt (nI ktp) nr mrowMany mroundOf mroundFrom mouts nm mfromHour mtoHour ns (nI kf17677) (nI kt17678) so17679 (nI (jd + 1)) (nI kc17680) mlines nl nc nF np ntr nb mbestCost nso nsi nit nsh nsf nss nrc mtraced mdealer mnumber mwhose msize misParted) si_X12_236 [0] [1, 2, 3] sm_0 fm_0 nd_0 sm_1_2_3 nd_1_2_3 dj_0__1_2_3 rfl rfl rfl rfl rfl (Nat.le_of_ble_eq_true rfl) (rmT (Nat.le_of_ble_eq_true rfl) (Nat.le_of_ble_eq_true rfl)) ⟨Nat.le_of_ble_eq_true rfl, Nat.le_of_ble_eq_true rfl⟩ gX12_one_3.2.2.2.2.2.1 (fun u7687 H locs hr7686 hP hD hS => ?_)
              refine Kpdr (ws := [(nt, iA G 240 fnt), (nc, iA G 100 gnc7681), (nF, sA G 5 (FCT K)), (h0, oX12 nw nk mhasKept nt (nI ktp) nr mrowMany mroundOf mroundFrom mouts nm mfromHour mtoHour ns (nI kf17677) (nI kt17678) so17679 1 (nI (jd + 1)) (nI kc17680) mlines nl nc nF np ntr nb mbestCost nso nsi nit nsh nsf nss nrc mtraced mdealer mnumber mwhose msize misParted)]) hP hD (fun hP hD => ?_)
              refine lv_aload_n hx hb gX12_one_3.2.2.2.2.2.2.1 rfl (lv_at1 hl) ?_
              refine lv_dup hx hb gX12_one_3.2.2.2.2.2.2.2.1 rfl ?_
              refine gf_X12_265 hC rfl hK hP 3 rfl rfl gX12_one_3.2.2.2.2.2.2.2.2.1 ?_
              refine lv_iconst (v := 1) hx hb gX12_one_3.2.2.2.2.2.2.2.2.2 (by decide) ?_
              refine lv_isub hx hb gX12_one_4.1 ?_
              refine eqi (x1 := nI jd) (nI_sub1 jd) ?_
              refine pf_X12_265 hC rfl hK hP hD hS 3 (ws' := [(nt, iA G 240 fnt), (nc, iA G 100 gnc7681), (nF, sA G 5 (FCT K)), (h0, oX12 nw nk mhasKept nt (nI ktp) nr mrowMany mroundOf mroundFrom mouts nm mfromHour mtoHour ns (nI kf17677) (nI kt17678) so17679 1 (nI jd) (nI kc17680) mlines nl nc nF np ntr nb mbestCost nso nsi nit nsh nsf nss nrc mtraced mdealer mnumber mwhose msize misParted)]) rfl (Nat.le_of_ble_eq_true rfl) rfl rfl rfl gX12_one_4.2.1 (fun H locs hP hD hS => ?_)
              refine lv_goto (tgt := 223) hx hb gX12_one_4.2.2.1 (by decide) ?_
              refine lv_iconst (v := 0) hx hb gX12_one_11.2.2.2.2.2.2.1 (by decide) ?_
              refine lv_istore_n (lv' := [(2, .int 0), (1, .int (nI vn)), (0, .ref h0)]) hx hb gX12_one_11.2.2.2.2.2.2.2.1 rfl hl (by decide) rfl (fun ls hl => ?_)
              have keyN : ∀ (nN kN : Nat) (H : Heap) (locs : List Loc) (ls : Array Slot), kN + nN = vn → va_PD G A [(nt, iA G 240 fnt), (nc, iA G 100 gnc7681), (nF, sA G 5 (FCT K)), (h0, oX12 nw nk mhasKept nt (nI ktp) nr mrowMany mroundOf mroundFrom mouts nm mfromHour mtoHour ns (nI kf17677) (nI kt17678) so17679 1 (nI jd) (nI kc17680) mlines nl nc nF np ntr nb mbestCost nso nsi nit nsh nsf nss nrc mtraced mdealer mnumber mwhose msize misParted)] H → va_S A s.heap H locs → lv_has ls 5 [(2, .int (nI kN)), (1, .int (nI vn)), (0, .ref h0)] → W p l e (RM (10 + 4 * mn) 0 0) s m ([.ref h0] : List Value).toArray below meth c H locs 0 0 Q0 (F0 m 225 ls []) := by
                intro nN
                induction nN with
                | zero =>
                  intro kN H locs ls hkN hPD hS hl
                  refine Kan2 hPD (fun hP hD => ?_)
                  obtain rfl : vn = kN := by omega
                  have hl : lv_has ls 5 [(2, .int (nI vn)), (1, .int (nI vn)), (0, .ref h0)] := hl
                  refine lv_iload_n hx hb gX12_one_11.2.2.2.2.2.2.2.2.1 rfl (lv_at0 hl) ?_
                  refine lv_iload_n hx hb gX12_one_11.2.2.2.2.2.2.2.2.2 rfl (lv_at1 hl) ?_
                  refine lv_icmp_ge (tgt := 243) hx hb gX12_one_12.1 (by decide) (fun _ => ?_) (fun c9 => absurd (Int32.le_refl _) c9)
                  refine toQ hQ0 ?_
                  exact RV hC hP hD hS [3, 0, 1, 2] (1, kf17677, kt17678, so17679, kc17680, gnc7681) rfl rfl (by decide) (Or.inl rfl) gX12_one_12.2.2.2.2.2.2
                | succ nN ihN =>
                  intro kN H locs ls hkN hPD hS hl
                  refine Kan2 hPD (fun hP hD => ?_)
                  refine lv_iload_n hx hb gX12_one_11.2.2.2.2.2.2.2.2.1 rfl (lv_at0 hl) ?_
                  refine lv_iload_n hx hb gX12_one_11.2.2.2.2.2.2.2.2.2 rfl (lv_at1 hl) ?_
                  refine lv_icmp_ge (tgt := 243) hx hb gX12_one_12.1 (by decide) (fun c9 => absurd c9 (nI_ge (a := kN) (b := vn) (by omega) (by omega))) (fun _ => ?_)
                  refine lv_aload_n hx hb gX12_one_12.2.1 rfl (lv_at2 hl) ?_
                  refine lv_sipush (v := 30000) hx hb gX12_one_12.2.2.1 (by decide) ?_
                  refine vV (wr := [(nt, iA G 240 fnt), (nc, iA G 100 gnc7681), (nF, sA G 5 (FCT K))]) hC hK hl hP hD hS hA (m_codesF l G h0 30000 nw nk mhasKept nt (nI ktp) nr mrowMany mroundOf mroundFrom mouts nm mfromHour mtoHour ns (nI kf17677) (nI kt17678) so17679 (nI jd) (nI kc17680) mlines nl nc nF np ntr nb mbestCost nso nsi nit nsh nsf nss nrc mtraced mdealer mnumber mwhose msize misParted) si_X12_252 [3] [0, 1, 2] sm_3 fm_3 nd_3 sm_0_1_2 nd_0_1_2 dj_3__0_1_2 rfl rfl rfl rfl rfl (Nat.le_of_ble_eq_true rfl) (rmT (Nat.le_of_ble_eq_true rfl) (Nat.le_of_ble_eq_true rfl)) ⟨Nat.le_of_ble_eq_true rfl, Nat.le_of_ble_eq_true rfl⟩ gX12_one_12.2.2.2.1 (fun u7689 H locs hr7688 hP hD hS => ?_)
                  refine Kpdr (ws := [(nt, iA G 240 fnt), (nc, iA G 100 gnc7681), (nF, sA G 5 (FCT K)), (h0, oX12 nw nk mhasKept nt (nI ktp) nr mrowMany mroundOf mroundFrom mouts nm mfromHour mtoHour ns (nI kf17677) (nI kt17678) so17679 1 (nI jd) (nI kc17680) mlines nl nc nF np ntr nb mbestCost nso nsi nit nsh nsf nss nrc mtraced mdealer mnumber mwhose msize misParted)]) hP hD (fun hP hD => ?_)
                  refine lv_iinc (v := nI (kN + 1)) (lv' := [(2, .int (nI (kN + 1))), (1, .int (nI vn)), (0, .ref h0)]) hx hb gX12_one_12.2.2.2.2.1 hl (k := 0) rfl (nI_1 _) (by decide) rfl (fun ls hl => ?_)
                  refine lv_goto (tgt := 225) hx hb gX12_one_12.2.2.2.2.2.1 (by decide) ?_
                  exact ihN (kN + 1) _ _ _ (by omega) (And.intro hP hD) hS (lv_sub hl [0, 1, 2] rfl)
              exact keyN vn 0 _ _ _ (by omega) (And.intro hP hD) hS (lv_sub hl [0, 1, 2] rfl)
            · have tA7690 := hw7683_0.1
              have tB7690 := hw7683_0.2.1
              have tA7691 := hw7683_1.1
              have tB7691 := hw7683_1.2.1
              refine lv_aload_n hx hb gX12_one_3.2.1 rfl (lv_at1 hl) ?_
              refine lv_aload_n hx hb gX12_one_3.2.2.1 rfl (lv_at1 hl) ?_
              refine lv_bipush (v := 41) hx hb gX12_one_3.2.2.2.1 (by decide) ?_
              refine pV hC hK hl hP hD (m_isSign0 l G h0 41 nw nk mhasKept nt ktp nr mrowMany mroundOf mroundFrom mouts nm mfromHour mtoHour ns kf17677 kt17678 so17679 (nI (jd + 1)) (nI kc17680) mlines nl nc nF np ntr nb mbestCost nso nsi nit nsh nsf nss nrc mtraced mdealer mnumber mwhose msize misParted fnt (hw7683_0) (htp)) si_X12_262 [0, 1] sm_0_1 fm_0_1 nd_0_1 rfl rfl rfl rfl rfl (Nat.le_of_ble_eq_true rfl) (rmT (Nat.le_of_ble_eq_true rfl) (Nat.le_of_ble_eq_true rfl)) ⟨by first | exact Nat.le_of_ble_eq_true rfl | exact Nat.zero_le _, by first | exact Nat.le_of_ble_eq_true rfl | exact Nat.zero_le _⟩ gX12_one_3.2.2.2.2.1 (Kors (Keqa fun a7693 => ?_) (Keqa fun a7693 => ?_))
              · have tI7694 := a7693.1
                refine vV (wr := [(nc, iA G 100 gnc7681), (nF, sA G 5 (FCT K))]) hC hK hl hP hD hS hA (m_need1 l G h0 nw nk mhasKept nt ktp nr mrowMany mroundOf mroundFrom mouts nm mfromHour mtoHour ns (nI kf17677) kt17678 so17679 (nI (jd + 1)) (nI kc17680) mlines nl nc nF np ntr nb mbestCost nso nsi nit nsh nsf nss nrc mtraced mdealer mnumber mwhose msize misParted fnt (by omega) (htp)) si_X12_236 [0, 1] [2, 3] sm_0_1 fm_0_1 nd_0_1 sm_2_3 nd_2_3 dj_0_1__2_3 rfl rfl rfl rfl rfl (Nat.le_of_ble_eq_true rfl) (rmT (Nat.le_of_ble_eq_true rfl) (Nat.le_of_ble_eq_true rfl)) ⟨Nat.le_of_ble_eq_true rfl, Nat.le_of_ble_eq_true rfl⟩ gX12_one_3.2.2.2.2.2.1 (Ktu3 fun kf17697 kt17698 so17699 => ?_)
                intro H locs hr7695 hP hD hS
                try dsimp only at hr7695
                refine Kpdr (ws := [(nc, iA G 100 gnc7681), (nF, sA G 5 (FCT K)), (h0, oX12 nw nk mhasKept nt (nI ktp) nr mrowMany mroundOf mroundFrom mouts nm mfromHour mtoHour ns (nI kf17697) (nI kt17698) so17699 0 (nI (jd + 1)) (nI kc17680) mlines nl nc nF np ntr nb mbestCost nso nsi nit nsh nsf nss nrc mtraced mdealer mnumber mwhose msize misParted), (nt, iA G 240 fnt)]) hP hD (fun hP hD => ?_)
                have hw7701_0 := hr7695.1
                have hw7701_1 := hr7695.2
                have tA7703 := hw7701_1.1
                have tB7703 := hw7701_1.2.1
                refine lv_aload_n hx hb gX12_one_3.2.2.2.2.2.2.1 rfl (lv_at1 hl) ?_
                refine lv_dup hx hb gX12_one_3.2.2.2.2.2.2.2.1 rfl ?_
                refine gf_X12_265 hC rfl hK hP 2 rfl rfl gX12_one_3.2.2.2.2.2.2.2.2.1 ?_
                refine lv_iconst (v := 1) hx hb gX12_one_3.2.2.2.2.2.2.2.2.2 (by decide) ?_
                refine lv_isub hx hb gX12_one_4.1 ?_
                refine eqi (x1 := nI jd) (nI_sub1 jd) ?_
                refine pf_X12_265 hC rfl hK hP hD hS 2 (ws' := [(nc, iA G 100 gnc7681), (nF, sA G 5 (FCT K)), (h0, oX12 nw nk mhasKept nt (nI ktp) nr mrowMany mroundOf mroundFrom mouts nm mfromHour mtoHour ns (nI kf17697) (nI kt17698) so17699 0 (nI jd) (nI kc17680) mlines nl nc nF np ntr nb mbestCost nso nsi nit nsh nsf nss nrc mtraced mdealer mnumber mwhose msize misParted), (nt, iA G 240 fnt)]) rfl (Nat.le_of_ble_eq_true rfl) rfl rfl rfl gX12_one_4.2.1 (fun H locs hP hD hS => ?_)
                refine lv_goto (tgt := 223) hx hb gX12_one_4.2.2.1 (by decide) ?_
                refine lv_iconst (v := 0) hx hb gX12_one_11.2.2.2.2.2.2.1 (by decide) ?_
                refine lv_istore_n (lv' := [(2, .int 0), (1, .int (nI vn)), (0, .ref h0)]) hx hb gX12_one_11.2.2.2.2.2.2.2.1 rfl hl (by decide) rfl (fun ls hl => ?_)
                have hbase9 : vf + 3 * kc17680 + 2 ≤ kf17697 + 3 * kc := by omega
                have keyN : ∀ (nN kN : Nat) (vC : Nat → Int32) (H : Heap) (locs : List Loc) (ls : Array Slot), kN + nN = vn → (EXPR fnc vC kc (kc17680 + kN) kf kf17697) → va_PD G A [(nc, iA G 100 vC), (nF, sA G 5 (FCT K)), (h0, oX12 nw nk mhasKept nt (nI ktp) nr mrowMany mroundOf mroundFrom mouts nm mfromHour mtoHour ns (nI kf17697) (nI kt17698) so17699 0 (nI jd) (nI (kc17680 + kN)) mlines nl nc nF np ntr nb mbestCost nso nsi nit nsh nsf nss nrc mtraced mdealer mnumber mwhose msize misParted), (nt, iA G 240 fnt)] H → va_S A s.heap H locs → lv_has ls 5 [(2, .int (nI kN)), (1, .int (nI vn)), (0, .ref h0)] → W p l e (RM (10 + 4 * mn) 0 0) s m ([.ref h0] : List Value).toArray below meth c H locs 0 0 Q0 (F0 m 225 ls []) := by
                  intro nN
                  induction nN with
                  | zero =>
                    intro kN vC H locs ls hkN hEx hPD hS hl
                    refine Kan2 hPD (fun hP hD => ?_)
                    obtain rfl : vn = kN := by omega
                    refine Kpdr (ws := [(nc, iA G 100 vC), (nF, sA G 5 (FCT K)), (h0, oX12 nw nk mhasKept nt (nI ktp) nr mrowMany mroundOf mroundFrom mouts nm mfromHour mtoHour ns (nI kf17697) (nI kt17698) so17699 0 (nI jd) (nI (kc17680 + vn)) mlines nl nc nF np ntr nb mbestCost nso nsi nit nsh nsf nss nrc mtraced mdealer mnumber mwhose msize misParted), (nt, iA G 240 fnt)]) hP hD (fun hP hD => ?_)
                    have hl : lv_has ls 5 [(2, .int (nI vn)), (1, .int (nI vn)), (0, .ref h0)] := hl
                    refine lv_iload_n hx hb gX12_one_11.2.2.2.2.2.2.2.2.1 rfl (lv_at0 hl) ?_
                    refine lv_iload_n hx hb gX12_one_11.2.2.2.2.2.2.2.2.2 rfl (lv_at1 hl) ?_
                    refine lv_icmp_ge (tgt := 243) hx hb gX12_one_12.1 (by decide) (fun _ => ?_) (fun c9 => absurd (Int32.le_refl _) c9)
                    refine toQ hQ0 ?_
                    exact RV hC hP hD hS [2, 3, 0, 1] (0, kf17697, kt17698, so17699, (kc17680 + vn), vC) rfl rfl (by decide) (Or.inr ⟨rfl, hw7701_1, EXPR.wid hEx (by (try dsimp only); omega)⟩) gX12_one_12.2.2.2.2.2.2
                  | succ nN ihN =>
                    intro kN vC H locs ls hkN hEx hPD hS hl
                    refine Kan2 hPD (fun hP hD => ?_)
                    refine lv_iload_n hx hb gX12_one_11.2.2.2.2.2.2.2.2.1 rfl (lv_at0 hl) ?_
                    refine lv_iload_n hx hb gX12_one_11.2.2.2.2.2.2.2.2.2 rfl (lv_at1 hl) ?_
                    refine lv_icmp_ge (tgt := 243) hx hb gX12_one_12.1 (by decide) (fun c9 => absurd c9 (nI_ge (a := kN) (b := vn) (by omega) (by omega))) (fun _ => ?_)
                    refine lv_aload_n hx hb gX12_one_12.2.1 rfl (lv_at2 hl) ?_
                    refine lv_sipush (v := 30000) hx hb gX12_one_12.2.2.1 (by decide) ?_
                    refine vV (wr := [(nF, sA G 5 (FCT K)), (nt, iA G 240 fnt)]) hC hK hl hP hD hS hA (m_codes0 l G h0 30000 nw nk mhasKept nt (nI ktp) nr mrowMany mroundOf mroundFrom mouts nm mfromHour mtoHour ns (nI kf17697) (nI kt17698) so17699 (nI jd) (kc17680 + kN) mlines nl nc nF np ntr nb mbestCost nso nsi nit nsh nsf nss nrc mtraced mdealer mnumber mwhose msize misParted vC (by omega)) si_X12_252 [2, 0] [1, 3] sm_2_0 fm_2_0 nd_2_0 sm_1_3 nd_1_3 dj_2_0__1_3 rfl rfl rfl rfl rfl (Nat.le_of_ble_eq_true rfl) (rmT (Nat.le_of_ble_eq_true rfl) (Nat.le_of_ble_eq_true rfl)) ⟨Nat.le_of_ble_eq_true rfl, Nat.le_of_ble_eq_true rfl⟩ gX12_one_12.2.2.2.1 (fun u7705 H locs hr7704 hP hD hS => ?_)
                    refine Kpdr (ws := [(nF, sA G 5 (FCT K)), (nt, iA G 240 fnt), (h0, oX12 nw nk mhasKept nt (nI ktp) nr mrowMany mroundOf mroundFrom mouts nm mfromHour mtoHour ns (nI kf17697) (nI kt17698) so17699 0 (nI jd) (nI ((kc17680 + kN) + 1)) mlines nl nc nF np ntr nb mbestCost nso nsi nit nsh nsf nss nrc mtraced mdealer mnumber mwhose msize misParted), (nc, iA G 100 (upd vC (kc17680 + kN) 30000))]) hP hD (fun hP hD => ?_)
                    refine lv_iinc (v := nI (kN + 1)) (lv' := [(2, .int (nI (kN + 1))), (1, .int (nI vn)), (0, .ref h0)]) hx hb gX12_one_12.2.2.2.2.1 hl (k := 0) rfl (nI_1 _) (by decide) rfl (fun ls hl => ?_)
                    refine lv_goto (tgt := 225) hx hb gX12_one_12.2.2.2.2.2.1 (by decide) ?_
                    refine Kpds (ws' := [(nc, iA G 100 (upd vC (kc17680 + kN) 30000)), (nF, sA G 5 (FCT K)), (h0, oX12 nw nk mhasKept nt (nI ktp) nr mrowMany mroundOf mroundFrom mouts nm mfromHour mtoHour ns (nI kf17697) (nI kt17698) so17699 0 (nI jd) (nI ((kc17680 + kN) + 1)) mlines nl nc nF np ntr nb mbestCost nso nsi nit nsh nsf nss nrc mtraced mdealer mnumber mwhose msize misParted), (nt, iA G 240 fnt)]) hP hD [3, 0, 2, 1] fm_3_0_2_1 nd_3_0_2_1 sm_3_0_2_1 (fun hP hD => ?_)
                    exact ihN (kN + 1) (upd vC (kc17680 + kN) 30000) _ _ _ (by omega) (by first | assumption | exact Or.inl rfl | exact Or.inr rfl | exact EXPR.not hEx (by omega)) (And.intro hP hD) hS (lv_sub hl [0, 1, 2] rfl)
                exact keyN vn 0 gnc7681 _ _ _ (by omega) (by first | assumption | exact Or.inl rfl | exact Or.inr rfl | exact EXPR.wid (hw7683_1) (by omega) | exact EXPR.not hEx (by omega)) (And.intro hP hD) hS (lv_sub hl [0, 1, 2] rfl)
              · refine vV (wr := [(nt, iA G 240 fnt), (nc, iA G 100 gnc7681), (nF, sA G 5 (FCT K))]) hC hK hl hP hD hS hA (m_need0 l G h0 nw nk mhasKept nt (nI ktp) nr mrowMany mroundOf mroundFrom mouts nm mfromHour mtoHour ns (nI kf17677) (nI kt17678) so17679 (nI (jd + 1)) (nI kc17680) mlines nl nc nF np ntr nb mbestCost nso nsi nit nsh nsf nss nrc mtraced mdealer mnumber mwhose msize misParted) si_X12_236 [0] [1, 2, 3] sm_0 fm_0 nd_0 sm_1_2_3 nd_1_2_3 dj_0__1_2_3 rfl rfl rfl rfl rfl (Nat.le_of_ble_eq_true rfl) (rmT (Nat.le_of_ble_eq_true rfl) (Nat.le_of_ble_eq_true rfl)) ⟨Nat.le_of_ble_eq_true rfl, Nat.le_of_ble_eq_true rfl⟩ gX12_one_3.2.2.2.2.2.1 (fun u7707 H locs hr7706 hP hD hS => ?_)
                refine Kpdr (ws := [(nt, iA G 240 fnt), (nc, iA G 100 gnc7681), (nF, sA G 5 (FCT K)), (h0, oX12 nw nk mhasKept nt (nI ktp) nr mrowMany mroundOf mroundFrom mouts nm mfromHour mtoHour ns (nI kf17677) (nI kt17678) so17679 1 (nI (jd + 1)) (nI kc17680) mlines nl nc nF np ntr nb mbestCost nso nsi nit nsh nsf nss nrc mtraced mdealer mnumber mwhose msize misParted)]) hP hD (fun hP hD => ?_)
                refine lv_aload_n hx hb gX12_one_3.2.2.2.2.2.2.1 rfl (lv_at1 hl) ?_
                refine lv_dup hx hb gX12_one_3.2.2.2.2.2.2.2.1 rfl ?_
                refine gf_X12_265 hC rfl hK hP 3 rfl rfl gX12_one_3.2.2.2.2.2.2.2.2.1 ?_
                refine lv_iconst (v := 1) hx hb gX12_one_3.2.2.2.2.2.2.2.2.2 (by decide) ?_
                refine lv_isub hx hb gX12_one_4.1 ?_
                refine eqi (x1 := nI jd) (nI_sub1 jd) ?_
                refine pf_X12_265 hC rfl hK hP hD hS 3 (ws' := [(nt, iA G 240 fnt), (nc, iA G 100 gnc7681), (nF, sA G 5 (FCT K)), (h0, oX12 nw nk mhasKept nt (nI ktp) nr mrowMany mroundOf mroundFrom mouts nm mfromHour mtoHour ns (nI kf17677) (nI kt17678) so17679 1 (nI jd) (nI kc17680) mlines nl nc nF np ntr nb mbestCost nso nsi nit nsh nsf nss nrc mtraced mdealer mnumber mwhose msize misParted)]) rfl (Nat.le_of_ble_eq_true rfl) rfl rfl rfl gX12_one_4.2.1 (fun H locs hP hD hS => ?_)
                refine lv_goto (tgt := 223) hx hb gX12_one_4.2.2.1 (by decide) ?_
                refine lv_iconst (v := 0) hx hb gX12_one_11.2.2.2.2.2.2.1 (by decide) ?_
                refine lv_istore_n (lv' := [(2, .int 0), (1, .int (nI vn)), (0, .ref h0)]) hx hb gX12_one_11.2.2.2.2.2.2.2.1 rfl hl (by decide) rfl (fun ls hl => ?_)
                have keyN : ∀ (nN kN : Nat) (H : Heap) (locs : List Loc) (ls : Array Slot), kN + nN = vn → va_PD G A [(nt, iA G 240 fnt), (nc, iA G 100 gnc7681), (nF, sA G 5 (FCT K)), (h0, oX12 nw nk mhasKept nt (nI ktp) nr mrowMany mroundOf mroundFrom mouts nm mfromHour mtoHour ns (nI kf17677) (nI kt17678) so17679 1 (nI jd) (nI kc17680) mlines nl nc nF np ntr nb mbestCost nso nsi nit nsh nsf nss nrc mtraced mdealer mnumber mwhose msize misParted)] H → va_S A s.heap H locs → lv_has ls 5 [(2, .int (nI kN)), (1, .int (nI vn)), (0, .ref h0)] → W p l e (RM (10 + 4 * mn) 0 0) s m ([.ref h0] : List Value).toArray below meth c H locs 0 0 Q0 (F0 m 225 ls []) := by
                  intro nN
                  induction nN with
                  | zero =>
                    intro kN H locs ls hkN hPD hS hl
                    refine Kan2 hPD (fun hP hD => ?_)
                    obtain rfl : vn = kN := by omega
                    have hl : lv_has ls 5 [(2, .int (nI vn)), (1, .int (nI vn)), (0, .ref h0)] := hl
                    refine lv_iload_n hx hb gX12_one_11.2.2.2.2.2.2.2.2.1 rfl (lv_at0 hl) ?_
                    refine lv_iload_n hx hb gX12_one_11.2.2.2.2.2.2.2.2.2 rfl (lv_at1 hl) ?_
                    refine lv_icmp_ge (tgt := 243) hx hb gX12_one_12.1 (by decide) (fun _ => ?_) (fun c9 => absurd (Int32.le_refl _) c9)
                    refine toQ hQ0 ?_
                    exact RV hC hP hD hS [3, 0, 1, 2] (1, kf17677, kt17678, so17679, kc17680, gnc7681) rfl rfl (by decide) (Or.inl rfl) gX12_one_12.2.2.2.2.2.2
                  | succ nN ihN =>
                    intro kN H locs ls hkN hPD hS hl
                    refine Kan2 hPD (fun hP hD => ?_)
                    refine lv_iload_n hx hb gX12_one_11.2.2.2.2.2.2.2.2.1 rfl (lv_at0 hl) ?_
                    refine lv_iload_n hx hb gX12_one_11.2.2.2.2.2.2.2.2.2 rfl (lv_at1 hl) ?_
                    refine lv_icmp_ge (tgt := 243) hx hb gX12_one_12.1 (by decide) (fun c9 => absurd c9 (nI_ge (a := kN) (b := vn) (by omega) (by omega))) (fun _ => ?_)
                    refine lv_aload_n hx hb gX12_one_12.2.1 rfl (lv_at2 hl) ?_
                    refine lv_sipush (v := 30000) hx hb gX12_one_12.2.2.1 (by decide) ?_
                    refine vV (wr := [(nt, iA G 240 fnt), (nc, iA G 100 gnc7681), (nF, sA G 5 (FCT K))]) hC hK hl hP hD hS hA (m_codesF l G h0 30000 nw nk mhasKept nt (nI ktp) nr mrowMany mroundOf mroundFrom mouts nm mfromHour mtoHour ns (nI kf17677) (nI kt17678) so17679 (nI jd) (nI kc17680) mlines nl nc nF np ntr nb mbestCost nso nsi nit nsh nsf nss nrc mtraced mdealer mnumber mwhose msize misParted) si_X12_252 [3] [0, 1, 2] sm_3 fm_3 nd_3 sm_0_1_2 nd_0_1_2 dj_3__0_1_2 rfl rfl rfl rfl rfl (Nat.le_of_ble_eq_true rfl) (rmT (Nat.le_of_ble_eq_true rfl) (Nat.le_of_ble_eq_true rfl)) ⟨Nat.le_of_ble_eq_true rfl, Nat.le_of_ble_eq_true rfl⟩ gX12_one_12.2.2.2.1 (fun u7709 H locs hr7708 hP hD hS => ?_)
                    refine Kpdr (ws := [(nt, iA G 240 fnt), (nc, iA G 100 gnc7681), (nF, sA G 5 (FCT K)), (h0, oX12 nw nk mhasKept nt (nI ktp) nr mrowMany mroundOf mroundFrom mouts nm mfromHour mtoHour ns (nI kf17677) (nI kt17678) so17679 1 (nI jd) (nI kc17680) mlines nl nc nF np ntr nb mbestCost nso nsi nit nsh nsf nss nrc mtraced mdealer mnumber mwhose msize misParted)]) hP hD (fun hP hD => ?_)
                    refine lv_iinc (v := nI (kN + 1)) (lv' := [(2, .int (nI (kN + 1))), (1, .int (nI vn)), (0, .ref h0)]) hx hb gX12_one_12.2.2.2.2.1 hl (k := 0) rfl (nI_1 _) (by decide) rfl (fun ls hl => ?_)
                    refine lv_goto (tgt := 225) hx hb gX12_one_12.2.2.2.2.2.1 (by decide) ?_
                    exact ihN (kN + 1) _ _ _ (by omega) (And.intro hP hD) hS (lv_sub hl [0, 1, 2] rfl)
                exact keyN vn 0 _ _ _ (by omega) (And.intro hP hD) hS (lv_sub hl [0, 1, 2] rfl)
        · refine lv_if_eq (tgt := 85) hx hb gX12_one_1.2.2.2.1 (by decide) (fun _ => ?_) (fun c9 => absurd (by decide) c9)
          refine lv_iconst (v := (-1)) hx hb gX12_one_4.2.2.2.1 (by decide) ?_
          refine lv_istore_n (lv' := [(2, .int (-1)), (1, .int (nI vn)), (0, .ref h0)]) hx hb gX12_one_4.2.2.2.2.1 rfl hl (by decide) rfl (fun ls hl => ?_)
          refine lv_iconst (v := 0) hx hb gX12_one_4.2.2.2.2.2.1 (by decide) ?_
          refine lv_istore_n (lv' := [(3, .int 0), (2, .int (-1)), (1, .int (nI vn)), (0, .ref h0)]) hx hb gX12_one_4.2.2.2.2.2.2.1 rfl hl (by decide) rfl (fun ls hl => ?_)
          have keyF5 : ∀ (nF5 kF5 : Nat) (fa9 : Int32) (H : Heap) (locs : List Loc) (ls : Array Slot), kF5 + nF5 = 5 → (fa9 = (-1) ∨ ∃ j, j < 5 ∧ fa9 = nI j ∧ vf + 3 ≤ vt) → va_PD G A [(h0, oX12 nw nk mhasKept nt (nI ktp) nr mrowMany mroundOf mroundFrom mouts nm mfromHour mtoHour ns (nI vf) (nI vt) vs 0 (nI jd) (nI kc) mlines nl nc nF np ntr nb mbestCost nso nsi nit nsh nsf nss nrc mtraced mdealer mnumber mwhose msize misParted), (nt, iA G 240 fnt), (nc, iA G 100 fnc), (nF, sA G 5 (FCT K))] H → va_S A s.heap H locs → lv_has ls 5 [(3, .int (nI kF5)), (2, .int fa9), (1, .int (nI vn)), (0, .ref h0)] → W p l e (RM (10 + 4 * mn) 0 0) s m ([.ref h0] : List Value).toArray below meth c H locs 0 0 Q0 (F0 m 89 ls []) := by
            intro nF5
            induction nF5 with
            | zero =>
              intro kF5 fa9 H locs ls hkF5 hfa hPD hS hl
              refine Kan2 hPD (fun hP hD => ?_)
              obtain rfl : 5 = kF5 := by omega
              have hl : lv_has ls 5 [(3, .int 5), (2, .int fa9), (1, .int (nI vn)), (0, .ref h0)] := hl
              refine lv_iload_n hx hb gX12_one_4.2.2.2.2.2.2.2.1 rfl (lv_at0 hl) ?_
              refine lv_iconst (v := 5) hx hb gX12_one_4.2.2.2.2.2.2.2.2.1 (by decide) ?_
              refine lv_icmp_ge (tgt := 119) hx hb gX12_one_4.2.2.2.2.2.2.2.2.2 (by decide) (fun _ => ?_) (fun c9 => absurd (by decide) c9)
              rcases hfa with rfl | ⟨jfa, hjfa, rfl, hfa3⟩
              · refine lv_aload_n hx hb gX12_one_6.2.2.2.1 rfl (lv_at3 hl) ?_
                refine lv_iload_n hx hb gX12_one_6.2.2.2.2.1 rfl (lv_at1 hl) ?_
                refine lv_if_lt (tgt := 128) hx hb gX12_one_6.2.2.2.2.2.1 (by decide) (fun _ => ?_) (fun c9 => absurd (by decide) c9)
                refine lv_iconst (v := 0) hx hb gX12_one_6.2.2.2.2.2.2.2.2.1 (by decide) ?_
                refine vV (wr := [(nt, iA G 240 fnt), (nc, iA G 100 fnc), (nF, sA G 5 (FCT K))]) hC hK hl hP hD hS hA (m_need0 l G h0 nw nk mhasKept nt (nI ktp) nr mrowMany mroundOf mroundFrom mouts nm mfromHour mtoHour ns (nI vf) (nI vt) vs (nI jd) (nI kc) mlines nl nc nF np ntr nb mbestCost nso nsi nit nsh nsf nss nrc mtraced mdealer mnumber mwhose msize misParted) si_X12_236 [0] [1, 2, 3] sm_0 fm_0 nd_0 sm_1_2_3 nd_1_2_3 dj_0__1_2_3 rfl rfl rfl rfl rfl (Nat.le_of_ble_eq_true rfl) (rmT (Nat.le_of_ble_eq_true rfl) (Nat.le_of_ble_eq_true rfl)) ⟨Nat.le_of_ble_eq_true rfl, Nat.le_of_ble_eq_true rfl⟩ gX12_one_6.2.2.2.2.2.2.2.2.2 (fun u7711 H locs hr7710 hP hD hS => ?_)
                refine Kpdr (ws := [(nt, iA G 240 fnt), (nc, iA G 100 fnc), (nF, sA G 5 (FCT K)), (h0, oX12 nw nk mhasKept nt (nI ktp) nr mrowMany mroundOf mroundFrom mouts nm mfromHour mtoHour ns (nI vf) (nI vt) vs 1 (nI jd) (nI kc) mlines nl nc nF np ntr nb mbestCost nso nsi nit nsh nsf nss nrc mtraced mdealer mnumber mwhose msize misParted)]) hP hD (fun hP hD => ?_)
                refine lv_aload_n hx hb gX12_one_7.1 rfl (lv_at3 hl) ?_
                refine lv_bipush (v := 60) hx hb gX12_one_7.2.1 (by decide) ?_
                refine pV hC hK hl hP hD (m_isSignF l G h0 60 nw nk mhasKept nt (nI ktp) nr mrowMany mroundOf mroundFrom mouts nm mfromHour mtoHour ns (nI vf) (nI vt) vs (nI jd) (nI kc) mlines nl nc nF np ntr nb mbestCost nso nsi nit nsh nsf nss nrc mtraced mdealer mnumber mwhose msize misParted) si_X12_262 [3] sm_3 fm_3 nd_3 rfl rfl rfl rfl rfl (Nat.le_of_ble_eq_true rfl) (rmT (Nat.le_of_ble_eq_true rfl) (Nat.le_of_ble_eq_true rfl)) ⟨by first | exact Nat.le_of_ble_eq_true rfl | exact Nat.zero_le _, by first | exact Nat.le_of_ble_eq_true rfl | exact Nat.zero_le _⟩ gX12_one_7.2.2.1 (Keqr ?_)
                refine lv_if_eq (tgt := 145) hx hb gX12_one_7.2.2.2.1 (by decide) (fun _ => ?_) (fun c9 => absurd (by decide) c9)
                refine lv_aload_n hx hb gX12_one_7.2.2.2.2.2.2.1 rfl (lv_at3 hl) ?_
                refine lv_bipush (v := 61) hx hb gX12_one_7.2.2.2.2.2.2.2.1 (by decide) ?_
                refine pV hC hK hl hP hD (m_isSignF l G h0 61 nw nk mhasKept nt (nI ktp) nr mrowMany mroundOf mroundFrom mouts nm mfromHour mtoHour ns (nI vf) (nI vt) vs (nI jd) (nI kc) mlines nl nc nF np ntr nb mbestCost nso nsi nit nsh nsf nss nrc mtraced mdealer mnumber mwhose msize misParted) si_X12_262 [3] sm_3 fm_3 nd_3 rfl rfl rfl rfl rfl (Nat.le_of_ble_eq_true rfl) (rmT (Nat.le_of_ble_eq_true rfl) (Nat.le_of_ble_eq_true rfl)) ⟨by first | exact Nat.le_of_ble_eq_true rfl | exact Nat.zero_le _, by first | exact Nat.le_of_ble_eq_true rfl | exact Nat.zero_le _⟩ gX12_one_7.2.2.2.2.2.2.2.2.1 (Keqr ?_)
                refine lv_if_eq (tgt := 158) hx hb gX12_one_7.2.2.2.2.2.2.2.2.2 (by decide) (fun _ => ?_) (fun c9 => absurd (by decide) c9)
                refine lv_iconst (v := 2) hx hb gX12_one_8.2.2.1 (by decide) ?_
                refine lv_istore_n (lv' := [(3, .int 2), (2, .int (-1)), (1, .int (nI vn)), (0, .ref h0)]) hx hb gX12_one_8.2.2.2.1 rfl hl (by decide) rfl (fun ls hl => ?_)
                refine lv_aload_n hx hb gX12_one_8.2.2.2.2.1 rfl (lv_at3 hl) ?_
                refine lv_aload_n hx hb gX12_one_8.2.2.2.2.2.1 rfl (lv_at3 hl) ?_
                refine lv_bipush (v := 60) hx hb gX12_one_8.2.2.2.2.2.2.1 (by decide) ?_
                refine pV hC hK hl hP hD (m_isSignF l G h0 60 nw nk mhasKept nt (nI ktp) nr mrowMany mroundOf mroundFrom mouts nm mfromHour mtoHour ns (nI vf) (nI vt) vs (nI jd) (nI kc) mlines nl nc nF np ntr nb mbestCost nso nsi nit nsh nsf nss nrc mtraced mdealer mnumber mwhose msize misParted) si_X12_262 [3] sm_3 fm_3 nd_3 rfl rfl rfl rfl rfl (Nat.le_of_ble_eq_true rfl) (rmT (Nat.le_of_ble_eq_true rfl) (Nat.le_of_ble_eq_true rfl)) ⟨by first | exact Nat.le_of_ble_eq_true rfl | exact Nat.zero_le _, by first | exact Nat.le_of_ble_eq_true rfl | exact Nat.zero_le _⟩ gX12_one_8.2.2.2.2.2.2.2.1 (Keqr ?_)
                refine lv_if_ne (tgt := 188) hx hb gX12_one_8.2.2.2.2.2.2.2.2.1 (by decide) (fun c9 => absurd (by decide) c9) (fun _ => ?_)
                refine lv_aload_n hx hb gX12_one_8.2.2.2.2.2.2.2.2.2 rfl (lv_at3 hl) ?_
                refine lv_bipush (v := 61) hx hb gX12_one_9.1 (by decide) ?_
                refine pV hC hK hl hP hD (m_isSignF l G h0 61 nw nk mhasKept nt (nI ktp) nr mrowMany mroundOf mroundFrom mouts nm mfromHour mtoHour ns (nI vf) (nI vt) vs (nI jd) (nI kc) mlines nl nc nF np ntr nb mbestCost nso nsi nit nsh nsf nss nrc mtraced mdealer mnumber mwhose msize misParted) si_X12_262 [3] sm_3 fm_3 nd_3 rfl rfl rfl rfl rfl (Nat.le_of_ble_eq_true rfl) (rmT (Nat.le_of_ble_eq_true rfl) (Nat.le_of_ble_eq_true rfl)) ⟨by first | exact Nat.le_of_ble_eq_true rfl | exact Nat.zero_le _, by first | exact Nat.le_of_ble_eq_true rfl | exact Nat.zero_le _⟩ gX12_one_9.2.1 (Keqr ?_)
                refine lv_if_ne (tgt := 188) hx hb gX12_one_9.2.2.1 (by decide) (fun c9 => absurd (by decide) c9) (fun _ => ?_)
                refine lv_aload_n hx hb gX12_one_9.2.2.2.1 rfl (lv_at3 hl) ?_
                refine lv_bipush (v := 62) hx hb gX12_one_9.2.2.2.2.1 (by decide) ?_
                refine pV hC hK hl hP hD (m_isSignF l G h0 62 nw nk mhasKept nt (nI ktp) nr mrowMany mroundOf mroundFrom mouts nm mfromHour mtoHour ns (nI vf) (nI vt) vs (nI jd) (nI kc) mlines nl nc nF np ntr nb mbestCost nso nsi nit nsh nsf nss nrc mtraced mdealer mnumber mwhose msize misParted) si_X12_262 [3] sm_3 fm_3 nd_3 rfl rfl rfl rfl rfl (Nat.le_of_ble_eq_true rfl) (rmT (Nat.le_of_ble_eq_true rfl) (Nat.le_of_ble_eq_true rfl)) ⟨by first | exact Nat.le_of_ble_eq_true rfl | exact Nat.zero_le _, by first | exact Nat.le_of_ble_eq_true rfl | exact Nat.zero_le _⟩ gX12_one_9.2.2.2.2.2.1 (Keqr ?_)
                refine lv_if_eq (tgt := 192) hx hb gX12_one_9.2.2.2.2.2.2.1 (by decide) (fun _ => ?_) (fun c9 => absurd (by decide) c9)
                refine lv_iconst (v := 0) hx hb gX12_one_9.2.2.2.2.2.2.2.2.2 (by decide) ?_
                refine vV (wr := [(nt, iA G 240 fnt), (nc, iA G 100 fnc), (nF, sA G 5 (FCT K))]) hC hK hl hP hD hS hA (m_needF l G h0 0 nw nk mhasKept nt (nI ktp) nr mrowMany mroundOf mroundFrom mouts nm mfromHour mtoHour ns (nI vf) (nI vt) vs (nI jd) (nI kc) mlines nl nc nF np ntr nb mbestCost nso nsi nit nsh nsf nss nrc mtraced mdealer mnumber mwhose msize misParted) si_X12_236 [3] [0, 1, 2] sm_3 fm_3 nd_3 sm_0_1_2 nd_0_1_2 dj_3__0_1_2 rfl rfl rfl rfl rfl (Nat.le_of_ble_eq_true rfl) (rmT (Nat.le_of_ble_eq_true rfl) (Nat.le_of_ble_eq_true rfl)) ⟨Nat.le_of_ble_eq_true rfl, Nat.le_of_ble_eq_true rfl⟩ gX12_one_10.1 (fun u7723 H locs hr7722 hP hD hS => ?_)
                refine Kpdr (ws := [(nt, iA G 240 fnt), (nc, iA G 100 fnc), (nF, sA G 5 (FCT K)), (h0, oX12 nw nk mhasKept nt (nI ktp) nr mrowMany mroundOf mroundFrom mouts nm mfromHour mtoHour ns (nI vf) (nI vt) vs 1 (nI jd) (nI kc) mlines nl nc nF np ntr nb mbestCost nso nsi nit nsh nsf nss nrc mtraced mdealer mnumber mwhose msize misParted)]) hP hD (fun hP hD => ?_)
                refine lv_aload_n hx hb gX12_one_10.2.1 rfl (lv_at3 hl) ?_
                refine lv_sipush (v := 999) hx hb gX12_one_10.2.2.1 (by decide) ?_
                refine iV (wr := [(nt, iA G 240 fnt), (nc, iA G 100 fnc), (nF, sA G 5 (FCT K))]) hC hK hl hP hD hS hA (m_numberF l G h0 999 nw nk mhasKept nt (nI ktp) nr mrowMany mroundOf mroundFrom mouts nm mfromHour mtoHour ns (nI vf) (nI vt) vs (nI jd) (nI kc) mlines nl nc nF np ntr nb mbestCost nso nsi nit nsh nsf nss nrc mtraced mdealer mnumber mwhose msize misParted) si_X12_271 [3] [0, 1, 2] sm_3 fm_3 nd_3 sm_0_1_2 nd_0_1_2 dj_3__0_1_2 rfl rfl rfl rfl rfl (Nat.le_of_ble_eq_true rfl) (rmT (Nat.le_of_ble_eq_true rfl) (Nat.le_of_ble_eq_true rfl)) ⟨Nat.le_of_ble_eq_true rfl, Nat.le_of_ble_eq_true rfl⟩ gX12_one_10.2.2.2.1 (fun r7724 u7725 H locs hr7724 hP hD hS => ?_)
                refine Kpdr (ws := [(nt, iA G 240 fnt), (nc, iA G 100 fnc), (nF, sA G 5 (FCT K)), (h0, oX12 nw nk mhasKept nt (nI ktp) nr mrowMany mroundOf mroundFrom mouts nm mfromHour mtoHour ns (nI vf) (nI vt) vs 1 (nI jd) (nI kc) mlines nl nc nF np ntr nb mbestCost nso nsi nit nsh nsf nss nrc mtraced mdealer mnumber mwhose msize misParted)]) hP hD (fun hP hD => ?_)
                obtain rfl := hr7724
                refine lv_istore (lv' := [(4, .int 0), (3, .int 2), (2, .int (-1)), (1, .int (nI vn)), (0, .ref h0)]) hx hb gX12_one_10.2.2.2.2.1 hl (by decide) rfl (fun ls hl => ?_)
                refine lv_aload_n hx hb gX12_one_10.2.2.2.2.2.1 rfl (lv_at4 hl) ?_
                refine lv_sipush (v := 3000) hx hb gX12_one_10.2.2.2.2.2.2.1 (by decide) ?_
                refine lv_iload_n hx hb gX12_one_10.2.2.2.2.2.2.2.1 rfl (lv_at2 hl) ?_
                refine lv_imul hx hb gX12_one_10.2.2.2.2.2.2.2.2.1 ?_
                refine eqi (x1 := (-3000)) (by decide) ?_
                refine lv_sipush (v := 1000) hx hb gX12_one_10.2.2.2.2.2.2.2.2.2 (by decide) ?_
                refine lv_iload_n hx hb gX12_one_11.1 rfl (lv_at1 hl) ?_
                refine lv_imul hx hb gX12_one_11.2.1 ?_
                refine eqi (x1 := 2000) (by decide) ?_
                refine lv_iadd hx hb gX12_one_11.2.2.1 ?_
                refine eqi (x1 := (-1000)) (by decide) ?_
                refine lv_iload hx hb gX12_one_11.2.2.2.1 (lv_at0 hl) ?_
                refine lv_iadd hx hb gX12_one_11.2.2.2.2.1 ?_
                refine eqi (x1 := (-1000)) (by decide) ?_
                refine vV (wr := [(nt, iA G 240 fnt), (nc, iA G 100 fnc), (nF, sA G 5 (FCT K))]) hC hK hl hP hD hS hA (m_codesF l G h0 (-1000) nw nk mhasKept nt (nI ktp) nr mrowMany mroundOf mroundFrom mouts nm mfromHour mtoHour ns (nI vf) (nI vt) vs (nI jd) (nI kc) mlines nl nc nF np ntr nb mbestCost nso nsi nit nsh nsf nss nrc mtraced mdealer mnumber mwhose msize misParted) si_X12_252 [3] [0, 1, 2] sm_3 fm_3 nd_3 sm_0_1_2 nd_0_1_2 dj_3__0_1_2 rfl rfl rfl rfl rfl (Nat.le_of_ble_eq_true rfl) (rmT (Nat.le_of_ble_eq_true rfl) (Nat.le_of_ble_eq_true rfl)) ⟨Nat.le_of_ble_eq_true rfl, Nat.le_of_ble_eq_true rfl⟩ gX12_one_11.2.2.2.2.2.1 (fun u7728 H locs hr7727 hP hD hS => ?_)
                refine Kpdr (ws := [(nt, iA G 240 fnt), (nc, iA G 100 fnc), (nF, sA G 5 (FCT K)), (h0, oX12 nw nk mhasKept nt (nI ktp) nr mrowMany mroundOf mroundFrom mouts nm mfromHour mtoHour ns (nI vf) (nI vt) vs 1 (nI jd) (nI kc) mlines nl nc nF np ntr nb mbestCost nso nsi nit nsh nsf nss nrc mtraced mdealer mnumber mwhose msize misParted)]) hP hD (fun hP hD => ?_)
                refine lv_iconst (v := 0) hx hb gX12_one_11.2.2.2.2.2.2.1 (by decide) ?_
                refine lv_istore_n (lv' := [(2, .int 0), (4, .int 0), (3, .int 2), (1, .int (nI vn)), (0, .ref h0)]) hx hb gX12_one_11.2.2.2.2.2.2.2.1 rfl hl (by decide) rfl (fun ls hl => ?_)
                have keyN : ∀ (nN kN : Nat) (H : Heap) (locs : List Loc) (ls : Array Slot), kN + nN = vn → va_PD G A [(nt, iA G 240 fnt), (nc, iA G 100 fnc), (nF, sA G 5 (FCT K)), (h0, oX12 nw nk mhasKept nt (nI ktp) nr mrowMany mroundOf mroundFrom mouts nm mfromHour mtoHour ns (nI vf) (nI vt) vs 1 (nI jd) (nI kc) mlines nl nc nF np ntr nb mbestCost nso nsi nit nsh nsf nss nrc mtraced mdealer mnumber mwhose msize misParted)] H → va_S A s.heap H locs → lv_has ls 5 [(2, .int (nI kN)), (4, .int 0), (3, .int 2), (1, .int (nI vn)), (0, .ref h0)] → W p l e (RM (10 + 4 * mn) 0 0) s m ([.ref h0] : List Value).toArray below meth c H locs 0 0 Q0 (F0 m 225 ls []) := by
                  intro nN
                  induction nN with
                  | zero =>
                    intro kN H locs ls hkN hPD hS hl
                    refine Kan2 hPD (fun hP hD => ?_)
                    obtain rfl : vn = kN := by omega
                    have hl : lv_has ls 5 [(2, .int (nI vn)), (4, .int 0), (3, .int 2), (1, .int (nI vn)), (0, .ref h0)] := hl
                    refine lv_iload_n hx hb gX12_one_11.2.2.2.2.2.2.2.2.1 rfl (lv_at0 hl) ?_
                    refine lv_iload_n hx hb gX12_one_11.2.2.2.2.2.2.2.2.2 rfl (lv_at3 hl) ?_
                    refine lv_icmp_ge (tgt := 243) hx hb gX12_one_12.1 (by decide) (fun _ => ?_) (fun c9 => absurd (Int32.le_refl _) c9)
                    refine toQ hQ0 ?_
                    exact RV hC hP hD hS [3, 0, 1, 2] (1, vf, vt, vs, kc, fnc) rfl rfl (by decide) (Or.inl rfl) gX12_one_12.2.2.2.2.2.2
                  | succ nN ihN =>
                    intro kN H locs ls hkN hPD hS hl
                    refine Kan2 hPD (fun hP hD => ?_)
                    refine lv_iload_n hx hb gX12_one_11.2.2.2.2.2.2.2.2.1 rfl (lv_at0 hl) ?_
                    refine lv_iload_n hx hb gX12_one_11.2.2.2.2.2.2.2.2.2 rfl (lv_at3 hl) ?_
                    refine lv_icmp_ge (tgt := 243) hx hb gX12_one_12.1 (by decide) (fun c9 => absurd c9 (nI_ge (a := kN) (b := vn) (by omega) (by omega))) (fun _ => ?_)
                    refine lv_aload_n hx hb gX12_one_12.2.1 rfl (lv_at4 hl) ?_
                    refine lv_sipush (v := 30000) hx hb gX12_one_12.2.2.1 (by decide) ?_
                    refine vV (wr := [(nt, iA G 240 fnt), (nc, iA G 100 fnc), (nF, sA G 5 (FCT K))]) hC hK hl hP hD hS hA (m_codesF l G h0 30000 nw nk mhasKept nt (nI ktp) nr mrowMany mroundOf mroundFrom mouts nm mfromHour mtoHour ns (nI vf) (nI vt) vs (nI jd) (nI kc) mlines nl nc nF np ntr nb mbestCost nso nsi nit nsh nsf nss nrc mtraced mdealer mnumber mwhose msize misParted) si_X12_252 [3] [0, 1, 2] sm_3 fm_3 nd_3 sm_0_1_2 nd_0_1_2 dj_3__0_1_2 rfl rfl rfl rfl rfl (Nat.le_of_ble_eq_true rfl) (rmT (Nat.le_of_ble_eq_true rfl) (Nat.le_of_ble_eq_true rfl)) ⟨Nat.le_of_ble_eq_true rfl, Nat.le_of_ble_eq_true rfl⟩ gX12_one_12.2.2.2.1 (fun u7730 H locs hr7729 hP hD hS => ?_)
                    refine Kpdr (ws := [(nt, iA G 240 fnt), (nc, iA G 100 fnc), (nF, sA G 5 (FCT K)), (h0, oX12 nw nk mhasKept nt (nI ktp) nr mrowMany mroundOf mroundFrom mouts nm mfromHour mtoHour ns (nI vf) (nI vt) vs 1 (nI jd) (nI kc) mlines nl nc nF np ntr nb mbestCost nso nsi nit nsh nsf nss nrc mtraced mdealer mnumber mwhose msize misParted)]) hP hD (fun hP hD => ?_)
                    refine lv_iinc (v := nI (kN + 1)) (lv' := [(2, .int (nI (kN + 1))), (4, .int 0), (3, .int 2), (1, .int (nI vn)), (0, .ref h0)]) hx hb gX12_one_12.2.2.2.2.1 hl (k := 0) rfl (nI_1 _) (by decide) rfl (fun ls hl => ?_)
                    refine lv_goto (tgt := 225) hx hb gX12_one_12.2.2.2.2.2.1 (by decide) ?_
                    exact ihN (kN + 1) _ _ _ (by omega) (And.intro hP hD) hS (lv_sub hl [0, 1, 2, 3, 4] rfl)
                exact keyN vn 0 _ _ _ (by omega) (And.intro hP hD) hS (lv_sub hl [0, 1, 2, 3, 4] rfl)
              · refine lv_aload_n hx hb gX12_one_6.2.2.2.1 rfl (lv_at3 hl) ?_
                refine lv_iload_n hx hb gX12_one_6.2.2.2.2.1 rfl (lv_at1 hl) ?_
                refine lv_if_lt (tgt := 128) hx hb gX12_one_6.2.2.2.2.2.1 (by decide) (fun c9 => absurd c9 (nI_pos (by omega))) (fun _ => ?_)
                refine lv_iconst (v := 1) hx hb gX12_one_6.2.2.2.2.2.2.1 (by decide) ?_
                refine lv_goto (tgt := 129) hx hb gX12_one_6.2.2.2.2.2.2.2.1 (by decide) ?_
                refine vV (wr := [(nc, iA G 100 fnc), (nF, sA G 5 (FCT K))]) hC hK hl hP hD hS hA (m_need1 l G h0 nw nk mhasKept nt ktp nr mrowMany mroundOf mroundFrom mouts nm mfromHour mtoHour ns (nI vf) vt vs (nI jd) (nI kc) mlines nl nc nF np ntr nb mbestCost nso nsi nit nsh nsf nss nrc mtraced mdealer mnumber mwhose msize misParted fnt (by omega) (htp)) si_X12_236 [0, 1] [2, 3] sm_0_1 fm_0_1 nd_0_1 sm_2_3 nd_2_3 dj_0_1__2_3 rfl rfl rfl rfl rfl (Nat.le_of_ble_eq_true rfl) (rmT (Nat.le_of_ble_eq_true rfl) (Nat.le_of_ble_eq_true rfl)) ⟨Nat.le_of_ble_eq_true rfl, Nat.le_of_ble_eq_true rfl⟩ gX12_one_6.2.2.2.2.2.2.2.2.2 (Ktu3 fun kf17733 kt17734 so17735 => ?_)
                intro H locs hr7731 hP hD hS
                try dsimp only at hr7731
                refine Kpdr (ws := [(nc, iA G 100 fnc), (nF, sA G 5 (FCT K)), (h0, oX12 nw nk mhasKept nt (nI ktp) nr mrowMany mroundOf mroundFrom mouts nm mfromHour mtoHour ns (nI kf17733) (nI kt17734) so17735 0 (nI jd) (nI kc) mlines nl nc nF np ntr nb mbestCost nso nsi nit nsh nsf nss nrc mtraced mdealer mnumber mwhose msize misParted), (nt, iA G 240 fnt)]) hP hD (fun hP hD => ?_)
                have hw7737_0 := hr7731.1
                have hw7737_1 := hr7731.2
                have tA7739 := hw7737_1.1
                have tB7739 := hw7737_1.2.1
                refine lv_aload_n hx hb gX12_one_7.1 rfl (lv_at3 hl) ?_
                refine lv_bipush (v := 60) hx hb gX12_one_7.2.1 (by decide) ?_
                refine pV hC hK hl hP hD (m_isSign0 l G h0 60 nw nk mhasKept nt ktp nr mrowMany mroundOf mroundFrom mouts nm mfromHour mtoHour ns kf17733 kt17734 so17735 (nI jd) (nI kc) mlines nl nc nF np ntr nb mbestCost nso nsi nit nsh nsf nss nrc mtraced mdealer mnumber mwhose msize misParted fnt (hw7737_1) (htp)) si_X12_262 [2, 3] sm_2_3 fm_2_3 nd_2_3 rfl rfl rfl rfl rfl (Nat.le_of_ble_eq_true rfl) (rmT (Nat.le_of_ble_eq_true rfl) (Nat.le_of_ble_eq_true rfl)) ⟨by first | exact Nat.le_of_ble_eq_true rfl | exact Nat.zero_le _, by first | exact Nat.le_of_ble_eq_true rfl | exact Nat.zero_le _⟩ gX12_one_7.2.2.1 (Kors (Keqa fun a7741 => ?_) (Keqa fun a7741 => ?_))
                · refine lv_if_eq (tgt := 145) hx hb gX12_one_7.2.2.2.1 (by decide) (fun c9 => absurd c9 (by decide)) (fun _ => ?_)
                  refine lv_iconst (v := 0) hx hb gX12_one_7.2.2.2.2.1 (by decide) ?_
                  refine lv_goto (tgt := 159) hx hb gX12_one_7.2.2.2.2.2.1 (by decide) ?_
                  refine lv_istore_n (lv' := [(3, .int 0), (2, .int (nI jfa)), (1, .int (nI vn)), (0, .ref h0)]) hx hb gX12_one_8.2.2.2.1 rfl hl (by decide) rfl (fun ls hl => ?_)
                  refine lv_aload_n hx hb gX12_one_8.2.2.2.2.1 rfl (lv_at3 hl) ?_
                  refine lv_aload_n hx hb gX12_one_8.2.2.2.2.2.1 rfl (lv_at3 hl) ?_
                  refine lv_bipush (v := 60) hx hb gX12_one_8.2.2.2.2.2.2.1 (by decide) ?_
                  have tI7742 := a7741.1
                  refine pV hC hK hl hP hD (m_isSign0 l G h0 60 nw nk mhasKept nt ktp nr mrowMany mroundOf mroundFrom mouts nm mfromHour mtoHour ns kf17733 kt17734 so17735 (nI jd) (nI kc) mlines nl nc nF np ntr nb mbestCost nso nsi nit nsh nsf nss nrc mtraced mdealer mnumber mwhose msize misParted fnt (hw7737_1) (htp)) si_X12_262 [2, 3] sm_2_3 fm_2_3 nd_2_3 rfl rfl rfl rfl rfl (Nat.le_of_ble_eq_true rfl) (rmT (Nat.le_of_ble_eq_true rfl) (Nat.le_of_ble_eq_true rfl)) ⟨by first | exact Nat.le_of_ble_eq_true rfl | exact Nat.zero_le _, by first | exact Nat.le_of_ble_eq_true rfl | exact Nat.zero_le _⟩ gX12_one_8.2.2.2.2.2.2.2.1 (Kors (Keqa fun a7744 => ?_) (Keqa fun a7744 => ?_))
                  · refine lv_if_ne (tgt := 188) hx hb gX12_one_8.2.2.2.2.2.2.2.2.1 (by decide) (fun _ => ?_) (fun c9 => absurd c9 (by decide))
                    refine lv_iconst (v := 1) hx hb gX12_one_9.2.2.2.2.2.2.2.1 (by decide) ?_
                    refine lv_goto (tgt := 193) hx hb gX12_one_9.2.2.2.2.2.2.2.2.1 (by decide) ?_
                    refine vV (wr := [(nc, iA G 100 fnc), (nF, sA G 5 (FCT K))]) hC hK hl hP hD hS hA (m_need1 l G h0 nw nk mhasKept nt ktp nr mrowMany mroundOf mroundFrom mouts nm mfromHour mtoHour ns (nI kf17733) kt17734 so17735 (nI jd) (nI kc) mlines nl nc nF np ntr nb mbestCost nso nsi nit nsh nsf nss nrc mtraced mdealer mnumber mwhose msize misParted fnt (by omega) (htp)) si_X12_236 [2, 3] [0, 1] sm_2_3 fm_2_3 nd_2_3 sm_0_1 nd_0_1 dj_2_3__0_1 rfl rfl rfl rfl rfl (Nat.le_of_ble_eq_true rfl) (rmT (Nat.le_of_ble_eq_true rfl) (Nat.le_of_ble_eq_true rfl)) ⟨Nat.le_of_ble_eq_true rfl, Nat.le_of_ble_eq_true rfl⟩ gX12_one_10.1 (Ktu3 fun kf17747 kt17748 so17749 => ?_)
                    intro H locs hr7745 hP hD hS
                    try dsimp only at hr7745
                    refine Kpdr (ws := [(nc, iA G 100 fnc), (nF, sA G 5 (FCT K)), (h0, oX12 nw nk mhasKept nt (nI ktp) nr mrowMany mroundOf mroundFrom mouts nm mfromHour mtoHour ns (nI kf17747) (nI kt17748) so17749 0 (nI jd) (nI kc) mlines nl nc nF np ntr nb mbestCost nso nsi nit nsh nsf nss nrc mtraced mdealer mnumber mwhose msize misParted), (nt, iA G 240 fnt)]) hP hD (fun hP hD => ?_)
                    have hw7751_0 := hr7745.1
                    have hw7751_1 := hr7745.2
                    have tA7753 := hw7751_1.1
                    have tB7753 := hw7751_1.2.1
                    refine lv_aload_n hx hb gX12_one_10.2.1 rfl (lv_at3 hl) ?_
                    refine lv_sipush (v := 999) hx hb gX12_one_10.2.2.1 (by decide) ?_
                    refine iV (wr := [(nc, iA G 100 fnc), (nF, sA G 5 (FCT K))]) hC hK hl hP hD hS hA (m_number0 l G h0 999 nw nk mhasKept nt ktp nr mrowMany mroundOf mroundFrom mouts nm mfromHour mtoHour ns kf17747 kt17748 so17749 (nI jd) (nI kc) mlines nl nc nF np ntr nb mbestCost nso nsi nit nsh nsf nss nrc mtraced mdealer mnumber mwhose msize misParted fnt (hw7751_1) (htp) (by omega)) si_X12_271 [2, 3] [0, 1] sm_2_3 fm_2_3 nd_2_3 sm_0_1 nd_0_1 dj_2_3__0_1 rfl rfl rfl rfl rfl (Nat.le_of_ble_eq_true rfl) (rmT (Nat.le_of_ble_eq_true rfl) (Nat.le_of_ble_eq_true rfl)) ⟨Nat.le_of_ble_eq_true rfl, Nat.le_of_ble_eq_true rfl⟩ gX12_one_10.2.2.2.1 (fun r7754 => Ktu4 fun ff17756 kf17757 kt17758 so17759 => ?_)
                    intro H locs hr7754 hP hD hS
                    try dsimp only at hr7754
                    refine Kpdr (ws := [(nc, iA G 100 fnc), (nF, sA G 5 (FCT K)), (h0, oX12 nw nk mhasKept nt (nI ktp) nr mrowMany mroundOf mroundFrom mouts nm mfromHour mtoHour ns (nI kf17757) (nI kt17758) so17759 ff17756 (nI jd) (nI kc) mlines nl nc nF np ntr nb mbestCost nso nsi nit nsh nsf nss nrc mtraced mdealer mnumber mwhose msize misParted), (nt, iA G 240 fnt)]) hP hD (fun hP hD => ?_)
                    obtain ⟨hr7754, w7760⟩ := hr7754
                    rcases w7760 with rfl | ⟨rfl, ⟨v_7761, hv_7761, rfl⟩, hw7761_1, hw7761_2⟩
                    · refine lv_istore (lv' := [(4, .int r7754), (3, .int 0), (2, .int (nI jfa)), (1, .int (nI vn)), (0, .ref h0)]) hx hb gX12_one_10.2.2.2.2.1 hl (by decide) rfl (fun ls hl => ?_)
                      refine lv_aload_n hx hb gX12_one_10.2.2.2.2.2.1 rfl (lv_at4 hl) ?_
                      refine lv_sipush (v := 3000) hx hb gX12_one_10.2.2.2.2.2.2.1 (by decide) ?_
                      refine lv_iload_n hx hb gX12_one_10.2.2.2.2.2.2.2.1 rfl (lv_at2 hl) ?_
                      refine lv_imul hx hb gX12_one_10.2.2.2.2.2.2.2.2.1 ?_
                      refine eqi (x1 := nI (3000 * jfa)) (nI_mul 3000 jfa) ?_
                      refine lv_sipush (v := 1000) hx hb gX12_one_10.2.2.2.2.2.2.2.2.2 (by decide) ?_
                      refine lv_iload_n hx hb gX12_one_11.1 rfl (lv_at1 hl) ?_
                      refine lv_imul hx hb gX12_one_11.2.1 ?_
                      refine eqi (x1 := 0) (by decide) ?_
                      refine lv_iadd hx hb gX12_one_11.2.2.1 ?_
                      refine eqi (x1 := nI (3000 * jfa + 0)) (nI_add (3000 * jfa) 0) ?_
                      refine lv_iload hx hb gX12_one_11.2.2.2.1 (lv_at0 hl) ?_
                      refine lv_iadd hx hb gX12_one_11.2.2.2.2.1 ?_
                      refine vV (wr := [(nc, iA G 100 fnc), (nF, sA G 5 (FCT K)), (nt, iA G 240 fnt)]) hC hK hl hP hD hS hA (m_codesF l G h0 ((nI (3000 * jfa + 0)) + r7754) nw nk mhasKept nt (nI ktp) nr mrowMany mroundOf mroundFrom mouts nm mfromHour mtoHour ns (nI kf17757) (nI kt17758) so17759 (nI jd) (nI kc) mlines nl nc nF np ntr nb mbestCost nso nsi nit nsh nsf nss nrc mtraced mdealer mnumber mwhose msize misParted) si_X12_252 [2] [0, 1, 3] sm_2 fm_2 nd_2 sm_0_1_3 nd_0_1_3 dj_2__0_1_3 rfl rfl rfl rfl rfl (Nat.le_of_ble_eq_true rfl) (rmT (Nat.le_of_ble_eq_true rfl) (Nat.le_of_ble_eq_true rfl)) ⟨Nat.le_of_ble_eq_true rfl, Nat.le_of_ble_eq_true rfl⟩ gX12_one_11.2.2.2.2.2.1 (fun u7763 H locs hr7762 hP hD hS => ?_)
                      refine Kpdr (ws := [(nc, iA G 100 fnc), (nF, sA G 5 (FCT K)), (nt, iA G 240 fnt), (h0, oX12 nw nk mhasKept nt (nI ktp) nr mrowMany mroundOf mroundFrom mouts nm mfromHour mtoHour ns (nI kf17757) (nI kt17758) so17759 1 (nI jd) (nI kc) mlines nl nc nF np ntr nb mbestCost nso nsi nit nsh nsf nss nrc mtraced mdealer mnumber mwhose msize misParted)]) hP hD (fun hP hD => ?_)
                      refine lv_iconst (v := 0) hx hb gX12_one_11.2.2.2.2.2.2.1 (by decide) ?_
                      refine lv_istore_n (lv' := [(2, .int 0), (4, .int r7754), (3, .int 0), (1, .int (nI vn)), (0, .ref h0)]) hx hb gX12_one_11.2.2.2.2.2.2.2.1 rfl hl (by decide) rfl (fun ls hl => ?_)
                      have keyN : ∀ (nN kN : Nat) (H : Heap) (locs : List Loc) (ls : Array Slot), kN + nN = vn → va_PD G A [(nc, iA G 100 fnc), (nF, sA G 5 (FCT K)), (nt, iA G 240 fnt), (h0, oX12 nw nk mhasKept nt (nI ktp) nr mrowMany mroundOf mroundFrom mouts nm mfromHour mtoHour ns (nI kf17757) (nI kt17758) so17759 1 (nI jd) (nI kc) mlines nl nc nF np ntr nb mbestCost nso nsi nit nsh nsf nss nrc mtraced mdealer mnumber mwhose msize misParted)] H → va_S A s.heap H locs → lv_has ls 5 [(2, .int (nI kN)), (4, .int r7754), (3, .int 0), (1, .int (nI vn)), (0, .ref h0)] → W p l e (RM (10 + 4 * mn) 0 0) s m ([.ref h0] : List Value).toArray below meth c H locs 0 0 Q0 (F0 m 225 ls []) := by
                        intro nN
                        induction nN with
                        | zero =>
                          intro kN H locs ls hkN hPD hS hl
                          refine Kan2 hPD (fun hP hD => ?_)
                          obtain rfl : vn = kN := by omega
                          have hl : lv_has ls 5 [(2, .int (nI vn)), (4, .int r7754), (3, .int 0), (1, .int (nI vn)), (0, .ref h0)] := hl
                          refine lv_iload_n hx hb gX12_one_11.2.2.2.2.2.2.2.2.1 rfl (lv_at0 hl) ?_
                          refine lv_iload_n hx hb gX12_one_11.2.2.2.2.2.2.2.2.2 rfl (lv_at3 hl) ?_
                          refine lv_icmp_ge (tgt := 243) hx hb gX12_one_12.1 (by decide) (fun _ => ?_) (fun c9 => absurd (Int32.le_refl _) c9)
                          refine toQ hQ0 ?_
                          exact RV hC hP hD hS [3, 2, 0, 1] (1, kf17757, kt17758, so17759, kc, fnc) rfl rfl (by decide) (Or.inl rfl) gX12_one_12.2.2.2.2.2.2
                        | succ nN ihN =>
                          intro kN H locs ls hkN hPD hS hl
                          refine Kan2 hPD (fun hP hD => ?_)
                          refine lv_iload_n hx hb gX12_one_11.2.2.2.2.2.2.2.2.1 rfl (lv_at0 hl) ?_
                          refine lv_iload_n hx hb gX12_one_11.2.2.2.2.2.2.2.2.2 rfl (lv_at3 hl) ?_
                          refine lv_icmp_ge (tgt := 243) hx hb gX12_one_12.1 (by decide) (fun c9 => absurd c9 (nI_ge (a := kN) (b := vn) (by omega) (by omega))) (fun _ => ?_)
                          refine lv_aload_n hx hb gX12_one_12.2.1 rfl (lv_at4 hl) ?_
                          refine lv_sipush (v := 30000) hx hb gX12_one_12.2.2.1 (by decide) ?_
                          refine vV (wr := [(nc, iA G 100 fnc), (nF, sA G 5 (FCT K)), (nt, iA G 240 fnt)]) hC hK hl hP hD hS hA (m_codesF l G h0 30000 nw nk mhasKept nt (nI ktp) nr mrowMany mroundOf mroundFrom mouts nm mfromHour mtoHour ns (nI kf17757) (nI kt17758) so17759 (nI jd) (nI kc) mlines nl nc nF np ntr nb mbestCost nso nsi nit nsh nsf nss nrc mtraced mdealer mnumber mwhose msize misParted) si_X12_252 [3] [0, 1, 2] sm_3 fm_3 nd_3 sm_0_1_2 nd_0_1_2 dj_3__0_1_2 rfl rfl rfl rfl rfl (Nat.le_of_ble_eq_true rfl) (rmT (Nat.le_of_ble_eq_true rfl) (Nat.le_of_ble_eq_true rfl)) ⟨Nat.le_of_ble_eq_true rfl, Nat.le_of_ble_eq_true rfl⟩ gX12_one_12.2.2.2.1 (fun u7765 H locs hr7764 hP hD hS => ?_)
                          refine Kpdr (ws := [(nc, iA G 100 fnc), (nF, sA G 5 (FCT K)), (nt, iA G 240 fnt), (h0, oX12 nw nk mhasKept nt (nI ktp) nr mrowMany mroundOf mroundFrom mouts nm mfromHour mtoHour ns (nI kf17757) (nI kt17758) so17759 1 (nI jd) (nI kc) mlines nl nc nF np ntr nb mbestCost nso nsi nit nsh nsf nss nrc mtraced mdealer mnumber mwhose msize misParted)]) hP hD (fun hP hD => ?_)
                          refine lv_iinc (v := nI (kN + 1)) (lv' := [(2, .int (nI (kN + 1))), (4, .int r7754), (3, .int 0), (1, .int (nI vn)), (0, .ref h0)]) hx hb gX12_one_12.2.2.2.2.1 hl (k := 0) rfl (nI_1 _) (by decide) rfl (fun ls hl => ?_)
                          refine lv_goto (tgt := 225) hx hb gX12_one_12.2.2.2.2.2.1 (by decide) ?_
                          exact ihN (kN + 1) _ _ _ (by omega) (And.intro hP hD) hS (lv_sub hl [0, 1, 2, 3, 4] rfl)
                      exact keyN vn 0 _ _ _ (by omega) (And.intro hP hD) hS (lv_sub hl [0, 1, 2, 3, 4] rfl)
                    · have tA7767 := hw7761_2.1
                      have tB7767 := hw7761_2.2.1
                      refine lv_istore (lv' := [(4, .int (nI v_7761)), (3, .int 0), (2, .int (nI jfa)), (1, .int (nI vn)), (0, .ref h0)]) hx hb gX12_one_10.2.2.2.2.1 hl (by decide) rfl (fun ls hl => ?_)
                      refine lv_aload_n hx hb gX12_one_10.2.2.2.2.2.1 rfl (lv_at4 hl) ?_
                      refine lv_sipush (v := 3000) hx hb gX12_one_10.2.2.2.2.2.2.1 (by decide) ?_
                      refine lv_iload_n hx hb gX12_one_10.2.2.2.2.2.2.2.1 rfl (lv_at2 hl) ?_
                      refine lv_imul hx hb gX12_one_10.2.2.2.2.2.2.2.2.1 ?_
                      refine eqi (x1 := nI (3000 * jfa)) (nI_mul 3000 jfa) ?_
                      refine lv_sipush (v := 1000) hx hb gX12_one_10.2.2.2.2.2.2.2.2.2 (by decide) ?_
                      refine lv_iload_n hx hb gX12_one_11.1 rfl (lv_at1 hl) ?_
                      refine lv_imul hx hb gX12_one_11.2.1 ?_
                      refine eqi (x1 := 0) (by decide) ?_
                      refine lv_iadd hx hb gX12_one_11.2.2.1 ?_
                      refine eqi (x1 := nI (3000 * jfa + 0)) (nI_add (3000 * jfa) 0) ?_
                      refine lv_iload hx hb gX12_one_11.2.2.2.1 (lv_at0 hl) ?_
                      refine lv_iadd hx hb gX12_one_11.2.2.2.2.1 ?_
                      refine eqi (x1 := nI (3000 * jfa + 0 + v_7761)) (nI_add (3000 * jfa + 0) v_7761) ?_
                      refine vV (wr := [(nF, sA G 5 (FCT K)), (nt, iA G 240 fnt)]) hC hK hl hP hD hS hA (m_codes0 l G h0 (nI (3000 * jfa + 0 + v_7761)) nw nk mhasKept nt (nI ktp) nr mrowMany mroundOf mroundFrom mouts nm mfromHour mtoHour ns (nI kf17757) (nI kt17758) so17759 (nI jd) kc mlines nl nc nF np ntr nb mbestCost nso nsi nit nsh nsf nss nrc mtraced mdealer mnumber mwhose msize misParted fnc (by omega)) si_X12_252 [2, 0] [1, 3] sm_2_0 fm_2_0 nd_2_0 sm_1_3 nd_1_3 dj_2_0__1_3 rfl rfl rfl rfl rfl (Nat.le_of_ble_eq_true rfl) (rmT (Nat.le_of_ble_eq_true rfl) (Nat.le_of_ble_eq_true rfl)) ⟨Nat.le_of_ble_eq_true rfl, Nat.le_of_ble_eq_true rfl⟩ gX12_one_11.2.2.2.2.2.1 (fun u7769 H locs hr7768 hP hD hS => ?_)
                      refine Kpdr (ws := [(nF, sA G 5 (FCT K)), (nt, iA G 240 fnt), (h0, oX12 nw nk mhasKept nt (nI ktp) nr mrowMany mroundOf mroundFrom mouts nm mfromHour mtoHour ns (nI kf17757) (nI kt17758) so17759 0 (nI jd) (nI (kc + 1)) mlines nl nc nF np ntr nb mbestCost nso nsi nit nsh nsf nss nrc mtraced mdealer mnumber mwhose msize misParted), (nc, iA G 100 (upd fnc kc (nI (3000 * jfa + 0 + v_7761))))]) hP hD (fun hP hD => ?_)
                      refine lv_iconst (v := 0) hx hb gX12_one_11.2.2.2.2.2.2.1 (by decide) ?_
                      refine lv_istore_n (lv' := [(2, .int 0), (4, .int (nI v_7761)), (3, .int 0), (1, .int (nI vn)), (0, .ref h0)]) hx hb gX12_one_11.2.2.2.2.2.2.2.1 rfl hl (by decide) rfl (fun ls hl => ?_)
                      have hbase9 : vf + 3 * (kc + 1) + 2 ≤ kf17757 + 3 * kc := by omega
                      have keyN : ∀ (nN kN : Nat) (vC : Nat → Int32) (H : Heap) (locs : List Loc) (ls : Array Slot), kN + nN = vn → (EXPR fnc vC kc ((kc + 1) + kN) kf kf17757) → va_PD G A [(nF, sA G 5 (FCT K)), (nt, iA G 240 fnt), (h0, oX12 nw nk mhasKept nt (nI ktp) nr mrowMany mroundOf mroundFrom mouts nm mfromHour mtoHour ns (nI kf17757) (nI kt17758) so17759 0 (nI jd) (nI ((kc + 1) + kN)) mlines nl nc nF np ntr nb mbestCost nso nsi nit nsh nsf nss nrc mtraced mdealer mnumber mwhose msize misParted), (nc, iA G 100 vC)] H → va_S A s.heap H locs → lv_has ls 5 [(2, .int (nI kN)), (4, .int (nI v_7761)), (3, .int 0), (1, .int (nI vn)), (0, .ref h0)] → W p l e (RM (10 + 4 * mn) 0 0) s m ([.ref h0] : List Value).toArray below meth c H locs 0 0 Q0 (F0 m 225 ls []) := by
                        intro nN
                        induction nN with
                        | zero =>
                          intro kN vC H locs ls hkN hEx hPD hS hl
                          refine Kan2 hPD (fun hP hD => ?_)
                          obtain rfl : vn = kN := by omega
                          refine Kpdr (ws := [(nF, sA G 5 (FCT K)), (nt, iA G 240 fnt), (h0, oX12 nw nk mhasKept nt (nI ktp) nr mrowMany mroundOf mroundFrom mouts nm mfromHour mtoHour ns (nI kf17757) (nI kt17758) so17759 0 (nI jd) (nI ((kc + 1) + vn)) mlines nl nc nF np ntr nb mbestCost nso nsi nit nsh nsf nss nrc mtraced mdealer mnumber mwhose msize misParted), (nc, iA G 100 vC)]) hP hD (fun hP hD => ?_)
                          have hl : lv_has ls 5 [(2, .int (nI vn)), (4, .int (nI v_7761)), (3, .int 0), (1, .int (nI vn)), (0, .ref h0)] := hl
                          refine lv_iload_n hx hb gX12_one_11.2.2.2.2.2.2.2.2.1 rfl (lv_at0 hl) ?_
                          refine lv_iload_n hx hb gX12_one_11.2.2.2.2.2.2.2.2.2 rfl (lv_at3 hl) ?_
                          refine lv_icmp_ge (tgt := 243) hx hb gX12_one_12.1 (by decide) (fun _ => ?_) (fun c9 => absurd (Int32.le_refl _) c9)
                          refine toQ hQ0 ?_
                          exact RV hC hP hD hS [2, 1, 3, 0] (0, kf17757, kt17758, so17759, ((kc + 1) + vn), vC) rfl rfl (by decide) (Or.inr ⟨rfl, hw7761_2, EXPR.wid hEx (by (try dsimp only); omega)⟩) gX12_one_12.2.2.2.2.2.2
                        | succ nN ihN =>
                          intro kN vC H locs ls hkN hEx hPD hS hl
                          refine Kan2 hPD (fun hP hD => ?_)
                          refine lv_iload_n hx hb gX12_one_11.2.2.2.2.2.2.2.2.1 rfl (lv_at0 hl) ?_
                          refine lv_iload_n hx hb gX12_one_11.2.2.2.2.2.2.2.2.2 rfl (lv_at3 hl) ?_
                          refine lv_icmp_ge (tgt := 243) hx hb gX12_one_12.1 (by decide) (fun c9 => absurd c9 (nI_ge (a := kN) (b := vn) (by omega) (by omega))) (fun _ => ?_)
                          refine lv_aload_n hx hb gX12_one_12.2.1 rfl (lv_at4 hl) ?_
                          refine lv_sipush (v := 30000) hx hb gX12_one_12.2.2.1 (by decide) ?_
                          refine vV (wr := [(nF, sA G 5 (FCT K)), (nt, iA G 240 fnt)]) hC hK hl hP hD hS hA (m_codes0 l G h0 30000 nw nk mhasKept nt (nI ktp) nr mrowMany mroundOf mroundFrom mouts nm mfromHour mtoHour ns (nI kf17757) (nI kt17758) so17759 (nI jd) ((kc + 1) + kN) mlines nl nc nF np ntr nb mbestCost nso nsi nit nsh nsf nss nrc mtraced mdealer mnumber mwhose msize misParted vC (by omega)) si_X12_252 [2, 3] [0, 1] sm_2_3 fm_2_3 nd_2_3 sm_0_1 nd_0_1 dj_2_3__0_1 rfl rfl rfl rfl rfl (Nat.le_of_ble_eq_true rfl) (rmT (Nat.le_of_ble_eq_true rfl) (Nat.le_of_ble_eq_true rfl)) ⟨Nat.le_of_ble_eq_true rfl, Nat.le_of_ble_eq_true rfl⟩ gX12_one_12.2.2.2.1 (fun u7771 H locs hr7770 hP hD hS => ?_)
                          refine Kpdr (ws := [(nF, sA G 5 (FCT K)), (nt, iA G 240 fnt), (h0, oX12 nw nk mhasKept nt (nI ktp) nr mrowMany mroundOf mroundFrom mouts nm mfromHour mtoHour ns (nI kf17757) (nI kt17758) so17759 0 (nI jd) (nI (((kc + 1) + kN) + 1)) mlines nl nc nF np ntr nb mbestCost nso nsi nit nsh nsf nss nrc mtraced mdealer mnumber mwhose msize misParted), (nc, iA G 100 (upd vC ((kc + 1) + kN) 30000))]) hP hD (fun hP hD => ?_)
                          refine lv_iinc (v := nI (kN + 1)) (lv' := [(2, .int (nI (kN + 1))), (4, .int (nI v_7761)), (3, .int 0), (1, .int (nI vn)), (0, .ref h0)]) hx hb gX12_one_12.2.2.2.2.1 hl (k := 0) rfl (nI_1 _) (by decide) rfl (fun ls hl => ?_)
                          refine lv_goto (tgt := 225) hx hb gX12_one_12.2.2.2.2.2.1 (by decide) ?_
                          exact ihN (kN + 1) (upd vC ((kc + 1) + kN) 30000) _ _ _ (by omega) (by first | assumption | exact Or.inl rfl | exact Or.inr rfl | exact EXPR.not hEx (by omega)) (And.intro hP hD) hS (lv_sub hl [0, 1, 2, 3, 4] rfl)
                      exact keyN vn 0 (upd fnc kc (nI (3000 * jfa + 0 + v_7761))) _ _ _ (by omega) (by first | assumption | exact Or.inl rfl | exact Or.inr rfl | exact EXPR.fact (fct_lt (by omega) (by decide) (by omega)) (by omega) | exact EXPR.not hEx (by omega)) (And.intro hP hD) hS (lv_sub hl [0, 1, 2, 3, 4] rfl)
                  · exact absurd a7741 a7744
                · refine lv_if_eq (tgt := 145) hx hb gX12_one_7.2.2.2.1 (by decide) (fun _ => ?_) (fun c9 => absurd (by decide) c9)
                  refine lv_aload_n hx hb gX12_one_7.2.2.2.2.2.2.1 rfl (lv_at3 hl) ?_
                  refine lv_bipush (v := 61) hx hb gX12_one_7.2.2.2.2.2.2.2.1 (by decide) ?_
                  refine pV hC hK hl hP hD (m_isSign0 l G h0 61 nw nk mhasKept nt ktp nr mrowMany mroundOf mroundFrom mouts nm mfromHour mtoHour ns kf17733 kt17734 so17735 (nI jd) (nI kc) mlines nl nc nF np ntr nb mbestCost nso nsi nit nsh nsf nss nrc mtraced mdealer mnumber mwhose msize misParted fnt (hw7737_1) (htp)) si_X12_262 [2, 3] sm_2_3 fm_2_3 nd_2_3 rfl rfl rfl rfl rfl (Nat.le_of_ble_eq_true rfl) (rmT (Nat.le_of_ble_eq_true rfl) (Nat.le_of_ble_eq_true rfl)) ⟨by first | exact Nat.le_of_ble_eq_true rfl | exact Nat.zero_le _, by first | exact Nat.le_of_ble_eq_true rfl | exact Nat.zero_le _⟩ gX12_one_7.2.2.2.2.2.2.2.2.1 (Kors (Keqa fun a7773 => ?_) (Keqa fun a7773 => ?_))
                  · refine lv_if_eq (tgt := 158) hx hb gX12_one_7.2.2.2.2.2.2.2.2.2 (by decide) (fun c9 => absurd c9 (by decide)) (fun _ => ?_)
                    refine lv_iconst (v := 1) hx hb gX12_one_8.1 (by decide) ?_
                    refine lv_goto (tgt := 159) hx hb gX12_one_8.2.1 (by decide) ?_
                    refine lv_istore_n (lv' := [(3, .int 1), (2, .int (nI jfa)), (1, .int (nI vn)), (0, .ref h0)]) hx hb gX12_one_8.2.2.2.1 rfl hl (by decide) rfl (fun ls hl => ?_)
                    refine lv_aload_n hx hb gX12_one_8.2.2.2.2.1 rfl (lv_at3 hl) ?_
                    refine lv_aload_n hx hb gX12_one_8.2.2.2.2.2.1 rfl (lv_at3 hl) ?_
                    refine lv_bipush (v := 60) hx hb gX12_one_8.2.2.2.2.2.2.1 (by decide) ?_
                    have tI7774 := a7773.1
                    refine pV hC hK hl hP hD (m_isSign0 l G h0 60 nw nk mhasKept nt ktp nr mrowMany mroundOf mroundFrom mouts nm mfromHour mtoHour ns kf17733 kt17734 so17735 (nI jd) (nI kc) mlines nl nc nF np ntr nb mbestCost nso nsi nit nsh nsf nss nrc mtraced mdealer mnumber mwhose msize misParted fnt (hw7737_1) (htp)) si_X12_262 [2, 3] sm_2_3 fm_2_3 nd_2_3 rfl rfl rfl rfl rfl (Nat.le_of_ble_eq_true rfl) (rmT (Nat.le_of_ble_eq_true rfl) (Nat.le_of_ble_eq_true rfl)) ⟨by first | exact Nat.le_of_ble_eq_true rfl | exact Nat.zero_le _, by first | exact Nat.le_of_ble_eq_true rfl | exact Nat.zero_le _⟩ gX12_one_8.2.2.2.2.2.2.2.1 (Kors (Keqa fun a7776 => ?_) (Keqa fun a7776 => ?_))
                    · exact absurd a7776 a7741
                    · refine lv_if_ne (tgt := 188) hx hb gX12_one_8.2.2.2.2.2.2.2.2.1 (by decide) (fun c9 => absurd (by decide) c9) (fun _ => ?_)
                      refine lv_aload_n hx hb gX12_one_8.2.2.2.2.2.2.2.2.2 rfl (lv_at3 hl) ?_
                      refine lv_bipush (v := 61) hx hb gX12_one_9.1 (by decide) ?_
                      refine pV hC hK hl hP hD (m_isSign0 l G h0 61 nw nk mhasKept nt ktp nr mrowMany mroundOf mroundFrom mouts nm mfromHour mtoHour ns kf17733 kt17734 so17735 (nI jd) (nI kc) mlines nl nc nF np ntr nb mbestCost nso nsi nit nsh nsf nss nrc mtraced mdealer mnumber mwhose msize misParted fnt (hw7737_1) (htp)) si_X12_262 [2, 3] sm_2_3 fm_2_3 nd_2_3 rfl rfl rfl rfl rfl (Nat.le_of_ble_eq_true rfl) (rmT (Nat.le_of_ble_eq_true rfl) (Nat.le_of_ble_eq_true rfl)) ⟨by first | exact Nat.le_of_ble_eq_true rfl | exact Nat.zero_le _, by first | exact Nat.le_of_ble_eq_true rfl | exact Nat.zero_le _⟩ gX12_one_9.2.1 (Kors (Keqa fun a7778 => ?_) (Keqa fun a7778 => ?_))
                      · refine lv_if_ne (tgt := 188) hx hb gX12_one_9.2.2.1 (by decide) (fun _ => ?_) (fun c9 => absurd c9 (by decide))
                        refine lv_iconst (v := 1) hx hb gX12_one_9.2.2.2.2.2.2.2.1 (by decide) ?_
                        refine lv_goto (tgt := 193) hx hb gX12_one_9.2.2.2.2.2.2.2.2.1 (by decide) ?_
                        refine vV (wr := [(nc, iA G 100 fnc), (nF, sA G 5 (FCT K))]) hC hK hl hP hD hS hA (m_need1 l G h0 nw nk mhasKept nt ktp nr mrowMany mroundOf mroundFrom mouts nm mfromHour mtoHour ns (nI kf17733) kt17734 so17735 (nI jd) (nI kc) mlines nl nc nF np ntr nb mbestCost nso nsi nit nsh nsf nss nrc mtraced mdealer mnumber mwhose msize misParted fnt (by omega) (htp)) si_X12_236 [2, 3] [0, 1] sm_2_3 fm_2_3 nd_2_3 sm_0_1 nd_0_1 dj_2_3__0_1 rfl rfl rfl rfl rfl (Nat.le_of_ble_eq_true rfl) (rmT (Nat.le_of_ble_eq_true rfl) (Nat.le_of_ble_eq_true rfl)) ⟨Nat.le_of_ble_eq_true rfl, Nat.le_of_ble_eq_true rfl⟩ gX12_one_10.1 (Ktu3 fun kf17781 kt17782 so17783 => ?_)
                        intro H locs hr7779 hP hD hS
                        try dsimp only at hr7779
                        refine Kpdr (ws := [(nc, iA G 100 fnc), (nF, sA G 5 (FCT K)), (h0, oX12 nw nk mhasKept nt (nI ktp) nr mrowMany mroundOf mroundFrom mouts nm mfromHour mtoHour ns (nI kf17781) (nI kt17782) so17783 0 (nI jd) (nI kc) mlines nl nc nF np ntr nb mbestCost nso nsi nit nsh nsf nss nrc mtraced mdealer mnumber mwhose msize misParted), (nt, iA G 240 fnt)]) hP hD (fun hP hD => ?_)
                        have hw7785_0 := hr7779.1
                        have hw7785_1 := hr7779.2
                        have tA7787 := hw7785_1.1
                        have tB7787 := hw7785_1.2.1
                        refine lv_aload_n hx hb gX12_one_10.2.1 rfl (lv_at3 hl) ?_
                        refine lv_sipush (v := 999) hx hb gX12_one_10.2.2.1 (by decide) ?_
                        refine iV (wr := [(nc, iA G 100 fnc), (nF, sA G 5 (FCT K))]) hC hK hl hP hD hS hA (m_number0 l G h0 999 nw nk mhasKept nt ktp nr mrowMany mroundOf mroundFrom mouts nm mfromHour mtoHour ns kf17781 kt17782 so17783 (nI jd) (nI kc) mlines nl nc nF np ntr nb mbestCost nso nsi nit nsh nsf nss nrc mtraced mdealer mnumber mwhose msize misParted fnt (hw7785_1) (htp) (by omega)) si_X12_271 [2, 3] [0, 1] sm_2_3 fm_2_3 nd_2_3 sm_0_1 nd_0_1 dj_2_3__0_1 rfl rfl rfl rfl rfl (Nat.le_of_ble_eq_true rfl) (rmT (Nat.le_of_ble_eq_true rfl) (Nat.le_of_ble_eq_true rfl)) ⟨Nat.le_of_ble_eq_true rfl, Nat.le_of_ble_eq_true rfl⟩ gX12_one_10.2.2.2.1 (fun r7788 => Ktu4 fun ff17790 kf17791 kt17792 so17793 => ?_)
                        intro H locs hr7788 hP hD hS
                        try dsimp only at hr7788
                        refine Kpdr (ws := [(nc, iA G 100 fnc), (nF, sA G 5 (FCT K)), (h0, oX12 nw nk mhasKept nt (nI ktp) nr mrowMany mroundOf mroundFrom mouts nm mfromHour mtoHour ns (nI kf17791) (nI kt17792) so17793 ff17790 (nI jd) (nI kc) mlines nl nc nF np ntr nb mbestCost nso nsi nit nsh nsf nss nrc mtraced mdealer mnumber mwhose msize misParted), (nt, iA G 240 fnt)]) hP hD (fun hP hD => ?_)
                        obtain ⟨hr7788, w7794⟩ := hr7788
                        rcases w7794 with rfl | ⟨rfl, ⟨v_7795, hv_7795, rfl⟩, hw7795_1, hw7795_2⟩
                        · refine lv_istore (lv' := [(4, .int r7788), (3, .int 1), (2, .int (nI jfa)), (1, .int (nI vn)), (0, .ref h0)]) hx hb gX12_one_10.2.2.2.2.1 hl (by decide) rfl (fun ls hl => ?_)
                          refine lv_aload_n hx hb gX12_one_10.2.2.2.2.2.1 rfl (lv_at4 hl) ?_
                          refine lv_sipush (v := 3000) hx hb gX12_one_10.2.2.2.2.2.2.1 (by decide) ?_
                          refine lv_iload_n hx hb gX12_one_10.2.2.2.2.2.2.2.1 rfl (lv_at2 hl) ?_
                          refine lv_imul hx hb gX12_one_10.2.2.2.2.2.2.2.2.1 ?_
                          refine eqi (x1 := nI (3000 * jfa)) (nI_mul 3000 jfa) ?_
                          refine lv_sipush (v := 1000) hx hb gX12_one_10.2.2.2.2.2.2.2.2.2 (by decide) ?_
                          refine lv_iload_n hx hb gX12_one_11.1 rfl (lv_at1 hl) ?_
                          refine lv_imul hx hb gX12_one_11.2.1 ?_
                          refine eqi (x1 := 1000) (by decide) ?_
                          refine lv_iadd hx hb gX12_one_11.2.2.1 ?_
                          refine eqi (x1 := nI (3000 * jfa + 1000)) (nI_add (3000 * jfa) 1000) ?_
                          refine lv_iload hx hb gX12_one_11.2.2.2.1 (lv_at0 hl) ?_
                          refine lv_iadd hx hb gX12_one_11.2.2.2.2.1 ?_
                          refine vV (wr := [(nc, iA G 100 fnc), (nF, sA G 5 (FCT K)), (nt, iA G 240 fnt)]) hC hK hl hP hD hS hA (m_codesF l G h0 ((nI (3000 * jfa + 1000)) + r7788) nw nk mhasKept nt (nI ktp) nr mrowMany mroundOf mroundFrom mouts nm mfromHour mtoHour ns (nI kf17791) (nI kt17792) so17793 (nI jd) (nI kc) mlines nl nc nF np ntr nb mbestCost nso nsi nit nsh nsf nss nrc mtraced mdealer mnumber mwhose msize misParted) si_X12_252 [2] [0, 1, 3] sm_2 fm_2 nd_2 sm_0_1_3 nd_0_1_3 dj_2__0_1_3 rfl rfl rfl rfl rfl (Nat.le_of_ble_eq_true rfl) (rmT (Nat.le_of_ble_eq_true rfl) (Nat.le_of_ble_eq_true rfl)) ⟨Nat.le_of_ble_eq_true rfl, Nat.le_of_ble_eq_true rfl⟩ gX12_one_11.2.2.2.2.2.1 (fun u7797 H locs hr7796 hP hD hS => ?_)
                          refine Kpdr (ws := [(nc, iA G 100 fnc), (nF, sA G 5 (FCT K)), (nt, iA G 240 fnt), (h0, oX12 nw nk mhasKept nt (nI ktp) nr mrowMany mroundOf mroundFrom mouts nm mfromHour mtoHour ns (nI kf17791) (nI kt17792) so17793 1 (nI jd) (nI kc) mlines nl nc nF np ntr nb mbestCost nso nsi nit nsh nsf nss nrc mtraced mdealer mnumber mwhose msize misParted)]) hP hD (fun hP hD => ?_)
                          refine lv_iconst (v := 0) hx hb gX12_one_11.2.2.2.2.2.2.1 (by decide) ?_
                          refine lv_istore_n (lv' := [(2, .int 0), (4, .int r7788), (3, .int 1), (1, .int (nI vn)), (0, .ref h0)]) hx hb gX12_one_11.2.2.2.2.2.2.2.1 rfl hl (by decide) rfl (fun ls hl => ?_)
                          have keyN : ∀ (nN kN : Nat) (H : Heap) (locs : List Loc) (ls : Array Slot), kN + nN = vn → va_PD G A [(nc, iA G 100 fnc), (nF, sA G 5 (FCT K)), (nt, iA G 240 fnt), (h0, oX12 nw nk mhasKept nt (nI ktp) nr mrowMany mroundOf mroundFrom mouts nm mfromHour mtoHour ns (nI kf17791) (nI kt17792) so17793 1 (nI jd) (nI kc) mlines nl nc nF np ntr nb mbestCost nso nsi nit nsh nsf nss nrc mtraced mdealer mnumber mwhose msize misParted)] H → va_S A s.heap H locs → lv_has ls 5 [(2, .int (nI kN)), (4, .int r7788), (3, .int 1), (1, .int (nI vn)), (0, .ref h0)] → W p l e (RM (10 + 4 * mn) 0 0) s m ([.ref h0] : List Value).toArray below meth c H locs 0 0 Q0 (F0 m 225 ls []) := by
                            intro nN
                            induction nN with
                            | zero =>
                              intro kN H locs ls hkN hPD hS hl
                              refine Kan2 hPD (fun hP hD => ?_)
                              obtain rfl : vn = kN := by omega
                              have hl : lv_has ls 5 [(2, .int (nI vn)), (4, .int r7788), (3, .int 1), (1, .int (nI vn)), (0, .ref h0)] := hl
                              refine lv_iload_n hx hb gX12_one_11.2.2.2.2.2.2.2.2.1 rfl (lv_at0 hl) ?_
                              refine lv_iload_n hx hb gX12_one_11.2.2.2.2.2.2.2.2.2 rfl (lv_at3 hl) ?_
                              refine lv_icmp_ge (tgt := 243) hx hb gX12_one_12.1 (by decide) (fun _ => ?_) (fun c9 => absurd (Int32.le_refl _) c9)
                              refine toQ hQ0 ?_
                              exact RV hC hP hD hS [3, 2, 0, 1] (1, kf17791, kt17792, so17793, kc, fnc) rfl rfl (by decide) (Or.inl rfl) gX12_one_12.2.2.2.2.2.2
                            | succ nN ihN =>
                              intro kN H locs ls hkN hPD hS hl
                              refine Kan2 hPD (fun hP hD => ?_)
                              refine lv_iload_n hx hb gX12_one_11.2.2.2.2.2.2.2.2.1 rfl (lv_at0 hl) ?_
                              refine lv_iload_n hx hb gX12_one_11.2.2.2.2.2.2.2.2.2 rfl (lv_at3 hl) ?_
                              refine lv_icmp_ge (tgt := 243) hx hb gX12_one_12.1 (by decide) (fun c9 => absurd c9 (nI_ge (a := kN) (b := vn) (by omega) (by omega))) (fun _ => ?_)
                              refine lv_aload_n hx hb gX12_one_12.2.1 rfl (lv_at4 hl) ?_
                              refine lv_sipush (v := 30000) hx hb gX12_one_12.2.2.1 (by decide) ?_
                              refine vV (wr := [(nc, iA G 100 fnc), (nF, sA G 5 (FCT K)), (nt, iA G 240 fnt)]) hC hK hl hP hD hS hA (m_codesF l G h0 30000 nw nk mhasKept nt (nI ktp) nr mrowMany mroundOf mroundFrom mouts nm mfromHour mtoHour ns (nI kf17791) (nI kt17792) so17793 (nI jd) (nI kc) mlines nl nc nF np ntr nb mbestCost nso nsi nit nsh nsf nss nrc mtraced mdealer mnumber mwhose msize misParted) si_X12_252 [3] [0, 1, 2] sm_3 fm_3 nd_3 sm_0_1_2 nd_0_1_2 dj_3__0_1_2 rfl rfl rfl rfl rfl (Nat.le_of_ble_eq_true rfl) (rmT (Nat.le_of_ble_eq_true rfl) (Nat.le_of_ble_eq_true rfl)) ⟨Nat.le_of_ble_eq_true rfl, Nat.le_of_ble_eq_true rfl⟩ gX12_one_12.2.2.2.1 (fun u7799 H locs hr7798 hP hD hS => ?_)
                              refine Kpdr (ws := [(nc, iA G 100 fnc), (nF, sA G 5 (FCT K)), (nt, iA G 240 fnt), (h0, oX12 nw nk mhasKept nt (nI ktp) nr mrowMany mroundOf mroundFrom mouts nm mfromHour mtoHour ns (nI kf17791) (nI kt17792) so17793 1 (nI jd) (nI kc) mlines nl nc nF np ntr nb mbestCost nso nsi nit nsh nsf nss nrc mtraced mdealer mnumber mwhose msize misParted)]) hP hD (fun hP hD => ?_)
                              refine lv_iinc (v := nI (kN + 1)) (lv' := [(2, .int (nI (kN + 1))), (4, .int r7788), (3, .int 1), (1, .int (nI vn)), (0, .ref h0)]) hx hb gX12_one_12.2.2.2.2.1 hl (k := 0) rfl (nI_1 _) (by decide) rfl (fun ls hl => ?_)
                              refine lv_goto (tgt := 225) hx hb gX12_one_12.2.2.2.2.2.1 (by decide) ?_
                              exact ihN (kN + 1) _ _ _ (by omega) (And.intro hP hD) hS (lv_sub hl [0, 1, 2, 3, 4] rfl)
                          exact keyN vn 0 _ _ _ (by omega) (And.intro hP hD) hS (lv_sub hl [0, 1, 2, 3, 4] rfl)
                        · have tA7801 := hw7795_2.1
                          have tB7801 := hw7795_2.2.1
                          refine lv_istore (lv' := [(4, .int (nI v_7795)), (3, .int 1), (2, .int (nI jfa)), (1, .int (nI vn)), (0, .ref h0)]) hx hb gX12_one_10.2.2.2.2.1 hl (by decide) rfl (fun ls hl => ?_)
                          refine lv_aload_n hx hb gX12_one_10.2.2.2.2.2.1 rfl (lv_at4 hl) ?_
                          refine lv_sipush (v := 3000) hx hb gX12_one_10.2.2.2.2.2.2.1 (by decide) ?_
                          refine lv_iload_n hx hb gX12_one_10.2.2.2.2.2.2.2.1 rfl (lv_at2 hl) ?_
                          refine lv_imul hx hb gX12_one_10.2.2.2.2.2.2.2.2.1 ?_
                          refine eqi (x1 := nI (3000 * jfa)) (nI_mul 3000 jfa) ?_
                          refine lv_sipush (v := 1000) hx hb gX12_one_10.2.2.2.2.2.2.2.2.2 (by decide) ?_
                          refine lv_iload_n hx hb gX12_one_11.1 rfl (lv_at1 hl) ?_
                          refine lv_imul hx hb gX12_one_11.2.1 ?_
                          refine eqi (x1 := 1000) (by decide) ?_
                          refine lv_iadd hx hb gX12_one_11.2.2.1 ?_
                          refine eqi (x1 := nI (3000 * jfa + 1000)) (nI_add (3000 * jfa) 1000) ?_
                          refine lv_iload hx hb gX12_one_11.2.2.2.1 (lv_at0 hl) ?_
                          refine lv_iadd hx hb gX12_one_11.2.2.2.2.1 ?_
                          refine eqi (x1 := nI (3000 * jfa + 1000 + v_7795)) (nI_add (3000 * jfa + 1000) v_7795) ?_
                          refine vV (wr := [(nF, sA G 5 (FCT K)), (nt, iA G 240 fnt)]) hC hK hl hP hD hS hA (m_codes0 l G h0 (nI (3000 * jfa + 1000 + v_7795)) nw nk mhasKept nt (nI ktp) nr mrowMany mroundOf mroundFrom mouts nm mfromHour mtoHour ns (nI kf17791) (nI kt17792) so17793 (nI jd) kc mlines nl nc nF np ntr nb mbestCost nso nsi nit nsh nsf nss nrc mtraced mdealer mnumber mwhose msize misParted fnc (by omega)) si_X12_252 [2, 0] [1, 3] sm_2_0 fm_2_0 nd_2_0 sm_1_3 nd_1_3 dj_2_0__1_3 rfl rfl rfl rfl rfl (Nat.le_of_ble_eq_true rfl) (rmT (Nat.le_of_ble_eq_true rfl) (Nat.le_of_ble_eq_true rfl)) ⟨Nat.le_of_ble_eq_true rfl, Nat.le_of_ble_eq_true rfl⟩ gX12_one_11.2.2.2.2.2.1 (fun u7803 H locs hr7802 hP hD hS => ?_)
                          refine Kpdr (ws := [(nF, sA G 5 (FCT K)), (nt, iA G 240 fnt), (h0, oX12 nw nk mhasKept nt (nI ktp) nr mrowMany mroundOf mroundFrom mouts nm mfromHour mtoHour ns (nI kf17791) (nI kt17792) so17793 0 (nI jd) (nI (kc + 1)) mlines nl nc nF np ntr nb mbestCost nso nsi nit nsh nsf nss nrc mtraced mdealer mnumber mwhose msize misParted), (nc, iA G 100 (upd fnc kc (nI (3000 * jfa + 1000 + v_7795))))]) hP hD (fun hP hD => ?_)
                          refine lv_iconst (v := 0) hx hb gX12_one_11.2.2.2.2.2.2.1 (by decide) ?_
                          refine lv_istore_n (lv' := [(2, .int 0), (4, .int (nI v_7795)), (3, .int 1), (1, .int (nI vn)), (0, .ref h0)]) hx hb gX12_one_11.2.2.2.2.2.2.2.1 rfl hl (by decide) rfl (fun ls hl => ?_)
                          have hbase9 : vf + 3 * (kc + 1) + 2 ≤ kf17791 + 3 * kc := by omega
                          have keyN : ∀ (nN kN : Nat) (vC : Nat → Int32) (H : Heap) (locs : List Loc) (ls : Array Slot), kN + nN = vn → (EXPR fnc vC kc ((kc + 1) + kN) kf kf17791) → va_PD G A [(nF, sA G 5 (FCT K)), (nt, iA G 240 fnt), (h0, oX12 nw nk mhasKept nt (nI ktp) nr mrowMany mroundOf mroundFrom mouts nm mfromHour mtoHour ns (nI kf17791) (nI kt17792) so17793 0 (nI jd) (nI ((kc + 1) + kN)) mlines nl nc nF np ntr nb mbestCost nso nsi nit nsh nsf nss nrc mtraced mdealer mnumber mwhose msize misParted), (nc, iA G 100 vC)] H → va_S A s.heap H locs → lv_has ls 5 [(2, .int (nI kN)), (4, .int (nI v_7795)), (3, .int 1), (1, .int (nI vn)), (0, .ref h0)] → W p l e (RM (10 + 4 * mn) 0 0) s m ([.ref h0] : List Value).toArray below meth c H locs 0 0 Q0 (F0 m 225 ls []) := by
                            intro nN
                            induction nN with
                            | zero =>
                              intro kN vC H locs ls hkN hEx hPD hS hl
                              refine Kan2 hPD (fun hP hD => ?_)
                              obtain rfl : vn = kN := by omega
                              refine Kpdr (ws := [(nF, sA G 5 (FCT K)), (nt, iA G 240 fnt), (h0, oX12 nw nk mhasKept nt (nI ktp) nr mrowMany mroundOf mroundFrom mouts nm mfromHour mtoHour ns (nI kf17791) (nI kt17792) so17793 0 (nI jd) (nI ((kc + 1) + vn)) mlines nl nc nF np ntr nb mbestCost nso nsi nit nsh nsf nss nrc mtraced mdealer mnumber mwhose msize misParted), (nc, iA G 100 vC)]) hP hD (fun hP hD => ?_)
                              have hl : lv_has ls 5 [(2, .int (nI vn)), (4, .int (nI v_7795)), (3, .int 1), (1, .int (nI vn)), (0, .ref h0)] := hl
                              refine lv_iload_n hx hb gX12_one_11.2.2.2.2.2.2.2.2.1 rfl (lv_at0 hl) ?_
                              refine lv_iload_n hx hb gX12_one_11.2.2.2.2.2.2.2.2.2 rfl (lv_at3 hl) ?_
                              refine lv_icmp_ge (tgt := 243) hx hb gX12_one_12.1 (by decide) (fun _ => ?_) (fun c9 => absurd (Int32.le_refl _) c9)
                              refine toQ hQ0 ?_
                              exact RV hC hP hD hS [2, 1, 3, 0] (0, kf17791, kt17792, so17793, ((kc + 1) + vn), vC) rfl rfl (by decide) (Or.inr ⟨rfl, hw7795_2, EXPR.wid hEx (by (try dsimp only); omega)⟩) gX12_one_12.2.2.2.2.2.2
                            | succ nN ihN =>
                              intro kN vC H locs ls hkN hEx hPD hS hl
                              refine Kan2 hPD (fun hP hD => ?_)
                              refine lv_iload_n hx hb gX12_one_11.2.2.2.2.2.2.2.2.1 rfl (lv_at0 hl) ?_
                              refine lv_iload_n hx hb gX12_one_11.2.2.2.2.2.2.2.2.2 rfl (lv_at3 hl) ?_
                              refine lv_icmp_ge (tgt := 243) hx hb gX12_one_12.1 (by decide) (fun c9 => absurd c9 (nI_ge (a := kN) (b := vn) (by omega) (by omega))) (fun _ => ?_)
                              refine lv_aload_n hx hb gX12_one_12.2.1 rfl (lv_at4 hl) ?_
                              refine lv_sipush (v := 30000) hx hb gX12_one_12.2.2.1 (by decide) ?_
                              refine vV (wr := [(nF, sA G 5 (FCT K)), (nt, iA G 240 fnt)]) hC hK hl hP hD hS hA (m_codes0 l G h0 30000 nw nk mhasKept nt (nI ktp) nr mrowMany mroundOf mroundFrom mouts nm mfromHour mtoHour ns (nI kf17791) (nI kt17792) so17793 (nI jd) ((kc + 1) + kN) mlines nl nc nF np ntr nb mbestCost nso nsi nit nsh nsf nss nrc mtraced mdealer mnumber mwhose msize misParted vC (by omega)) si_X12_252 [2, 3] [0, 1] sm_2_3 fm_2_3 nd_2_3 sm_0_1 nd_0_1 dj_2_3__0_1 rfl rfl rfl rfl rfl (Nat.le_of_ble_eq_true rfl) (rmT (Nat.le_of_ble_eq_true rfl) (Nat.le_of_ble_eq_true rfl)) ⟨Nat.le_of_ble_eq_true rfl, Nat.le_of_ble_eq_true rfl⟩ gX12_one_12.2.2.2.1 (fun u7805 H locs hr7804 hP hD hS => ?_)
                              refine Kpdr (ws := [(nF, sA G 5 (FCT K)), (nt, iA G 240 fnt), (h0, oX12 nw nk mhasKept nt (nI ktp) nr mrowMany mroundOf mroundFrom mouts nm mfromHour mtoHour ns (nI kf17791) (nI kt17792) so17793 0 (nI jd) (nI (((kc + 1) + kN) + 1)) mlines nl nc nF np ntr nb mbestCost nso nsi nit nsh nsf nss nrc mtraced mdealer mnumber mwhose msize misParted), (nc, iA G 100 (upd vC ((kc + 1) + kN) 30000))]) hP hD (fun hP hD => ?_)
                              refine lv_iinc (v := nI (kN + 1)) (lv' := [(2, .int (nI (kN + 1))), (4, .int (nI v_7795)), (3, .int 1), (1, .int (nI vn)), (0, .ref h0)]) hx hb gX12_one_12.2.2.2.2.1 hl (k := 0) rfl (nI_1 _) (by decide) rfl (fun ls hl => ?_)
                              refine lv_goto (tgt := 225) hx hb gX12_one_12.2.2.2.2.2.1 (by decide) ?_
                              exact ihN (kN + 1) (upd vC ((kc + 1) + kN) 30000) _ _ _ (by omega) (by first | assumption | exact Or.inl rfl | exact Or.inr rfl | exact EXPR.not hEx (by omega)) (And.intro hP hD) hS (lv_sub hl [0, 1, 2, 3, 4] rfl)
                          exact keyN vn 0 (upd fnc kc (nI (3000 * jfa + 1000 + v_7795))) _ _ _ (by omega) (by first | assumption | exact Or.inl rfl | exact Or.inr rfl | exact EXPR.fact (fct_lt (by omega) (by decide) (by omega)) (by omega) | exact EXPR.not hEx (by omega)) (And.intro hP hD) hS (lv_sub hl [0, 1, 2, 3, 4] rfl)
                      · exact absurd a7773 a7778
                  · refine lv_if_eq (tgt := 158) hx hb gX12_one_7.2.2.2.2.2.2.2.2.2 (by decide) (fun _ => ?_) (fun c9 => absurd (by decide) c9)
                    refine lv_iconst (v := 2) hx hb gX12_one_8.2.2.1 (by decide) ?_
                    refine lv_istore_n (lv' := [(3, .int 2), (2, .int (nI jfa)), (1, .int (nI vn)), (0, .ref h0)]) hx hb gX12_one_8.2.2.2.1 rfl hl (by decide) rfl (fun ls hl => ?_)
                    refine lv_aload_n hx hb gX12_one_8.2.2.2.2.1 rfl (lv_at3 hl) ?_
                    refine lv_aload_n hx hb gX12_one_8.2.2.2.2.2.1 rfl (lv_at3 hl) ?_
                    refine lv_bipush (v := 60) hx hb gX12_one_8.2.2.2.2.2.2.1 (by decide) ?_
                    refine pV hC hK hl hP hD (m_isSign0 l G h0 60 nw nk mhasKept nt ktp nr mrowMany mroundOf mroundFrom mouts nm mfromHour mtoHour ns kf17733 kt17734 so17735 (nI jd) (nI kc) mlines nl nc nF np ntr nb mbestCost nso nsi nit nsh nsf nss nrc mtraced mdealer mnumber mwhose msize misParted fnt (hw7737_1) (htp)) si_X12_262 [2, 3] sm_2_3 fm_2_3 nd_2_3 rfl rfl rfl rfl rfl (Nat.le_of_ble_eq_true rfl) (rmT (Nat.le_of_ble_eq_true rfl) (Nat.le_of_ble_eq_true rfl)) ⟨by first | exact Nat.le_of_ble_eq_true rfl | exact Nat.zero_le _, by first | exact Nat.le_of_ble_eq_true rfl | exact Nat.zero_le _⟩ gX12_one_8.2.2.2.2.2.2.2.1 (Kors (Keqa fun a7807 => ?_) (Keqa fun a7807 => ?_))
                    · exact absurd a7807 a7741
                    · refine lv_if_ne (tgt := 188) hx hb gX12_one_8.2.2.2.2.2.2.2.2.1 (by decide) (fun c9 => absurd (by decide) c9) (fun _ => ?_)
                      refine lv_aload_n hx hb gX12_one_8.2.2.2.2.2.2.2.2.2 rfl (lv_at3 hl) ?_
                      refine lv_bipush (v := 61) hx hb gX12_one_9.1 (by decide) ?_
                      refine pV hC hK hl hP hD (m_isSign0 l G h0 61 nw nk mhasKept nt ktp nr mrowMany mroundOf mroundFrom mouts nm mfromHour mtoHour ns kf17733 kt17734 so17735 (nI jd) (nI kc) mlines nl nc nF np ntr nb mbestCost nso nsi nit nsh nsf nss nrc mtraced mdealer mnumber mwhose msize misParted fnt (hw7737_1) (htp)) si_X12_262 [2, 3] sm_2_3 fm_2_3 nd_2_3 rfl rfl rfl rfl rfl (Nat.le_of_ble_eq_true rfl) (rmT (Nat.le_of_ble_eq_true rfl) (Nat.le_of_ble_eq_true rfl)) ⟨by first | exact Nat.le_of_ble_eq_true rfl | exact Nat.zero_le _, by first | exact Nat.le_of_ble_eq_true rfl | exact Nat.zero_le _⟩ gX12_one_9.2.1 (Kors (Keqa fun a7809 => ?_) (Keqa fun a7809 => ?_))
                      · exact absurd a7809 a7773
                      · refine lv_if_ne (tgt := 188) hx hb gX12_one_9.2.2.1 (by decide) (fun c9 => absurd (by decide) c9) (fun _ => ?_)
                        refine lv_aload_n hx hb gX12_one_9.2.2.2.1 rfl (lv_at3 hl) ?_
                        refine lv_bipush (v := 62) hx hb gX12_one_9.2.2.2.2.1 (by decide) ?_
                        refine pV hC hK hl hP hD (m_isSign0 l G h0 62 nw nk mhasKept nt ktp nr mrowMany mroundOf mroundFrom mouts nm mfromHour mtoHour ns kf17733 kt17734 so17735 (nI jd) (nI kc) mlines nl nc nF np ntr nb mbestCost nso nsi nit nsh nsf nss nrc mtraced mdealer mnumber mwhose msize misParted fnt (hw7737_1) (htp)) si_X12_262 [2, 3] sm_2_3 fm_2_3 nd_2_3 rfl rfl rfl rfl rfl (Nat.le_of_ble_eq_true rfl) (rmT (Nat.le_of_ble_eq_true rfl) (Nat.le_of_ble_eq_true rfl)) ⟨by first | exact Nat.le_of_ble_eq_true rfl | exact Nat.zero_le _, by first | exact Nat.le_of_ble_eq_true rfl | exact Nat.zero_le _⟩ gX12_one_9.2.2.2.2.2.1 (Kors (Keqa fun a7811 => ?_) (Keqa fun a7811 => ?_))
                        · refine lv_if_eq (tgt := 192) hx hb gX12_one_9.2.2.2.2.2.2.1 (by decide) (fun c9 => absurd c9 (by decide)) (fun _ => ?_)
                          refine lv_iconst (v := 1) hx hb gX12_one_9.2.2.2.2.2.2.2.1 (by decide) ?_
                          refine lv_goto (tgt := 193) hx hb gX12_one_9.2.2.2.2.2.2.2.2.1 (by decide) ?_
                          have tI7812 := a7811.1
                          refine vV (wr := [(nc, iA G 100 fnc), (nF, sA G 5 (FCT K))]) hC hK hl hP hD hS hA (m_need1 l G h0 nw nk mhasKept nt ktp nr mrowMany mroundOf mroundFrom mouts nm mfromHour mtoHour ns (nI kf17733) kt17734 so17735 (nI jd) (nI kc) mlines nl nc nF np ntr nb mbestCost nso nsi nit nsh nsf nss nrc mtraced mdealer mnumber mwhose msize misParted fnt (by omega) (htp)) si_X12_236 [2, 3] [0, 1] sm_2_3 fm_2_3 nd_2_3 sm_0_1 nd_0_1 dj_2_3__0_1 rfl rfl rfl rfl rfl (Nat.le_of_ble_eq_true rfl) (rmT (Nat.le_of_ble_eq_true rfl) (Nat.le_of_ble_eq_true rfl)) ⟨Nat.le_of_ble_eq_true rfl, Nat.le_of_ble_eq_true rfl⟩ gX12_one_10.1 (Ktu3 fun kf17815 kt17816 so17817 => ?_)
                          intro H locs hr7813 hP hD hS
                          try dsimp only at hr7813
                          refine Kpdr (ws := [(nc, iA G 100 fnc), (nF, sA G 5 (FCT K)), (h0, oX12 nw nk mhasKept nt (nI ktp) nr mrowMany mroundOf mroundFrom mouts nm mfromHour mtoHour ns (nI kf17815) (nI kt17816) so17817 0 (nI jd) (nI kc) mlines nl nc nF np ntr nb mbestCost nso nsi nit nsh nsf nss nrc mtraced mdealer mnumber mwhose msize misParted), (nt, iA G 240 fnt)]) hP hD (fun hP hD => ?_)
                          have hw7819_0 := hr7813.1
                          have hw7819_1 := hr7813.2
                          have tA7821 := hw7819_1.1
                          have tB7821 := hw7819_1.2.1
                          refine lv_aload_n hx hb gX12_one_10.2.1 rfl (lv_at3 hl) ?_
                          refine lv_sipush (v := 999) hx hb gX12_one_10.2.2.1 (by decide) ?_
                          refine iV (wr := [(nc, iA G 100 fnc), (nF, sA G 5 (FCT K))]) hC hK hl hP hD hS hA (m_number0 l G h0 999 nw nk mhasKept nt ktp nr mrowMany mroundOf mroundFrom mouts nm mfromHour mtoHour ns kf17815 kt17816 so17817 (nI jd) (nI kc) mlines nl nc nF np ntr nb mbestCost nso nsi nit nsh nsf nss nrc mtraced mdealer mnumber mwhose msize misParted fnt (hw7819_1) (htp) (by omega)) si_X12_271 [2, 3] [0, 1] sm_2_3 fm_2_3 nd_2_3 sm_0_1 nd_0_1 dj_2_3__0_1 rfl rfl rfl rfl rfl (Nat.le_of_ble_eq_true rfl) (rmT (Nat.le_of_ble_eq_true rfl) (Nat.le_of_ble_eq_true rfl)) ⟨Nat.le_of_ble_eq_true rfl, Nat.le_of_ble_eq_true rfl⟩ gX12_one_10.2.2.2.1 (fun r7822 => Ktu4 fun ff17824 kf17825 kt17826 so17827 => ?_)
                          intro H locs hr7822 hP hD hS
                          try dsimp only at hr7822
                          refine Kpdr (ws := [(nc, iA G 100 fnc), (nF, sA G 5 (FCT K)), (h0, oX12 nw nk mhasKept nt (nI ktp) nr mrowMany mroundOf mroundFrom mouts nm mfromHour mtoHour ns (nI kf17825) (nI kt17826) so17827 ff17824 (nI jd) (nI kc) mlines nl nc nF np ntr nb mbestCost nso nsi nit nsh nsf nss nrc mtraced mdealer mnumber mwhose msize misParted), (nt, iA G 240 fnt)]) hP hD (fun hP hD => ?_)
                          obtain ⟨hr7822, w7828⟩ := hr7822
                          rcases w7828 with rfl | ⟨rfl, ⟨v_7829, hv_7829, rfl⟩, hw7829_1, hw7829_2⟩
                          · refine lv_istore (lv' := [(4, .int r7822), (3, .int 2), (2, .int (nI jfa)), (1, .int (nI vn)), (0, .ref h0)]) hx hb gX12_one_10.2.2.2.2.1 hl (by decide) rfl (fun ls hl => ?_)
                            refine lv_aload_n hx hb gX12_one_10.2.2.2.2.2.1 rfl (lv_at4 hl) ?_
                            refine lv_sipush (v := 3000) hx hb gX12_one_10.2.2.2.2.2.2.1 (by decide) ?_
                            refine lv_iload_n hx hb gX12_one_10.2.2.2.2.2.2.2.1 rfl (lv_at2 hl) ?_
                            refine lv_imul hx hb gX12_one_10.2.2.2.2.2.2.2.2.1 ?_
                            refine eqi (x1 := nI (3000 * jfa)) (nI_mul 3000 jfa) ?_
                            refine lv_sipush (v := 1000) hx hb gX12_one_10.2.2.2.2.2.2.2.2.2 (by decide) ?_
                            refine lv_iload_n hx hb gX12_one_11.1 rfl (lv_at1 hl) ?_
                            refine lv_imul hx hb gX12_one_11.2.1 ?_
                            refine eqi (x1 := 2000) (by decide) ?_
                            refine lv_iadd hx hb gX12_one_11.2.2.1 ?_
                            refine eqi (x1 := nI (3000 * jfa + 2000)) (nI_add (3000 * jfa) 2000) ?_
                            refine lv_iload hx hb gX12_one_11.2.2.2.1 (lv_at0 hl) ?_
                            refine lv_iadd hx hb gX12_one_11.2.2.2.2.1 ?_
                            refine vV (wr := [(nc, iA G 100 fnc), (nF, sA G 5 (FCT K)), (nt, iA G 240 fnt)]) hC hK hl hP hD hS hA (m_codesF l G h0 ((nI (3000 * jfa + 2000)) + r7822) nw nk mhasKept nt (nI ktp) nr mrowMany mroundOf mroundFrom mouts nm mfromHour mtoHour ns (nI kf17825) (nI kt17826) so17827 (nI jd) (nI kc) mlines nl nc nF np ntr nb mbestCost nso nsi nit nsh nsf nss nrc mtraced mdealer mnumber mwhose msize misParted) si_X12_252 [2] [0, 1, 3] sm_2 fm_2 nd_2 sm_0_1_3 nd_0_1_3 dj_2__0_1_3 rfl rfl rfl rfl rfl (Nat.le_of_ble_eq_true rfl) (rmT (Nat.le_of_ble_eq_true rfl) (Nat.le_of_ble_eq_true rfl)) ⟨Nat.le_of_ble_eq_true rfl, Nat.le_of_ble_eq_true rfl⟩ gX12_one_11.2.2.2.2.2.1 (fun u7831 H locs hr7830 hP hD hS => ?_)
                            refine Kpdr (ws := [(nc, iA G 100 fnc), (nF, sA G 5 (FCT K)), (nt, iA G 240 fnt), (h0, oX12 nw nk mhasKept nt (nI ktp) nr mrowMany mroundOf mroundFrom mouts nm mfromHour mtoHour ns (nI kf17825) (nI kt17826) so17827 1 (nI jd) (nI kc) mlines nl nc nF np ntr nb mbestCost nso nsi nit nsh nsf nss nrc mtraced mdealer mnumber mwhose msize misParted)]) hP hD (fun hP hD => ?_)
                            refine lv_iconst (v := 0) hx hb gX12_one_11.2.2.2.2.2.2.1 (by decide) ?_
                            refine lv_istore_n (lv' := [(2, .int 0), (4, .int r7822), (3, .int 2), (1, .int (nI vn)), (0, .ref h0)]) hx hb gX12_one_11.2.2.2.2.2.2.2.1 rfl hl (by decide) rfl (fun ls hl => ?_)
                            have keyN : ∀ (nN kN : Nat) (H : Heap) (locs : List Loc) (ls : Array Slot), kN + nN = vn → va_PD G A [(nc, iA G 100 fnc), (nF, sA G 5 (FCT K)), (nt, iA G 240 fnt), (h0, oX12 nw nk mhasKept nt (nI ktp) nr mrowMany mroundOf mroundFrom mouts nm mfromHour mtoHour ns (nI kf17825) (nI kt17826) so17827 1 (nI jd) (nI kc) mlines nl nc nF np ntr nb mbestCost nso nsi nit nsh nsf nss nrc mtraced mdealer mnumber mwhose msize misParted)] H → va_S A s.heap H locs → lv_has ls 5 [(2, .int (nI kN)), (4, .int r7822), (3, .int 2), (1, .int (nI vn)), (0, .ref h0)] → W p l e (RM (10 + 4 * mn) 0 0) s m ([.ref h0] : List Value).toArray below meth c H locs 0 0 Q0 (F0 m 225 ls []) := by
                              intro nN
                              induction nN with
                              | zero =>
                                intro kN H locs ls hkN hPD hS hl
                                refine Kan2 hPD (fun hP hD => ?_)
                                obtain rfl : vn = kN := by omega
                                have hl : lv_has ls 5 [(2, .int (nI vn)), (4, .int r7822), (3, .int 2), (1, .int (nI vn)), (0, .ref h0)] := hl
                                refine lv_iload_n hx hb gX12_one_11.2.2.2.2.2.2.2.2.1 rfl (lv_at0 hl) ?_
                                refine lv_iload_n hx hb gX12_one_11.2.2.2.2.2.2.2.2.2 rfl (lv_at3 hl) ?_
                                refine lv_icmp_ge (tgt := 243) hx hb gX12_one_12.1 (by decide) (fun _ => ?_) (fun c9 => absurd (Int32.le_refl _) c9)
                                refine toQ hQ0 ?_
                                exact RV hC hP hD hS [3, 2, 0, 1] (1, kf17825, kt17826, so17827, kc, fnc) rfl rfl (by decide) (Or.inl rfl) gX12_one_12.2.2.2.2.2.2
                              | succ nN ihN =>
                                intro kN H locs ls hkN hPD hS hl
                                refine Kan2 hPD (fun hP hD => ?_)
                                refine lv_iload_n hx hb gX12_one_11.2.2.2.2.2.2.2.2.1 rfl (lv_at0 hl) ?_
                                refine lv_iload_n hx hb gX12_one_11.2.2.2.2.2.2.2.2.2 rfl (lv_at3 hl) ?_
                                refine lv_icmp_ge (tgt := 243) hx hb gX12_one_12.1 (by decide) (fun c9 => absurd c9 (nI_ge (a := kN) (b := vn) (by omega) (by omega))) (fun _ => ?_)
                                refine lv_aload_n hx hb gX12_one_12.2.1 rfl (lv_at4 hl) ?_
                                refine lv_sipush (v := 30000) hx hb gX12_one_12.2.2.1 (by decide) ?_
                                refine vV (wr := [(nc, iA G 100 fnc), (nF, sA G 5 (FCT K)), (nt, iA G 240 fnt)]) hC hK hl hP hD hS hA (m_codesF l G h0 30000 nw nk mhasKept nt (nI ktp) nr mrowMany mroundOf mroundFrom mouts nm mfromHour mtoHour ns (nI kf17825) (nI kt17826) so17827 (nI jd) (nI kc) mlines nl nc nF np ntr nb mbestCost nso nsi nit nsh nsf nss nrc mtraced mdealer mnumber mwhose msize misParted) si_X12_252 [3] [0, 1, 2] sm_3 fm_3 nd_3 sm_0_1_2 nd_0_1_2 dj_3__0_1_2 rfl rfl rfl rfl rfl (Nat.le_of_ble_eq_true rfl) (rmT (Nat.le_of_ble_eq_true rfl) (Nat.le_of_ble_eq_true rfl)) ⟨Nat.le_of_ble_eq_true rfl, Nat.le_of_ble_eq_true rfl⟩ gX12_one_12.2.2.2.1 (fun u7833 H locs hr7832 hP hD hS => ?_)
                                refine Kpdr (ws := [(nc, iA G 100 fnc), (nF, sA G 5 (FCT K)), (nt, iA G 240 fnt), (h0, oX12 nw nk mhasKept nt (nI ktp) nr mrowMany mroundOf mroundFrom mouts nm mfromHour mtoHour ns (nI kf17825) (nI kt17826) so17827 1 (nI jd) (nI kc) mlines nl nc nF np ntr nb mbestCost nso nsi nit nsh nsf nss nrc mtraced mdealer mnumber mwhose msize misParted)]) hP hD (fun hP hD => ?_)
                                refine lv_iinc (v := nI (kN + 1)) (lv' := [(2, .int (nI (kN + 1))), (4, .int r7822), (3, .int 2), (1, .int (nI vn)), (0, .ref h0)]) hx hb gX12_one_12.2.2.2.2.1 hl (k := 0) rfl (nI_1 _) (by decide) rfl (fun ls hl => ?_)
                                refine lv_goto (tgt := 225) hx hb gX12_one_12.2.2.2.2.2.1 (by decide) ?_
                                exact ihN (kN + 1) _ _ _ (by omega) (And.intro hP hD) hS (lv_sub hl [0, 1, 2, 3, 4] rfl)
                            exact keyN vn 0 _ _ _ (by omega) (And.intro hP hD) hS (lv_sub hl [0, 1, 2, 3, 4] rfl)
                          · have tA7835 := hw7829_2.1
                            have tB7835 := hw7829_2.2.1
                            refine lv_istore (lv' := [(4, .int (nI v_7829)), (3, .int 2), (2, .int (nI jfa)), (1, .int (nI vn)), (0, .ref h0)]) hx hb gX12_one_10.2.2.2.2.1 hl (by decide) rfl (fun ls hl => ?_)
                            refine lv_aload_n hx hb gX12_one_10.2.2.2.2.2.1 rfl (lv_at4 hl) ?_
                            refine lv_sipush (v := 3000) hx hb gX12_one_10.2.2.2.2.2.2.1 (by decide) ?_
                            refine lv_iload_n hx hb gX12_one_10.2.2.2.2.2.2.2.1 rfl (lv_at2 hl) ?_
                            refine lv_imul hx hb gX12_one_10.2.2.2.2.2.2.2.2.1 ?_
                            refine eqi (x1 := nI (3000 * jfa)) (nI_mul 3000 jfa) ?_
                            refine lv_sipush (v := 1000) hx hb gX12_one_10.2.2.2.2.2.2.2.2.2 (by decide) ?_
                            refine lv_iload_n hx hb gX12_one_11.1 rfl (lv_at1 hl) ?_
                            refine lv_imul hx hb gX12_one_11.2.1 ?_
                            refine eqi (x1 := 2000) (by decide) ?_
                            refine lv_iadd hx hb gX12_one_11.2.2.1 ?_
                            refine eqi (x1 := nI (3000 * jfa + 2000)) (nI_add (3000 * jfa) 2000) ?_
                            refine lv_iload hx hb gX12_one_11.2.2.2.1 (lv_at0 hl) ?_
                            refine lv_iadd hx hb gX12_one_11.2.2.2.2.1 ?_
                            refine eqi (x1 := nI (3000 * jfa + 2000 + v_7829)) (nI_add (3000 * jfa + 2000) v_7829) ?_
                            refine vV (wr := [(nF, sA G 5 (FCT K)), (nt, iA G 240 fnt)]) hC hK hl hP hD hS hA (m_codes0 l G h0 (nI (3000 * jfa + 2000 + v_7829)) nw nk mhasKept nt (nI ktp) nr mrowMany mroundOf mroundFrom mouts nm mfromHour mtoHour ns (nI kf17825) (nI kt17826) so17827 (nI jd) kc mlines nl nc nF np ntr nb mbestCost nso nsi nit nsh nsf nss nrc mtraced mdealer mnumber mwhose msize misParted fnc (by omega)) si_X12_252 [2, 0] [1, 3] sm_2_0 fm_2_0 nd_2_0 sm_1_3 nd_1_3 dj_2_0__1_3 rfl rfl rfl rfl rfl (Nat.le_of_ble_eq_true rfl) (rmT (Nat.le_of_ble_eq_true rfl) (Nat.le_of_ble_eq_true rfl)) ⟨Nat.le_of_ble_eq_true rfl, Nat.le_of_ble_eq_true rfl⟩ gX12_one_11.2.2.2.2.2.1 (fun u7837 H locs hr7836 hP hD hS => ?_)
                            refine Kpdr (ws := [(nF, sA G 5 (FCT K)), (nt, iA G 240 fnt), (h0, oX12 nw nk mhasKept nt (nI ktp) nr mrowMany mroundOf mroundFrom mouts nm mfromHour mtoHour ns (nI kf17825) (nI kt17826) so17827 0 (nI jd) (nI (kc + 1)) mlines nl nc nF np ntr nb mbestCost nso nsi nit nsh nsf nss nrc mtraced mdealer mnumber mwhose msize misParted), (nc, iA G 100 (upd fnc kc (nI (3000 * jfa + 2000 + v_7829))))]) hP hD (fun hP hD => ?_)
                            refine lv_iconst (v := 0) hx hb gX12_one_11.2.2.2.2.2.2.1 (by decide) ?_
                            refine lv_istore_n (lv' := [(2, .int 0), (4, .int (nI v_7829)), (3, .int 2), (1, .int (nI vn)), (0, .ref h0)]) hx hb gX12_one_11.2.2.2.2.2.2.2.1 rfl hl (by decide) rfl (fun ls hl => ?_)
                            have hbase9 : vf + 3 * (kc + 1) + 2 ≤ kf17825 + 3 * kc := by omega
                            have keyN : ∀ (nN kN : Nat) (vC : Nat → Int32) (H : Heap) (locs : List Loc) (ls : Array Slot), kN + nN = vn → (EXPR fnc vC kc ((kc + 1) + kN) kf kf17825) → va_PD G A [(nF, sA G 5 (FCT K)), (nt, iA G 240 fnt), (h0, oX12 nw nk mhasKept nt (nI ktp) nr mrowMany mroundOf mroundFrom mouts nm mfromHour mtoHour ns (nI kf17825) (nI kt17826) so17827 0 (nI jd) (nI ((kc + 1) + kN)) mlines nl nc nF np ntr nb mbestCost nso nsi nit nsh nsf nss nrc mtraced mdealer mnumber mwhose msize misParted), (nc, iA G 100 vC)] H → va_S A s.heap H locs → lv_has ls 5 [(2, .int (nI kN)), (4, .int (nI v_7829)), (3, .int 2), (1, .int (nI vn)), (0, .ref h0)] → W p l e (RM (10 + 4 * mn) 0 0) s m ([.ref h0] : List Value).toArray below meth c H locs 0 0 Q0 (F0 m 225 ls []) := by
                              intro nN
                              induction nN with
                              | zero =>
                                intro kN vC H locs ls hkN hEx hPD hS hl
                                refine Kan2 hPD (fun hP hD => ?_)
                                obtain rfl : vn = kN := by omega
                                refine Kpdr (ws := [(nF, sA G 5 (FCT K)), (nt, iA G 240 fnt), (h0, oX12 nw nk mhasKept nt (nI ktp) nr mrowMany mroundOf mroundFrom mouts nm mfromHour mtoHour ns (nI kf17825) (nI kt17826) so17827 0 (nI jd) (nI ((kc + 1) + vn)) mlines nl nc nF np ntr nb mbestCost nso nsi nit nsh nsf nss nrc mtraced mdealer mnumber mwhose msize misParted), (nc, iA G 100 vC)]) hP hD (fun hP hD => ?_)
                                have hl : lv_has ls 5 [(2, .int (nI vn)), (4, .int (nI v_7829)), (3, .int 2), (1, .int (nI vn)), (0, .ref h0)] := hl
                                refine lv_iload_n hx hb gX12_one_11.2.2.2.2.2.2.2.2.1 rfl (lv_at0 hl) ?_
                                refine lv_iload_n hx hb gX12_one_11.2.2.2.2.2.2.2.2.2 rfl (lv_at3 hl) ?_
                                refine lv_icmp_ge (tgt := 243) hx hb gX12_one_12.1 (by decide) (fun _ => ?_) (fun c9 => absurd (Int32.le_refl _) c9)
                                refine toQ hQ0 ?_
                                exact RV hC hP hD hS [2, 1, 3, 0] (0, kf17825, kt17826, so17827, ((kc + 1) + vn), vC) rfl rfl (by decide) (Or.inr ⟨rfl, hw7829_2, EXPR.wid hEx (by (try dsimp only); omega)⟩) gX12_one_12.2.2.2.2.2.2
                              | succ nN ihN =>
                                intro kN vC H locs ls hkN hEx hPD hS hl
                                refine Kan2 hPD (fun hP hD => ?_)
                                refine lv_iload_n hx hb gX12_one_11.2.2.2.2.2.2.2.2.1 rfl (lv_at0 hl) ?_
                                refine lv_iload_n hx hb gX12_one_11.2.2.2.2.2.2.2.2.2 rfl (lv_at3 hl) ?_
                                refine lv_icmp_ge (tgt := 243) hx hb gX12_one_12.1 (by decide) (fun c9 => absurd c9 (nI_ge (a := kN) (b := vn) (by omega) (by omega))) (fun _ => ?_)
                                refine lv_aload_n hx hb gX12_one_12.2.1 rfl (lv_at4 hl) ?_
                                refine lv_sipush (v := 30000) hx hb gX12_one_12.2.2.1 (by decide) ?_
                                refine vV (wr := [(nF, sA G 5 (FCT K)), (nt, iA G 240 fnt)]) hC hK hl hP hD hS hA (m_codes0 l G h0 30000 nw nk mhasKept nt (nI ktp) nr mrowMany mroundOf mroundFrom mouts nm mfromHour mtoHour ns (nI kf17825) (nI kt17826) so17827 (nI jd) ((kc + 1) + kN) mlines nl nc nF np ntr nb mbestCost nso nsi nit nsh nsf nss nrc mtraced mdealer mnumber mwhose msize misParted vC (by omega)) si_X12_252 [2, 3] [0, 1] sm_2_3 fm_2_3 nd_2_3 sm_0_1 nd_0_1 dj_2_3__0_1 rfl rfl rfl rfl rfl (Nat.le_of_ble_eq_true rfl) (rmT (Nat.le_of_ble_eq_true rfl) (Nat.le_of_ble_eq_true rfl)) ⟨Nat.le_of_ble_eq_true rfl, Nat.le_of_ble_eq_true rfl⟩ gX12_one_12.2.2.2.1 (fun u7839 H locs hr7838 hP hD hS => ?_)
                                refine Kpdr (ws := [(nF, sA G 5 (FCT K)), (nt, iA G 240 fnt), (h0, oX12 nw nk mhasKept nt (nI ktp) nr mrowMany mroundOf mroundFrom mouts nm mfromHour mtoHour ns (nI kf17825) (nI kt17826) so17827 0 (nI jd) (nI (((kc + 1) + kN) + 1)) mlines nl nc nF np ntr nb mbestCost nso nsi nit nsh nsf nss nrc mtraced mdealer mnumber mwhose msize misParted), (nc, iA G 100 (upd vC ((kc + 1) + kN) 30000))]) hP hD (fun hP hD => ?_)
                                refine lv_iinc (v := nI (kN + 1)) (lv' := [(2, .int (nI (kN + 1))), (4, .int (nI v_7829)), (3, .int 2), (1, .int (nI vn)), (0, .ref h0)]) hx hb gX12_one_12.2.2.2.2.1 hl (k := 0) rfl (nI_1 _) (by decide) rfl (fun ls hl => ?_)
                                refine lv_goto (tgt := 225) hx hb gX12_one_12.2.2.2.2.2.1 (by decide) ?_
                                exact ihN (kN + 1) (upd vC ((kc + 1) + kN) 30000) _ _ _ (by omega) (by first | assumption | exact Or.inl rfl | exact Or.inr rfl | exact EXPR.not hEx (by omega)) (And.intro hP hD) hS (lv_sub hl [0, 1, 2, 3, 4] rfl)
                            exact keyN vn 0 (upd fnc kc (nI (3000 * jfa + 2000 + v_7829))) _ _ _ (by omega) (by first | assumption | exact Or.inl rfl | exact Or.inr rfl | exact EXPR.fact (fct_lt (by omega) (by decide) (by omega)) (by omega) | exact EXPR.not hEx (by omega)) (And.intro hP hD) hS (lv_sub hl [0, 1, 2, 3, 4] rfl)
                        · refine lv_if_eq (tgt := 192) hx hb gX12_one_9.2.2.2.2.2.2.1 (by decide) (fun _ => ?_) (fun c9 => absurd (by decide) c9)
                          refine lv_iconst (v := 0) hx hb gX12_one_9.2.2.2.2.2.2.2.2.2 (by decide) ?_
                          refine vV (wr := [(nc, iA G 100 fnc), (nF, sA G 5 (FCT K)), (nt, iA G 240 fnt)]) hC hK hl hP hD hS hA (m_need0 l G h0 nw nk mhasKept nt (nI ktp) nr mrowMany mroundOf mroundFrom mouts nm mfromHour mtoHour ns (nI kf17733) (nI kt17734) so17735 (nI jd) (nI kc) mlines nl nc nF np ntr nb mbestCost nso nsi nit nsh nsf nss nrc mtraced mdealer mnumber mwhose msize misParted) si_X12_236 [2] [0, 1, 3] sm_2 fm_2 nd_2 sm_0_1_3 nd_0_1_3 dj_2__0_1_3 rfl rfl rfl rfl rfl (Nat.le_of_ble_eq_true rfl) (rmT (Nat.le_of_ble_eq_true rfl) (Nat.le_of_ble_eq_true rfl)) ⟨Nat.le_of_ble_eq_true rfl, Nat.le_of_ble_eq_true rfl⟩ gX12_one_10.1 (fun u7841 H locs hr7840 hP hD hS => ?_)
                          refine Kpdr (ws := [(nc, iA G 100 fnc), (nF, sA G 5 (FCT K)), (nt, iA G 240 fnt), (h0, oX12 nw nk mhasKept nt (nI ktp) nr mrowMany mroundOf mroundFrom mouts nm mfromHour mtoHour ns (nI kf17733) (nI kt17734) so17735 1 (nI jd) (nI kc) mlines nl nc nF np ntr nb mbestCost nso nsi nit nsh nsf nss nrc mtraced mdealer mnumber mwhose msize misParted)]) hP hD (fun hP hD => ?_)
                          refine lv_aload_n hx hb gX12_one_10.2.1 rfl (lv_at3 hl) ?_
                          refine lv_sipush (v := 999) hx hb gX12_one_10.2.2.1 (by decide) ?_
                          refine iV (wr := [(nc, iA G 100 fnc), (nF, sA G 5 (FCT K)), (nt, iA G 240 fnt)]) hC hK hl hP hD hS hA (m_numberF l G h0 999 nw nk mhasKept nt (nI ktp) nr mrowMany mroundOf mroundFrom mouts nm mfromHour mtoHour ns (nI kf17733) (nI kt17734) so17735 (nI jd) (nI kc) mlines nl nc nF np ntr nb mbestCost nso nsi nit nsh nsf nss nrc mtraced mdealer mnumber mwhose msize misParted) si_X12_271 [3] [0, 1, 2] sm_3 fm_3 nd_3 sm_0_1_2 nd_0_1_2 dj_3__0_1_2 rfl rfl rfl rfl rfl (Nat.le_of_ble_eq_true rfl) (rmT (Nat.le_of_ble_eq_true rfl) (Nat.le_of_ble_eq_true rfl)) ⟨Nat.le_of_ble_eq_true rfl, Nat.le_of_ble_eq_true rfl⟩ gX12_one_10.2.2.2.1 (fun r7842 u7843 H locs hr7842 hP hD hS => ?_)
                          refine Kpdr (ws := [(nc, iA G 100 fnc), (nF, sA G 5 (FCT K)), (nt, iA G 240 fnt), (h0, oX12 nw nk mhasKept nt (nI ktp) nr mrowMany mroundOf mroundFrom mouts nm mfromHour mtoHour ns (nI kf17733) (nI kt17734) so17735 1 (nI jd) (nI kc) mlines nl nc nF np ntr nb mbestCost nso nsi nit nsh nsf nss nrc mtraced mdealer mnumber mwhose msize misParted)]) hP hD (fun hP hD => ?_)
                          obtain rfl := hr7842
                          refine lv_istore (lv' := [(4, .int 0), (3, .int 2), (2, .int (nI jfa)), (1, .int (nI vn)), (0, .ref h0)]) hx hb gX12_one_10.2.2.2.2.1 hl (by decide) rfl (fun ls hl => ?_)
                          refine lv_aload_n hx hb gX12_one_10.2.2.2.2.2.1 rfl (lv_at4 hl) ?_
                          refine lv_sipush (v := 3000) hx hb gX12_one_10.2.2.2.2.2.2.1 (by decide) ?_
                          refine lv_iload_n hx hb gX12_one_10.2.2.2.2.2.2.2.1 rfl (lv_at2 hl) ?_
                          refine lv_imul hx hb gX12_one_10.2.2.2.2.2.2.2.2.1 ?_
                          refine eqi (x1 := nI (3000 * jfa)) (nI_mul 3000 jfa) ?_
                          refine lv_sipush (v := 1000) hx hb gX12_one_10.2.2.2.2.2.2.2.2.2 (by decide) ?_
                          refine lv_iload_n hx hb gX12_one_11.1 rfl (lv_at1 hl) ?_
                          refine lv_imul hx hb gX12_one_11.2.1 ?_
                          refine eqi (x1 := 2000) (by decide) ?_
                          refine lv_iadd hx hb gX12_one_11.2.2.1 ?_
                          refine eqi (x1 := nI (3000 * jfa + 2000)) (nI_add (3000 * jfa) 2000) ?_
                          refine lv_iload hx hb gX12_one_11.2.2.2.1 (lv_at0 hl) ?_
                          refine lv_iadd hx hb gX12_one_11.2.2.2.2.1 ?_
                          refine eqi (x1 := nI (3000 * jfa + 2000 + 0)) (nI_add (3000 * jfa + 2000) 0) ?_
                          refine vV (wr := [(nc, iA G 100 fnc), (nF, sA G 5 (FCT K)), (nt, iA G 240 fnt)]) hC hK hl hP hD hS hA (m_codesF l G h0 (nI (3000 * jfa + 2000 + 0)) nw nk mhasKept nt (nI ktp) nr mrowMany mroundOf mroundFrom mouts nm mfromHour mtoHour ns (nI kf17733) (nI kt17734) so17735 (nI jd) (nI kc) mlines nl nc nF np ntr nb mbestCost nso nsi nit nsh nsf nss nrc mtraced mdealer mnumber mwhose msize misParted) si_X12_252 [3] [0, 1, 2] sm_3 fm_3 nd_3 sm_0_1_2 nd_0_1_2 dj_3__0_1_2 rfl rfl rfl rfl rfl (Nat.le_of_ble_eq_true rfl) (rmT (Nat.le_of_ble_eq_true rfl) (Nat.le_of_ble_eq_true rfl)) ⟨Nat.le_of_ble_eq_true rfl, Nat.le_of_ble_eq_true rfl⟩ gX12_one_11.2.2.2.2.2.1 (fun u7846 H locs hr7845 hP hD hS => ?_)
                          refine Kpdr (ws := [(nc, iA G 100 fnc), (nF, sA G 5 (FCT K)), (nt, iA G 240 fnt), (h0, oX12 nw nk mhasKept nt (nI ktp) nr mrowMany mroundOf mroundFrom mouts nm mfromHour mtoHour ns (nI kf17733) (nI kt17734) so17735 1 (nI jd) (nI kc) mlines nl nc nF np ntr nb mbestCost nso nsi nit nsh nsf nss nrc mtraced mdealer mnumber mwhose msize misParted)]) hP hD (fun hP hD => ?_)
                          refine lv_iconst (v := 0) hx hb gX12_one_11.2.2.2.2.2.2.1 (by decide) ?_
                          refine lv_istore_n (lv' := [(2, .int 0), (4, .int 0), (3, .int 2), (1, .int (nI vn)), (0, .ref h0)]) hx hb gX12_one_11.2.2.2.2.2.2.2.1 rfl hl (by decide) rfl (fun ls hl => ?_)
                          have keyN : ∀ (nN kN : Nat) (H : Heap) (locs : List Loc) (ls : Array Slot), kN + nN = vn → va_PD G A [(nc, iA G 100 fnc), (nF, sA G 5 (FCT K)), (nt, iA G 240 fnt), (h0, oX12 nw nk mhasKept nt (nI ktp) nr mrowMany mroundOf mroundFrom mouts nm mfromHour mtoHour ns (nI kf17733) (nI kt17734) so17735 1 (nI jd) (nI kc) mlines nl nc nF np ntr nb mbestCost nso nsi nit nsh nsf nss nrc mtraced mdealer mnumber mwhose msize misParted)] H → va_S A s.heap H locs → lv_has ls 5 [(2, .int (nI kN)), (4, .int 0), (3, .int 2), (1, .int (nI vn)), (0, .ref h0)] → W p l e (RM (10 + 4 * mn) 0 0) s m ([.ref h0] : List Value).toArray below meth c H locs 0 0 Q0 (F0 m 225 ls []) := by
                            intro nN
                            induction nN with
                            | zero =>
                              intro kN H locs ls hkN hPD hS hl
                              refine Kan2 hPD (fun hP hD => ?_)
                              obtain rfl : vn = kN := by omega
                              have hl : lv_has ls 5 [(2, .int (nI vn)), (4, .int 0), (3, .int 2), (1, .int (nI vn)), (0, .ref h0)] := hl
                              refine lv_iload_n hx hb gX12_one_11.2.2.2.2.2.2.2.2.1 rfl (lv_at0 hl) ?_
                              refine lv_iload_n hx hb gX12_one_11.2.2.2.2.2.2.2.2.2 rfl (lv_at3 hl) ?_
                              refine lv_icmp_ge (tgt := 243) hx hb gX12_one_12.1 (by decide) (fun _ => ?_) (fun c9 => absurd (Int32.le_refl _) c9)
                              refine toQ hQ0 ?_
                              exact RV hC hP hD hS [3, 2, 0, 1] (1, kf17733, kt17734, so17735, kc, fnc) rfl rfl (by decide) (Or.inl rfl) gX12_one_12.2.2.2.2.2.2
                            | succ nN ihN =>
                              intro kN H locs ls hkN hPD hS hl
                              refine Kan2 hPD (fun hP hD => ?_)
                              refine lv_iload_n hx hb gX12_one_11.2.2.2.2.2.2.2.2.1 rfl (lv_at0 hl) ?_
                              refine lv_iload_n hx hb gX12_one_11.2.2.2.2.2.2.2.2.2 rfl (lv_at3 hl) ?_
                              refine lv_icmp_ge (tgt := 243) hx hb gX12_one_12.1 (by decide) (fun c9 => absurd c9 (nI_ge (a := kN) (b := vn) (by omega) (by omega))) (fun _ => ?_)
                              refine lv_aload_n hx hb gX12_one_12.2.1 rfl (lv_at4 hl) ?_
                              refine lv_sipush (v := 30000) hx hb gX12_one_12.2.2.1 (by decide) ?_
                              refine vV (wr := [(nc, iA G 100 fnc), (nF, sA G 5 (FCT K)), (nt, iA G 240 fnt)]) hC hK hl hP hD hS hA (m_codesF l G h0 30000 nw nk mhasKept nt (nI ktp) nr mrowMany mroundOf mroundFrom mouts nm mfromHour mtoHour ns (nI kf17733) (nI kt17734) so17735 (nI jd) (nI kc) mlines nl nc nF np ntr nb mbestCost nso nsi nit nsh nsf nss nrc mtraced mdealer mnumber mwhose msize misParted) si_X12_252 [3] [0, 1, 2] sm_3 fm_3 nd_3 sm_0_1_2 nd_0_1_2 dj_3__0_1_2 rfl rfl rfl rfl rfl (Nat.le_of_ble_eq_true rfl) (rmT (Nat.le_of_ble_eq_true rfl) (Nat.le_of_ble_eq_true rfl)) ⟨Nat.le_of_ble_eq_true rfl, Nat.le_of_ble_eq_true rfl⟩ gX12_one_12.2.2.2.1 (fun u7848 H locs hr7847 hP hD hS => ?_)
                              refine Kpdr (ws := [(nc, iA G 100 fnc), (nF, sA G 5 (FCT K)), (nt, iA G 240 fnt), (h0, oX12 nw nk mhasKept nt (nI ktp) nr mrowMany mroundOf mroundFrom mouts nm mfromHour mtoHour ns (nI kf17733) (nI kt17734) so17735 1 (nI jd) (nI kc) mlines nl nc nF np ntr nb mbestCost nso nsi nit nsh nsf nss nrc mtraced mdealer mnumber mwhose msize misParted)]) hP hD (fun hP hD => ?_)
                              refine lv_iinc (v := nI (kN + 1)) (lv' := [(2, .int (nI (kN + 1))), (4, .int 0), (3, .int 2), (1, .int (nI vn)), (0, .ref h0)]) hx hb gX12_one_12.2.2.2.2.1 hl (k := 0) rfl (nI_1 _) (by decide) rfl (fun ls hl => ?_)
                              refine lv_goto (tgt := 225) hx hb gX12_one_12.2.2.2.2.2.1 (by decide) ?_
                              exact ihN (kN + 1) _ _ _ (by omega) (And.intro hP hD) hS (lv_sub hl [0, 1, 2, 3, 4] rfl)
                          exact keyN vn 0 _ _ _ (by omega) (And.intro hP hD) hS (lv_sub hl [0, 1, 2, 3, 4] rfl)
            | succ nF5 ihF5 =>
              intro kF5 fa9 H locs ls hkF5 hfa hPD hS hl
              refine Kan2 hPD (fun hP hD => ?_)
              refine lv_iload_n hx hb gX12_one_4.2.2.2.2.2.2.2.1 rfl (lv_at0 hl) ?_
              refine lv_iconst (v := 5) hx hb gX12_one_4.2.2.2.2.2.2.2.2.1 (by decide) ?_
              refine lv_icmp_ge (tgt := 119) hx hb gX12_one_4.2.2.2.2.2.2.2.2.2 (by decide) (fun c9 => absurd c9 (nI_ge (a := kF5) (b := 5) (by omega) (by omega))) (fun _ => ?_)
              refine lv_aload_n hx hb gX12_one_5.1 rfl (lv_at3 hl) ?_
              refine lv_aload_n hx hb gX12_one_5.2.1 rfl (lv_at3 hl) ?_
              refine gf_X12_50 hC rfl hK hP 0 rfl rfl gX12_one_5.2.2.1 ?_
              refine lv_iload_n hx hb gX12_one_5.2.2.2.1 rfl (lv_at0 hl) ?_
              obtain ⟨if7849, hif7849⟩ : ∃ z, z = 11 + kF5 := ⟨_, rfl⟩
              have hxif7849 : if7849 < 16 := by omega
              have h3if7849 := slen3 if7849 hxif7849 (by omega)
              refine aldS hC hK hP 3 rfl (vp_in_nI (by omega) (by omega)) (k := kF5) (nI_clamp (by omega)) (v := (K.1 if7849)) (by rw [hif7849]; exact if_pos (by omega)) gX12_one_5.2.2.2.2.1 ?_
              refine pVo hO hS hC hK hl hP hD (m_isName0 l G K if7849 h0 nw nk mhasKept nt ktp nr mrowMany mroundOf mroundFrom mouts nm mfromHour mtoHour ns vf vt vs (nI jd) (nI kc) mlines nl nc nF np ntr nb mbestCost nso nsi nit nsh nsf nss nrc mtraced mdealer mnumber mwhose msize misParted fnt ((hxif7849)) (hTT) (htp)) si_X12_248 [0, 1] sm_0_1 fm_0_1 nd_0_1 rfl rfl rfl rfl rfl (Nat.le_of_ble_eq_true rfl) (rmT (Nat.le_of_ble_eq_true rfl) (Nat.le_of_ble_eq_true rfl)) ⟨by first | exact Nat.le_of_ble_eq_true rfl | exact Nat.zero_le _, by first | exact Nat.le_of_ble_eq_true rfl | exact Nat.zero_le _⟩ gX12_one_5.2.2.2.2.2.1 (Kors (Keqa fun a7851 => ?_) (Keqr ?_))
              · refine lv_if_eq (tgt := 111) hx hb gX12_one_5.2.2.2.2.2.2.1 (by decide) (fun c9 => absurd c9 (by decide)) (fun _ => ?_)
                refine lv_iload_n hx hb gX12_one_5.2.2.2.2.2.2.2.1 rfl (lv_at0 hl) ?_
                refine lv_goto (tgt := 112) hx hb gX12_one_5.2.2.2.2.2.2.2.2.1 (by decide) ?_
                have tI7852 : vt = vf + SLEN.getD if7849 0 := a7851.2
                refine lv_istore_n (lv' := [(2, .int (nI kF5)), (3, .int (nI kF5)), (1, .int (nI vn)), (0, .ref h0)]) hx hb gX12_one_6.1 rfl hl (by decide) rfl (fun ls hl => ?_)
                refine lv_iinc (v := nI (kF5 + 1)) (lv' := [(3, .int (nI (kF5 + 1))), (2, .int (nI kF5)), (1, .int (nI vn)), (0, .ref h0)]) hx hb gX12_one_6.2.1 hl (k := 1) rfl (nI_1 _) (by decide) rfl (fun ls hl => ?_)
                refine lv_goto (tgt := 89) hx hb gX12_one_6.2.2.1 (by decide) ?_
                exact ihF5 (kF5 + 1) (nI kF5) _ _ _ (by omega) (by first | assumption | exact Or.inl rfl | exact Or.inr rfl | exact Or.inr ⟨kF5, by omega, rfl, by omega⟩) (And.intro hP hD) hS (lv_sub hl [0, 1, 2, 3] rfl)
              · refine lv_if_eq (tgt := 111) hx hb gX12_one_5.2.2.2.2.2.2.1 (by decide) (fun _ => ?_) (fun c9 => absurd (by decide) c9)
                refine lv_iload_n hx hb gX12_one_5.2.2.2.2.2.2.2.2.2 rfl (lv_at1 hl) ?_
                refine lv_istore_n (lv' := [(2, .int fa9), (3, .int (nI kF5)), (1, .int (nI vn)), (0, .ref h0)]) hx hb gX12_one_6.1 rfl hl (by decide) rfl (fun ls hl => ?_)
                refine lv_iinc (v := nI (kF5 + 1)) (lv' := [(3, .int (nI (kF5 + 1))), (2, .int fa9), (1, .int (nI vn)), (0, .ref h0)]) hx hb gX12_one_6.2.1 hl (k := 1) rfl (nI_1 _) (by decide) rfl (fun ls hl => ?_)
                refine lv_goto (tgt := 89) hx hb gX12_one_6.2.2.1 (by decide) ?_
                exact ihF5 (kF5 + 1) fa9 _ _ _ (by omega) (by first | assumption | exact Or.inl rfl | exact Or.inr rfl | exact Or.inr ⟨kF5, by omega, rfl, by omega⟩) (And.intro hP hD) hS (lv_sub hl [0, 1, 2, 3] rfl)
          exact keyF5 5 0 (-1) _ _ _ (by omega) (by first | assumption | exact Or.inl rfl | exact Or.inr rfl | exact Or.inr ⟨kF5, by omega, rfl, by omega⟩) (And.intro hP hD) hS (lv_sub hl [0, 1, 2, 3] rfl)
  exact keyT 241 0 so kf kt _ _ _ (hT) (by omega) (by omega) (And.intro hP hD) hS (lv_sub hl [0, 1] rfl)
def K_m_all (l : Launch) (G : GG) (K : OO) (mn : Nat) (h0 : Nat) (nw : Nat) (nk : Nat) (mhasKept : Int32) (nt : Nat) (ktp : Nat) (nr : Nat) (mrowMany : Int32) (mroundOf : Int32) (mroundFrom : Int32) (mouts : Int32) (nm : Nat) (mfromHour : Int32) (mtoHour : Int32) (ns : Nat) (kf : Nat) (kt : Nat) (so : Int32) (jd : Nat) (kc : Nat) (mlines : Int32) (nl : Nat) (nc : Nat) (nF : Nat) (np : Nat) (ntr : Nat) (nb : Nat) (mbestCost : Int32) (nso : Nat) (nsi : Nat) (nit : Nat) (nsh : Nat) (nsf : Nat) (nss : Nat) (nrc : Nat) (mtraced : Int32) (mdealer : Int32) (mnumber : Int32) (mwhose : Int32) (msize : Int32) (misParted : Int32) (fnt : Nat → Int32) (fnc : Nat → Int32) : Prop := MVo l G K yX12_all cX12_all 1 (11 + 4 * mn) 0 0 [.ref h0] [(h0, oX12 nw nk mhasKept nt (nI ktp) nr mrowMany mroundOf mroundFrom mouts nm mfromHour mtoHour ns (nI kf) (nI kt) so 0 (nI jd) (nI kc) mlines nl nc nF np ntr nb mbestCost nso nsi nit nsh nsf nss nrc mtraced mdealer mnumber mwhose msize misParted), (nt, iA G 240 fnt), (nc, iA G 100 fnc), (nF, sA G 5 (FCT K))] (fun u : Int32 × Nat × Nat × Int32 × Nat × (Nat → Int32) => u.1 = 1 ∨ (u.1 = 0 ∧ TOK fnt u.2.2.2.1 u.2.1 u.2.2.1 ktp ∧ EXPR fnc u.2.2.2.2.2 kc u.2.2.2.2.1 kf u.2.1)) (fun u : Int32 × Nat × Nat × Int32 × Nat × (Nat → Int32) => [(h0, oX12 nw nk mhasKept nt (nI ktp) nr mrowMany mroundOf mroundFrom mouts nm mfromHour mtoHour ns (nI u.2.1) (nI u.2.2.1) u.2.2.2.1 u.1 (nI jd) (nI u.2.2.2.2.1) mlines nl nc nF np ntr nb mbestCost nso nsi nit nsh nsf nss nrc mtraced mdealer mnumber mwhose msize misParted), (nt, iA G 240 fnt), (nc, iA G 100 u.2.2.2.2.2), (nF, sA G 5 (FCT K))])
set_option maxHeartbeats 4000000 in
set_option maxRecDepth 100000 in
theorem m_all (l : Launch) (G : GG) (K : OO) (mn : Nat) (h0 : Nat) (nw : Nat) (nk : Nat) (mhasKept : Int32) (nt : Nat) (ktp : Nat) (nr : Nat) (mrowMany : Int32) (mroundOf : Int32) (mroundFrom : Int32) (mouts : Int32) (nm : Nat) (mfromHour : Int32) (mtoHour : Int32) (ns : Nat) (kf : Nat) (kt : Nat) (so : Int32) (jd : Nat) (kc : Nat) (mlines : Int32) (nl : Nat) (nc : Nat) (nF : Nat) (np : Nat) (ntr : Nat) (nb : Nat) (mbestCost : Int32) (nso : Nat) (nsi : Nat) (nit : Nat) (nsh : Nat) (nsf : Nat) (nss : Nat) (nrc : Nat) (mtraced : Int32) (mdealer : Int32) (mnumber : Int32) (mwhose : Int32) (msize : Int32) (misParted : Int32) (fnt : Nat → Int32) (fnc : Nat → Int32) (hT : TOK fnt so kf kt ktp) (htp : ktp ≤ 240) (h3c : 3 * kc ≤ kf) (hjm : jd + mn = 4) (ihE : ∀ m9, m9 < mn → ∀ (h0 : Nat) (nw : Nat) (nk : Nat) (mhasKept : Int32) (nt : Nat) (ktp : Nat) (nr : Nat) (mrowMany : Int32) (mroundOf : Int32) (mroundFrom : Int32) (mouts : Int32) (nm : Nat) (mfromHour : Int32) (mtoHour : Int32) (ns : Nat) (kf : Nat) (kt : Nat) (so : Int32) (jd : Nat) (kc : Nat) (mlines : Int32) (nl : Nat) (nc : Nat) (nF : Nat) (np : Nat) (ntr : Nat) (nb : Nat) (mbestCost : Int32) (nso : Nat) (nsi : Nat) (nit : Nat) (nsh : Nat) (nsf : Nat) (nss : Nat) (nrc : Nat) (mtraced : Int32) (mdealer : Int32) (mnumber : Int32) (mwhose : Int32) (msize : Int32) (misParted : Int32) (fnt : Nat → Int32) (fnc : Nat → Int32) (hT : TOK fnt so kf kt ktp) (htp : ktp ≤ 240) (h3c : 3 * kc ≤ kf) (hjm : jd + m9 = 4), MVo l G K yX12_either cX12_either 1 (12 + 4 * m9) 0 0 [.ref h0] [(h0, oX12 nw nk mhasKept nt (nI ktp) nr mrowMany mroundOf mroundFrom mouts nm mfromHour mtoHour ns (nI kf) (nI kt) so 0 (nI jd) (nI kc) mlines nl nc nF np ntr nb mbestCost nso nsi nit nsh nsf nss nrc mtraced mdealer mnumber mwhose msize misParted), (nt, iA G 240 fnt), (nc, iA G 100 fnc), (nF, sA G 5 (FCT K))] (fun u : Int32 × Nat × Nat × Int32 × Nat × (Nat → Int32) => u.1 = 1 ∨ (u.1 = 0 ∧ TOK fnt u.2.2.2.1 u.2.1 u.2.2.1 ktp ∧ EXPR fnc u.2.2.2.2.2 kc u.2.2.2.2.1 kf u.2.1)) (fun u : Int32 × Nat × Nat × Int32 × Nat × (Nat → Int32) => [(h0, oX12 nw nk mhasKept nt (nI ktp) nr mrowMany mroundOf mroundFrom mouts nm mfromHour mtoHour ns (nI u.2.1) (nI u.2.2.1) u.2.2.2.1 u.1 (nI jd) (nI u.2.2.2.2.1) mlines nl nc nF np ntr nb mbestCost nso nsi nit nsh nsf nss nrc mtraced mdealer mnumber mwhose msize misParted), (nt, iA G 240 fnt), (nc, iA G 100 u.2.2.2.2.2), (nF, sA G 5 (FCT K))])) : K_m_all l G K mn h0 nw nk mhasKept nt ktp nr mrowMany mroundOf mroundFrom mouts nm mfromHour mtoHour ns kf kt so jd kc mlines nl nc nF np ntr nb mbestCost nso nsi nit nsh nsf nss nrc mtraced mdealer mnumber mwhose msize misParted fnt fnc := by
  refine MVo.start (by decide +kernel) (Nat.le_of_ble_eq_true rfl) ?_
  intro p e s m below meth c A ls hC hK hP hD hS hA hl hO
  refine absQ (fun Q0 hQ0 => ?_)
  have hl : lv_has ls 1 [(0, .ref h0)] := hl
  refine Kan8 hC (fun hx hb hr hml hB hown hlocks hnm => ?_)
  refine lv_aload_n hx hb gX12_all_0.1 rfl (lv_at0 hl) ?_
  refine vVo (wr := []) hO hC hK hl hP hD hS hA (m_one l G K mn h0 nw nk mhasKept nt ktp nr mrowMany mroundOf mroundFrom mouts nm mfromHour mtoHour ns kf kt so jd kc mlines nl nc nF np ntr nb mbestCost nso nsi nit nsh nsf nss nrc mtraced mdealer mnumber mwhose msize misParted fnt fnc (hT) (by omega) (by omega) (by omega) ihE) si_X12_255 [0, 1, 2, 3] [] sm_0_1_2_3 fm_0_1_2_3 nd_0_1_2_3 rfl rfl (by decide) rfl rfl rfl rfl rfl (Nat.le_of_ble_eq_true rfl) ⟨by simp only [RM]; omega, by simp only [RM]; omega⟩ ⟨Nat.le_of_ble_eq_true rfl, Nat.le_of_ble_eq_true rfl⟩ gX12_all_0.2.1 (Ktu6 fun ff17855 kf17856 kt17857 so17858 kc17859 gnc7860 => ?_)
  intro H locs hr7853 hP hD hS
  try dsimp only at hr7853
  refine Kpdr (ws := [(h0, oX12 nw nk mhasKept nt (nI ktp) nr mrowMany mroundOf mroundFrom mouts nm mfromHour mtoHour ns (nI kf17856) (nI kt17857) so17858 ff17855 (nI jd) (nI kc17859) mlines nl nc nF np ntr nb mbestCost nso nsi nit nsh nsf nss nrc mtraced mdealer mnumber mwhose msize misParted), (nt, iA G 240 fnt), (nc, iA G 100 gnc7860), (nF, sA G 5 (FCT K))]) hP hD (fun hP hD => ?_)
  have w7861 := hr7853
  rcases w7861 with rfl | ⟨rfl, hw7862_0, hw7862_1⟩
  · refine lv_aload_n hx hb gX12_all_0.2.2.1 rfl (lv_at0 hl) ?_
    refine va_ldcSw (index := 258) (tx := "and") hx hb hown (hO.2.2 9 (by decide)) gX12_all_0.2.2.2.1 ?_
    refine pVo hO hS hC hK hl hP hD (m_isNameF l G K 9 h0 nw nk mhasKept nt (nI ktp) nr mrowMany mroundOf mroundFrom mouts nm mfromHour mtoHour ns (nI kf17856) (nI kt17857) so17858 (nI jd) (nI kc17859) mlines nl nc nF np ntr nb mbestCost nso nsi nit nsh nsf nss nrc mtraced mdealer mnumber mwhose msize misParted ((by decide))) si_X12_248 [0] sm_0 fm_0 nd_0 rfl rfl rfl rfl rfl (Nat.le_of_ble_eq_true rfl) (rmT (Nat.le_of_ble_eq_true rfl) (Nat.le_of_ble_eq_true rfl)) ⟨by first | exact Nat.le_of_ble_eq_true rfl | exact Nat.zero_le _, by first | exact Nat.le_of_ble_eq_true rfl | exact Nat.zero_le _⟩ gX12_all_0.2.2.2.2.1 (Keqr ?_)
    refine lv_if_eq (tgt := 32) hx hb gX12_all_0.2.2.2.2.2.1 (by decide) (fun _ => ?_) (fun c9 => absurd (by decide) c9)
    refine toQ hQ0 ?_
    exact RV hC hP hD hS [0, 1, 2, 3] (1, kf17856, kt17857, so17858, kc17859, gnc7860) rfl rfl (by decide) (Or.inl rfl) gX12_all_1.2.2.2.2
  · have tA7865 := hw7862_0.1
    have tB7865 := hw7862_0.2.1
    have tA7866 := hw7862_1.1
    have tB7866 := hw7862_1.2.1
    have keyD : ∀ (nD : Nat) (vs : Int32) (vf : Nat) (vt : Nat) (vc : Nat) (vC : Nat → Int32) (H : Heap) (locs : List Loc) (ls : Array Slot), (TOK fnt vs vf vt ktp) → (EXPR fnc vC kc vc kf vf) → (241 ≤ vf + nD) → va_PD G A [(h0, oX12 nw nk mhasKept nt (nI ktp) nr mrowMany mroundOf mroundFrom mouts nm mfromHour mtoHour ns (nI vf) (nI vt) vs 0 (nI jd) (nI vc) mlines nl nc nF np ntr nb mbestCost nso nsi nit nsh nsf nss nrc mtraced mdealer mnumber mwhose msize misParted), (nt, iA G 240 fnt), (nc, iA G 100 vC), (nF, sA G 5 (FCT K))] H → va_S A s.heap H locs → lv_has ls 1 [(0, .ref h0)] → W p l e (RM (11 + 4 * mn) 0 0) s m ([.ref h0] : List Value).toArray below meth c H locs 0 0 Q0 (F0 m 4 ls []) := by
      intro nD
      induction nD with
      | zero =>
        intro vs vf vt vc vC H locs ls hTT hEx hT3 hPD hS hl
        refine Kan2 hPD (fun hP hD => ?_)
        have tA7867 := hTT.1
        have tB7867 := hTT.2.1
        have tA7868 := hEx.1
        have tB7868 := hEx.2.1
        exact (show False by omega).elim
      | succ nD ihD =>
        intro vs vf vt vc vC H locs ls hTT hEx hT3 hPD hS hl
        refine Kan2 hPD (fun hP hD => ?_)
        have tA7869 := hTT.1
        have tB7869 := hTT.2.1
        have tA7870 := hEx.1
        have tB7870 := hEx.2.1
        refine lv_aload_n hx hb gX12_all_0.2.2.1 rfl (lv_at0 hl) ?_
        refine va_ldcSw (index := 258) (tx := "and") hx hb hown (hO.2.2 9 (by decide)) gX12_all_0.2.2.2.1 ?_
        refine pVo hO hS hC hK hl hP hD (m_isName0 l G K 9 h0 nw nk mhasKept nt ktp nr mrowMany mroundOf mroundFrom mouts nm mfromHour mtoHour ns vf vt vs (nI jd) (nI vc) mlines nl nc nF np ntr nb mbestCost nso nsi nit nsh nsf nss nrc mtraced mdealer mnumber mwhose msize misParted fnt ((by decide)) (hTT) (htp)) si_X12_248 [0, 1] sm_0_1 fm_0_1 nd_0_1 rfl rfl rfl rfl rfl (Nat.le_of_ble_eq_true rfl) (rmT (Nat.le_of_ble_eq_true rfl) (Nat.le_of_ble_eq_true rfl)) ⟨by first | exact Nat.le_of_ble_eq_true rfl | exact Nat.zero_le _, by first | exact Nat.le_of_ble_eq_true rfl | exact Nat.zero_le _⟩ gX12_all_0.2.2.2.2.1 (Kors (Keqa fun a7872 => ?_) (Keqr ?_))
        · refine lv_if_eq (tgt := 32) hx hb gX12_all_0.2.2.2.2.2.1 (by decide) (fun c9 => absurd c9 (by decide)) (fun _ => ?_)
          refine lv_aload_n hx hb gX12_all_0.2.2.2.2.2.2.1 rfl (lv_at0 hl) ?_
          have tI7873 : vt = vf + 3 := a7872.2
          refine vV (wr := [(nc, iA G 100 vC), (nF, sA G 5 (FCT K))]) hC hK hl hP hD hS hA (m_next l G h0 nw nk mhasKept nt ktp nr mrowMany mroundOf mroundFrom mouts nm mfromHour mtoHour ns (nI vf) vt vs 0 (nI jd) (nI vc) mlines nl nc nF np ntr nb mbestCost nso nsi nit nsh nsf nss nrc mtraced mdealer mnumber mwhose msize misParted fnt (by omega) (htp)) si_X12_233 [0, 1] [2, 3] sm_0_1 fm_0_1 nd_0_1 sm_2_3 nd_2_3 dj_0_1__2_3 rfl rfl rfl rfl rfl (Nat.le_of_ble_eq_true rfl) (rmT (Nat.le_of_ble_eq_true rfl) (Nat.le_of_ble_eq_true rfl)) ⟨Nat.le_of_ble_eq_true rfl, Nat.le_of_ble_eq_true rfl⟩ gX12_all_0.2.2.2.2.2.2.2.1 (Ktu3 fun kf17876 kt17877 so17878 => ?_)
          intro H locs hr7874 hP hD hS
          try dsimp only at hr7874
          refine Kpdr (ws := [(nc, iA G 100 vC), (nF, sA G 5 (FCT K)), (h0, oX12 nw nk mhasKept nt (nI ktp) nr mrowMany mroundOf mroundFrom mouts nm mfromHour mtoHour ns (nI kf17876) (nI kt17877) so17878 0 (nI jd) (nI vc) mlines nl nc nF np ntr nb mbestCost nso nsi nit nsh nsf nss nrc mtraced mdealer mnumber mwhose msize misParted), (nt, iA G 240 fnt)]) hP hD (fun hP hD => ?_)
          have hw7880_0 := hr7874.1
          have hw7880_1 := hr7874.2
          have tA7882 := hw7880_1.1
          have tB7882 := hw7880_1.2.1
          refine lv_aload_n hx hb gX12_all_0.2.2.2.2.2.2.2.2.1 rfl (lv_at0 hl) ?_
          refine vVo (wr := []) hO hC hK hl hP hD hS hA (m_one l G K mn h0 nw nk mhasKept nt ktp nr mrowMany mroundOf mroundFrom mouts nm mfromHour mtoHour ns kf17876 kt17877 so17878 jd vc mlines nl nc nF np ntr nb mbestCost nso nsi nit nsh nsf nss nrc mtraced mdealer mnumber mwhose msize misParted fnt vC (hw7880_1) (by omega) (by omega) (by omega) ihE) si_X12_255 [2, 3, 0, 1] [] sm_2_3_0_1 fm_2_3_0_1 nd_2_3_0_1 rfl rfl (by decide) rfl rfl rfl rfl rfl (Nat.le_of_ble_eq_true rfl) ⟨by simp only [RM]; omega, by simp only [RM]; omega⟩ ⟨Nat.le_of_ble_eq_true rfl, Nat.le_of_ble_eq_true rfl⟩ gX12_all_0.2.2.2.2.2.2.2.2.2 (Ktu6 fun ff17885 kf17886 kt17887 so17888 kc17889 gnc7890 => ?_)
          intro H locs hr7883 hP hD hS
          try dsimp only at hr7883
          refine Kpdr (ws := [(h0, oX12 nw nk mhasKept nt (nI ktp) nr mrowMany mroundOf mroundFrom mouts nm mfromHour mtoHour ns (nI kf17886) (nI kt17887) so17888 ff17885 (nI jd) (nI kc17889) mlines nl nc nF np ntr nb mbestCost nso nsi nit nsh nsf nss nrc mtraced mdealer mnumber mwhose msize misParted), (nt, iA G 240 fnt), (nc, iA G 100 gnc7890), (nF, sA G 5 (FCT K))]) hP hD (fun hP hD => ?_)
          have w7891 := hr7883
          rcases w7891 with rfl | ⟨rfl, hw7892_0, hw7892_1⟩
          · refine lv_aload_n hx hb gX12_all_1.1 rfl (lv_at0 hl) ?_
            refine lv_sipush (v := 30001) hx hb gX12_all_1.2.1 (by decide) ?_
            refine vV (wr := [(nt, iA G 240 fnt), (nc, iA G 100 gnc7890), (nF, sA G 5 (FCT K))]) hC hK hl hP hD hS hA (m_codesF l G h0 30001 nw nk mhasKept nt (nI ktp) nr mrowMany mroundOf mroundFrom mouts nm mfromHour mtoHour ns (nI kf17886) (nI kt17887) so17888 (nI jd) (nI kc17889) mlines nl nc nF np ntr nb mbestCost nso nsi nit nsh nsf nss nrc mtraced mdealer mnumber mwhose msize misParted) si_X12_252 [0] [1, 2, 3] sm_0 fm_0 nd_0 sm_1_2_3 nd_1_2_3 dj_0__1_2_3 rfl rfl rfl rfl rfl (Nat.le_of_ble_eq_true rfl) (rmT (Nat.le_of_ble_eq_true rfl) (Nat.le_of_ble_eq_true rfl)) ⟨Nat.le_of_ble_eq_true rfl, Nat.le_of_ble_eq_true rfl⟩ gX12_all_1.2.2.1 (fun u7894 H locs hr7893 hP hD hS => ?_)
            refine Kpdr (ws := [(nt, iA G 240 fnt), (nc, iA G 100 gnc7890), (nF, sA G 5 (FCT K)), (h0, oX12 nw nk mhasKept nt (nI ktp) nr mrowMany mroundOf mroundFrom mouts nm mfromHour mtoHour ns (nI kf17886) (nI kt17887) so17888 1 (nI jd) (nI kc17889) mlines nl nc nF np ntr nb mbestCost nso nsi nit nsh nsf nss nrc mtraced mdealer mnumber mwhose msize misParted)]) hP hD (fun hP hD => ?_)
            refine lv_goto (tgt := 4) hx hb gX12_all_1.2.2.2.1 (by decide) ?_
            refine lv_aload_n hx hb gX12_all_0.2.2.1 rfl (lv_at0 hl) ?_
            refine va_ldcSw (index := 258) (tx := "and") hx hb hown (hO.2.2 9 (by decide)) gX12_all_0.2.2.2.1 ?_
            refine pVo hO hS hC hK hl hP hD (m_isNameF l G K 9 h0 nw nk mhasKept nt (nI ktp) nr mrowMany mroundOf mroundFrom mouts nm mfromHour mtoHour ns (nI kf17886) (nI kt17887) so17888 (nI jd) (nI kc17889) mlines nl nc nF np ntr nb mbestCost nso nsi nit nsh nsf nss nrc mtraced mdealer mnumber mwhose msize misParted ((by decide))) si_X12_248 [3] sm_3 fm_3 nd_3 rfl rfl rfl rfl rfl (Nat.le_of_ble_eq_true rfl) (rmT (Nat.le_of_ble_eq_true rfl) (Nat.le_of_ble_eq_true rfl)) ⟨by first | exact Nat.le_of_ble_eq_true rfl | exact Nat.zero_le _, by first | exact Nat.le_of_ble_eq_true rfl | exact Nat.zero_le _⟩ gX12_all_0.2.2.2.2.1 (Keqr ?_)
            refine lv_if_eq (tgt := 32) hx hb gX12_all_0.2.2.2.2.2.1 (by decide) (fun _ => ?_) (fun c9 => absurd (by decide) c9)
            refine toQ hQ0 ?_
            exact RV hC hP hD hS [3, 0, 1, 2] (1, kf17886, kt17887, so17888, kc17889, gnc7890) rfl rfl (by decide) (Or.inl rfl) gX12_all_1.2.2.2.2
          · have tA7897 := hw7892_0.1
            have tB7897 := hw7892_0.2.1
            have tA7898 := hw7892_1.1
            have tB7898 := hw7892_1.2.1
            refine lv_aload_n hx hb gX12_all_1.1 rfl (lv_at0 hl) ?_
            refine lv_sipush (v := 30001) hx hb gX12_all_1.2.1 (by decide) ?_
            refine vV (wr := [(nt, iA G 240 fnt), (nF, sA G 5 (FCT K))]) hC hK hl hP hD hS hA (m_codes0 l G h0 30001 nw nk mhasKept nt (nI ktp) nr mrowMany mroundOf mroundFrom mouts nm mfromHour mtoHour ns (nI kf17886) (nI kt17887) so17888 (nI jd) kc17889 mlines nl nc nF np ntr nb mbestCost nso nsi nit nsh nsf nss nrc mtraced mdealer mnumber mwhose msize misParted gnc7890 (by omega)) si_X12_252 [0, 2] [1, 3] sm_0_2 fm_0_2 nd_0_2 sm_1_3 nd_1_3 dj_0_2__1_3 rfl rfl rfl rfl rfl (Nat.le_of_ble_eq_true rfl) (rmT (Nat.le_of_ble_eq_true rfl) (Nat.le_of_ble_eq_true rfl)) ⟨Nat.le_of_ble_eq_true rfl, Nat.le_of_ble_eq_true rfl⟩ gX12_all_1.2.2.1 (fun u7900 H locs hr7899 hP hD hS => ?_)
            refine Kpdr (ws := [(nt, iA G 240 fnt), (nF, sA G 5 (FCT K)), (h0, oX12 nw nk mhasKept nt (nI ktp) nr mrowMany mroundOf mroundFrom mouts nm mfromHour mtoHour ns (nI kf17886) (nI kt17887) so17888 0 (nI jd) (nI (kc17889 + 1)) mlines nl nc nF np ntr nb mbestCost nso nsi nit nsh nsf nss nrc mtraced mdealer mnumber mwhose msize misParted), (nc, iA G 100 (upd gnc7890 kc17889 30001))]) hP hD (fun hP hD => ?_)
            refine lv_goto (tgt := 4) hx hb gX12_all_1.2.2.2.1 (by decide) ?_
            refine Kpds (ws' := [(h0, oX12 nw nk mhasKept nt (nI ktp) nr mrowMany mroundOf mroundFrom mouts nm mfromHour mtoHour ns (nI kf17886) (nI kt17887) so17888 0 (nI jd) (nI (kc17889 + 1)) mlines nl nc nF np ntr nb mbestCost nso nsi nit nsh nsf nss nrc mtraced mdealer mnumber mwhose msize misParted), (nt, iA G 240 fnt), (nc, iA G 100 (upd gnc7890 kc17889 30001)), (nF, sA G 5 (FCT K))]) hP hD [2, 0, 3, 1] fm_2_0_3_1 nd_2_0_3_1 sm_2_0_3_1 (fun hP hD => ?_)
            exact ihD so17888 kf17886 kt17887 (kc17889 + 1) (upd gnc7890 kc17889 30001) _ _ _ (hw7892_0) (EXPR.op hEx hw7892_1 (by omega) (Or.inl rfl)) (by omega) (And.intro hP hD) hS (lv_sub hl [0] rfl)
        · refine lv_if_eq (tgt := 32) hx hb gX12_all_0.2.2.2.2.2.1 (by decide) (fun _ => ?_) (fun c9 => absurd (by decide) c9)
          refine toQ hQ0 ?_
          exact RV hC hP hD hS [0, 1, 2, 3] (0, vf, vt, vs, vc, vC) rfl rfl (by decide) (Or.inr ⟨rfl, hTT, EXPR.wid hEx (by (try dsimp only); omega)⟩) gX12_all_1.2.2.2.2
    exact keyD 241 so17858 kf17856 kt17857 kc17859 gnc7860 _ _ _ (hw7862_0) (hw7862_1) (by omega) (And.intro hP hD) hS (lv_sub hl [0] rfl)
def K_m_either_step (l : Launch) (G : GG) (K : OO) (mn : Nat) (h0 : Nat) (nw : Nat) (nk : Nat) (mhasKept : Int32) (nt : Nat) (ktp : Nat) (nr : Nat) (mrowMany : Int32) (mroundOf : Int32) (mroundFrom : Int32) (mouts : Int32) (nm : Nat) (mfromHour : Int32) (mtoHour : Int32) (ns : Nat) (kf : Nat) (kt : Nat) (so : Int32) (jd : Nat) (kc : Nat) (mlines : Int32) (nl : Nat) (nc : Nat) (nF : Nat) (np : Nat) (ntr : Nat) (nb : Nat) (mbestCost : Int32) (nso : Nat) (nsi : Nat) (nit : Nat) (nsh : Nat) (nsf : Nat) (nss : Nat) (nrc : Nat) (mtraced : Int32) (mdealer : Int32) (mnumber : Int32) (mwhose : Int32) (msize : Int32) (misParted : Int32) (fnt : Nat → Int32) (fnc : Nat → Int32) : Prop := MVo l G K yX12_either cX12_either 1 (12 + 4 * mn) 0 0 [.ref h0] [(h0, oX12 nw nk mhasKept nt (nI ktp) nr mrowMany mroundOf mroundFrom mouts nm mfromHour mtoHour ns (nI kf) (nI kt) so 0 (nI jd) (nI kc) mlines nl nc nF np ntr nb mbestCost nso nsi nit nsh nsf nss nrc mtraced mdealer mnumber mwhose msize misParted), (nt, iA G 240 fnt), (nc, iA G 100 fnc), (nF, sA G 5 (FCT K))] (fun u : Int32 × Nat × Nat × Int32 × Nat × (Nat → Int32) => u.1 = 1 ∨ (u.1 = 0 ∧ TOK fnt u.2.2.2.1 u.2.1 u.2.2.1 ktp ∧ EXPR fnc u.2.2.2.2.2 kc u.2.2.2.2.1 kf u.2.1)) (fun u : Int32 × Nat × Nat × Int32 × Nat × (Nat → Int32) => [(h0, oX12 nw nk mhasKept nt (nI ktp) nr mrowMany mroundOf mroundFrom mouts nm mfromHour mtoHour ns (nI u.2.1) (nI u.2.2.1) u.2.2.2.1 u.1 (nI jd) (nI u.2.2.2.2.1) mlines nl nc nF np ntr nb mbestCost nso nsi nit nsh nsf nss nrc mtraced mdealer mnumber mwhose msize misParted), (nt, iA G 240 fnt), (nc, iA G 100 u.2.2.2.2.2), (nF, sA G 5 (FCT K))])
set_option maxHeartbeats 4000000 in
set_option maxRecDepth 100000 in
theorem m_either_step (l : Launch) (G : GG) (K : OO) (mn : Nat) (h0 : Nat) (nw : Nat) (nk : Nat) (mhasKept : Int32) (nt : Nat) (ktp : Nat) (nr : Nat) (mrowMany : Int32) (mroundOf : Int32) (mroundFrom : Int32) (mouts : Int32) (nm : Nat) (mfromHour : Int32) (mtoHour : Int32) (ns : Nat) (kf : Nat) (kt : Nat) (so : Int32) (jd : Nat) (kc : Nat) (mlines : Int32) (nl : Nat) (nc : Nat) (nF : Nat) (np : Nat) (ntr : Nat) (nb : Nat) (mbestCost : Int32) (nso : Nat) (nsi : Nat) (nit : Nat) (nsh : Nat) (nsf : Nat) (nss : Nat) (nrc : Nat) (mtraced : Int32) (mdealer : Int32) (mnumber : Int32) (mwhose : Int32) (msize : Int32) (misParted : Int32) (fnt : Nat → Int32) (fnc : Nat → Int32) (hT : TOK fnt so kf kt ktp) (htp : ktp ≤ 240) (h3c : 3 * kc ≤ kf) (hjm : jd + mn = 4) (ihE : ∀ m9, m9 < mn → ∀ (h0 : Nat) (nw : Nat) (nk : Nat) (mhasKept : Int32) (nt : Nat) (ktp : Nat) (nr : Nat) (mrowMany : Int32) (mroundOf : Int32) (mroundFrom : Int32) (mouts : Int32) (nm : Nat) (mfromHour : Int32) (mtoHour : Int32) (ns : Nat) (kf : Nat) (kt : Nat) (so : Int32) (jd : Nat) (kc : Nat) (mlines : Int32) (nl : Nat) (nc : Nat) (nF : Nat) (np : Nat) (ntr : Nat) (nb : Nat) (mbestCost : Int32) (nso : Nat) (nsi : Nat) (nit : Nat) (nsh : Nat) (nsf : Nat) (nss : Nat) (nrc : Nat) (mtraced : Int32) (mdealer : Int32) (mnumber : Int32) (mwhose : Int32) (msize : Int32) (misParted : Int32) (fnt : Nat → Int32) (fnc : Nat → Int32) (hT : TOK fnt so kf kt ktp) (htp : ktp ≤ 240) (h3c : 3 * kc ≤ kf) (hjm : jd + m9 = 4), MVo l G K yX12_either cX12_either 1 (12 + 4 * m9) 0 0 [.ref h0] [(h0, oX12 nw nk mhasKept nt (nI ktp) nr mrowMany mroundOf mroundFrom mouts nm mfromHour mtoHour ns (nI kf) (nI kt) so 0 (nI jd) (nI kc) mlines nl nc nF np ntr nb mbestCost nso nsi nit nsh nsf nss nrc mtraced mdealer mnumber mwhose msize misParted), (nt, iA G 240 fnt), (nc, iA G 100 fnc), (nF, sA G 5 (FCT K))] (fun u : Int32 × Nat × Nat × Int32 × Nat × (Nat → Int32) => u.1 = 1 ∨ (u.1 = 0 ∧ TOK fnt u.2.2.2.1 u.2.1 u.2.2.1 ktp ∧ EXPR fnc u.2.2.2.2.2 kc u.2.2.2.2.1 kf u.2.1)) (fun u : Int32 × Nat × Nat × Int32 × Nat × (Nat → Int32) => [(h0, oX12 nw nk mhasKept nt (nI ktp) nr mrowMany mroundOf mroundFrom mouts nm mfromHour mtoHour ns (nI u.2.1) (nI u.2.2.1) u.2.2.2.1 u.1 (nI jd) (nI u.2.2.2.2.1) mlines nl nc nF np ntr nb mbestCost nso nsi nit nsh nsf nss nrc mtraced mdealer mnumber mwhose msize misParted), (nt, iA G 240 fnt), (nc, iA G 100 u.2.2.2.2.2), (nF, sA G 5 (FCT K))])) : K_m_either_step l G K mn h0 nw nk mhasKept nt ktp nr mrowMany mroundOf mroundFrom mouts nm mfromHour mtoHour ns kf kt so jd kc mlines nl nc nF np ntr nb mbestCost nso nsi nit nsh nsf nss nrc mtraced mdealer mnumber mwhose msize misParted fnt fnc := by
  refine MVo.start (by decide +kernel) (Nat.le_of_ble_eq_true rfl) ?_
  intro p e s m below meth c A ls hC hK hP hD hS hA hl hO
  refine absQ (fun Q0 hQ0 => ?_)
  have hl : lv_has ls 1 [(0, .ref h0)] := hl
  refine Kan8 hC (fun hx hb hr hml hB hown hlocks hnm => ?_)
  refine lv_aload_n hx hb gX12_either_0.1 rfl (lv_at0 hl) ?_
  refine vVo (wr := []) hO hC hK hl hP hD hS hA (m_all l G K mn h0 nw nk mhasKept nt ktp nr mrowMany mroundOf mroundFrom mouts nm mfromHour mtoHour ns kf kt so jd kc mlines nl nc nF np ntr nb mbestCost nso nsi nit nsh nsf nss nrc mtraced mdealer mnumber mwhose msize misParted fnt fnc (hT) (by omega) (by omega) (by omega) ihE) si_X12_243 [0, 1, 2, 3] [] sm_0_1_2_3 fm_0_1_2_3 nd_0_1_2_3 rfl rfl (by decide) rfl rfl rfl rfl rfl (Nat.le_of_ble_eq_true rfl) ⟨by simp only [RM]; omega, by simp only [RM]; omega⟩ ⟨Nat.le_of_ble_eq_true rfl, Nat.le_of_ble_eq_true rfl⟩ gX12_either_0.2.1 (Ktu6 fun ff17903 kf17904 kt17905 so17906 kc17907 gnc7908 => ?_)
  intro H locs hr7901 hP hD hS
  try dsimp only at hr7901
  refine Kpdr (ws := [(h0, oX12 nw nk mhasKept nt (nI ktp) nr mrowMany mroundOf mroundFrom mouts nm mfromHour mtoHour ns (nI kf17904) (nI kt17905) so17906 ff17903 (nI jd) (nI kc17907) mlines nl nc nF np ntr nb mbestCost nso nsi nit nsh nsf nss nrc mtraced mdealer mnumber mwhose msize misParted), (nt, iA G 240 fnt), (nc, iA G 100 gnc7908), (nF, sA G 5 (FCT K))]) hP hD (fun hP hD => ?_)
  have w7909 := hr7901
  rcases w7909 with rfl | ⟨rfl, hw7910_0, hw7910_1⟩
  · refine lv_aload_n hx hb gX12_either_0.2.2.1 rfl (lv_at0 hl) ?_
    refine va_ldcS (index := 246) (tx := "o\x72") hx hb hown (hO.2.2 8 (by decide)) gX12_either_0.2.2.2.1 ?_
    refine pVo hO hS hC hK hl hP hD (m_isNameF l G K 8 h0 nw nk mhasKept nt (nI ktp) nr mrowMany mroundOf mroundFrom mouts nm mfromHour mtoHour ns (nI kf17904) (nI kt17905) so17906 (nI jd) (nI kc17907) mlines nl nc nF np ntr nb mbestCost nso nsi nit nsh nsf nss nrc mtraced mdealer mnumber mwhose msize misParted ((by decide))) si_X12_248 [0] sm_0 fm_0 nd_0 rfl rfl rfl rfl rfl (Nat.le_of_ble_eq_true rfl) (rmT (Nat.le_of_ble_eq_true rfl) (Nat.le_of_ble_eq_true rfl)) ⟨by first | exact Nat.le_of_ble_eq_true rfl | exact Nat.zero_le _, by first | exact Nat.le_of_ble_eq_true rfl | exact Nat.zero_le _⟩ gX12_either_0.2.2.2.2.1 (Keqr ?_)
    refine lv_if_eq (tgt := 31) hx hb gX12_either_0.2.2.2.2.2.1 (by decide) (fun _ => ?_) (fun c9 => absurd (by decide) c9)
    refine toQ hQ0 ?_
    exact RV hC hP hD hS [0, 1, 2, 3] (1, kf17904, kt17905, so17906, kc17907, gnc7908) rfl rfl (by decide) (Or.inl rfl) gX12_either_1.2.2.2.2
  · have tA7913 := hw7910_0.1
    have tB7913 := hw7910_0.2.1
    have tA7914 := hw7910_1.1
    have tB7914 := hw7910_1.2.1
    have keyD : ∀ (nD : Nat) (vs : Int32) (vf : Nat) (vt : Nat) (vc : Nat) (vC : Nat → Int32) (H : Heap) (locs : List Loc) (ls : Array Slot), (TOK fnt vs vf vt ktp) → (EXPR fnc vC kc vc kf vf) → (241 ≤ vf + nD) → va_PD G A [(h0, oX12 nw nk mhasKept nt (nI ktp) nr mrowMany mroundOf mroundFrom mouts nm mfromHour mtoHour ns (nI vf) (nI vt) vs 0 (nI jd) (nI vc) mlines nl nc nF np ntr nb mbestCost nso nsi nit nsh nsf nss nrc mtraced mdealer mnumber mwhose msize misParted), (nt, iA G 240 fnt), (nc, iA G 100 vC), (nF, sA G 5 (FCT K))] H → va_S A s.heap H locs → lv_has ls 1 [(0, .ref h0)] → W p l e (RM (12 + 4 * mn) 0 0) s m ([.ref h0] : List Value).toArray below meth c H locs 0 0 Q0 (F0 m 4 ls []) := by
      intro nD
      induction nD with
      | zero =>
        intro vs vf vt vc vC H locs ls hTT hEx hT3 hPD hS hl
        refine Kan2 hPD (fun hP hD => ?_)
        have tA7915 := hTT.1
        have tB7915 := hTT.2.1
        have tA7916 := hEx.1
        have tB7916 := hEx.2.1
        exact (show False by omega).elim
      | succ nD ihD =>
        intro vs vf vt vc vC H locs ls hTT hEx hT3 hPD hS hl
        refine Kan2 hPD (fun hP hD => ?_)
        have tA7917 := hTT.1
        have tB7917 := hTT.2.1
        have tA7918 := hEx.1
        have tB7918 := hEx.2.1
        refine lv_aload_n hx hb gX12_either_0.2.2.1 rfl (lv_at0 hl) ?_
        refine va_ldcS (index := 246) (tx := "o\x72") hx hb hown (hO.2.2 8 (by decide)) gX12_either_0.2.2.2.1 ?_
        refine pVo hO hS hC hK hl hP hD (m_isName0 l G K 8 h0 nw nk mhasKept nt ktp nr mrowMany mroundOf mroundFrom mouts nm mfromHour mtoHour ns vf vt vs (nI jd) (nI vc) mlines nl nc nF np ntr nb mbestCost nso nsi nit nsh nsf nss nrc mtraced mdealer mnumber mwhose msize misParted fnt ((by decide)) (hTT) (htp)) si_X12_248 [0, 1] sm_0_1 fm_0_1 nd_0_1 rfl rfl rfl rfl rfl (Nat.le_of_ble_eq_true rfl) (rmT (Nat.le_of_ble_eq_true rfl) (Nat.le_of_ble_eq_true rfl)) ⟨by first | exact Nat.le_of_ble_eq_true rfl | exact Nat.zero_le _, by first | exact Nat.le_of_ble_eq_true rfl | exact Nat.zero_le _⟩ gX12_either_0.2.2.2.2.1 (Kors (Keqa fun a7920 => ?_) (Keqr ?_))
        · refine lv_if_eq (tgt := 31) hx hb gX12_either_0.2.2.2.2.2.1 (by decide) (fun c9 => absurd c9 (by decide)) (fun _ => ?_)
          refine lv_aload_n hx hb gX12_either_0.2.2.2.2.2.2.1 rfl (lv_at0 hl) ?_
          have tI7921 : vt = vf + 2 := a7920.2
          refine vV (wr := [(nc, iA G 100 vC), (nF, sA G 5 (FCT K))]) hC hK hl hP hD hS hA (m_next l G h0 nw nk mhasKept nt ktp nr mrowMany mroundOf mroundFrom mouts nm mfromHour mtoHour ns (nI vf) vt vs 0 (nI jd) (nI vc) mlines nl nc nF np ntr nb mbestCost nso nsi nit nsh nsf nss nrc mtraced mdealer mnumber mwhose msize misParted fnt (by omega) (htp)) si_X12_233 [0, 1] [2, 3] sm_0_1 fm_0_1 nd_0_1 sm_2_3 nd_2_3 dj_0_1__2_3 rfl rfl rfl rfl rfl (Nat.le_of_ble_eq_true rfl) (rmT (Nat.le_of_ble_eq_true rfl) (Nat.le_of_ble_eq_true rfl)) ⟨Nat.le_of_ble_eq_true rfl, Nat.le_of_ble_eq_true rfl⟩ gX12_either_0.2.2.2.2.2.2.2.1 (Ktu3 fun kf17924 kt17925 so17926 => ?_)
          intro H locs hr7922 hP hD hS
          try dsimp only at hr7922
          refine Kpdr (ws := [(nc, iA G 100 vC), (nF, sA G 5 (FCT K)), (h0, oX12 nw nk mhasKept nt (nI ktp) nr mrowMany mroundOf mroundFrom mouts nm mfromHour mtoHour ns (nI kf17924) (nI kt17925) so17926 0 (nI jd) (nI vc) mlines nl nc nF np ntr nb mbestCost nso nsi nit nsh nsf nss nrc mtraced mdealer mnumber mwhose msize misParted), (nt, iA G 240 fnt)]) hP hD (fun hP hD => ?_)
          have hw7928_0 := hr7922.1
          have hw7928_1 := hr7922.2
          have tA7930 := hw7928_1.1
          have tB7930 := hw7928_1.2.1
          refine lv_aload_n hx hb gX12_either_0.2.2.2.2.2.2.2.2.1 rfl (lv_at0 hl) ?_
          refine vVo (wr := []) hO hC hK hl hP hD hS hA (m_all l G K mn h0 nw nk mhasKept nt ktp nr mrowMany mroundOf mroundFrom mouts nm mfromHour mtoHour ns kf17924 kt17925 so17926 jd vc mlines nl nc nF np ntr nb mbestCost nso nsi nit nsh nsf nss nrc mtraced mdealer mnumber mwhose msize misParted fnt vC (hw7928_1) (by omega) (by omega) (by omega) ihE) si_X12_243 [2, 3, 0, 1] [] sm_2_3_0_1 fm_2_3_0_1 nd_2_3_0_1 rfl rfl (by decide) rfl rfl rfl rfl rfl (Nat.le_of_ble_eq_true rfl) ⟨by simp only [RM]; omega, by simp only [RM]; omega⟩ ⟨Nat.le_of_ble_eq_true rfl, Nat.le_of_ble_eq_true rfl⟩ gX12_either_0.2.2.2.2.2.2.2.2.2 (Ktu6 fun ff17933 kf17934 kt17935 so17936 kc17937 gnc7938 => ?_)
          intro H locs hr7931 hP hD hS
          try dsimp only at hr7931
          refine Kpdr (ws := [(h0, oX12 nw nk mhasKept nt (nI ktp) nr mrowMany mroundOf mroundFrom mouts nm mfromHour mtoHour ns (nI kf17934) (nI kt17935) so17936 ff17933 (nI jd) (nI kc17937) mlines nl nc nF np ntr nb mbestCost nso nsi nit nsh nsf nss nrc mtraced mdealer mnumber mwhose msize misParted), (nt, iA G 240 fnt), (nc, iA G 100 gnc7938), (nF, sA G 5 (FCT K))]) hP hD (fun hP hD => ?_)
          have w7939 := hr7931
          rcases w7939 with rfl | ⟨rfl, hw7940_0, hw7940_1⟩
          · refine lv_aload_n hx hb gX12_either_1.1 rfl (lv_at0 hl) ?_
            refine lv_sipush (v := 30002) hx hb gX12_either_1.2.1 (by decide) ?_
            refine vV (wr := [(nt, iA G 240 fnt), (nc, iA G 100 gnc7938), (nF, sA G 5 (FCT K))]) hC hK hl hP hD hS hA (m_codesF l G h0 30002 nw nk mhasKept nt (nI ktp) nr mrowMany mroundOf mroundFrom mouts nm mfromHour mtoHour ns (nI kf17934) (nI kt17935) so17936 (nI jd) (nI kc17937) mlines nl nc nF np ntr nb mbestCost nso nsi nit nsh nsf nss nrc mtraced mdealer mnumber mwhose msize misParted) si_X12_252 [0] [1, 2, 3] sm_0 fm_0 nd_0 sm_1_2_3 nd_1_2_3 dj_0__1_2_3 rfl rfl rfl rfl rfl (Nat.le_of_ble_eq_true rfl) (rmT (Nat.le_of_ble_eq_true rfl) (Nat.le_of_ble_eq_true rfl)) ⟨Nat.le_of_ble_eq_true rfl, Nat.le_of_ble_eq_true rfl⟩ gX12_either_1.2.2.1 (fun u7942 H locs hr7941 hP hD hS => ?_)
            refine Kpdr (ws := [(nt, iA G 240 fnt), (nc, iA G 100 gnc7938), (nF, sA G 5 (FCT K)), (h0, oX12 nw nk mhasKept nt (nI ktp) nr mrowMany mroundOf mroundFrom mouts nm mfromHour mtoHour ns (nI kf17934) (nI kt17935) so17936 1 (nI jd) (nI kc17937) mlines nl nc nF np ntr nb mbestCost nso nsi nit nsh nsf nss nrc mtraced mdealer mnumber mwhose msize misParted)]) hP hD (fun hP hD => ?_)
            refine lv_goto (tgt := 4) hx hb gX12_either_1.2.2.2.1 (by decide) ?_
            refine lv_aload_n hx hb gX12_either_0.2.2.1 rfl (lv_at0 hl) ?_
            refine va_ldcS (index := 246) (tx := "o\x72") hx hb hown (hO.2.2 8 (by decide)) gX12_either_0.2.2.2.1 ?_
            refine pVo hO hS hC hK hl hP hD (m_isNameF l G K 8 h0 nw nk mhasKept nt (nI ktp) nr mrowMany mroundOf mroundFrom mouts nm mfromHour mtoHour ns (nI kf17934) (nI kt17935) so17936 (nI jd) (nI kc17937) mlines nl nc nF np ntr nb mbestCost nso nsi nit nsh nsf nss nrc mtraced mdealer mnumber mwhose msize misParted ((by decide))) si_X12_248 [3] sm_3 fm_3 nd_3 rfl rfl rfl rfl rfl (Nat.le_of_ble_eq_true rfl) (rmT (Nat.le_of_ble_eq_true rfl) (Nat.le_of_ble_eq_true rfl)) ⟨by first | exact Nat.le_of_ble_eq_true rfl | exact Nat.zero_le _, by first | exact Nat.le_of_ble_eq_true rfl | exact Nat.zero_le _⟩ gX12_either_0.2.2.2.2.1 (Keqr ?_)
            refine lv_if_eq (tgt := 31) hx hb gX12_either_0.2.2.2.2.2.1 (by decide) (fun _ => ?_) (fun c9 => absurd (by decide) c9)
            refine toQ hQ0 ?_
            exact RV hC hP hD hS [3, 0, 1, 2] (1, kf17934, kt17935, so17936, kc17937, gnc7938) rfl rfl (by decide) (Or.inl rfl) gX12_either_1.2.2.2.2
          · have tA7945 := hw7940_0.1
            have tB7945 := hw7940_0.2.1
            have tA7946 := hw7940_1.1
            have tB7946 := hw7940_1.2.1
            refine lv_aload_n hx hb gX12_either_1.1 rfl (lv_at0 hl) ?_
            refine lv_sipush (v := 30002) hx hb gX12_either_1.2.1 (by decide) ?_
            refine vV (wr := [(nt, iA G 240 fnt), (nF, sA G 5 (FCT K))]) hC hK hl hP hD hS hA (m_codes0 l G h0 30002 nw nk mhasKept nt (nI ktp) nr mrowMany mroundOf mroundFrom mouts nm mfromHour mtoHour ns (nI kf17934) (nI kt17935) so17936 (nI jd) kc17937 mlines nl nc nF np ntr nb mbestCost nso nsi nit nsh nsf nss nrc mtraced mdealer mnumber mwhose msize misParted gnc7938 (by omega)) si_X12_252 [0, 2] [1, 3] sm_0_2 fm_0_2 nd_0_2 sm_1_3 nd_1_3 dj_0_2__1_3 rfl rfl rfl rfl rfl (Nat.le_of_ble_eq_true rfl) (rmT (Nat.le_of_ble_eq_true rfl) (Nat.le_of_ble_eq_true rfl)) ⟨Nat.le_of_ble_eq_true rfl, Nat.le_of_ble_eq_true rfl⟩ gX12_either_1.2.2.1 (fun u7948 H locs hr7947 hP hD hS => ?_)
            refine Kpdr (ws := [(nt, iA G 240 fnt), (nF, sA G 5 (FCT K)), (h0, oX12 nw nk mhasKept nt (nI ktp) nr mrowMany mroundOf mroundFrom mouts nm mfromHour mtoHour ns (nI kf17934) (nI kt17935) so17936 0 (nI jd) (nI (kc17937 + 1)) mlines nl nc nF np ntr nb mbestCost nso nsi nit nsh nsf nss nrc mtraced mdealer mnumber mwhose msize misParted), (nc, iA G 100 (upd gnc7938 kc17937 30002))]) hP hD (fun hP hD => ?_)
            refine lv_goto (tgt := 4) hx hb gX12_either_1.2.2.2.1 (by decide) ?_
            refine Kpds (ws' := [(h0, oX12 nw nk mhasKept nt (nI ktp) nr mrowMany mroundOf mroundFrom mouts nm mfromHour mtoHour ns (nI kf17934) (nI kt17935) so17936 0 (nI jd) (nI (kc17937 + 1)) mlines nl nc nF np ntr nb mbestCost nso nsi nit nsh nsf nss nrc mtraced mdealer mnumber mwhose msize misParted), (nt, iA G 240 fnt), (nc, iA G 100 (upd gnc7938 kc17937 30002)), (nF, sA G 5 (FCT K))]) hP hD [2, 0, 3, 1] fm_2_0_3_1 nd_2_0_3_1 sm_2_0_3_1 (fun hP hD => ?_)
            exact ihD so17936 kf17934 kt17935 (kc17937 + 1) (upd gnc7938 kc17937 30002) _ _ _ (hw7940_0) (EXPR.op hEx hw7940_1 (by omega) (Or.inr rfl)) (by omega) (And.intro hP hD) hS (lv_sub hl [0] rfl)
        · refine lv_if_eq (tgt := 31) hx hb gX12_either_0.2.2.2.2.2.1 (by decide) (fun _ => ?_) (fun c9 => absurd (by decide) c9)
          refine toQ hQ0 ?_
          exact RV hC hP hD hS [0, 1, 2, 3] (0, vf, vt, vs, vc, vC) rfl rfl (by decide) (Or.inr ⟨rfl, hTT, EXPR.wid hEx (by (try dsimp only); omega)⟩) gX12_either_1.2.2.2.2
    exact keyD 241 so17906 kf17904 kt17905 kc17907 gnc7908 _ _ _ (hw7910_0) (hw7910_1) (by omega) (And.intro hP hD) hS (lv_sub hl [0] rfl)
theorem m_either (l : Launch) (G : GG) (K : OO) : ∀ (mn : Nat) (h0 : Nat) (nw : Nat) (nk : Nat) (mhasKept : Int32) (nt : Nat) (ktp : Nat) (nr : Nat) (mrowMany : Int32) (mroundOf : Int32) (mroundFrom : Int32) (mouts : Int32) (nm : Nat) (mfromHour : Int32) (mtoHour : Int32) (ns : Nat) (kf : Nat) (kt : Nat) (so : Int32) (jd : Nat) (kc : Nat) (mlines : Int32) (nl : Nat) (nc : Nat) (nF : Nat) (np : Nat) (ntr : Nat) (nb : Nat) (mbestCost : Int32) (nso : Nat) (nsi : Nat) (nit : Nat) (nsh : Nat) (nsf : Nat) (nss : Nat) (nrc : Nat) (mtraced : Int32) (mdealer : Int32) (mnumber : Int32) (mwhose : Int32) (msize : Int32) (misParted : Int32) (fnt : Nat → Int32) (fnc : Nat → Int32) (hT : TOK fnt so kf kt ktp) (htp : ktp ≤ 240) (h3c : 3 * kc ≤ kf) (hjm : jd + mn = 4), MVo l G K yX12_either cX12_either 1 (12 + 4 * mn) 0 0 [.ref h0] [(h0, oX12 nw nk mhasKept nt (nI ktp) nr mrowMany mroundOf mroundFrom mouts nm mfromHour mtoHour ns (nI kf) (nI kt) so 0 (nI jd) (nI kc) mlines nl nc nF np ntr nb mbestCost nso nsi nit nsh nsf nss nrc mtraced mdealer mnumber mwhose msize misParted), (nt, iA G 240 fnt), (nc, iA G 100 fnc), (nF, sA G 5 (FCT K))] (fun u : Int32 × Nat × Nat × Int32 × Nat × (Nat → Int32) => u.1 = 1 ∨ (u.1 = 0 ∧ TOK fnt u.2.2.2.1 u.2.1 u.2.2.1 ktp ∧ EXPR fnc u.2.2.2.2.2 kc u.2.2.2.2.1 kf u.2.1)) (fun u : Int32 × Nat × Nat × Int32 × Nat × (Nat → Int32) => [(h0, oX12 nw nk mhasKept nt (nI ktp) nr mrowMany mroundOf mroundFrom mouts nm mfromHour mtoHour ns (nI u.2.1) (nI u.2.2.1) u.2.2.2.1 u.1 (nI jd) (nI u.2.2.2.2.1) mlines nl nc nF np ntr nb mbestCost nso nsi nit nsh nsf nss nrc mtraced mdealer mnumber mwhose msize misParted), (nt, iA G 240 fnt), (nc, iA G 100 u.2.2.2.2.2), (nF, sA G 5 (FCT K))]) := by
  intro mn
  induction mn using Nat.strongRecOn with
  | ind mn ih => exact fun h0 nw nk mhasKept nt ktp nr mrowMany mroundOf mroundFrom mouts nm mfromHour mtoHour ns kf kt so jd kc mlines nl nc nF np ntr nb mbestCost nso nsi nit nsh nsf nss nrc mtraced mdealer mnumber mwhose msize misParted fnt fnc hT htp h3c hjm => m_either_step l G K mn h0 nw nk mhasKept nt ktp nr mrowMany mroundOf mroundFrom mouts nm mfromHour mtoHour ns kf kt so jd kc mlines nl nc nF np ntr nb mbestCost nso nsi nit nsh nsf nss nrc mtraced mdealer mnumber mwhose msize misParted fnt fnc hT htp h3c hjm ih
def K_m_lineAt (l : Launch) (G : GG) (K : OO) (h0 : Nat) (ja : Nat) (nw : Nat) (nk : Nat) (mhasKept : Int32) (nt : Nat) (ktp : Nat) (nr : Nat) (mrowMany : Int32) (mroundOf : Int32) (mroundFrom : Int32) (mouts : Int32) (nm : Nat) (mfromHour : Int32) (mtoHour : Int32) (ns : Nat) (kf : Nat) (kt : Nat) (so : Int32) (kc : Nat) (mlines : Int32) (nl : Nat) (nc : Nat) (nF : Nat) (np : Nat) (ntr : Nat) (nb : Nat) (mbestCost : Int32) (nso : Nat) (nsi : Nat) (nit : Nat) (nsh : Nat) (nsf : Nat) (nss : Nat) (nrc : Nat) (mtraced : Int32) (mdealer : Int32) (mnumber : Int32) (mwhose : Int32) (msize : Int32) (misParted : Int32) (fnt : Nat → Int32) (fnc : Nat → Int32) (fnl : Nat → Int32) : Prop := MVo l G K yX12_lineAt cX12_lineAt 3 32 0 0 [.ref h0, .int (nI ja)] [(h0, oX12 nw nk mhasKept nt (nI ktp) nr mrowMany mroundOf mroundFrom mouts nm mfromHour mtoHour ns (nI kf) (nI kt) so 0 0 (nI kc) mlines nl nc nF np ntr nb mbestCost nso nsi nit nsh nsf nss nrc mtraced mdealer mnumber mwhose msize misParted), (nt, iA G 240 fnt), (nc, iA G 100 fnc), (nl, iA G 54 fnl), (nF, sA G 5 (FCT K))] (fun u : Int32 × Nat × Nat × Int32 × Nat × (Nat → Int32) × (Nat → Int32) => u.1 = 1 ∨ (u.1 = 0 ∧ TOK fnt u.2.2.2.1 u.2.1 u.2.2.1 ktp ∧ LINE fnl u.2.2.2.2.2.2 fnc u.2.2.2.2.2.1 ja kc u.2.2.2.2.1 u.2.1)) (fun u : Int32 × Nat × Nat × Int32 × Nat × (Nat → Int32) × (Nat → Int32) => [(h0, oX12 nw nk mhasKept nt (nI ktp) nr mrowMany mroundOf mroundFrom mouts nm mfromHour mtoHour ns (nI u.2.1) (nI u.2.2.1) u.2.2.2.1 u.1 0 (nI u.2.2.2.2.1) mlines nl nc nF np ntr nb mbestCost nso nsi nit nsh nsf nss nrc mtraced mdealer mnumber mwhose msize misParted), (nt, iA G 240 fnt), (nc, iA G 100 u.2.2.2.2.2.1), (nl, iA G 54 u.2.2.2.2.2.2), (nF, sA G 5 (FCT K))])
set_option maxHeartbeats 4000000 in
set_option maxRecDepth 100000 in
theorem m_lineAt (l : Launch) (G : GG) (K : OO) (h0 : Nat) (ja : Nat) (nw : Nat) (nk : Nat) (mhasKept : Int32) (nt : Nat) (ktp : Nat) (nr : Nat) (mrowMany : Int32) (mroundOf : Int32) (mroundFrom : Int32) (mouts : Int32) (nm : Nat) (mfromHour : Int32) (mtoHour : Int32) (ns : Nat) (kf : Nat) (kt : Nat) (so : Int32) (kc : Nat) (mlines : Int32) (nl : Nat) (nc : Nat) (nF : Nat) (np : Nat) (ntr : Nat) (nb : Nat) (mbestCost : Int32) (nso : Nat) (nsi : Nat) (nit : Nat) (nsh : Nat) (nsf : Nat) (nss : Nat) (nrc : Nat) (mtraced : Int32) (mdealer : Int32) (mnumber : Int32) (mwhose : Int32) (msize : Int32) (misParted : Int32) (fnt : Nat → Int32) (fnc : Nat → Int32) (fnl : Nat → Int32) (hT : TOK fnt so kf kt ktp) (htp : ktp ≤ 240) (h3c : 3 * kc ≤ kf) (hja : ja + 6 ≤ 54) : K_m_lineAt l G K h0 ja nw nk mhasKept nt ktp nr mrowMany mroundOf mroundFrom mouts nm mfromHour mtoHour ns kf kt so kc mlines nl nc nF np ntr nb mbestCost nso nsi nit nsh nsf nss nrc mtraced mdealer mnumber mwhose msize misParted fnt fnc fnl := by
  refine MVo.start (by decide +kernel) (Nat.le_of_ble_eq_true rfl) ?_
  intro p e s m below meth c A ls hC hK hP hD hS hA hl hO
  refine absQ (fun Q0 hQ0 => ?_)
  have hl : lv_has ls 3 [(0, .ref h0), (1, .int (nI ja))] := hl
  refine Kan8 hC (fun hx hb hr hml hB hown hlocks hnm => ?_)
  have tA := hT.1
  have tB := hT.2.1
  refine lv_aload_n hx hb gX12_lineAt_0.1 rfl (lv_at0 hl) ?_
  refine va_ldcSw (index := 274) (tx := "taken") hx hb hown (hO.2.2 1 (by decide)) gX12_lineAt_0.2.1 ?_
  refine pVo hO hS hC hK hl hP hD (m_isName0 l G K 1 h0 nw nk mhasKept nt ktp nr mrowMany mroundOf mroundFrom mouts nm mfromHour mtoHour ns kf kt so 0 (nI kc) mlines nl nc nF np ntr nb mbestCost nso nsi nit nsh nsf nss nrc mtraced mdealer mnumber mwhose msize misParted fnt ((by decide)) (hT) (htp)) si_X12_248 [0, 1] sm_0_1 fm_0_1 nd_0_1 rfl rfl rfl rfl rfl (Nat.le_of_ble_eq_true rfl) rm_32_5_4 ⟨by first | exact Nat.le_of_ble_eq_true rfl | exact Nat.zero_le _, by first | exact Nat.le_of_ble_eq_true rfl | exact Nat.zero_le _⟩ gX12_lineAt_0.2.2.1 (Kors (Keqa fun a7950 => ?_) (Keqr ?_))
  · refine lv_if_eq (tgt := 14) hx hb gX12_lineAt_0.2.2.2.1 (by decide) (fun c9 => absurd c9 (by decide)) (fun _ => ?_)
    refine lv_iconst (v := 0) hx hb gX12_lineAt_0.2.2.2.2.1 (by decide) ?_
    refine lv_goto (tgt := 57) hx hb gX12_lineAt_0.2.2.2.2.2.1 (by decide) ?_
    refine lv_istore_n (lv' := [(2, .int 0), (0, .ref h0), (1, .int (nI ja))]) hx hb gX12_lineAt_2.2.2.2.2.2.1 rfl hl (by decide) rfl (fun ls hl => ?_)
    refine lv_aload_n hx hb gX12_lineAt_2.2.2.2.2.2.2.1 rfl (lv_at1 hl) ?_
    refine lv_iload_n hx hb gX12_lineAt_2.2.2.2.2.2.2.2.1 rfl (lv_at0 hl) ?_
    refine lv_if_lt (tgt := 67) hx hb gX12_lineAt_2.2.2.2.2.2.2.2.2.1 (by decide) (fun c9 => absurd c9 (by decide)) (fun _ => ?_)
    refine lv_iconst (v := 1) hx hb gX12_lineAt_2.2.2.2.2.2.2.2.2.2 (by decide) ?_
    refine lv_goto (tgt := 68) hx hb gX12_lineAt_3.1 (by decide) ?_
    have tI7951 : kt = kf + 5 := a7950.2
    refine vV (wr := [(nc, iA G 100 fnc), (nl, iA G 54 fnl), (nF, sA G 5 (FCT K))]) hC hK hl hP hD hS hA (m_need1 l G h0 nw nk mhasKept nt ktp nr mrowMany mroundOf mroundFrom mouts nm mfromHour mtoHour ns (nI kf) kt so 0 (nI kc) mlines nl nc nF np ntr nb mbestCost nso nsi nit nsh nsf nss nrc mtraced mdealer mnumber mwhose msize misParted fnt (by omega) (htp)) si_X12_236 [0, 1] [2, 3, 4] sm_0_1 fm_0_1 nd_0_1 sm_2_3_4 nd_2_3_4 dj_0_1__2_3_4 rfl rfl rfl rfl rfl (Nat.le_of_ble_eq_true rfl) rm_32_4_2 ⟨Nat.le_of_ble_eq_true rfl, Nat.le_of_ble_eq_true rfl⟩ gX12_lineAt_3.2.2.1 (Ktu3 fun kf17954 kt17955 so17956 => ?_)
    intro H locs hr7952 hP hD hS
    try dsimp only at hr7952
    refine Kpdr (ws := [(nc, iA G 100 fnc), (nl, iA G 54 fnl), (nF, sA G 5 (FCT K)), (h0, oX12 nw nk mhasKept nt (nI ktp) nr mrowMany mroundOf mroundFrom mouts nm mfromHour mtoHour ns (nI kf17954) (nI kt17955) so17956 0 0 (nI kc) mlines nl nc nF np ntr nb mbestCost nso nsi nit nsh nsf nss nrc mtraced mdealer mnumber mwhose msize misParted), (nt, iA G 240 fnt)]) hP hD (fun hP hD => ?_)
    have hw7958_0 := hr7952.1
    have hw7958_1 := hr7952.2
    have tA7960 := hw7958_1.1
    have tB7960 := hw7958_1.2.1
    refine lv_aload_n hx hb gX12_lineAt_3.2.2.2.1 rfl (lv_at1 hl) ?_
    refine gf_X12_32 hC rfl hK hP 3 rfl rfl gX12_lineAt_3.2.2.2.2.1 ?_
    refine lv_iload_n hx hb gX12_lineAt_3.2.2.2.2.2.1 rfl (lv_at2 hl) ?_
    refine lv_iload_n hx hb gX12_lineAt_3.2.2.2.2.2.2.1 rfl (lv_at0 hl) ?_
    refine astN hC hK hP hD hS 1 (ws' := [(nc, iA G 100 fnc), (nl, iA G 54 (upd fnl ja 0)), (nF, sA G 5 (FCT K)), (h0, oX12 nw nk mhasKept nt (nI ktp) nr mrowMany mroundOf mroundFrom mouts nm mfromHour mtoHour ns (nI kf17954) (nI kt17955) so17956 0 0 (nI kc) mlines nl nc nF np ntr nb mbestCost nso nsi nit nsh nsf nss nrc mtraced mdealer mnumber mwhose msize misParted), (nt, iA G 240 fnt)]) rfl (k := ja) (by omega) (Nat.le_of_ble_eq_true rfl) (rfl) gX12_lineAt_3.2.2.2.2.2.2.2.1 (fun H locs hP hD hS => ?_)
    refine lv_aload_n hx hb gX12_lineAt_3.2.2.2.2.2.2.2.2.1 rfl (lv_at1 hl) ?_
    refine gf_X12_32 hC rfl hK hP 3 rfl rfl gX12_lineAt_3.2.2.2.2.2.2.2.2.2 ?_
    refine lv_iload_n hx hb gX12_lineAt_4.1 rfl (lv_at2 hl) ?_
    refine lv_iconst (v := 1) hx hb gX12_lineAt_4.2.1 (by decide) ?_
    refine lv_iadd hx hb gX12_lineAt_4.2.2.1 ?_
    refine eqi (x1 := nI (ja + 1)) (nI_add ja 1) ?_
    refine lv_aload_n hx hb gX12_lineAt_4.2.2.2.1 rfl (lv_at1 hl) ?_
    refine lv_iload_n hx hb gX12_lineAt_4.2.2.2.2.1 rfl (lv_at0 hl) ?_
    refine lv_if_eq (tgt := 95) hx hb gX12_lineAt_4.2.2.2.2.2.1 (by decide) (fun _ => ?_) (fun c9 => absurd (by decide) c9)
    refine lv_bipush (v := 99) hx hb gX12_lineAt_4.2.2.2.2.2.2.2.2.2 (by decide) ?_
    refine lv_goto (tgt := 112) hx hb gX12_lineAt_5.1 (by decide) ?_
    refine iV (wr := [(nc, iA G 100 fnc), (nl, iA G 54 (upd fnl ja 0)), (nF, sA G 5 (FCT K))]) hC hK hl hP hD hS hA (m_number0 l G h0 99 nw nk mhasKept nt ktp nr mrowMany mroundOf mroundFrom mouts nm mfromHour mtoHour ns kf17954 kt17955 so17956 0 (nI kc) mlines nl nc nF np ntr nb mbestCost nso nsi nit nsh nsf nss nrc mtraced mdealer mnumber mwhose msize misParted fnt (hw7958_1) (htp) (by omega)) si_X12_271 [3, 4] [0, 1, 2] sm_3_4 fm_3_4 nd_3_4 sm_0_1_2 nd_0_1_2 dj_3_4__0_1_2 rfl rfl rfl rfl rfl (Nat.le_of_ble_eq_true rfl) rm_32_5_5 ⟨Nat.le_of_ble_eq_true rfl, Nat.le_of_ble_eq_true rfl⟩ gX12_lineAt_5.2.2.2.2.2.2.2.1 (fun r7961 => Ktu4 fun ff17963 kf17964 kt17965 so17966 => ?_)
    intro H locs hr7961 hP hD hS
    try dsimp only at hr7961
    refine Kpdr (ws := [(nc, iA G 100 fnc), (nl, iA G 54 (upd fnl ja 0)), (nF, sA G 5 (FCT K)), (h0, oX12 nw nk mhasKept nt (nI ktp) nr mrowMany mroundOf mroundFrom mouts nm mfromHour mtoHour ns (nI kf17964) (nI kt17965) so17966 ff17963 0 (nI kc) mlines nl nc nF np ntr nb mbestCost nso nsi nit nsh nsf nss nrc mtraced mdealer mnumber mwhose msize misParted), (nt, iA G 240 fnt)]) hP hD (fun hP hD => ?_)
    obtain ⟨hr7961, w7967⟩ := hr7961
    rcases w7967 with rfl | ⟨rfl, ⟨v_7968, hv_7968, rfl⟩, hw7968_1, hw7968_2⟩
    · refine astN hC hK hP hD hS 1 (ws' := [(nc, iA G 100 fnc), (nl, iA G 54 (upd (upd fnl ja 0) (ja + 1) r7961)), (nF, sA G 5 (FCT K)), (h0, oX12 nw nk mhasKept nt (nI ktp) nr mrowMany mroundOf mroundFrom mouts nm mfromHour mtoHour ns (nI kf17964) (nI kt17965) so17966 1 0 (nI kc) mlines nl nc nF np ntr nb mbestCost nso nsi nit nsh nsf nss nrc mtraced mdealer mnumber mwhose msize misParted), (nt, iA G 240 fnt)]) rfl (k := (ja + 1)) (by omega) (Nat.le_of_ble_eq_true rfl) (rfl) gX12_lineAt_5.2.2.2.2.2.2.2.2.1 (fun H locs hP hD hS => ?_)
      refine lv_aload_n hx hb gX12_lineAt_5.2.2.2.2.2.2.2.2.2 rfl (lv_at1 hl) ?_
      refine gf_X12_32 hC rfl hK hP 3 rfl rfl gX12_lineAt_6.1 ?_
      refine lv_iload_n hx hb gX12_lineAt_6.2.1 rfl (lv_at2 hl) ?_
      refine lv_iconst (v := 2) hx hb gX12_lineAt_6.2.2.1 (by decide) ?_
      refine lv_iadd hx hb gX12_lineAt_6.2.2.2.1 ?_
      refine eqi (x1 := nI (ja + 2)) (nI_add ja 2) ?_
      refine lv_bipush (v := (-9)) hx hb gX12_lineAt_6.2.2.2.2.1 (by decide) ?_
      refine astN hC hK hP hD hS 1 (ws' := [(nc, iA G 100 fnc), (nl, iA G 54 (upd (upd (upd fnl ja 0) (ja + 1) r7961) (ja + 2) (-9))), (nF, sA G 5 (FCT K)), (h0, oX12 nw nk mhasKept nt (nI ktp) nr mrowMany mroundOf mroundFrom mouts nm mfromHour mtoHour ns (nI kf17964) (nI kt17965) so17966 1 0 (nI kc) mlines nl nc nF np ntr nb mbestCost nso nsi nit nsh nsf nss nrc mtraced mdealer mnumber mwhose msize misParted), (nt, iA G 240 fnt)]) rfl (k := (ja + 2)) (by omega) (Nat.le_of_ble_eq_true rfl) (rfl) gX12_lineAt_6.2.2.2.2.2.1 (fun H locs hP hD hS => ?_)
      refine lv_aload_n hx hb gX12_lineAt_6.2.2.2.2.2.2.1 rfl (lv_at1 hl) ?_
      refine gf_X12_32 hC rfl hK hP 3 rfl rfl gX12_lineAt_6.2.2.2.2.2.2.2.1 ?_
      refine lv_iload_n hx hb gX12_lineAt_6.2.2.2.2.2.2.2.2.1 rfl (lv_at2 hl) ?_
      refine lv_iconst (v := 3) hx hb gX12_lineAt_6.2.2.2.2.2.2.2.2.2 (by decide) ?_
      refine lv_iadd hx hb gX12_lineAt_7.1 ?_
      refine eqi (x1 := nI (ja + 3)) (nI_add ja 3) ?_
      refine lv_bipush (v := (-9)) hx hb gX12_lineAt_7.2.1 (by decide) ?_
      refine astN hC hK hP hD hS 1 (ws' := [(nc, iA G 100 fnc), (nl, iA G 54 (upd (upd (upd (upd fnl ja 0) (ja + 1) r7961) (ja + 2) (-9)) (ja + 3) (-9))), (nF, sA G 5 (FCT K)), (h0, oX12 nw nk mhasKept nt (nI ktp) nr mrowMany mroundOf mroundFrom mouts nm mfromHour mtoHour ns (nI kf17964) (nI kt17965) so17966 1 0 (nI kc) mlines nl nc nF np ntr nb mbestCost nso nsi nit nsh nsf nss nrc mtraced mdealer mnumber mwhose msize misParted), (nt, iA G 240 fnt)]) rfl (k := (ja + 3)) (by omega) (Nat.le_of_ble_eq_true rfl) (rfl) gX12_lineAt_7.2.2.1 (fun H locs hP hD hS => ?_)
      refine lv_iload_n hx hb gX12_lineAt_7.2.2.2.1 rfl (lv_at0 hl) ?_
      refine lv_if_ne (tgt := 190) hx hb gX12_lineAt_7.2.2.2.2.1 (by decide) (fun c9 => absurd (by decide) c9) (fun _ => ?_)
      refine lv_aload_n hx hb gX12_lineAt_7.2.2.2.2.2.1 rfl (lv_at1 hl) ?_
      refine lv_aload_n hx hb gX12_lineAt_7.2.2.2.2.2.2.1 rfl (lv_at1 hl) ?_
      refine va_ldcSw (index := 282) (tx := "of") hx hb hown (hO.2.2 5 (by decide)) gX12_lineAt_7.2.2.2.2.2.2.2.1 ?_
      refine pVo hO hS hC hK hl hP hD (m_isNameF l G K 5 h0 nw nk mhasKept nt (nI ktp) nr mrowMany mroundOf mroundFrom mouts nm mfromHour mtoHour ns (nI kf17964) (nI kt17965) so17966 0 (nI kc) mlines nl nc nF np ntr nb mbestCost nso nsi nit nsh nsf nss nrc mtraced mdealer mnumber mwhose msize misParted ((by decide))) si_X12_248 [3] sm_3 fm_3 nd_3 rfl rfl rfl rfl rfl (Nat.le_of_ble_eq_true rfl) rm_32_5_4 ⟨by first | exact Nat.le_of_ble_eq_true rfl | exact Nat.zero_le _, by first | exact Nat.le_of_ble_eq_true rfl | exact Nat.zero_le _⟩ gX12_lineAt_7.2.2.2.2.2.2.2.2.1 (Keqr ?_)
      refine vV (wr := [(nc, iA G 100 fnc), (nl, iA G 54 (upd (upd (upd (upd fnl ja 0) (ja + 1) r7961) (ja + 2) (-9)) (ja + 3) (-9))), (nF, sA G 5 (FCT K)), (nt, iA G 240 fnt)]) hC hK hl hP hD hS hA (m_needF l G h0 0 nw nk mhasKept nt (nI ktp) nr mrowMany mroundOf mroundFrom mouts nm mfromHour mtoHour ns (nI kf17964) (nI kt17965) so17966 0 (nI kc) mlines nl nc nF np ntr nb mbestCost nso nsi nit nsh nsf nss nrc mtraced mdealer mnumber mwhose msize misParted) si_X12_236 [3] [0, 1, 2, 4] sm_3 fm_3 nd_3 sm_0_1_2_4 nd_0_1_2_4 dj_3__0_1_2_4 rfl rfl rfl rfl rfl (Nat.le_of_ble_eq_true rfl) rm_32_4_2 ⟨Nat.le_of_ble_eq_true rfl, Nat.le_of_ble_eq_true rfl⟩ gX12_lineAt_7.2.2.2.2.2.2.2.2.2 (fun u7972 H locs hr7971 hP hD hS => ?_)
      refine Kpdr (ws := [(nc, iA G 100 fnc), (nl, iA G 54 (upd (upd (upd (upd fnl ja 0) (ja + 1) r7961) (ja + 2) (-9)) (ja + 3) (-9))), (nF, sA G 5 (FCT K)), (nt, iA G 240 fnt), (h0, oX12 nw nk mhasKept nt (nI ktp) nr mrowMany mroundOf mroundFrom mouts nm mfromHour mtoHour ns (nI kf17964) (nI kt17965) so17966 1 0 (nI kc) mlines nl nc nF np ntr nb mbestCost nso nsi nit nsh nsf nss nrc mtraced mdealer mnumber mwhose msize misParted)]) hP hD (fun hP hD => ?_)
      refine lv_aload_n hx hb gX12_lineAt_8.1 rfl (lv_at1 hl) ?_
      refine gf_X12_32 hC rfl hK hP 4 rfl rfl gX12_lineAt_8.2.1 ?_
      refine lv_iload_n hx hb gX12_lineAt_8.2.2.1 rfl (lv_at2 hl) ?_
      refine lv_iconst (v := 2) hx hb gX12_lineAt_8.2.2.2.1 (by decide) ?_
      refine lv_iadd hx hb gX12_lineAt_8.2.2.2.2.1 ?_
      refine eqi (x1 := nI (ja + 2)) (nI_add ja 2) ?_
      refine lv_aload_n hx hb gX12_lineAt_8.2.2.2.2.2.1 rfl (lv_at1 hl) ?_
      refine lv_bipush (v := 7) hx hb gX12_lineAt_8.2.2.2.2.2.2.1 (by decide) ?_
      refine iV (wr := [(nc, iA G 100 fnc), (nl, iA G 54 (upd (upd (upd (upd fnl ja 0) (ja + 1) r7961) (ja + 2) (-9)) (ja + 3) (-9))), (nF, sA G 5 (FCT K)), (nt, iA G 240 fnt)]) hC hK hl hP hD hS hA (m_numberF l G h0 7 nw nk mhasKept nt (nI ktp) nr mrowMany mroundOf mroundFrom mouts nm mfromHour mtoHour ns (nI kf17964) (nI kt17965) so17966 0 (nI kc) mlines nl nc nF np ntr nb mbestCost nso nsi nit nsh nsf nss nrc mtraced mdealer mnumber mwhose msize misParted) si_X12_271 [4] [0, 1, 2, 3] sm_4 fm_4 nd_4 sm_0_1_2_3 nd_0_1_2_3 dj_4__0_1_2_3 rfl rfl rfl rfl rfl (Nat.le_of_ble_eq_true rfl) rm_32_5_5 ⟨Nat.le_of_ble_eq_true rfl, Nat.le_of_ble_eq_true rfl⟩ gX12_lineAt_8.2.2.2.2.2.2.2.1 (fun r7973 u7974 H locs hr7973 hP hD hS => ?_)
      refine Kpdr (ws := [(nc, iA G 100 fnc), (nl, iA G 54 (upd (upd (upd (upd fnl ja 0) (ja + 1) r7961) (ja + 2) (-9)) (ja + 3) (-9))), (nF, sA G 5 (FCT K)), (nt, iA G 240 fnt), (h0, oX12 nw nk mhasKept nt (nI ktp) nr mrowMany mroundOf mroundFrom mouts nm mfromHour mtoHour ns (nI kf17964) (nI kt17965) so17966 1 0 (nI kc) mlines nl nc nF np ntr nb mbestCost nso nsi nit nsh nsf nss nrc mtraced mdealer mnumber mwhose msize misParted)]) hP hD (fun hP hD => ?_)
      obtain rfl := hr7973
      refine astN hC hK hP hD hS 1 (ws' := [(nc, iA G 100 fnc), (nl, iA G 54 (upd (upd (upd (upd (upd fnl ja 0) (ja + 1) r7961) (ja + 2) (-9)) (ja + 3) (-9)) (ja + 2) 0)), (nF, sA G 5 (FCT K)), (nt, iA G 240 fnt), (h0, oX12 nw nk mhasKept nt (nI ktp) nr mrowMany mroundOf mroundFrom mouts nm mfromHour mtoHour ns (nI kf17964) (nI kt17965) so17966 1 0 (nI kc) mlines nl nc nF np ntr nb mbestCost nso nsi nit nsh nsf nss nrc mtraced mdealer mnumber mwhose msize misParted)]) rfl (k := (ja + 2)) (by omega) (Nat.le_of_ble_eq_true rfl) (rfl) gX12_lineAt_8.2.2.2.2.2.2.2.2.1 (fun H locs hP hD hS => ?_)
      refine lv_aload_n hx hb gX12_lineAt_8.2.2.2.2.2.2.2.2.2 rfl (lv_at1 hl) ?_
      refine lv_aload_n hx hb gX12_lineAt_9.1 rfl (lv_at1 hl) ?_
      refine va_ldcSw (index := 284) (tx := "from") hx hb hown (hO.2.2 6 (by decide)) gX12_lineAt_9.2.1 ?_
      refine pVo hO hS hC hK hl hP hD (m_isNameF l G K 6 h0 nw nk mhasKept nt (nI ktp) nr mrowMany mroundOf mroundFrom mouts nm mfromHour mtoHour ns (nI kf17964) (nI kt17965) so17966 0 (nI kc) mlines nl nc nF np ntr nb mbestCost nso nsi nit nsh nsf nss nrc mtraced mdealer mnumber mwhose msize misParted ((by decide))) si_X12_248 [4] sm_4 fm_4 nd_4 rfl rfl rfl rfl rfl (Nat.le_of_ble_eq_true rfl) rm_32_5_4 ⟨by first | exact Nat.le_of_ble_eq_true rfl | exact Nat.zero_le _, by first | exact Nat.le_of_ble_eq_true rfl | exact Nat.zero_le _⟩ gX12_lineAt_9.2.2.1 (Keqr ?_)
      refine vV (wr := [(nc, iA G 100 fnc), (nl, iA G 54 (upd (upd (upd (upd (upd fnl ja 0) (ja + 1) r7961) (ja + 2) (-9)) (ja + 3) (-9)) (ja + 2) 0)), (nF, sA G 5 (FCT K)), (nt, iA G 240 fnt)]) hC hK hl hP hD hS hA (m_needF l G h0 0 nw nk mhasKept nt (nI ktp) nr mrowMany mroundOf mroundFrom mouts nm mfromHour mtoHour ns (nI kf17964) (nI kt17965) so17966 0 (nI kc) mlines nl nc nF np ntr nb mbestCost nso nsi nit nsh nsf nss nrc mtraced mdealer mnumber mwhose msize misParted) si_X12_236 [4] [0, 1, 2, 3] sm_4 fm_4 nd_4 sm_0_1_2_3 nd_0_1_2_3 dj_4__0_1_2_3 rfl rfl rfl rfl rfl (Nat.le_of_ble_eq_true rfl) rm_32_4_2 ⟨Nat.le_of_ble_eq_true rfl, Nat.le_of_ble_eq_true rfl⟩ gX12_lineAt_9.2.2.2.1 (fun u7979 H locs hr7978 hP hD hS => ?_)
      refine Kpdr (ws := [(nc, iA G 100 fnc), (nl, iA G 54 (upd (upd (upd (upd (upd fnl ja 0) (ja + 1) r7961) (ja + 2) (-9)) (ja + 3) (-9)) (ja + 2) 0)), (nF, sA G 5 (FCT K)), (nt, iA G 240 fnt), (h0, oX12 nw nk mhasKept nt (nI ktp) nr mrowMany mroundOf mroundFrom mouts nm mfromHour mtoHour ns (nI kf17964) (nI kt17965) so17966 1 0 (nI kc) mlines nl nc nF np ntr nb mbestCost nso nsi nit nsh nsf nss nrc mtraced mdealer mnumber mwhose msize misParted)]) hP hD (fun hP hD => ?_)
      refine lv_aload_n hx hb gX12_lineAt_9.2.2.2.2.1 rfl (lv_at1 hl) ?_
      refine gf_X12_32 hC rfl hK hP 4 rfl rfl gX12_lineAt_9.2.2.2.2.2.1 ?_
      refine lv_iload_n hx hb gX12_lineAt_9.2.2.2.2.2.2.1 rfl (lv_at2 hl) ?_
      refine lv_iconst (v := 3) hx hb gX12_lineAt_9.2.2.2.2.2.2.2.1 (by decide) ?_
      refine lv_iadd hx hb gX12_lineAt_9.2.2.2.2.2.2.2.2.1 ?_
      refine eqi (x1 := nI (ja + 3)) (nI_add ja 3) ?_
      refine lv_aload_n hx hb gX12_lineAt_9.2.2.2.2.2.2.2.2.2 rfl (lv_at1 hl) ?_
      refine lv_bipush (v := 7) hx hb gX12_lineAt_10.1 (by decide) ?_
      refine iV (wr := [(nc, iA G 100 fnc), (nl, iA G 54 (upd (upd (upd (upd (upd fnl ja 0) (ja + 1) r7961) (ja + 2) (-9)) (ja + 3) (-9)) (ja + 2) 0)), (nF, sA G 5 (FCT K)), (nt, iA G 240 fnt)]) hC hK hl hP hD hS hA (m_numberF l G h0 7 nw nk mhasKept nt (nI ktp) nr mrowMany mroundOf mroundFrom mouts nm mfromHour mtoHour ns (nI kf17964) (nI kt17965) so17966 0 (nI kc) mlines nl nc nF np ntr nb mbestCost nso nsi nit nsh nsf nss nrc mtraced mdealer mnumber mwhose msize misParted) si_X12_271 [4] [0, 1, 2, 3] sm_4 fm_4 nd_4 sm_0_1_2_3 nd_0_1_2_3 dj_4__0_1_2_3 rfl rfl rfl rfl rfl (Nat.le_of_ble_eq_true rfl) rm_32_5_5 ⟨Nat.le_of_ble_eq_true rfl, Nat.le_of_ble_eq_true rfl⟩ gX12_lineAt_10.2.1 (fun r7980 u7981 H locs hr7980 hP hD hS => ?_)
      refine Kpdr (ws := [(nc, iA G 100 fnc), (nl, iA G 54 (upd (upd (upd (upd (upd fnl ja 0) (ja + 1) r7961) (ja + 2) (-9)) (ja + 3) (-9)) (ja + 2) 0)), (nF, sA G 5 (FCT K)), (nt, iA G 240 fnt), (h0, oX12 nw nk mhasKept nt (nI ktp) nr mrowMany mroundOf mroundFrom mouts nm mfromHour mtoHour ns (nI kf17964) (nI kt17965) so17966 1 0 (nI kc) mlines nl nc nF np ntr nb mbestCost nso nsi nit nsh nsf nss nrc mtraced mdealer mnumber mwhose msize misParted)]) hP hD (fun hP hD => ?_)
      obtain rfl := hr7980
      refine astN hC hK hP hD hS 1 (ws' := [(nc, iA G 100 fnc), (nl, iA G 54 (upd (upd (upd (upd (upd (upd fnl ja 0) (ja + 1) r7961) (ja + 2) (-9)) (ja + 3) (-9)) (ja + 2) 0) (ja + 3) 0)), (nF, sA G 5 (FCT K)), (nt, iA G 240 fnt), (h0, oX12 nw nk mhasKept nt (nI ktp) nr mrowMany mroundOf mroundFrom mouts nm mfromHour mtoHour ns (nI kf17964) (nI kt17965) so17966 1 0 (nI kc) mlines nl nc nF np ntr nb mbestCost nso nsi nit nsh nsf nss nrc mtraced mdealer mnumber mwhose msize misParted)]) rfl (k := (ja + 3)) (by omega) (Nat.le_of_ble_eq_true rfl) (rfl) gX12_lineAt_10.2.2.1 (fun H locs hP hD hS => ?_)
      refine lv_iload_n hx hb gX12_lineAt_10.2.2.2.1 rfl (lv_at0 hl) ?_
      refine lv_iconst (v := 2) hx hb gX12_lineAt_10.2.2.2.2.1 (by decide) ?_
      refine lv_icmp_ne (tgt := 221) hx hb gX12_lineAt_10.2.2.2.2.2.1 (by decide) (fun _ => ?_) (fun c9 => absurd c9 (by decide))
      refine lv_aload_n hx hb gX12_lineAt_12.1 rfl (lv_at1 hl) ?_
      refine gf_X12_32 hC rfl hK hP 4 rfl rfl gX12_lineAt_12.2.1 ?_
      refine lv_iload_n hx hb gX12_lineAt_12.2.2.1 rfl (lv_at2 hl) ?_
      refine lv_iconst (v := 4) hx hb gX12_lineAt_12.2.2.2.1 (by decide) ?_
      refine lv_iadd hx hb gX12_lineAt_12.2.2.2.2.1 ?_
      refine eqi (x1 := nI (ja + 4)) (nI_add ja 4) ?_
      refine lv_aload_n hx hb gX12_lineAt_12.2.2.2.2.2.1 rfl (lv_at1 hl) ?_
      refine gf_X12_240 hC rfl hK hP 4 rfl rfl gX12_lineAt_12.2.2.2.2.2.2.1 ?_
      refine astN hC hK hP hD hS 1 (ws' := [(nc, iA G 100 fnc), (nl, iA G 54 (upd (upd (upd (upd (upd (upd (upd fnl ja 0) (ja + 1) r7961) (ja + 2) (-9)) (ja + 3) (-9)) (ja + 2) 0) (ja + 3) 0) (ja + 4) (nI kc))), (nF, sA G 5 (FCT K)), (nt, iA G 240 fnt), (h0, oX12 nw nk mhasKept nt (nI ktp) nr mrowMany mroundOf mroundFrom mouts nm mfromHour mtoHour ns (nI kf17964) (nI kt17965) so17966 1 0 (nI kc) mlines nl nc nF np ntr nb mbestCost nso nsi nit nsh nsf nss nrc mtraced mdealer mnumber mwhose msize misParted)]) rfl (k := (ja + 4)) (by omega) (Nat.le_of_ble_eq_true rfl) (rfl) gX12_lineAt_12.2.2.2.2.2.2.2.1 (fun H locs hP hD hS => ?_)
      refine lv_iload_n hx hb gX12_lineAt_12.2.2.2.2.2.2.2.2.1 rfl (lv_at0 hl) ?_
      refine lv_iconst (v := 3) hx hb gX12_lineAt_12.2.2.2.2.2.2.2.2.2 (by decide) ?_
      refine lv_icmp_eq (tgt := 256) hx hb gX12_lineAt_13.1 (by decide) (fun c9 => absurd c9 (by decide)) (fun _ => ?_)
      refine lv_aload_n hx hb gX12_lineAt_13.2.1 rfl (lv_at1 hl) ?_
      refine va_ldcSw (index := 287) (tx := "if") hx hb hown (hO.2.2 0 (by decide)) gX12_lineAt_13.2.2.1 ?_
      refine pVo hO hS hC hK hl hP hD (m_isNameF l G K 0 h0 nw nk mhasKept nt (nI ktp) nr mrowMany mroundOf mroundFrom mouts nm mfromHour mtoHour ns (nI kf17964) (nI kt17965) so17966 0 (nI kc) mlines nl nc nF np ntr nb mbestCost nso nsi nit nsh nsf nss nrc mtraced mdealer mnumber mwhose msize misParted ((by decide))) si_X12_248 [4] sm_4 fm_4 nd_4 rfl rfl rfl rfl rfl (Nat.le_of_ble_eq_true rfl) rm_32_5_4 ⟨by first | exact Nat.le_of_ble_eq_true rfl | exact Nat.zero_le _, by first | exact Nat.le_of_ble_eq_true rfl | exact Nat.zero_le _⟩ gX12_lineAt_13.2.2.2.1 (Keqr ?_)
      refine lv_if_eq (tgt := 256) hx hb gX12_lineAt_13.2.2.2.2.1 (by decide) (fun _ => ?_) (fun c9 => absurd (by decide) c9)
      refine lv_aload_n hx hb gX12_lineAt_13.2.2.2.2.2.2.2.2.2 rfl (lv_at1 hl) ?_
      refine gf_X12_32 hC rfl hK hP 4 rfl rfl gX12_lineAt_14.1 ?_
      refine lv_iload_n hx hb gX12_lineAt_14.2.1 rfl (lv_at2 hl) ?_
      refine lv_iconst (v := 5) hx hb gX12_lineAt_14.2.2.1 (by decide) ?_
      refine lv_iadd hx hb gX12_lineAt_14.2.2.2.1 ?_
      refine eqi (x1 := nI (ja + 5)) (nI_add ja 5) ?_
      refine lv_aload_n hx hb gX12_lineAt_14.2.2.2.2.1 rfl (lv_at1 hl) ?_
      refine gf_X12_240 hC rfl hK hP 4 rfl rfl gX12_lineAt_14.2.2.2.2.2.1 ?_
      refine astN hC hK hP hD hS 1 (ws' := [(nc, iA G 100 fnc), (nl, iA G 54 (upd (upd (upd (upd (upd (upd (upd (upd fnl ja 0) (ja + 1) r7961) (ja + 2) (-9)) (ja + 3) (-9)) (ja + 2) 0) (ja + 3) 0) (ja + 4) (nI kc)) (ja + 5) (nI kc))), (nF, sA G 5 (FCT K)), (nt, iA G 240 fnt), (h0, oX12 nw nk mhasKept nt (nI ktp) nr mrowMany mroundOf mroundFrom mouts nm mfromHour mtoHour ns (nI kf17964) (nI kt17965) so17966 1 0 (nI kc) mlines nl nc nF np ntr nb mbestCost nso nsi nit nsh nsf nss nrc mtraced mdealer mnumber mwhose msize misParted)]) rfl (k := (ja + 5)) (by omega) (Nat.le_of_ble_eq_true rfl) (rfl) gX12_lineAt_14.2.2.2.2.2.2.1 (fun H locs hP hD hS => ?_)
      refine lv_aload_n hx hb gX12_lineAt_14.2.2.2.2.2.2.2.1 rfl (lv_at1 hl) ?_
      refine lv_aload_n hx hb gX12_lineAt_14.2.2.2.2.2.2.2.2.1 rfl (lv_at1 hl) ?_
      refine lv_bipush (v := 59) hx hb gX12_lineAt_14.2.2.2.2.2.2.2.2.2 (by decide) ?_
      refine pV hC hK hl hP hD (m_isSignF l G h0 59 nw nk mhasKept nt (nI ktp) nr mrowMany mroundOf mroundFrom mouts nm mfromHour mtoHour ns (nI kf17964) (nI kt17965) so17966 0 (nI kc) mlines nl nc nF np ntr nb mbestCost nso nsi nit nsh nsf nss nrc mtraced mdealer mnumber mwhose msize misParted) si_X12_262 [4] sm_4 fm_4 nd_4 rfl rfl rfl rfl rfl (Nat.le_of_ble_eq_true rfl) rm_32_1_2 ⟨by first | exact Nat.le_of_ble_eq_true rfl | exact Nat.zero_le _, by first | exact Nat.le_of_ble_eq_true rfl | exact Nat.zero_le _⟩ gX12_lineAt_15.1 (Keqr ?_)
      refine vV (wr := [(nc, iA G 100 fnc), (nl, iA G 54 (upd (upd (upd (upd (upd (upd (upd (upd fnl ja 0) (ja + 1) r7961) (ja + 2) (-9)) (ja + 3) (-9)) (ja + 2) 0) (ja + 3) 0) (ja + 4) (nI kc)) (ja + 5) (nI kc))), (nF, sA G 5 (FCT K)), (nt, iA G 240 fnt)]) hC hK hl hP hD hS hA (m_needF l G h0 0 nw nk mhasKept nt (nI ktp) nr mrowMany mroundOf mroundFrom mouts nm mfromHour mtoHour ns (nI kf17964) (nI kt17965) so17966 0 (nI kc) mlines nl nc nF np ntr nb mbestCost nso nsi nit nsh nsf nss nrc mtraced mdealer mnumber mwhose msize misParted) si_X12_236 [4] [0, 1, 2, 3] sm_4 fm_4 nd_4 sm_0_1_2_3 nd_0_1_2_3 dj_4__0_1_2_3 rfl rfl rfl rfl rfl (Nat.le_of_ble_eq_true rfl) rm_32_4_2 ⟨Nat.le_of_ble_eq_true rfl, Nat.le_of_ble_eq_true rfl⟩ gX12_lineAt_15.2.1 (fun u7988 H locs hr7987 hP hD hS => ?_)
      refine Kpdr (ws := [(nc, iA G 100 fnc), (nl, iA G 54 (upd (upd (upd (upd (upd (upd (upd (upd fnl ja 0) (ja + 1) r7961) (ja + 2) (-9)) (ja + 3) (-9)) (ja + 2) 0) (ja + 3) 0) (ja + 4) (nI kc)) (ja + 5) (nI kc))), (nF, sA G 5 (FCT K)), (nt, iA G 240 fnt), (h0, oX12 nw nk mhasKept nt (nI ktp) nr mrowMany mroundOf mroundFrom mouts nm mfromHour mtoHour ns (nI kf17964) (nI kt17965) so17966 1 0 (nI kc) mlines nl nc nF np ntr nb mbestCost nso nsi nit nsh nsf nss nrc mtraced mdealer mnumber mwhose msize misParted)]) hP hD (fun hP hD => ?_)
      refine toQ hQ0 ?_
      exact RV hC hP hD hS [4, 3, 0, 1, 2] (1, kf17964, kt17965, so17966, kc, fnc, upd (upd (upd (upd (upd (upd (upd (upd fnl ja 0) (ja + 1) r7961) (ja + 2) (-9)) (ja + 3) (-9)) (ja + 2) 0) (ja + 3) 0) (ja + 4) (nI kc)) (ja + 5) (nI kc)) rfl rfl (by decide) (Or.inl rfl) gX12_lineAt_15.2.2
    · have tA7990 := hw7968_2.1
      have tB7990 := hw7968_2.2.1
      refine astN hC hK hP hD hS 1 (ws' := [(nc, iA G 100 fnc), (nl, iA G 54 (upd (upd fnl ja 0) (ja + 1) (nI v_7968))), (nF, sA G 5 (FCT K)), (h0, oX12 nw nk mhasKept nt (nI ktp) nr mrowMany mroundOf mroundFrom mouts nm mfromHour mtoHour ns (nI kf17964) (nI kt17965) so17966 0 0 (nI kc) mlines nl nc nF np ntr nb mbestCost nso nsi nit nsh nsf nss nrc mtraced mdealer mnumber mwhose msize misParted), (nt, iA G 240 fnt)]) rfl (k := (ja + 1)) (by omega) (Nat.le_of_ble_eq_true rfl) (rfl) gX12_lineAt_5.2.2.2.2.2.2.2.2.1 (fun H locs hP hD hS => ?_)
      refine lv_aload_n hx hb gX12_lineAt_5.2.2.2.2.2.2.2.2.2 rfl (lv_at1 hl) ?_
      refine gf_X12_32 hC rfl hK hP 3 rfl rfl gX12_lineAt_6.1 ?_
      refine lv_iload_n hx hb gX12_lineAt_6.2.1 rfl (lv_at2 hl) ?_
      refine lv_iconst (v := 2) hx hb gX12_lineAt_6.2.2.1 (by decide) ?_
      refine lv_iadd hx hb gX12_lineAt_6.2.2.2.1 ?_
      refine eqi (x1 := nI (ja + 2)) (nI_add ja 2) ?_
      refine lv_bipush (v := (-9)) hx hb gX12_lineAt_6.2.2.2.2.1 (by decide) ?_
      refine astN hC hK hP hD hS 1 (ws' := [(nc, iA G 100 fnc), (nl, iA G 54 (upd (upd (upd fnl ja 0) (ja + 1) (nI v_7968)) (ja + 2) (-9))), (nF, sA G 5 (FCT K)), (h0, oX12 nw nk mhasKept nt (nI ktp) nr mrowMany mroundOf mroundFrom mouts nm mfromHour mtoHour ns (nI kf17964) (nI kt17965) so17966 0 0 (nI kc) mlines nl nc nF np ntr nb mbestCost nso nsi nit nsh nsf nss nrc mtraced mdealer mnumber mwhose msize misParted), (nt, iA G 240 fnt)]) rfl (k := (ja + 2)) (by omega) (Nat.le_of_ble_eq_true rfl) (rfl) gX12_lineAt_6.2.2.2.2.2.1 (fun H locs hP hD hS => ?_)
      refine lv_aload_n hx hb gX12_lineAt_6.2.2.2.2.2.2.1 rfl (lv_at1 hl) ?_
      refine gf_X12_32 hC rfl hK hP 3 rfl rfl gX12_lineAt_6.2.2.2.2.2.2.2.1 ?_
      refine lv_iload_n hx hb gX12_lineAt_6.2.2.2.2.2.2.2.2.1 rfl (lv_at2 hl) ?_
      refine lv_iconst (v := 3) hx hb gX12_lineAt_6.2.2.2.2.2.2.2.2.2 (by decide) ?_
      refine lv_iadd hx hb gX12_lineAt_7.1 ?_
      refine eqi (x1 := nI (ja + 3)) (nI_add ja 3) ?_
      refine lv_bipush (v := (-9)) hx hb gX12_lineAt_7.2.1 (by decide) ?_
      refine astN hC hK hP hD hS 1 (ws' := [(nc, iA G 100 fnc), (nl, iA G 54 (upd (upd (upd (upd fnl ja 0) (ja + 1) (nI v_7968)) (ja + 2) (-9)) (ja + 3) (-9))), (nF, sA G 5 (FCT K)), (h0, oX12 nw nk mhasKept nt (nI ktp) nr mrowMany mroundOf mroundFrom mouts nm mfromHour mtoHour ns (nI kf17964) (nI kt17965) so17966 0 0 (nI kc) mlines nl nc nF np ntr nb mbestCost nso nsi nit nsh nsf nss nrc mtraced mdealer mnumber mwhose msize misParted), (nt, iA G 240 fnt)]) rfl (k := (ja + 3)) (by omega) (Nat.le_of_ble_eq_true rfl) (rfl) gX12_lineAt_7.2.2.1 (fun H locs hP hD hS => ?_)
      refine lv_iload_n hx hb gX12_lineAt_7.2.2.2.1 rfl (lv_at0 hl) ?_
      refine lv_if_ne (tgt := 190) hx hb gX12_lineAt_7.2.2.2.2.1 (by decide) (fun c9 => absurd (by decide) c9) (fun _ => ?_)
      refine lv_aload_n hx hb gX12_lineAt_7.2.2.2.2.2.1 rfl (lv_at1 hl) ?_
      refine lv_aload_n hx hb gX12_lineAt_7.2.2.2.2.2.2.1 rfl (lv_at1 hl) ?_
      refine va_ldcSw (index := 282) (tx := "of") hx hb hown (hO.2.2 5 (by decide)) gX12_lineAt_7.2.2.2.2.2.2.2.1 ?_
      refine pVo hO hS hC hK hl hP hD (m_isName0 l G K 5 h0 nw nk mhasKept nt ktp nr mrowMany mroundOf mroundFrom mouts nm mfromHour mtoHour ns kf17964 kt17965 so17966 0 (nI kc) mlines nl nc nF np ntr nb mbestCost nso nsi nit nsh nsf nss nrc mtraced mdealer mnumber mwhose msize misParted fnt ((by decide)) (hw7968_2) (htp)) si_X12_248 [3, 4] sm_3_4 fm_3_4 nd_3_4 rfl rfl rfl rfl rfl (Nat.le_of_ble_eq_true rfl) rm_32_5_4 ⟨by first | exact Nat.le_of_ble_eq_true rfl | exact Nat.zero_le _, by first | exact Nat.le_of_ble_eq_true rfl | exact Nat.zero_le _⟩ gX12_lineAt_7.2.2.2.2.2.2.2.2.1 (Kors (Keqa fun a7992 => ?_) (Keqr ?_))
      · have tI7993 : kt17965 = kf17964 + 2 := a7992.2
        refine vV (wr := [(nc, iA G 100 fnc), (nl, iA G 54 (upd (upd (upd (upd fnl ja 0) (ja + 1) (nI v_7968)) (ja + 2) (-9)) (ja + 3) (-9))), (nF, sA G 5 (FCT K))]) hC hK hl hP hD hS hA (m_need1 l G h0 nw nk mhasKept nt ktp nr mrowMany mroundOf mroundFrom mouts nm mfromHour mtoHour ns (nI kf17964) kt17965 so17966 0 (nI kc) mlines nl nc nF np ntr nb mbestCost nso nsi nit nsh nsf nss nrc mtraced mdealer mnumber mwhose msize misParted fnt (by omega) (htp)) si_X12_236 [3, 4] [0, 1, 2] sm_3_4 fm_3_4 nd_3_4 sm_0_1_2 nd_0_1_2 dj_3_4__0_1_2 rfl rfl rfl rfl rfl (Nat.le_of_ble_eq_true rfl) rm_32_4_2 ⟨Nat.le_of_ble_eq_true rfl, Nat.le_of_ble_eq_true rfl⟩ gX12_lineAt_7.2.2.2.2.2.2.2.2.2 (Ktu3 fun kf17996 kt17997 so17998 => ?_)
        intro H locs hr7994 hP hD hS
        try dsimp only at hr7994
        refine Kpdr (ws := [(nc, iA G 100 fnc), (nl, iA G 54 (upd (upd (upd (upd fnl ja 0) (ja + 1) (nI v_7968)) (ja + 2) (-9)) (ja + 3) (-9))), (nF, sA G 5 (FCT K)), (h0, oX12 nw nk mhasKept nt (nI ktp) nr mrowMany mroundOf mroundFrom mouts nm mfromHour mtoHour ns (nI kf17996) (nI kt17997) so17998 0 0 (nI kc) mlines nl nc nF np ntr nb mbestCost nso nsi nit nsh nsf nss nrc mtraced mdealer mnumber mwhose msize misParted), (nt, iA G 240 fnt)]) hP hD (fun hP hD => ?_)
        have hw8000_0 := hr7994.1
        have hw8000_1 := hr7994.2
        have tA8002 := hw8000_1.1
        have tB8002 := hw8000_1.2.1
        refine lv_aload_n hx hb gX12_lineAt_8.1 rfl (lv_at1 hl) ?_
        refine gf_X12_32 hC rfl hK hP 3 rfl rfl gX12_lineAt_8.2.1 ?_
        refine lv_iload_n hx hb gX12_lineAt_8.2.2.1 rfl (lv_at2 hl) ?_
        refine lv_iconst (v := 2) hx hb gX12_lineAt_8.2.2.2.1 (by decide) ?_
        refine lv_iadd hx hb gX12_lineAt_8.2.2.2.2.1 ?_
        refine eqi (x1 := nI (ja + 2)) (nI_add ja 2) ?_
        refine lv_aload_n hx hb gX12_lineAt_8.2.2.2.2.2.1 rfl (lv_at1 hl) ?_
        refine lv_bipush (v := 7) hx hb gX12_lineAt_8.2.2.2.2.2.2.1 (by decide) ?_
        refine iV (wr := [(nc, iA G 100 fnc), (nl, iA G 54 (upd (upd (upd (upd fnl ja 0) (ja + 1) (nI v_7968)) (ja + 2) (-9)) (ja + 3) (-9))), (nF, sA G 5 (FCT K))]) hC hK hl hP hD hS hA (m_number0 l G h0 7 nw nk mhasKept nt ktp nr mrowMany mroundOf mroundFrom mouts nm mfromHour mtoHour ns kf17996 kt17997 so17998 0 (nI kc) mlines nl nc nF np ntr nb mbestCost nso nsi nit nsh nsf nss nrc mtraced mdealer mnumber mwhose msize misParted fnt (hw8000_1) (htp) (by omega)) si_X12_271 [3, 4] [0, 1, 2] sm_3_4 fm_3_4 nd_3_4 sm_0_1_2 nd_0_1_2 dj_3_4__0_1_2 rfl rfl rfl rfl rfl (Nat.le_of_ble_eq_true rfl) rm_32_5_5 ⟨Nat.le_of_ble_eq_true rfl, Nat.le_of_ble_eq_true rfl⟩ gX12_lineAt_8.2.2.2.2.2.2.2.1 (fun r8003 => Ktu4 fun ff18005 kf18006 kt18007 so18008 => ?_)
        intro H locs hr8003 hP hD hS
        try dsimp only at hr8003
        refine Kpdr (ws := [(nc, iA G 100 fnc), (nl, iA G 54 (upd (upd (upd (upd fnl ja 0) (ja + 1) (nI v_7968)) (ja + 2) (-9)) (ja + 3) (-9))), (nF, sA G 5 (FCT K)), (h0, oX12 nw nk mhasKept nt (nI ktp) nr mrowMany mroundOf mroundFrom mouts nm mfromHour mtoHour ns (nI kf18006) (nI kt18007) so18008 ff18005 0 (nI kc) mlines nl nc nF np ntr nb mbestCost nso nsi nit nsh nsf nss nrc mtraced mdealer mnumber mwhose msize misParted), (nt, iA G 240 fnt)]) hP hD (fun hP hD => ?_)
        obtain ⟨hr8003, w8009⟩ := hr8003
        rcases w8009 with rfl | ⟨rfl, ⟨v_8010, hv_8010, rfl⟩, hw8010_1, hw8010_2⟩
        · refine astN hC hK hP hD hS 1 (ws' := [(nc, iA G 100 fnc), (nl, iA G 54 (upd (upd (upd (upd (upd fnl ja 0) (ja + 1) (nI v_7968)) (ja + 2) (-9)) (ja + 3) (-9)) (ja + 2) r8003)), (nF, sA G 5 (FCT K)), (h0, oX12 nw nk mhasKept nt (nI ktp) nr mrowMany mroundOf mroundFrom mouts nm mfromHour mtoHour ns (nI kf18006) (nI kt18007) so18008 1 0 (nI kc) mlines nl nc nF np ntr nb mbestCost nso nsi nit nsh nsf nss nrc mtraced mdealer mnumber mwhose msize misParted), (nt, iA G 240 fnt)]) rfl (k := (ja + 2)) (by omega) (Nat.le_of_ble_eq_true rfl) (rfl) gX12_lineAt_8.2.2.2.2.2.2.2.2.1 (fun H locs hP hD hS => ?_)
          refine lv_aload_n hx hb gX12_lineAt_8.2.2.2.2.2.2.2.2.2 rfl (lv_at1 hl) ?_
          refine lv_aload_n hx hb gX12_lineAt_9.1 rfl (lv_at1 hl) ?_
          refine va_ldcSw (index := 284) (tx := "from") hx hb hown (hO.2.2 6 (by decide)) gX12_lineAt_9.2.1 ?_
          refine pVo hO hS hC hK hl hP hD (m_isNameF l G K 6 h0 nw nk mhasKept nt (nI ktp) nr mrowMany mroundOf mroundFrom mouts nm mfromHour mtoHour ns (nI kf18006) (nI kt18007) so18008 0 (nI kc) mlines nl nc nF np ntr nb mbestCost nso nsi nit nsh nsf nss nrc mtraced mdealer mnumber mwhose msize misParted ((by decide))) si_X12_248 [3] sm_3 fm_3 nd_3 rfl rfl rfl rfl rfl (Nat.le_of_ble_eq_true rfl) rm_32_5_4 ⟨by first | exact Nat.le_of_ble_eq_true rfl | exact Nat.zero_le _, by first | exact Nat.le_of_ble_eq_true rfl | exact Nat.zero_le _⟩ gX12_lineAt_9.2.2.1 (Keqr ?_)
          refine vV (wr := [(nc, iA G 100 fnc), (nl, iA G 54 (upd (upd (upd (upd (upd fnl ja 0) (ja + 1) (nI v_7968)) (ja + 2) (-9)) (ja + 3) (-9)) (ja + 2) r8003)), (nF, sA G 5 (FCT K)), (nt, iA G 240 fnt)]) hC hK hl hP hD hS hA (m_needF l G h0 0 nw nk mhasKept nt (nI ktp) nr mrowMany mroundOf mroundFrom mouts nm mfromHour mtoHour ns (nI kf18006) (nI kt18007) so18008 0 (nI kc) mlines nl nc nF np ntr nb mbestCost nso nsi nit nsh nsf nss nrc mtraced mdealer mnumber mwhose msize misParted) si_X12_236 [3] [0, 1, 2, 4] sm_3 fm_3 nd_3 sm_0_1_2_4 nd_0_1_2_4 dj_3__0_1_2_4 rfl rfl rfl rfl rfl (Nat.le_of_ble_eq_true rfl) rm_32_4_2 ⟨Nat.le_of_ble_eq_true rfl, Nat.le_of_ble_eq_true rfl⟩ gX12_lineAt_9.2.2.2.1 (fun u8014 H locs hr8013 hP hD hS => ?_)
          refine Kpdr (ws := [(nc, iA G 100 fnc), (nl, iA G 54 (upd (upd (upd (upd (upd fnl ja 0) (ja + 1) (nI v_7968)) (ja + 2) (-9)) (ja + 3) (-9)) (ja + 2) r8003)), (nF, sA G 5 (FCT K)), (nt, iA G 240 fnt), (h0, oX12 nw nk mhasKept nt (nI ktp) nr mrowMany mroundOf mroundFrom mouts nm mfromHour mtoHour ns (nI kf18006) (nI kt18007) so18008 1 0 (nI kc) mlines nl nc nF np ntr nb mbestCost nso nsi nit nsh nsf nss nrc mtraced mdealer mnumber mwhose msize misParted)]) hP hD (fun hP hD => ?_)
          refine lv_aload_n hx hb gX12_lineAt_9.2.2.2.2.1 rfl (lv_at1 hl) ?_
          refine gf_X12_32 hC rfl hK hP 4 rfl rfl gX12_lineAt_9.2.2.2.2.2.1 ?_
          refine lv_iload_n hx hb gX12_lineAt_9.2.2.2.2.2.2.1 rfl (lv_at2 hl) ?_
          refine lv_iconst (v := 3) hx hb gX12_lineAt_9.2.2.2.2.2.2.2.1 (by decide) ?_
          refine lv_iadd hx hb gX12_lineAt_9.2.2.2.2.2.2.2.2.1 ?_
          refine eqi (x1 := nI (ja + 3)) (nI_add ja 3) ?_
          refine lv_aload_n hx hb gX12_lineAt_9.2.2.2.2.2.2.2.2.2 rfl (lv_at1 hl) ?_
          refine lv_bipush (v := 7) hx hb gX12_lineAt_10.1 (by decide) ?_
          refine iV (wr := [(nc, iA G 100 fnc), (nl, iA G 54 (upd (upd (upd (upd (upd fnl ja 0) (ja + 1) (nI v_7968)) (ja + 2) (-9)) (ja + 3) (-9)) (ja + 2) r8003)), (nF, sA G 5 (FCT K)), (nt, iA G 240 fnt)]) hC hK hl hP hD hS hA (m_numberF l G h0 7 nw nk mhasKept nt (nI ktp) nr mrowMany mroundOf mroundFrom mouts nm mfromHour mtoHour ns (nI kf18006) (nI kt18007) so18008 0 (nI kc) mlines nl nc nF np ntr nb mbestCost nso nsi nit nsh nsf nss nrc mtraced mdealer mnumber mwhose msize misParted) si_X12_271 [4] [0, 1, 2, 3] sm_4 fm_4 nd_4 sm_0_1_2_3 nd_0_1_2_3 dj_4__0_1_2_3 rfl rfl rfl rfl rfl (Nat.le_of_ble_eq_true rfl) rm_32_5_5 ⟨Nat.le_of_ble_eq_true rfl, Nat.le_of_ble_eq_true rfl⟩ gX12_lineAt_10.2.1 (fun r8015 u8016 H locs hr8015 hP hD hS => ?_)
          refine Kpdr (ws := [(nc, iA G 100 fnc), (nl, iA G 54 (upd (upd (upd (upd (upd fnl ja 0) (ja + 1) (nI v_7968)) (ja + 2) (-9)) (ja + 3) (-9)) (ja + 2) r8003)), (nF, sA G 5 (FCT K)), (nt, iA G 240 fnt), (h0, oX12 nw nk mhasKept nt (nI ktp) nr mrowMany mroundOf mroundFrom mouts nm mfromHour mtoHour ns (nI kf18006) (nI kt18007) so18008 1 0 (nI kc) mlines nl nc nF np ntr nb mbestCost nso nsi nit nsh nsf nss nrc mtraced mdealer mnumber mwhose msize misParted)]) hP hD (fun hP hD => ?_)
          obtain rfl := hr8015
          refine astN hC hK hP hD hS 1 (ws' := [(nc, iA G 100 fnc), (nl, iA G 54 (upd (upd (upd (upd (upd (upd fnl ja 0) (ja + 1) (nI v_7968)) (ja + 2) (-9)) (ja + 3) (-9)) (ja + 2) r8003) (ja + 3) 0)), (nF, sA G 5 (FCT K)), (nt, iA G 240 fnt), (h0, oX12 nw nk mhasKept nt (nI ktp) nr mrowMany mroundOf mroundFrom mouts nm mfromHour mtoHour ns (nI kf18006) (nI kt18007) so18008 1 0 (nI kc) mlines nl nc nF np ntr nb mbestCost nso nsi nit nsh nsf nss nrc mtraced mdealer mnumber mwhose msize misParted)]) rfl (k := (ja + 3)) (by omega) (Nat.le_of_ble_eq_true rfl) (rfl) gX12_lineAt_10.2.2.1 (fun H locs hP hD hS => ?_)
          refine lv_iload_n hx hb gX12_lineAt_10.2.2.2.1 rfl (lv_at0 hl) ?_
          refine lv_iconst (v := 2) hx hb gX12_lineAt_10.2.2.2.2.1 (by decide) ?_
          refine lv_icmp_ne (tgt := 221) hx hb gX12_lineAt_10.2.2.2.2.2.1 (by decide) (fun _ => ?_) (fun c9 => absurd c9 (by decide))
          refine lv_aload_n hx hb gX12_lineAt_12.1 rfl (lv_at1 hl) ?_
          refine gf_X12_32 hC rfl hK hP 4 rfl rfl gX12_lineAt_12.2.1 ?_
          refine lv_iload_n hx hb gX12_lineAt_12.2.2.1 rfl (lv_at2 hl) ?_
          refine lv_iconst (v := 4) hx hb gX12_lineAt_12.2.2.2.1 (by decide) ?_
          refine lv_iadd hx hb gX12_lineAt_12.2.2.2.2.1 ?_
          refine eqi (x1 := nI (ja + 4)) (nI_add ja 4) ?_
          refine lv_aload_n hx hb gX12_lineAt_12.2.2.2.2.2.1 rfl (lv_at1 hl) ?_
          refine gf_X12_240 hC rfl hK hP 4 rfl rfl gX12_lineAt_12.2.2.2.2.2.2.1 ?_
          refine astN hC hK hP hD hS 1 (ws' := [(nc, iA G 100 fnc), (nl, iA G 54 (upd (upd (upd (upd (upd (upd (upd fnl ja 0) (ja + 1) (nI v_7968)) (ja + 2) (-9)) (ja + 3) (-9)) (ja + 2) r8003) (ja + 3) 0) (ja + 4) (nI kc))), (nF, sA G 5 (FCT K)), (nt, iA G 240 fnt), (h0, oX12 nw nk mhasKept nt (nI ktp) nr mrowMany mroundOf mroundFrom mouts nm mfromHour mtoHour ns (nI kf18006) (nI kt18007) so18008 1 0 (nI kc) mlines nl nc nF np ntr nb mbestCost nso nsi nit nsh nsf nss nrc mtraced mdealer mnumber mwhose msize misParted)]) rfl (k := (ja + 4)) (by omega) (Nat.le_of_ble_eq_true rfl) (rfl) gX12_lineAt_12.2.2.2.2.2.2.2.1 (fun H locs hP hD hS => ?_)
          refine lv_iload_n hx hb gX12_lineAt_12.2.2.2.2.2.2.2.2.1 rfl (lv_at0 hl) ?_
          refine lv_iconst (v := 3) hx hb gX12_lineAt_12.2.2.2.2.2.2.2.2.2 (by decide) ?_
          refine lv_icmp_eq (tgt := 256) hx hb gX12_lineAt_13.1 (by decide) (fun c9 => absurd c9 (by decide)) (fun _ => ?_)
          refine lv_aload_n hx hb gX12_lineAt_13.2.1 rfl (lv_at1 hl) ?_
          refine va_ldcSw (index := 287) (tx := "if") hx hb hown (hO.2.2 0 (by decide)) gX12_lineAt_13.2.2.1 ?_
          refine pVo hO hS hC hK hl hP hD (m_isNameF l G K 0 h0 nw nk mhasKept nt (nI ktp) nr mrowMany mroundOf mroundFrom mouts nm mfromHour mtoHour ns (nI kf18006) (nI kt18007) so18008 0 (nI kc) mlines nl nc nF np ntr nb mbestCost nso nsi nit nsh nsf nss nrc mtraced mdealer mnumber mwhose msize misParted ((by decide))) si_X12_248 [4] sm_4 fm_4 nd_4 rfl rfl rfl rfl rfl (Nat.le_of_ble_eq_true rfl) rm_32_5_4 ⟨by first | exact Nat.le_of_ble_eq_true rfl | exact Nat.zero_le _, by first | exact Nat.le_of_ble_eq_true rfl | exact Nat.zero_le _⟩ gX12_lineAt_13.2.2.2.1 (Keqr ?_)
          refine lv_if_eq (tgt := 256) hx hb gX12_lineAt_13.2.2.2.2.1 (by decide) (fun _ => ?_) (fun c9 => absurd (by decide) c9)
          refine lv_aload_n hx hb gX12_lineAt_13.2.2.2.2.2.2.2.2.2 rfl (lv_at1 hl) ?_
          refine gf_X12_32 hC rfl hK hP 4 rfl rfl gX12_lineAt_14.1 ?_
          refine lv_iload_n hx hb gX12_lineAt_14.2.1 rfl (lv_at2 hl) ?_
          refine lv_iconst (v := 5) hx hb gX12_lineAt_14.2.2.1 (by decide) ?_
          refine lv_iadd hx hb gX12_lineAt_14.2.2.2.1 ?_
          refine eqi (x1 := nI (ja + 5)) (nI_add ja 5) ?_
          refine lv_aload_n hx hb gX12_lineAt_14.2.2.2.2.1 rfl (lv_at1 hl) ?_
          refine gf_X12_240 hC rfl hK hP 4 rfl rfl gX12_lineAt_14.2.2.2.2.2.1 ?_
          refine astN hC hK hP hD hS 1 (ws' := [(nc, iA G 100 fnc), (nl, iA G 54 (upd (upd (upd (upd (upd (upd (upd (upd fnl ja 0) (ja + 1) (nI v_7968)) (ja + 2) (-9)) (ja + 3) (-9)) (ja + 2) r8003) (ja + 3) 0) (ja + 4) (nI kc)) (ja + 5) (nI kc))), (nF, sA G 5 (FCT K)), (nt, iA G 240 fnt), (h0, oX12 nw nk mhasKept nt (nI ktp) nr mrowMany mroundOf mroundFrom mouts nm mfromHour mtoHour ns (nI kf18006) (nI kt18007) so18008 1 0 (nI kc) mlines nl nc nF np ntr nb mbestCost nso nsi nit nsh nsf nss nrc mtraced mdealer mnumber mwhose msize misParted)]) rfl (k := (ja + 5)) (by omega) (Nat.le_of_ble_eq_true rfl) (rfl) gX12_lineAt_14.2.2.2.2.2.2.1 (fun H locs hP hD hS => ?_)
          refine lv_aload_n hx hb gX12_lineAt_14.2.2.2.2.2.2.2.1 rfl (lv_at1 hl) ?_
          refine lv_aload_n hx hb gX12_lineAt_14.2.2.2.2.2.2.2.2.1 rfl (lv_at1 hl) ?_
          refine lv_bipush (v := 59) hx hb gX12_lineAt_14.2.2.2.2.2.2.2.2.2 (by decide) ?_
          refine pV hC hK hl hP hD (m_isSignF l G h0 59 nw nk mhasKept nt (nI ktp) nr mrowMany mroundOf mroundFrom mouts nm mfromHour mtoHour ns (nI kf18006) (nI kt18007) so18008 0 (nI kc) mlines nl nc nF np ntr nb mbestCost nso nsi nit nsh nsf nss nrc mtraced mdealer mnumber mwhose msize misParted) si_X12_262 [4] sm_4 fm_4 nd_4 rfl rfl rfl rfl rfl (Nat.le_of_ble_eq_true rfl) rm_32_1_2 ⟨by first | exact Nat.le_of_ble_eq_true rfl | exact Nat.zero_le _, by first | exact Nat.le_of_ble_eq_true rfl | exact Nat.zero_le _⟩ gX12_lineAt_15.1 (Keqr ?_)
          refine vV (wr := [(nc, iA G 100 fnc), (nl, iA G 54 (upd (upd (upd (upd (upd (upd (upd (upd fnl ja 0) (ja + 1) (nI v_7968)) (ja + 2) (-9)) (ja + 3) (-9)) (ja + 2) r8003) (ja + 3) 0) (ja + 4) (nI kc)) (ja + 5) (nI kc))), (nF, sA G 5 (FCT K)), (nt, iA G 240 fnt)]) hC hK hl hP hD hS hA (m_needF l G h0 0 nw nk mhasKept nt (nI ktp) nr mrowMany mroundOf mroundFrom mouts nm mfromHour mtoHour ns (nI kf18006) (nI kt18007) so18008 0 (nI kc) mlines nl nc nF np ntr nb mbestCost nso nsi nit nsh nsf nss nrc mtraced mdealer mnumber mwhose msize misParted) si_X12_236 [4] [0, 1, 2, 3] sm_4 fm_4 nd_4 sm_0_1_2_3 nd_0_1_2_3 dj_4__0_1_2_3 rfl rfl rfl rfl rfl (Nat.le_of_ble_eq_true rfl) rm_32_4_2 ⟨Nat.le_of_ble_eq_true rfl, Nat.le_of_ble_eq_true rfl⟩ gX12_lineAt_15.2.1 (fun u8023 H locs hr8022 hP hD hS => ?_)
          refine Kpdr (ws := [(nc, iA G 100 fnc), (nl, iA G 54 (upd (upd (upd (upd (upd (upd (upd (upd fnl ja 0) (ja + 1) (nI v_7968)) (ja + 2) (-9)) (ja + 3) (-9)) (ja + 2) r8003) (ja + 3) 0) (ja + 4) (nI kc)) (ja + 5) (nI kc))), (nF, sA G 5 (FCT K)), (nt, iA G 240 fnt), (h0, oX12 nw nk mhasKept nt (nI ktp) nr mrowMany mroundOf mroundFrom mouts nm mfromHour mtoHour ns (nI kf18006) (nI kt18007) so18008 1 0 (nI kc) mlines nl nc nF np ntr nb mbestCost nso nsi nit nsh nsf nss nrc mtraced mdealer mnumber mwhose msize misParted)]) hP hD (fun hP hD => ?_)
          refine toQ hQ0 ?_
          exact RV hC hP hD hS [4, 3, 0, 1, 2] (1, kf18006, kt18007, so18008, kc, fnc, upd (upd (upd (upd (upd (upd (upd (upd fnl ja 0) (ja + 1) (nI v_7968)) (ja + 2) (-9)) (ja + 3) (-9)) (ja + 2) r8003) (ja + 3) 0) (ja + 4) (nI kc)) (ja + 5) (nI kc)) rfl rfl (by decide) (Or.inl rfl) gX12_lineAt_15.2.2
        · have tA8025 := hw8010_2.1
          have tB8025 := hw8010_2.2.1
          refine astN hC hK hP hD hS 1 (ws' := [(nc, iA G 100 fnc), (nl, iA G 54 (upd (upd (upd (upd (upd fnl ja 0) (ja + 1) (nI v_7968)) (ja + 2) (-9)) (ja + 3) (-9)) (ja + 2) (nI v_8010))), (nF, sA G 5 (FCT K)), (h0, oX12 nw nk mhasKept nt (nI ktp) nr mrowMany mroundOf mroundFrom mouts nm mfromHour mtoHour ns (nI kf18006) (nI kt18007) so18008 0 0 (nI kc) mlines nl nc nF np ntr nb mbestCost nso nsi nit nsh nsf nss nrc mtraced mdealer mnumber mwhose msize misParted), (nt, iA G 240 fnt)]) rfl (k := (ja + 2)) (by omega) (Nat.le_of_ble_eq_true rfl) (rfl) gX12_lineAt_8.2.2.2.2.2.2.2.2.1 (fun H locs hP hD hS => ?_)
          refine lv_aload_n hx hb gX12_lineAt_8.2.2.2.2.2.2.2.2.2 rfl (lv_at1 hl) ?_
          refine lv_aload_n hx hb gX12_lineAt_9.1 rfl (lv_at1 hl) ?_
          refine va_ldcSw (index := 284) (tx := "from") hx hb hown (hO.2.2 6 (by decide)) gX12_lineAt_9.2.1 ?_
          refine pVo hO hS hC hK hl hP hD (m_isName0 l G K 6 h0 nw nk mhasKept nt ktp nr mrowMany mroundOf mroundFrom mouts nm mfromHour mtoHour ns kf18006 kt18007 so18008 0 (nI kc) mlines nl nc nF np ntr nb mbestCost nso nsi nit nsh nsf nss nrc mtraced mdealer mnumber mwhose msize misParted fnt ((by decide)) (hw8010_2) (htp)) si_X12_248 [3, 4] sm_3_4 fm_3_4 nd_3_4 rfl rfl rfl rfl rfl (Nat.le_of_ble_eq_true rfl) rm_32_5_4 ⟨by first | exact Nat.le_of_ble_eq_true rfl | exact Nat.zero_le _, by first | exact Nat.le_of_ble_eq_true rfl | exact Nat.zero_le _⟩ gX12_lineAt_9.2.2.1 (Kors (Keqa fun a8027 => ?_) (Keqr ?_))
          · have tI8028 : kt18007 = kf18006 + 4 := a8027.2
            refine vV (wr := [(nc, iA G 100 fnc), (nl, iA G 54 (upd (upd (upd (upd (upd fnl ja 0) (ja + 1) (nI v_7968)) (ja + 2) (-9)) (ja + 3) (-9)) (ja + 2) (nI v_8010))), (nF, sA G 5 (FCT K))]) hC hK hl hP hD hS hA (m_need1 l G h0 nw nk mhasKept nt ktp nr mrowMany mroundOf mroundFrom mouts nm mfromHour mtoHour ns (nI kf18006) kt18007 so18008 0 (nI kc) mlines nl nc nF np ntr nb mbestCost nso nsi nit nsh nsf nss nrc mtraced mdealer mnumber mwhose msize misParted fnt (by omega) (htp)) si_X12_236 [3, 4] [0, 1, 2] sm_3_4 fm_3_4 nd_3_4 sm_0_1_2 nd_0_1_2 dj_3_4__0_1_2 rfl rfl rfl rfl rfl (Nat.le_of_ble_eq_true rfl) rm_32_4_2 ⟨Nat.le_of_ble_eq_true rfl, Nat.le_of_ble_eq_true rfl⟩ gX12_lineAt_9.2.2.2.1 (Ktu3 fun kf18031 kt18032 so18033 => ?_)
            intro H locs hr8029 hP hD hS
            try dsimp only at hr8029
            refine Kpdr (ws := [(nc, iA G 100 fnc), (nl, iA G 54 (upd (upd (upd (upd (upd fnl ja 0) (ja + 1) (nI v_7968)) (ja + 2) (-9)) (ja + 3) (-9)) (ja + 2) (nI v_8010))), (nF, sA G 5 (FCT K)), (h0, oX12 nw nk mhasKept nt (nI ktp) nr mrowMany mroundOf mroundFrom mouts nm mfromHour mtoHour ns (nI kf18031) (nI kt18032) so18033 0 0 (nI kc) mlines nl nc nF np ntr nb mbestCost nso nsi nit nsh nsf nss nrc mtraced mdealer mnumber mwhose msize misParted), (nt, iA G 240 fnt)]) hP hD (fun hP hD => ?_)
            have hw8035_0 := hr8029.1
            have hw8035_1 := hr8029.2
            have tA8037 := hw8035_1.1
            have tB8037 := hw8035_1.2.1
            refine lv_aload_n hx hb gX12_lineAt_9.2.2.2.2.1 rfl (lv_at1 hl) ?_
            refine gf_X12_32 hC rfl hK hP 3 rfl rfl gX12_lineAt_9.2.2.2.2.2.1 ?_
            refine lv_iload_n hx hb gX12_lineAt_9.2.2.2.2.2.2.1 rfl (lv_at2 hl) ?_
            refine lv_iconst (v := 3) hx hb gX12_lineAt_9.2.2.2.2.2.2.2.1 (by decide) ?_
            refine lv_iadd hx hb gX12_lineAt_9.2.2.2.2.2.2.2.2.1 ?_
            refine eqi (x1 := nI (ja + 3)) (nI_add ja 3) ?_
            refine lv_aload_n hx hb gX12_lineAt_9.2.2.2.2.2.2.2.2.2 rfl (lv_at1 hl) ?_
            refine lv_bipush (v := 7) hx hb gX12_lineAt_10.1 (by decide) ?_
            refine iV (wr := [(nc, iA G 100 fnc), (nl, iA G 54 (upd (upd (upd (upd (upd fnl ja 0) (ja + 1) (nI v_7968)) (ja + 2) (-9)) (ja + 3) (-9)) (ja + 2) (nI v_8010))), (nF, sA G 5 (FCT K))]) hC hK hl hP hD hS hA (m_number0 l G h0 7 nw nk mhasKept nt ktp nr mrowMany mroundOf mroundFrom mouts nm mfromHour mtoHour ns kf18031 kt18032 so18033 0 (nI kc) mlines nl nc nF np ntr nb mbestCost nso nsi nit nsh nsf nss nrc mtraced mdealer mnumber mwhose msize misParted fnt (hw8035_1) (htp) (by omega)) si_X12_271 [3, 4] [0, 1, 2] sm_3_4 fm_3_4 nd_3_4 sm_0_1_2 nd_0_1_2 dj_3_4__0_1_2 rfl rfl rfl rfl rfl (Nat.le_of_ble_eq_true rfl) rm_32_5_5 ⟨Nat.le_of_ble_eq_true rfl, Nat.le_of_ble_eq_true rfl⟩ gX12_lineAt_10.2.1 (fun r8038 => Ktu4 fun ff18040 kf18041 kt18042 so18043 => ?_)
            intro H locs hr8038 hP hD hS
            try dsimp only at hr8038
            refine Kpdr (ws := [(nc, iA G 100 fnc), (nl, iA G 54 (upd (upd (upd (upd (upd fnl ja 0) (ja + 1) (nI v_7968)) (ja + 2) (-9)) (ja + 3) (-9)) (ja + 2) (nI v_8010))), (nF, sA G 5 (FCT K)), (h0, oX12 nw nk mhasKept nt (nI ktp) nr mrowMany mroundOf mroundFrom mouts nm mfromHour mtoHour ns (nI kf18041) (nI kt18042) so18043 ff18040 0 (nI kc) mlines nl nc nF np ntr nb mbestCost nso nsi nit nsh nsf nss nrc mtraced mdealer mnumber mwhose msize misParted), (nt, iA G 240 fnt)]) hP hD (fun hP hD => ?_)
            obtain ⟨hr8038, w8044⟩ := hr8038
            rcases w8044 with rfl | ⟨rfl, ⟨v_8045, hv_8045, rfl⟩, hw8045_1, hw8045_2⟩
            · refine astN hC hK hP hD hS 1 (ws' := [(nc, iA G 100 fnc), (nl, iA G 54 (upd (upd (upd (upd (upd (upd fnl ja 0) (ja + 1) (nI v_7968)) (ja + 2) (-9)) (ja + 3) (-9)) (ja + 2) (nI v_8010)) (ja + 3) r8038)), (nF, sA G 5 (FCT K)), (h0, oX12 nw nk mhasKept nt (nI ktp) nr mrowMany mroundOf mroundFrom mouts nm mfromHour mtoHour ns (nI kf18041) (nI kt18042) so18043 1 0 (nI kc) mlines nl nc nF np ntr nb mbestCost nso nsi nit nsh nsf nss nrc mtraced mdealer mnumber mwhose msize misParted), (nt, iA G 240 fnt)]) rfl (k := (ja + 3)) (by omega) (Nat.le_of_ble_eq_true rfl) (rfl) gX12_lineAt_10.2.2.1 (fun H locs hP hD hS => ?_)
              refine lv_iload_n hx hb gX12_lineAt_10.2.2.2.1 rfl (lv_at0 hl) ?_
              refine lv_iconst (v := 2) hx hb gX12_lineAt_10.2.2.2.2.1 (by decide) ?_
              refine lv_icmp_ne (tgt := 221) hx hb gX12_lineAt_10.2.2.2.2.2.1 (by decide) (fun _ => ?_) (fun c9 => absurd c9 (by decide))
              refine lv_aload_n hx hb gX12_lineAt_12.1 rfl (lv_at1 hl) ?_
              refine gf_X12_32 hC rfl hK hP 3 rfl rfl gX12_lineAt_12.2.1 ?_
              refine lv_iload_n hx hb gX12_lineAt_12.2.2.1 rfl (lv_at2 hl) ?_
              refine lv_iconst (v := 4) hx hb gX12_lineAt_12.2.2.2.1 (by decide) ?_
              refine lv_iadd hx hb gX12_lineAt_12.2.2.2.2.1 ?_
              refine eqi (x1 := nI (ja + 4)) (nI_add ja 4) ?_
              refine lv_aload_n hx hb gX12_lineAt_12.2.2.2.2.2.1 rfl (lv_at1 hl) ?_
              refine gf_X12_240 hC rfl hK hP 3 rfl rfl gX12_lineAt_12.2.2.2.2.2.2.1 ?_
              refine astN hC hK hP hD hS 1 (ws' := [(nc, iA G 100 fnc), (nl, iA G 54 (upd (upd (upd (upd (upd (upd (upd fnl ja 0) (ja + 1) (nI v_7968)) (ja + 2) (-9)) (ja + 3) (-9)) (ja + 2) (nI v_8010)) (ja + 3) r8038) (ja + 4) (nI kc))), (nF, sA G 5 (FCT K)), (h0, oX12 nw nk mhasKept nt (nI ktp) nr mrowMany mroundOf mroundFrom mouts nm mfromHour mtoHour ns (nI kf18041) (nI kt18042) so18043 1 0 (nI kc) mlines nl nc nF np ntr nb mbestCost nso nsi nit nsh nsf nss nrc mtraced mdealer mnumber mwhose msize misParted), (nt, iA G 240 fnt)]) rfl (k := (ja + 4)) (by omega) (Nat.le_of_ble_eq_true rfl) (rfl) gX12_lineAt_12.2.2.2.2.2.2.2.1 (fun H locs hP hD hS => ?_)
              refine lv_iload_n hx hb gX12_lineAt_12.2.2.2.2.2.2.2.2.1 rfl (lv_at0 hl) ?_
              refine lv_iconst (v := 3) hx hb gX12_lineAt_12.2.2.2.2.2.2.2.2.2 (by decide) ?_
              refine lv_icmp_eq (tgt := 256) hx hb gX12_lineAt_13.1 (by decide) (fun c9 => absurd c9 (by decide)) (fun _ => ?_)
              refine lv_aload_n hx hb gX12_lineAt_13.2.1 rfl (lv_at1 hl) ?_
              refine va_ldcSw (index := 287) (tx := "if") hx hb hown (hO.2.2 0 (by decide)) gX12_lineAt_13.2.2.1 ?_
              refine pVo hO hS hC hK hl hP hD (m_isNameF l G K 0 h0 nw nk mhasKept nt (nI ktp) nr mrowMany mroundOf mroundFrom mouts nm mfromHour mtoHour ns (nI kf18041) (nI kt18042) so18043 0 (nI kc) mlines nl nc nF np ntr nb mbestCost nso nsi nit nsh nsf nss nrc mtraced mdealer mnumber mwhose msize misParted ((by decide))) si_X12_248 [3] sm_3 fm_3 nd_3 rfl rfl rfl rfl rfl (Nat.le_of_ble_eq_true rfl) rm_32_5_4 ⟨by first | exact Nat.le_of_ble_eq_true rfl | exact Nat.zero_le _, by first | exact Nat.le_of_ble_eq_true rfl | exact Nat.zero_le _⟩ gX12_lineAt_13.2.2.2.1 (Keqr ?_)
              refine lv_if_eq (tgt := 256) hx hb gX12_lineAt_13.2.2.2.2.1 (by decide) (fun _ => ?_) (fun c9 => absurd (by decide) c9)
              refine lv_aload_n hx hb gX12_lineAt_13.2.2.2.2.2.2.2.2.2 rfl (lv_at1 hl) ?_
              refine gf_X12_32 hC rfl hK hP 3 rfl rfl gX12_lineAt_14.1 ?_
              refine lv_iload_n hx hb gX12_lineAt_14.2.1 rfl (lv_at2 hl) ?_
              refine lv_iconst (v := 5) hx hb gX12_lineAt_14.2.2.1 (by decide) ?_
              refine lv_iadd hx hb gX12_lineAt_14.2.2.2.1 ?_
              refine eqi (x1 := nI (ja + 5)) (nI_add ja 5) ?_
              refine lv_aload_n hx hb gX12_lineAt_14.2.2.2.2.1 rfl (lv_at1 hl) ?_
              refine gf_X12_240 hC rfl hK hP 3 rfl rfl gX12_lineAt_14.2.2.2.2.2.1 ?_
              refine astN hC hK hP hD hS 1 (ws' := [(nc, iA G 100 fnc), (nl, iA G 54 (upd (upd (upd (upd (upd (upd (upd (upd fnl ja 0) (ja + 1) (nI v_7968)) (ja + 2) (-9)) (ja + 3) (-9)) (ja + 2) (nI v_8010)) (ja + 3) r8038) (ja + 4) (nI kc)) (ja + 5) (nI kc))), (nF, sA G 5 (FCT K)), (h0, oX12 nw nk mhasKept nt (nI ktp) nr mrowMany mroundOf mroundFrom mouts nm mfromHour mtoHour ns (nI kf18041) (nI kt18042) so18043 1 0 (nI kc) mlines nl nc nF np ntr nb mbestCost nso nsi nit nsh nsf nss nrc mtraced mdealer mnumber mwhose msize misParted), (nt, iA G 240 fnt)]) rfl (k := (ja + 5)) (by omega) (Nat.le_of_ble_eq_true rfl) (rfl) gX12_lineAt_14.2.2.2.2.2.2.1 (fun H locs hP hD hS => ?_)
              refine lv_aload_n hx hb gX12_lineAt_14.2.2.2.2.2.2.2.1 rfl (lv_at1 hl) ?_
              refine lv_aload_n hx hb gX12_lineAt_14.2.2.2.2.2.2.2.2.1 rfl (lv_at1 hl) ?_
              refine lv_bipush (v := 59) hx hb gX12_lineAt_14.2.2.2.2.2.2.2.2.2 (by decide) ?_
              refine pV hC hK hl hP hD (m_isSignF l G h0 59 nw nk mhasKept nt (nI ktp) nr mrowMany mroundOf mroundFrom mouts nm mfromHour mtoHour ns (nI kf18041) (nI kt18042) so18043 0 (nI kc) mlines nl nc nF np ntr nb mbestCost nso nsi nit nsh nsf nss nrc mtraced mdealer mnumber mwhose msize misParted) si_X12_262 [3] sm_3 fm_3 nd_3 rfl rfl rfl rfl rfl (Nat.le_of_ble_eq_true rfl) rm_32_1_2 ⟨by first | exact Nat.le_of_ble_eq_true rfl | exact Nat.zero_le _, by first | exact Nat.le_of_ble_eq_true rfl | exact Nat.zero_le _⟩ gX12_lineAt_15.1 (Keqr ?_)
              refine vV (wr := [(nc, iA G 100 fnc), (nl, iA G 54 (upd (upd (upd (upd (upd (upd (upd (upd fnl ja 0) (ja + 1) (nI v_7968)) (ja + 2) (-9)) (ja + 3) (-9)) (ja + 2) (nI v_8010)) (ja + 3) r8038) (ja + 4) (nI kc)) (ja + 5) (nI kc))), (nF, sA G 5 (FCT K)), (nt, iA G 240 fnt)]) hC hK hl hP hD hS hA (m_needF l G h0 0 nw nk mhasKept nt (nI ktp) nr mrowMany mroundOf mroundFrom mouts nm mfromHour mtoHour ns (nI kf18041) (nI kt18042) so18043 0 (nI kc) mlines nl nc nF np ntr nb mbestCost nso nsi nit nsh nsf nss nrc mtraced mdealer mnumber mwhose msize misParted) si_X12_236 [3] [0, 1, 2, 4] sm_3 fm_3 nd_3 sm_0_1_2_4 nd_0_1_2_4 dj_3__0_1_2_4 rfl rfl rfl rfl rfl (Nat.le_of_ble_eq_true rfl) rm_32_4_2 ⟨Nat.le_of_ble_eq_true rfl, Nat.le_of_ble_eq_true rfl⟩ gX12_lineAt_15.2.1 (fun u8051 H locs hr8050 hP hD hS => ?_)
              refine Kpdr (ws := [(nc, iA G 100 fnc), (nl, iA G 54 (upd (upd (upd (upd (upd (upd (upd (upd fnl ja 0) (ja + 1) (nI v_7968)) (ja + 2) (-9)) (ja + 3) (-9)) (ja + 2) (nI v_8010)) (ja + 3) r8038) (ja + 4) (nI kc)) (ja + 5) (nI kc))), (nF, sA G 5 (FCT K)), (nt, iA G 240 fnt), (h0, oX12 nw nk mhasKept nt (nI ktp) nr mrowMany mroundOf mroundFrom mouts nm mfromHour mtoHour ns (nI kf18041) (nI kt18042) so18043 1 0 (nI kc) mlines nl nc nF np ntr nb mbestCost nso nsi nit nsh nsf nss nrc mtraced mdealer mnumber mwhose msize misParted)]) hP hD (fun hP hD => ?_)
              refine toQ hQ0 ?_
              exact RV hC hP hD hS [4, 3, 0, 1, 2] (1, kf18041, kt18042, so18043, kc, fnc, upd (upd (upd (upd (upd (upd (upd (upd fnl ja 0) (ja + 1) (nI v_7968)) (ja + 2) (-9)) (ja + 3) (-9)) (ja + 2) (nI v_8010)) (ja + 3) r8038) (ja + 4) (nI kc)) (ja + 5) (nI kc)) rfl rfl (by decide) (Or.inl rfl) gX12_lineAt_15.2.2
            · have tA8053 := hw8045_2.1
              have tB8053 := hw8045_2.2.1
              refine astN hC hK hP hD hS 1 (ws' := [(nc, iA G 100 fnc), (nl, iA G 54 (upd (upd (upd (upd (upd (upd fnl ja 0) (ja + 1) (nI v_7968)) (ja + 2) (-9)) (ja + 3) (-9)) (ja + 2) (nI v_8010)) (ja + 3) (nI v_8045))), (nF, sA G 5 (FCT K)), (h0, oX12 nw nk mhasKept nt (nI ktp) nr mrowMany mroundOf mroundFrom mouts nm mfromHour mtoHour ns (nI kf18041) (nI kt18042) so18043 0 0 (nI kc) mlines nl nc nF np ntr nb mbestCost nso nsi nit nsh nsf nss nrc mtraced mdealer mnumber mwhose msize misParted), (nt, iA G 240 fnt)]) rfl (k := (ja + 3)) (by omega) (Nat.le_of_ble_eq_true rfl) (rfl) gX12_lineAt_10.2.2.1 (fun H locs hP hD hS => ?_)
              refine lv_iload_n hx hb gX12_lineAt_10.2.2.2.1 rfl (lv_at0 hl) ?_
              refine lv_iconst (v := 2) hx hb gX12_lineAt_10.2.2.2.2.1 (by decide) ?_
              refine lv_icmp_ne (tgt := 221) hx hb gX12_lineAt_10.2.2.2.2.2.1 (by decide) (fun _ => ?_) (fun c9 => absurd c9 (by decide))
              refine lv_aload_n hx hb gX12_lineAt_12.1 rfl (lv_at1 hl) ?_
              refine gf_X12_32 hC rfl hK hP 3 rfl rfl gX12_lineAt_12.2.1 ?_
              refine lv_iload_n hx hb gX12_lineAt_12.2.2.1 rfl (lv_at2 hl) ?_
              refine lv_iconst (v := 4) hx hb gX12_lineAt_12.2.2.2.1 (by decide) ?_
              refine lv_iadd hx hb gX12_lineAt_12.2.2.2.2.1 ?_
              refine eqi (x1 := nI (ja + 4)) (nI_add ja 4) ?_
              refine lv_aload_n hx hb gX12_lineAt_12.2.2.2.2.2.1 rfl (lv_at1 hl) ?_
              refine gf_X12_240 hC rfl hK hP 3 rfl rfl gX12_lineAt_12.2.2.2.2.2.2.1 ?_
              refine astN hC hK hP hD hS 1 (ws' := [(nc, iA G 100 fnc), (nl, iA G 54 (upd (upd (upd (upd (upd (upd (upd fnl ja 0) (ja + 1) (nI v_7968)) (ja + 2) (-9)) (ja + 3) (-9)) (ja + 2) (nI v_8010)) (ja + 3) (nI v_8045)) (ja + 4) (nI kc))), (nF, sA G 5 (FCT K)), (h0, oX12 nw nk mhasKept nt (nI ktp) nr mrowMany mroundOf mroundFrom mouts nm mfromHour mtoHour ns (nI kf18041) (nI kt18042) so18043 0 0 (nI kc) mlines nl nc nF np ntr nb mbestCost nso nsi nit nsh nsf nss nrc mtraced mdealer mnumber mwhose msize misParted), (nt, iA G 240 fnt)]) rfl (k := (ja + 4)) (by omega) (Nat.le_of_ble_eq_true rfl) (rfl) gX12_lineAt_12.2.2.2.2.2.2.2.1 (fun H locs hP hD hS => ?_)
              refine lv_iload_n hx hb gX12_lineAt_12.2.2.2.2.2.2.2.2.1 rfl (lv_at0 hl) ?_
              refine lv_iconst (v := 3) hx hb gX12_lineAt_12.2.2.2.2.2.2.2.2.2 (by decide) ?_
              refine lv_icmp_eq (tgt := 256) hx hb gX12_lineAt_13.1 (by decide) (fun c9 => absurd c9 (by decide)) (fun _ => ?_)
              refine lv_aload_n hx hb gX12_lineAt_13.2.1 rfl (lv_at1 hl) ?_
              refine va_ldcSw (index := 287) (tx := "if") hx hb hown (hO.2.2 0 (by decide)) gX12_lineAt_13.2.2.1 ?_
              refine pVo hO hS hC hK hl hP hD (m_isName0 l G K 0 h0 nw nk mhasKept nt ktp nr mrowMany mroundOf mroundFrom mouts nm mfromHour mtoHour ns kf18041 kt18042 so18043 0 (nI kc) mlines nl nc nF np ntr nb mbestCost nso nsi nit nsh nsf nss nrc mtraced mdealer mnumber mwhose msize misParted fnt ((by decide)) (hw8045_2) (htp)) si_X12_248 [3, 4] sm_3_4 fm_3_4 nd_3_4 rfl rfl rfl rfl rfl (Nat.le_of_ble_eq_true rfl) rm_32_5_4 ⟨by first | exact Nat.le_of_ble_eq_true rfl | exact Nat.zero_le _, by first | exact Nat.le_of_ble_eq_true rfl | exact Nat.zero_le _⟩ gX12_lineAt_13.2.2.2.1 (Kors (Keqa fun a8055 => ?_) (Keqr ?_))
              · refine lv_if_eq (tgt := 256) hx hb gX12_lineAt_13.2.2.2.2.1 (by decide) (fun c9 => absurd c9 (by decide)) (fun _ => ?_)
                refine lv_aload_n hx hb gX12_lineAt_13.2.2.2.2.2.1 rfl (lv_at1 hl) ?_
                have tI8056 : kt18042 = kf18041 + 2 := a8055.2
                refine vV (wr := [(nc, iA G 100 fnc), (nl, iA G 54 (upd (upd (upd (upd (upd (upd (upd fnl ja 0) (ja + 1) (nI v_7968)) (ja + 2) (-9)) (ja + 3) (-9)) (ja + 2) (nI v_8010)) (ja + 3) (nI v_8045)) (ja + 4) (nI kc))), (nF, sA G 5 (FCT K))]) hC hK hl hP hD hS hA (m_next l G h0 nw nk mhasKept nt ktp nr mrowMany mroundOf mroundFrom mouts nm mfromHour mtoHour ns (nI kf18041) kt18042 so18043 0 0 (nI kc) mlines nl nc nF np ntr nb mbestCost nso nsi nit nsh nsf nss nrc mtraced mdealer mnumber mwhose msize misParted fnt (by omega) (htp)) si_X12_233 [3, 4] [0, 1, 2] sm_3_4 fm_3_4 nd_3_4 sm_0_1_2 nd_0_1_2 dj_3_4__0_1_2 rfl rfl rfl rfl rfl (Nat.le_of_ble_eq_true rfl) rm_32_3_1 ⟨Nat.le_of_ble_eq_true rfl, Nat.le_of_ble_eq_true rfl⟩ gX12_lineAt_13.2.2.2.2.2.2.1 (Ktu3 fun kf18059 kt18060 so18061 => ?_)
                intro H locs hr8057 hP hD hS
                try dsimp only at hr8057
                refine Kpdr (ws := [(nc, iA G 100 fnc), (nl, iA G 54 (upd (upd (upd (upd (upd (upd (upd fnl ja 0) (ja + 1) (nI v_7968)) (ja + 2) (-9)) (ja + 3) (-9)) (ja + 2) (nI v_8010)) (ja + 3) (nI v_8045)) (ja + 4) (nI kc))), (nF, sA G 5 (FCT K)), (h0, oX12 nw nk mhasKept nt (nI ktp) nr mrowMany mroundOf mroundFrom mouts nm mfromHour mtoHour ns (nI kf18059) (nI kt18060) so18061 0 0 (nI kc) mlines nl nc nF np ntr nb mbestCost nso nsi nit nsh nsf nss nrc mtraced mdealer mnumber mwhose msize misParted), (nt, iA G 240 fnt)]) hP hD (fun hP hD => ?_)
                have hw8063_0 := hr8057.1
                have hw8063_1 := hr8057.2
                have tA8065 := hw8063_1.1
                have tB8065 := hw8063_1.2.1
                refine lv_aload_n hx hb gX12_lineAt_13.2.2.2.2.2.2.2.1 rfl (lv_at1 hl) ?_
                refine vVo (wr := [(nl, iA G 54 (upd (upd (upd (upd (upd (upd (upd fnl ja 0) (ja + 1) (nI v_7968)) (ja + 2) (-9)) (ja + 3) (-9)) (ja + 2) (nI v_8010)) (ja + 3) (nI v_8045)) (ja + 4) (nI kc)))]) hO hC hK hl hP hD hS hA (m_either l G K 4 h0 nw nk mhasKept nt ktp nr mrowMany mroundOf mroundFrom mouts nm mfromHour mtoHour ns kf18059 kt18060 so18061 0 kc mlines nl nc nF np ntr nb mbestCost nso nsi nit nsh nsf nss nrc mtraced mdealer mnumber mwhose msize misParted fnt fnc (hw8063_1) (by omega) (by omega) (by omega)) si_X12_268 [3, 4, 0, 2] [1] sm_3_4_0_2 fm_3_4_0_2 nd_3_4_0_2 sm_1 nd_1 dj_3_4_0_2__1 rfl rfl rfl rfl rfl (Nat.le_of_ble_eq_true rfl) ⟨Nat.le_of_ble_eq_true rfl, Nat.le_of_ble_eq_true rfl⟩ ⟨Nat.le_of_ble_eq_true rfl, Nat.le_of_ble_eq_true rfl⟩ gX12_lineAt_13.2.2.2.2.2.2.2.2.1 (Ktu6 fun ff18068 kf18069 kt18070 so18071 kc18072 gnc8073 => ?_)
                intro H locs hr8066 hP hD hS
                try dsimp only at hr8066
                refine Kpdr (ws := [(nl, iA G 54 (upd (upd (upd (upd (upd (upd (upd fnl ja 0) (ja + 1) (nI v_7968)) (ja + 2) (-9)) (ja + 3) (-9)) (ja + 2) (nI v_8010)) (ja + 3) (nI v_8045)) (ja + 4) (nI kc))), (h0, oX12 nw nk mhasKept nt (nI ktp) nr mrowMany mroundOf mroundFrom mouts nm mfromHour mtoHour ns (nI kf18069) (nI kt18070) so18071 ff18068 0 (nI kc18072) mlines nl nc nF np ntr nb mbestCost nso nsi nit nsh nsf nss nrc mtraced mdealer mnumber mwhose msize misParted), (nt, iA G 240 fnt), (nc, iA G 100 gnc8073), (nF, sA G 5 (FCT K))]) hP hD (fun hP hD => ?_)
                have w8074 := hr8066
                rcases w8074 with rfl | ⟨rfl, hw8075_0, hw8075_1⟩
                · refine lv_aload_n hx hb gX12_lineAt_13.2.2.2.2.2.2.2.2.2 rfl (lv_at1 hl) ?_
                  refine gf_X12_32 hC rfl hK hP 1 rfl rfl gX12_lineAt_14.1 ?_
                  refine lv_iload_n hx hb gX12_lineAt_14.2.1 rfl (lv_at2 hl) ?_
                  refine lv_iconst (v := 5) hx hb gX12_lineAt_14.2.2.1 (by decide) ?_
                  refine lv_iadd hx hb gX12_lineAt_14.2.2.2.1 ?_
                  refine eqi (x1 := nI (ja + 5)) (nI_add ja 5) ?_
                  refine lv_aload_n hx hb gX12_lineAt_14.2.2.2.2.1 rfl (lv_at1 hl) ?_
                  refine gf_X12_240 hC rfl hK hP 1 rfl rfl gX12_lineAt_14.2.2.2.2.2.1 ?_
                  refine astN hC hK hP hD hS 0 (ws' := [(nl, iA G 54 (upd (upd (upd (upd (upd (upd (upd (upd fnl ja 0) (ja + 1) (nI v_7968)) (ja + 2) (-9)) (ja + 3) (-9)) (ja + 2) (nI v_8010)) (ja + 3) (nI v_8045)) (ja + 4) (nI kc)) (ja + 5) (nI kc18072))), (h0, oX12 nw nk mhasKept nt (nI ktp) nr mrowMany mroundOf mroundFrom mouts nm mfromHour mtoHour ns (nI kf18069) (nI kt18070) so18071 1 0 (nI kc18072) mlines nl nc nF np ntr nb mbestCost nso nsi nit nsh nsf nss nrc mtraced mdealer mnumber mwhose msize misParted), (nt, iA G 240 fnt), (nc, iA G 100 gnc8073), (nF, sA G 5 (FCT K))]) rfl (k := (ja + 5)) (by omega) (Nat.le_of_ble_eq_true rfl) (rfl) gX12_lineAt_14.2.2.2.2.2.2.1 (fun H locs hP hD hS => ?_)
                  refine lv_aload_n hx hb gX12_lineAt_14.2.2.2.2.2.2.2.1 rfl (lv_at1 hl) ?_
                  refine lv_aload_n hx hb gX12_lineAt_14.2.2.2.2.2.2.2.2.1 rfl (lv_at1 hl) ?_
                  refine lv_bipush (v := 59) hx hb gX12_lineAt_14.2.2.2.2.2.2.2.2.2 (by decide) ?_
                  refine pV hC hK hl hP hD (m_isSignF l G h0 59 nw nk mhasKept nt (nI ktp) nr mrowMany mroundOf mroundFrom mouts nm mfromHour mtoHour ns (nI kf18069) (nI kt18070) so18071 0 (nI kc18072) mlines nl nc nF np ntr nb mbestCost nso nsi nit nsh nsf nss nrc mtraced mdealer mnumber mwhose msize misParted) si_X12_262 [1] sm_1 fm_1 nd_1 rfl rfl rfl rfl rfl (Nat.le_of_ble_eq_true rfl) rm_32_1_2 ⟨by first | exact Nat.le_of_ble_eq_true rfl | exact Nat.zero_le _, by first | exact Nat.le_of_ble_eq_true rfl | exact Nat.zero_le _⟩ gX12_lineAt_15.1 (Keqr ?_)
                  refine vV (wr := [(nl, iA G 54 (upd (upd (upd (upd (upd (upd (upd (upd fnl ja 0) (ja + 1) (nI v_7968)) (ja + 2) (-9)) (ja + 3) (-9)) (ja + 2) (nI v_8010)) (ja + 3) (nI v_8045)) (ja + 4) (nI kc)) (ja + 5) (nI kc18072))), (nt, iA G 240 fnt), (nc, iA G 100 gnc8073), (nF, sA G 5 (FCT K))]) hC hK hl hP hD hS hA (m_needF l G h0 0 nw nk mhasKept nt (nI ktp) nr mrowMany mroundOf mroundFrom mouts nm mfromHour mtoHour ns (nI kf18069) (nI kt18070) so18071 0 (nI kc18072) mlines nl nc nF np ntr nb mbestCost nso nsi nit nsh nsf nss nrc mtraced mdealer mnumber mwhose msize misParted) si_X12_236 [1] [0, 2, 3, 4] sm_1 fm_1 nd_1 sm_0_2_3_4 nd_0_2_3_4 dj_1__0_2_3_4 rfl rfl rfl rfl rfl (Nat.le_of_ble_eq_true rfl) rm_32_4_2 ⟨Nat.le_of_ble_eq_true rfl, Nat.le_of_ble_eq_true rfl⟩ gX12_lineAt_15.2.1 (fun u8079 H locs hr8078 hP hD hS => ?_)
                  refine Kpdr (ws := [(nl, iA G 54 (upd (upd (upd (upd (upd (upd (upd (upd fnl ja 0) (ja + 1) (nI v_7968)) (ja + 2) (-9)) (ja + 3) (-9)) (ja + 2) (nI v_8010)) (ja + 3) (nI v_8045)) (ja + 4) (nI kc)) (ja + 5) (nI kc18072))), (nt, iA G 240 fnt), (nc, iA G 100 gnc8073), (nF, sA G 5 (FCT K)), (h0, oX12 nw nk mhasKept nt (nI ktp) nr mrowMany mroundOf mroundFrom mouts nm mfromHour mtoHour ns (nI kf18069) (nI kt18070) so18071 1 0 (nI kc18072) mlines nl nc nF np ntr nb mbestCost nso nsi nit nsh nsf nss nrc mtraced mdealer mnumber mwhose msize misParted)]) hP hD (fun hP hD => ?_)
                  refine toQ hQ0 ?_
                  exact RV hC hP hD hS [4, 1, 2, 0, 3] (1, kf18069, kt18070, so18071, kc18072, gnc8073, upd (upd (upd (upd (upd (upd (upd (upd fnl ja 0) (ja + 1) (nI v_7968)) (ja + 2) (-9)) (ja + 3) (-9)) (ja + 2) (nI v_8010)) (ja + 3) (nI v_8045)) (ja + 4) (nI kc)) (ja + 5) (nI kc18072)) rfl rfl (by decide) (Or.inl rfl) gX12_lineAt_15.2.2
                · have tA8080 := hw8075_0.1
                  have tB8080 := hw8075_0.2.1
                  have tA8081 := hw8075_1.1
                  have tB8081 := hw8075_1.2.1
                  refine lv_aload_n hx hb gX12_lineAt_13.2.2.2.2.2.2.2.2.2 rfl (lv_at1 hl) ?_
                  refine gf_X12_32 hC rfl hK hP 1 rfl rfl gX12_lineAt_14.1 ?_
                  refine lv_iload_n hx hb gX12_lineAt_14.2.1 rfl (lv_at2 hl) ?_
                  refine lv_iconst (v := 5) hx hb gX12_lineAt_14.2.2.1 (by decide) ?_
                  refine lv_iadd hx hb gX12_lineAt_14.2.2.2.1 ?_
                  refine eqi (x1 := nI (ja + 5)) (nI_add ja 5) ?_
                  refine lv_aload_n hx hb gX12_lineAt_14.2.2.2.2.1 rfl (lv_at1 hl) ?_
                  refine gf_X12_240 hC rfl hK hP 1 rfl rfl gX12_lineAt_14.2.2.2.2.2.1 ?_
                  refine astN hC hK hP hD hS 0 (ws' := [(nl, iA G 54 (upd (upd (upd (upd (upd (upd (upd (upd fnl ja 0) (ja + 1) (nI v_7968)) (ja + 2) (-9)) (ja + 3) (-9)) (ja + 2) (nI v_8010)) (ja + 3) (nI v_8045)) (ja + 4) (nI kc)) (ja + 5) (nI kc18072))), (h0, oX12 nw nk mhasKept nt (nI ktp) nr mrowMany mroundOf mroundFrom mouts nm mfromHour mtoHour ns (nI kf18069) (nI kt18070) so18071 0 0 (nI kc18072) mlines nl nc nF np ntr nb mbestCost nso nsi nit nsh nsf nss nrc mtraced mdealer mnumber mwhose msize misParted), (nt, iA G 240 fnt), (nc, iA G 100 gnc8073), (nF, sA G 5 (FCT K))]) rfl (k := (ja + 5)) (by omega) (Nat.le_of_ble_eq_true rfl) (rfl) gX12_lineAt_14.2.2.2.2.2.2.1 (fun H locs hP hD hS => ?_)
                  refine lv_aload_n hx hb gX12_lineAt_14.2.2.2.2.2.2.2.1 rfl (lv_at1 hl) ?_
                  refine lv_aload_n hx hb gX12_lineAt_14.2.2.2.2.2.2.2.2.1 rfl (lv_at1 hl) ?_
                  refine lv_bipush (v := 59) hx hb gX12_lineAt_14.2.2.2.2.2.2.2.2.2 (by decide) ?_
                  refine pV hC hK hl hP hD (m_isSign0 l G h0 59 nw nk mhasKept nt ktp nr mrowMany mroundOf mroundFrom mouts nm mfromHour mtoHour ns kf18069 kt18070 so18071 0 (nI kc18072) mlines nl nc nF np ntr nb mbestCost nso nsi nit nsh nsf nss nrc mtraced mdealer mnumber mwhose msize misParted fnt (hw8075_0) (htp)) si_X12_262 [1, 2] sm_1_2 fm_1_2 nd_1_2 rfl rfl rfl rfl rfl (Nat.le_of_ble_eq_true rfl) rm_32_1_2 ⟨by first | exact Nat.le_of_ble_eq_true rfl | exact Nat.zero_le _, by first | exact Nat.le_of_ble_eq_true rfl | exact Nat.zero_le _⟩ gX12_lineAt_15.1 (Kors (Keqa fun a8083 => ?_) (Keqa fun a8083 => ?_))
                  · have tI8084 := a8083.1
                    refine vV (wr := [(nl, iA G 54 (upd (upd (upd (upd (upd (upd (upd (upd fnl ja 0) (ja + 1) (nI v_7968)) (ja + 2) (-9)) (ja + 3) (-9)) (ja + 2) (nI v_8010)) (ja + 3) (nI v_8045)) (ja + 4) (nI kc)) (ja + 5) (nI kc18072))), (nc, iA G 100 gnc8073), (nF, sA G 5 (FCT K))]) hC hK hl hP hD hS hA (m_need1 l G h0 nw nk mhasKept nt ktp nr mrowMany mroundOf mroundFrom mouts nm mfromHour mtoHour ns (nI kf18069) kt18070 so18071 0 (nI kc18072) mlines nl nc nF np ntr nb mbestCost nso nsi nit nsh nsf nss nrc mtraced mdealer mnumber mwhose msize misParted fnt (by omega) (htp)) si_X12_236 [1, 2] [0, 3, 4] sm_1_2 fm_1_2 nd_1_2 sm_0_3_4 nd_0_3_4 dj_1_2__0_3_4 rfl rfl rfl rfl rfl (Nat.le_of_ble_eq_true rfl) rm_32_4_2 ⟨Nat.le_of_ble_eq_true rfl, Nat.le_of_ble_eq_true rfl⟩ gX12_lineAt_15.2.1 (Ktu3 fun kf18087 kt18088 so18089 => ?_)
                    intro H locs hr8085 hP hD hS
                    try dsimp only at hr8085
                    refine Kpdr (ws := [(nl, iA G 54 (upd (upd (upd (upd (upd (upd (upd (upd fnl ja 0) (ja + 1) (nI v_7968)) (ja + 2) (-9)) (ja + 3) (-9)) (ja + 2) (nI v_8010)) (ja + 3) (nI v_8045)) (ja + 4) (nI kc)) (ja + 5) (nI kc18072))), (nc, iA G 100 gnc8073), (nF, sA G 5 (FCT K)), (h0, oX12 nw nk mhasKept nt (nI ktp) nr mrowMany mroundOf mroundFrom mouts nm mfromHour mtoHour ns (nI kf18087) (nI kt18088) so18089 0 0 (nI kc18072) mlines nl nc nF np ntr nb mbestCost nso nsi nit nsh nsf nss nrc mtraced mdealer mnumber mwhose msize misParted), (nt, iA G 240 fnt)]) hP hD (fun hP hD => ?_)
                    have hw8091_0 := hr8085.1
                    have hw8091_1 := hr8085.2
                    have tA8093 := hw8091_1.1
                    have tB8093 := hw8091_1.2.1
                    refine toQ hQ0 ?_
                    exact RV hC hP hD hS [3, 4, 1, 0, 2] (0, kf18087, kt18088, so18089, kc18072, gnc8073, upd (upd (upd (upd (upd (upd (upd (upd fnl ja 0) (ja + 1) (nI v_7968)) (ja + 2) (-9)) (ja + 3) (-9)) (ja + 2) (nI v_8010)) (ja + 3) (nI v_8045)) (ja + 4) (nI kc)) (ja + 5) (nI kc18072)) rfl rfl (by decide) (Or.inr ⟨rfl, hw8091_1, by (try dsimp only); omega, by (try dsimp only); omega, fun i hi => (upd_ne (by omega)).trans ((upd_ne (by omega)).trans ((upd_ne (by omega)).trans ((upd_ne (by omega)).trans ((upd_ne (by omega)).trans ((upd_ne (by omega)).trans ((upd_ne (by omega)).trans ((upd_ne (by omega)).trans (rfl)))))))), hw8075_1.2.2.1, ⟨0, by decide, (upd_ne (by omega)).trans ((upd_ne (by omega)).trans ((upd_ne (by omega)).trans ((upd_ne (by omega)).trans ((upd_ne (by omega)).trans ((upd_ne (by omega)).trans ((upd_ne (by omega)).trans (upd_eq (by omega)))))))), fun _ => ⟨⟨v_8010, by omega, (upd_ne (by omega)).trans ((upd_ne (by omega)).trans ((upd_ne (by omega)).trans (upd_eq (by omega))))⟩, v_8045, by omega, (upd_ne (by omega)).trans ((upd_ne (by omega)).trans (upd_eq (by omega)))⟩, fun h9 => absurd h9 (by decide)⟩, kc, kc18072, (upd_ne (by omega)).trans (upd_eq (by omega)), upd_eq (by omega), by (try dsimp only); omega, by (try dsimp only); omega, hw8075_1.2.2.2.wfc⟩) gX12_lineAt_15.2.2
                  · refine vV (wr := [(nl, iA G 54 (upd (upd (upd (upd (upd (upd (upd (upd fnl ja 0) (ja + 1) (nI v_7968)) (ja + 2) (-9)) (ja + 3) (-9)) (ja + 2) (nI v_8010)) (ja + 3) (nI v_8045)) (ja + 4) (nI kc)) (ja + 5) (nI kc18072))), (nt, iA G 240 fnt), (nc, iA G 100 gnc8073), (nF, sA G 5 (FCT K))]) hC hK hl hP hD hS hA (m_need0 l G h0 nw nk mhasKept nt (nI ktp) nr mrowMany mroundOf mroundFrom mouts nm mfromHour mtoHour ns (nI kf18069) (nI kt18070) so18071 0 (nI kc18072) mlines nl nc nF np ntr nb mbestCost nso nsi nit nsh nsf nss nrc mtraced mdealer mnumber mwhose msize misParted) si_X12_236 [1] [0, 2, 3, 4] sm_1 fm_1 nd_1 sm_0_2_3_4 nd_0_2_3_4 dj_1__0_2_3_4 rfl rfl rfl rfl rfl (Nat.le_of_ble_eq_true rfl) rm_32_4_2 ⟨Nat.le_of_ble_eq_true rfl, Nat.le_of_ble_eq_true rfl⟩ gX12_lineAt_15.2.1 (fun u8095 H locs hr8094 hP hD hS => ?_)
                    refine Kpdr (ws := [(nl, iA G 54 (upd (upd (upd (upd (upd (upd (upd (upd fnl ja 0) (ja + 1) (nI v_7968)) (ja + 2) (-9)) (ja + 3) (-9)) (ja + 2) (nI v_8010)) (ja + 3) (nI v_8045)) (ja + 4) (nI kc)) (ja + 5) (nI kc18072))), (nt, iA G 240 fnt), (nc, iA G 100 gnc8073), (nF, sA G 5 (FCT K)), (h0, oX12 nw nk mhasKept nt (nI ktp) nr mrowMany mroundOf mroundFrom mouts nm mfromHour mtoHour ns (nI kf18069) (nI kt18070) so18071 1 0 (nI kc18072) mlines nl nc nF np ntr nb mbestCost nso nsi nit nsh nsf nss nrc mtraced mdealer mnumber mwhose msize misParted)]) hP hD (fun hP hD => ?_)
                    refine toQ hQ0 ?_
                    exact RV hC hP hD hS [4, 1, 2, 0, 3] (1, kf18069, kt18070, so18071, kc18072, gnc8073, upd (upd (upd (upd (upd (upd (upd (upd fnl ja 0) (ja + 1) (nI v_7968)) (ja + 2) (-9)) (ja + 3) (-9)) (ja + 2) (nI v_8010)) (ja + 3) (nI v_8045)) (ja + 4) (nI kc)) (ja + 5) (nI kc18072)) rfl rfl (by decide) (Or.inl rfl) gX12_lineAt_15.2.2
              · refine lv_if_eq (tgt := 256) hx hb gX12_lineAt_13.2.2.2.2.1 (by decide) (fun _ => ?_) (fun c9 => absurd (by decide) c9)
                refine lv_aload_n hx hb gX12_lineAt_13.2.2.2.2.2.2.2.2.2 rfl (lv_at1 hl) ?_
                refine gf_X12_32 hC rfl hK hP 3 rfl rfl gX12_lineAt_14.1 ?_
                refine lv_iload_n hx hb gX12_lineAt_14.2.1 rfl (lv_at2 hl) ?_
                refine lv_iconst (v := 5) hx hb gX12_lineAt_14.2.2.1 (by decide) ?_
                refine lv_iadd hx hb gX12_lineAt_14.2.2.2.1 ?_
                refine eqi (x1 := nI (ja + 5)) (nI_add ja 5) ?_
                refine lv_aload_n hx hb gX12_lineAt_14.2.2.2.2.1 rfl (lv_at1 hl) ?_
                refine gf_X12_240 hC rfl hK hP 3 rfl rfl gX12_lineAt_14.2.2.2.2.2.1 ?_
                refine astN hC hK hP hD hS 1 (ws' := [(nc, iA G 100 fnc), (nl, iA G 54 (upd (upd (upd (upd (upd (upd (upd (upd fnl ja 0) (ja + 1) (nI v_7968)) (ja + 2) (-9)) (ja + 3) (-9)) (ja + 2) (nI v_8010)) (ja + 3) (nI v_8045)) (ja + 4) (nI kc)) (ja + 5) (nI kc))), (nF, sA G 5 (FCT K)), (h0, oX12 nw nk mhasKept nt (nI ktp) nr mrowMany mroundOf mroundFrom mouts nm mfromHour mtoHour ns (nI kf18041) (nI kt18042) so18043 0 0 (nI kc) mlines nl nc nF np ntr nb mbestCost nso nsi nit nsh nsf nss nrc mtraced mdealer mnumber mwhose msize misParted), (nt, iA G 240 fnt)]) rfl (k := (ja + 5)) (by omega) (Nat.le_of_ble_eq_true rfl) (rfl) gX12_lineAt_14.2.2.2.2.2.2.1 (fun H locs hP hD hS => ?_)
                refine lv_aload_n hx hb gX12_lineAt_14.2.2.2.2.2.2.2.1 rfl (lv_at1 hl) ?_
                refine lv_aload_n hx hb gX12_lineAt_14.2.2.2.2.2.2.2.2.1 rfl (lv_at1 hl) ?_
                refine lv_bipush (v := 59) hx hb gX12_lineAt_14.2.2.2.2.2.2.2.2.2 (by decide) ?_
                refine pV hC hK hl hP hD (m_isSign0 l G h0 59 nw nk mhasKept nt ktp nr mrowMany mroundOf mroundFrom mouts nm mfromHour mtoHour ns kf18041 kt18042 so18043 0 (nI kc) mlines nl nc nF np ntr nb mbestCost nso nsi nit nsh nsf nss nrc mtraced mdealer mnumber mwhose msize misParted fnt (hw8045_2) (htp)) si_X12_262 [3, 4] sm_3_4 fm_3_4 nd_3_4 rfl rfl rfl rfl rfl (Nat.le_of_ble_eq_true rfl) rm_32_1_2 ⟨by first | exact Nat.le_of_ble_eq_true rfl | exact Nat.zero_le _, by first | exact Nat.le_of_ble_eq_true rfl | exact Nat.zero_le _⟩ gX12_lineAt_15.1 (Kors (Keqa fun a8097 => ?_) (Keqa fun a8097 => ?_))
                · have tI8098 := a8097.1
                  refine vV (wr := [(nc, iA G 100 fnc), (nl, iA G 54 (upd (upd (upd (upd (upd (upd (upd (upd fnl ja 0) (ja + 1) (nI v_7968)) (ja + 2) (-9)) (ja + 3) (-9)) (ja + 2) (nI v_8010)) (ja + 3) (nI v_8045)) (ja + 4) (nI kc)) (ja + 5) (nI kc))), (nF, sA G 5 (FCT K))]) hC hK hl hP hD hS hA (m_need1 l G h0 nw nk mhasKept nt ktp nr mrowMany mroundOf mroundFrom mouts nm mfromHour mtoHour ns (nI kf18041) kt18042 so18043 0 (nI kc) mlines nl nc nF np ntr nb mbestCost nso nsi nit nsh nsf nss nrc mtraced mdealer mnumber mwhose msize misParted fnt (by omega) (htp)) si_X12_236 [3, 4] [0, 1, 2] sm_3_4 fm_3_4 nd_3_4 sm_0_1_2 nd_0_1_2 dj_3_4__0_1_2 rfl rfl rfl rfl rfl (Nat.le_of_ble_eq_true rfl) rm_32_4_2 ⟨Nat.le_of_ble_eq_true rfl, Nat.le_of_ble_eq_true rfl⟩ gX12_lineAt_15.2.1 (Ktu3 fun kf18101 kt18102 so18103 => ?_)
                  intro H locs hr8099 hP hD hS
                  try dsimp only at hr8099
                  refine Kpdr (ws := [(nc, iA G 100 fnc), (nl, iA G 54 (upd (upd (upd (upd (upd (upd (upd (upd fnl ja 0) (ja + 1) (nI v_7968)) (ja + 2) (-9)) (ja + 3) (-9)) (ja + 2) (nI v_8010)) (ja + 3) (nI v_8045)) (ja + 4) (nI kc)) (ja + 5) (nI kc))), (nF, sA G 5 (FCT K)), (h0, oX12 nw nk mhasKept nt (nI ktp) nr mrowMany mroundOf mroundFrom mouts nm mfromHour mtoHour ns (nI kf18101) (nI kt18102) so18103 0 0 (nI kc) mlines nl nc nF np ntr nb mbestCost nso nsi nit nsh nsf nss nrc mtraced mdealer mnumber mwhose msize misParted), (nt, iA G 240 fnt)]) hP hD (fun hP hD => ?_)
                  have hw8105_0 := hr8099.1
                  have hw8105_1 := hr8099.2
                  have tA8107 := hw8105_1.1
                  have tB8107 := hw8105_1.2.1
                  refine toQ hQ0 ?_
                  exact RV hC hP hD hS [3, 4, 0, 1, 2] (0, kf18101, kt18102, so18103, kc, fnc, upd (upd (upd (upd (upd (upd (upd (upd fnl ja 0) (ja + 1) (nI v_7968)) (ja + 2) (-9)) (ja + 3) (-9)) (ja + 2) (nI v_8010)) (ja + 3) (nI v_8045)) (ja + 4) (nI kc)) (ja + 5) (nI kc)) rfl rfl (by decide) (Or.inr ⟨rfl, hw8105_1, by (try dsimp only); omega, by (try dsimp only); omega, fun i hi => (upd_ne (by omega)).trans ((upd_ne (by omega)).trans ((upd_ne (by omega)).trans ((upd_ne (by omega)).trans ((upd_ne (by omega)).trans ((upd_ne (by omega)).trans ((upd_ne (by omega)).trans ((upd_ne (by omega)).trans (rfl)))))))), fun _ _ => rfl, ⟨0, by decide, (upd_ne (by omega)).trans ((upd_ne (by omega)).trans ((upd_ne (by omega)).trans ((upd_ne (by omega)).trans ((upd_ne (by omega)).trans ((upd_ne (by omega)).trans ((upd_ne (by omega)).trans (upd_eq (by omega)))))))), fun _ => ⟨⟨v_8010, by omega, (upd_ne (by omega)).trans ((upd_ne (by omega)).trans ((upd_ne (by omega)).trans (upd_eq (by omega))))⟩, v_8045, by omega, (upd_ne (by omega)).trans ((upd_ne (by omega)).trans (upd_eq (by omega)))⟩, fun h9 => absurd h9 (by decide)⟩, kc, kc, (upd_ne (by omega)).trans (upd_eq (by omega)), upd_eq (by omega), by (try dsimp only); omega, by (try dsimp only); omega, WFC.zero⟩) gX12_lineAt_15.2.2
                · refine vV (wr := [(nc, iA G 100 fnc), (nl, iA G 54 (upd (upd (upd (upd (upd (upd (upd (upd fnl ja 0) (ja + 1) (nI v_7968)) (ja + 2) (-9)) (ja + 3) (-9)) (ja + 2) (nI v_8010)) (ja + 3) (nI v_8045)) (ja + 4) (nI kc)) (ja + 5) (nI kc))), (nF, sA G 5 (FCT K)), (nt, iA G 240 fnt)]) hC hK hl hP hD hS hA (m_need0 l G h0 nw nk mhasKept nt (nI ktp) nr mrowMany mroundOf mroundFrom mouts nm mfromHour mtoHour ns (nI kf18041) (nI kt18042) so18043 0 (nI kc) mlines nl nc nF np ntr nb mbestCost nso nsi nit nsh nsf nss nrc mtraced mdealer mnumber mwhose msize misParted) si_X12_236 [3] [0, 1, 2, 4] sm_3 fm_3 nd_3 sm_0_1_2_4 nd_0_1_2_4 dj_3__0_1_2_4 rfl rfl rfl rfl rfl (Nat.le_of_ble_eq_true rfl) rm_32_4_2 ⟨Nat.le_of_ble_eq_true rfl, Nat.le_of_ble_eq_true rfl⟩ gX12_lineAt_15.2.1 (fun u8109 H locs hr8108 hP hD hS => ?_)
                  refine Kpdr (ws := [(nc, iA G 100 fnc), (nl, iA G 54 (upd (upd (upd (upd (upd (upd (upd (upd fnl ja 0) (ja + 1) (nI v_7968)) (ja + 2) (-9)) (ja + 3) (-9)) (ja + 2) (nI v_8010)) (ja + 3) (nI v_8045)) (ja + 4) (nI kc)) (ja + 5) (nI kc))), (nF, sA G 5 (FCT K)), (nt, iA G 240 fnt), (h0, oX12 nw nk mhasKept nt (nI ktp) nr mrowMany mroundOf mroundFrom mouts nm mfromHour mtoHour ns (nI kf18041) (nI kt18042) so18043 1 0 (nI kc) mlines nl nc nF np ntr nb mbestCost nso nsi nit nsh nsf nss nrc mtraced mdealer mnumber mwhose msize misParted)]) hP hD (fun hP hD => ?_)
                  refine toQ hQ0 ?_
                  exact RV hC hP hD hS [4, 3, 0, 1, 2] (1, kf18041, kt18042, so18043, kc, fnc, upd (upd (upd (upd (upd (upd (upd (upd fnl ja 0) (ja + 1) (nI v_7968)) (ja + 2) (-9)) (ja + 3) (-9)) (ja + 2) (nI v_8010)) (ja + 3) (nI v_8045)) (ja + 4) (nI kc)) (ja + 5) (nI kc)) rfl rfl (by decide) (Or.inl rfl) gX12_lineAt_15.2.2
          · refine vV (wr := [(nc, iA G 100 fnc), (nl, iA G 54 (upd (upd (upd (upd (upd fnl ja 0) (ja + 1) (nI v_7968)) (ja + 2) (-9)) (ja + 3) (-9)) (ja + 2) (nI v_8010))), (nF, sA G 5 (FCT K)), (nt, iA G 240 fnt)]) hC hK hl hP hD hS hA (m_need0 l G h0 nw nk mhasKept nt (nI ktp) nr mrowMany mroundOf mroundFrom mouts nm mfromHour mtoHour ns (nI kf18006) (nI kt18007) so18008 0 (nI kc) mlines nl nc nF np ntr nb mbestCost nso nsi nit nsh nsf nss nrc mtraced mdealer mnumber mwhose msize misParted) si_X12_236 [3] [0, 1, 2, 4] sm_3 fm_3 nd_3 sm_0_1_2_4 nd_0_1_2_4 dj_3__0_1_2_4 rfl rfl rfl rfl rfl (Nat.le_of_ble_eq_true rfl) rm_32_4_2 ⟨Nat.le_of_ble_eq_true rfl, Nat.le_of_ble_eq_true rfl⟩ gX12_lineAt_9.2.2.2.1 (fun u8111 H locs hr8110 hP hD hS => ?_)
            refine Kpdr (ws := [(nc, iA G 100 fnc), (nl, iA G 54 (upd (upd (upd (upd (upd fnl ja 0) (ja + 1) (nI v_7968)) (ja + 2) (-9)) (ja + 3) (-9)) (ja + 2) (nI v_8010))), (nF, sA G 5 (FCT K)), (nt, iA G 240 fnt), (h0, oX12 nw nk mhasKept nt (nI ktp) nr mrowMany mroundOf mroundFrom mouts nm mfromHour mtoHour ns (nI kf18006) (nI kt18007) so18008 1 0 (nI kc) mlines nl nc nF np ntr nb mbestCost nso nsi nit nsh nsf nss nrc mtraced mdealer mnumber mwhose msize misParted)]) hP hD (fun hP hD => ?_)
            refine lv_aload_n hx hb gX12_lineAt_9.2.2.2.2.1 rfl (lv_at1 hl) ?_
            refine gf_X12_32 hC rfl hK hP 4 rfl rfl gX12_lineAt_9.2.2.2.2.2.1 ?_
            refine lv_iload_n hx hb gX12_lineAt_9.2.2.2.2.2.2.1 rfl (lv_at2 hl) ?_
            refine lv_iconst (v := 3) hx hb gX12_lineAt_9.2.2.2.2.2.2.2.1 (by decide) ?_
            refine lv_iadd hx hb gX12_lineAt_9.2.2.2.2.2.2.2.2.1 ?_
            refine eqi (x1 := nI (ja + 3)) (nI_add ja 3) ?_
            refine lv_aload_n hx hb gX12_lineAt_9.2.2.2.2.2.2.2.2.2 rfl (lv_at1 hl) ?_
            refine lv_bipush (v := 7) hx hb gX12_lineAt_10.1 (by decide) ?_
            refine iV (wr := [(nc, iA G 100 fnc), (nl, iA G 54 (upd (upd (upd (upd (upd fnl ja 0) (ja + 1) (nI v_7968)) (ja + 2) (-9)) (ja + 3) (-9)) (ja + 2) (nI v_8010))), (nF, sA G 5 (FCT K)), (nt, iA G 240 fnt)]) hC hK hl hP hD hS hA (m_numberF l G h0 7 nw nk mhasKept nt (nI ktp) nr mrowMany mroundOf mroundFrom mouts nm mfromHour mtoHour ns (nI kf18006) (nI kt18007) so18008 0 (nI kc) mlines nl nc nF np ntr nb mbestCost nso nsi nit nsh nsf nss nrc mtraced mdealer mnumber mwhose msize misParted) si_X12_271 [4] [0, 1, 2, 3] sm_4 fm_4 nd_4 sm_0_1_2_3 nd_0_1_2_3 dj_4__0_1_2_3 rfl rfl rfl rfl rfl (Nat.le_of_ble_eq_true rfl) rm_32_5_5 ⟨Nat.le_of_ble_eq_true rfl, Nat.le_of_ble_eq_true rfl⟩ gX12_lineAt_10.2.1 (fun r8112 u8113 H locs hr8112 hP hD hS => ?_)
            refine Kpdr (ws := [(nc, iA G 100 fnc), (nl, iA G 54 (upd (upd (upd (upd (upd fnl ja 0) (ja + 1) (nI v_7968)) (ja + 2) (-9)) (ja + 3) (-9)) (ja + 2) (nI v_8010))), (nF, sA G 5 (FCT K)), (nt, iA G 240 fnt), (h0, oX12 nw nk mhasKept nt (nI ktp) nr mrowMany mroundOf mroundFrom mouts nm mfromHour mtoHour ns (nI kf18006) (nI kt18007) so18008 1 0 (nI kc) mlines nl nc nF np ntr nb mbestCost nso nsi nit nsh nsf nss nrc mtraced mdealer mnumber mwhose msize misParted)]) hP hD (fun hP hD => ?_)
            obtain rfl := hr8112
            refine astN hC hK hP hD hS 1 (ws' := [(nc, iA G 100 fnc), (nl, iA G 54 (upd (upd (upd (upd (upd (upd fnl ja 0) (ja + 1) (nI v_7968)) (ja + 2) (-9)) (ja + 3) (-9)) (ja + 2) (nI v_8010)) (ja + 3) 0)), (nF, sA G 5 (FCT K)), (nt, iA G 240 fnt), (h0, oX12 nw nk mhasKept nt (nI ktp) nr mrowMany mroundOf mroundFrom mouts nm mfromHour mtoHour ns (nI kf18006) (nI kt18007) so18008 1 0 (nI kc) mlines nl nc nF np ntr nb mbestCost nso nsi nit nsh nsf nss nrc mtraced mdealer mnumber mwhose msize misParted)]) rfl (k := (ja + 3)) (by omega) (Nat.le_of_ble_eq_true rfl) (rfl) gX12_lineAt_10.2.2.1 (fun H locs hP hD hS => ?_)
            refine lv_iload_n hx hb gX12_lineAt_10.2.2.2.1 rfl (lv_at0 hl) ?_
            refine lv_iconst (v := 2) hx hb gX12_lineAt_10.2.2.2.2.1 (by decide) ?_
            refine lv_icmp_ne (tgt := 221) hx hb gX12_lineAt_10.2.2.2.2.2.1 (by decide) (fun _ => ?_) (fun c9 => absurd c9 (by decide))
            refine lv_aload_n hx hb gX12_lineAt_12.1 rfl (lv_at1 hl) ?_
            refine gf_X12_32 hC rfl hK hP 4 rfl rfl gX12_lineAt_12.2.1 ?_
            refine lv_iload_n hx hb gX12_lineAt_12.2.2.1 rfl (lv_at2 hl) ?_
            refine lv_iconst (v := 4) hx hb gX12_lineAt_12.2.2.2.1 (by decide) ?_
            refine lv_iadd hx hb gX12_lineAt_12.2.2.2.2.1 ?_
            refine eqi (x1 := nI (ja + 4)) (nI_add ja 4) ?_
            refine lv_aload_n hx hb gX12_lineAt_12.2.2.2.2.2.1 rfl (lv_at1 hl) ?_
            refine gf_X12_240 hC rfl hK hP 4 rfl rfl gX12_lineAt_12.2.2.2.2.2.2.1 ?_
            refine astN hC hK hP hD hS 1 (ws' := [(nc, iA G 100 fnc), (nl, iA G 54 (upd (upd (upd (upd (upd (upd (upd fnl ja 0) (ja + 1) (nI v_7968)) (ja + 2) (-9)) (ja + 3) (-9)) (ja + 2) (nI v_8010)) (ja + 3) 0) (ja + 4) (nI kc))), (nF, sA G 5 (FCT K)), (nt, iA G 240 fnt), (h0, oX12 nw nk mhasKept nt (nI ktp) nr mrowMany mroundOf mroundFrom mouts nm mfromHour mtoHour ns (nI kf18006) (nI kt18007) so18008 1 0 (nI kc) mlines nl nc nF np ntr nb mbestCost nso nsi nit nsh nsf nss nrc mtraced mdealer mnumber mwhose msize misParted)]) rfl (k := (ja + 4)) (by omega) (Nat.le_of_ble_eq_true rfl) (rfl) gX12_lineAt_12.2.2.2.2.2.2.2.1 (fun H locs hP hD hS => ?_)
            refine lv_iload_n hx hb gX12_lineAt_12.2.2.2.2.2.2.2.2.1 rfl (lv_at0 hl) ?_
            refine lv_iconst (v := 3) hx hb gX12_lineAt_12.2.2.2.2.2.2.2.2.2 (by decide) ?_
            refine lv_icmp_eq (tgt := 256) hx hb gX12_lineAt_13.1 (by decide) (fun c9 => absurd c9 (by decide)) (fun _ => ?_)
            refine lv_aload_n hx hb gX12_lineAt_13.2.1 rfl (lv_at1 hl) ?_
            refine va_ldcSw (index := 287) (tx := "if") hx hb hown (hO.2.2 0 (by decide)) gX12_lineAt_13.2.2.1 ?_
            refine pVo hO hS hC hK hl hP hD (m_isNameF l G K 0 h0 nw nk mhasKept nt (nI ktp) nr mrowMany mroundOf mroundFrom mouts nm mfromHour mtoHour ns (nI kf18006) (nI kt18007) so18008 0 (nI kc) mlines nl nc nF np ntr nb mbestCost nso nsi nit nsh nsf nss nrc mtraced mdealer mnumber mwhose msize misParted ((by decide))) si_X12_248 [4] sm_4 fm_4 nd_4 rfl rfl rfl rfl rfl (Nat.le_of_ble_eq_true rfl) rm_32_5_4 ⟨by first | exact Nat.le_of_ble_eq_true rfl | exact Nat.zero_le _, by first | exact Nat.le_of_ble_eq_true rfl | exact Nat.zero_le _⟩ gX12_lineAt_13.2.2.2.1 (Keqr ?_)
            refine lv_if_eq (tgt := 256) hx hb gX12_lineAt_13.2.2.2.2.1 (by decide) (fun _ => ?_) (fun c9 => absurd (by decide) c9)
            refine lv_aload_n hx hb gX12_lineAt_13.2.2.2.2.2.2.2.2.2 rfl (lv_at1 hl) ?_
            refine gf_X12_32 hC rfl hK hP 4 rfl rfl gX12_lineAt_14.1 ?_
            refine lv_iload_n hx hb gX12_lineAt_14.2.1 rfl (lv_at2 hl) ?_
            refine lv_iconst (v := 5) hx hb gX12_lineAt_14.2.2.1 (by decide) ?_
            refine lv_iadd hx hb gX12_lineAt_14.2.2.2.1 ?_
            refine eqi (x1 := nI (ja + 5)) (nI_add ja 5) ?_
            refine lv_aload_n hx hb gX12_lineAt_14.2.2.2.2.1 rfl (lv_at1 hl) ?_
            refine gf_X12_240 hC rfl hK hP 4 rfl rfl gX12_lineAt_14.2.2.2.2.2.1 ?_
            refine astN hC hK hP hD hS 1 (ws' := [(nc, iA G 100 fnc), (nl, iA G 54 (upd (upd (upd (upd (upd (upd (upd (upd fnl ja 0) (ja + 1) (nI v_7968)) (ja + 2) (-9)) (ja + 3) (-9)) (ja + 2) (nI v_8010)) (ja + 3) 0) (ja + 4) (nI kc)) (ja + 5) (nI kc))), (nF, sA G 5 (FCT K)), (nt, iA G 240 fnt), (h0, oX12 nw nk mhasKept nt (nI ktp) nr mrowMany mroundOf mroundFrom mouts nm mfromHour mtoHour ns (nI kf18006) (nI kt18007) so18008 1 0 (nI kc) mlines nl nc nF np ntr nb mbestCost nso nsi nit nsh nsf nss nrc mtraced mdealer mnumber mwhose msize misParted)]) rfl (k := (ja + 5)) (by omega) (Nat.le_of_ble_eq_true rfl) (rfl) gX12_lineAt_14.2.2.2.2.2.2.1 (fun H locs hP hD hS => ?_)
            refine lv_aload_n hx hb gX12_lineAt_14.2.2.2.2.2.2.2.1 rfl (lv_at1 hl) ?_
            refine lv_aload_n hx hb gX12_lineAt_14.2.2.2.2.2.2.2.2.1 rfl (lv_at1 hl) ?_
            refine lv_bipush (v := 59) hx hb gX12_lineAt_14.2.2.2.2.2.2.2.2.2 (by decide) ?_
            refine pV hC hK hl hP hD (m_isSignF l G h0 59 nw nk mhasKept nt (nI ktp) nr mrowMany mroundOf mroundFrom mouts nm mfromHour mtoHour ns (nI kf18006) (nI kt18007) so18008 0 (nI kc) mlines nl nc nF np ntr nb mbestCost nso nsi nit nsh nsf nss nrc mtraced mdealer mnumber mwhose msize misParted) si_X12_262 [4] sm_4 fm_4 nd_4 rfl rfl rfl rfl rfl (Nat.le_of_ble_eq_true rfl) rm_32_1_2 ⟨by first | exact Nat.le_of_ble_eq_true rfl | exact Nat.zero_le _, by first | exact Nat.le_of_ble_eq_true rfl | exact Nat.zero_le _⟩ gX12_lineAt_15.1 (Keqr ?_)
            refine vV (wr := [(nc, iA G 100 fnc), (nl, iA G 54 (upd (upd (upd (upd (upd (upd (upd (upd fnl ja 0) (ja + 1) (nI v_7968)) (ja + 2) (-9)) (ja + 3) (-9)) (ja + 2) (nI v_8010)) (ja + 3) 0) (ja + 4) (nI kc)) (ja + 5) (nI kc))), (nF, sA G 5 (FCT K)), (nt, iA G 240 fnt)]) hC hK hl hP hD hS hA (m_needF l G h0 0 nw nk mhasKept nt (nI ktp) nr mrowMany mroundOf mroundFrom mouts nm mfromHour mtoHour ns (nI kf18006) (nI kt18007) so18008 0 (nI kc) mlines nl nc nF np ntr nb mbestCost nso nsi nit nsh nsf nss nrc mtraced mdealer mnumber mwhose msize misParted) si_X12_236 [4] [0, 1, 2, 3] sm_4 fm_4 nd_4 sm_0_1_2_3 nd_0_1_2_3 dj_4__0_1_2_3 rfl rfl rfl rfl rfl (Nat.le_of_ble_eq_true rfl) rm_32_4_2 ⟨Nat.le_of_ble_eq_true rfl, Nat.le_of_ble_eq_true rfl⟩ gX12_lineAt_15.2.1 (fun u8120 H locs hr8119 hP hD hS => ?_)
            refine Kpdr (ws := [(nc, iA G 100 fnc), (nl, iA G 54 (upd (upd (upd (upd (upd (upd (upd (upd fnl ja 0) (ja + 1) (nI v_7968)) (ja + 2) (-9)) (ja + 3) (-9)) (ja + 2) (nI v_8010)) (ja + 3) 0) (ja + 4) (nI kc)) (ja + 5) (nI kc))), (nF, sA G 5 (FCT K)), (nt, iA G 240 fnt), (h0, oX12 nw nk mhasKept nt (nI ktp) nr mrowMany mroundOf mroundFrom mouts nm mfromHour mtoHour ns (nI kf18006) (nI kt18007) so18008 1 0 (nI kc) mlines nl nc nF np ntr nb mbestCost nso nsi nit nsh nsf nss nrc mtraced mdealer mnumber mwhose msize misParted)]) hP hD (fun hP hD => ?_)
            refine toQ hQ0 ?_
            exact RV hC hP hD hS [4, 3, 0, 1, 2] (1, kf18006, kt18007, so18008, kc, fnc, upd (upd (upd (upd (upd (upd (upd (upd fnl ja 0) (ja + 1) (nI v_7968)) (ja + 2) (-9)) (ja + 3) (-9)) (ja + 2) (nI v_8010)) (ja + 3) 0) (ja + 4) (nI kc)) (ja + 5) (nI kc)) rfl rfl (by decide) (Or.inl rfl) gX12_lineAt_15.2.2
      · refine vV (wr := [(nc, iA G 100 fnc), (nl, iA G 54 (upd (upd (upd (upd fnl ja 0) (ja + 1) (nI v_7968)) (ja + 2) (-9)) (ja + 3) (-9))), (nF, sA G 5 (FCT K)), (nt, iA G 240 fnt)]) hC hK hl hP hD hS hA (m_need0 l G h0 nw nk mhasKept nt (nI ktp) nr mrowMany mroundOf mroundFrom mouts nm mfromHour mtoHour ns (nI kf17964) (nI kt17965) so17966 0 (nI kc) mlines nl nc nF np ntr nb mbestCost nso nsi nit nsh nsf nss nrc mtraced mdealer mnumber mwhose msize misParted) si_X12_236 [3] [0, 1, 2, 4] sm_3 fm_3 nd_3 sm_0_1_2_4 nd_0_1_2_4 dj_3__0_1_2_4 rfl rfl rfl rfl rfl (Nat.le_of_ble_eq_true rfl) rm_32_4_2 ⟨Nat.le_of_ble_eq_true rfl, Nat.le_of_ble_eq_true rfl⟩ gX12_lineAt_7.2.2.2.2.2.2.2.2.2 (fun u8122 H locs hr8121 hP hD hS => ?_)
        refine Kpdr (ws := [(nc, iA G 100 fnc), (nl, iA G 54 (upd (upd (upd (upd fnl ja 0) (ja + 1) (nI v_7968)) (ja + 2) (-9)) (ja + 3) (-9))), (nF, sA G 5 (FCT K)), (nt, iA G 240 fnt), (h0, oX12 nw nk mhasKept nt (nI ktp) nr mrowMany mroundOf mroundFrom mouts nm mfromHour mtoHour ns (nI kf17964) (nI kt17965) so17966 1 0 (nI kc) mlines nl nc nF np ntr nb mbestCost nso nsi nit nsh nsf nss nrc mtraced mdealer mnumber mwhose msize misParted)]) hP hD (fun hP hD => ?_)
        refine lv_aload_n hx hb gX12_lineAt_8.1 rfl (lv_at1 hl) ?_
        refine gf_X12_32 hC rfl hK hP 4 rfl rfl gX12_lineAt_8.2.1 ?_
        refine lv_iload_n hx hb gX12_lineAt_8.2.2.1 rfl (lv_at2 hl) ?_
        refine lv_iconst (v := 2) hx hb gX12_lineAt_8.2.2.2.1 (by decide) ?_
        refine lv_iadd hx hb gX12_lineAt_8.2.2.2.2.1 ?_
        refine eqi (x1 := nI (ja + 2)) (nI_add ja 2) ?_
        refine lv_aload_n hx hb gX12_lineAt_8.2.2.2.2.2.1 rfl (lv_at1 hl) ?_
        refine lv_bipush (v := 7) hx hb gX12_lineAt_8.2.2.2.2.2.2.1 (by decide) ?_
        refine iV (wr := [(nc, iA G 100 fnc), (nl, iA G 54 (upd (upd (upd (upd fnl ja 0) (ja + 1) (nI v_7968)) (ja + 2) (-9)) (ja + 3) (-9))), (nF, sA G 5 (FCT K)), (nt, iA G 240 fnt)]) hC hK hl hP hD hS hA (m_numberF l G h0 7 nw nk mhasKept nt (nI ktp) nr mrowMany mroundOf mroundFrom mouts nm mfromHour mtoHour ns (nI kf17964) (nI kt17965) so17966 0 (nI kc) mlines nl nc nF np ntr nb mbestCost nso nsi nit nsh nsf nss nrc mtraced mdealer mnumber mwhose msize misParted) si_X12_271 [4] [0, 1, 2, 3] sm_4 fm_4 nd_4 sm_0_1_2_3 nd_0_1_2_3 dj_4__0_1_2_3 rfl rfl rfl rfl rfl (Nat.le_of_ble_eq_true rfl) rm_32_5_5 ⟨Nat.le_of_ble_eq_true rfl, Nat.le_of_ble_eq_true rfl⟩ gX12_lineAt_8.2.2.2.2.2.2.2.1 (fun r8123 u8124 H locs hr8123 hP hD hS => ?_)
        refine Kpdr (ws := [(nc, iA G 100 fnc), (nl, iA G 54 (upd (upd (upd (upd fnl ja 0) (ja + 1) (nI v_7968)) (ja + 2) (-9)) (ja + 3) (-9))), (nF, sA G 5 (FCT K)), (nt, iA G 240 fnt), (h0, oX12 nw nk mhasKept nt (nI ktp) nr mrowMany mroundOf mroundFrom mouts nm mfromHour mtoHour ns (nI kf17964) (nI kt17965) so17966 1 0 (nI kc) mlines nl nc nF np ntr nb mbestCost nso nsi nit nsh nsf nss nrc mtraced mdealer mnumber mwhose msize misParted)]) hP hD (fun hP hD => ?_)
        obtain rfl := hr8123
        refine astN hC hK hP hD hS 1 (ws' := [(nc, iA G 100 fnc), (nl, iA G 54 (upd (upd (upd (upd (upd fnl ja 0) (ja + 1) (nI v_7968)) (ja + 2) (-9)) (ja + 3) (-9)) (ja + 2) 0)), (nF, sA G 5 (FCT K)), (nt, iA G 240 fnt), (h0, oX12 nw nk mhasKept nt (nI ktp) nr mrowMany mroundOf mroundFrom mouts nm mfromHour mtoHour ns (nI kf17964) (nI kt17965) so17966 1 0 (nI kc) mlines nl nc nF np ntr nb mbestCost nso nsi nit nsh nsf nss nrc mtraced mdealer mnumber mwhose msize misParted)]) rfl (k := (ja + 2)) (by omega) (Nat.le_of_ble_eq_true rfl) (rfl) gX12_lineAt_8.2.2.2.2.2.2.2.2.1 (fun H locs hP hD hS => ?_)
        refine lv_aload_n hx hb gX12_lineAt_8.2.2.2.2.2.2.2.2.2 rfl (lv_at1 hl) ?_
        refine lv_aload_n hx hb gX12_lineAt_9.1 rfl (lv_at1 hl) ?_
        refine va_ldcSw (index := 284) (tx := "from") hx hb hown (hO.2.2 6 (by decide)) gX12_lineAt_9.2.1 ?_
        refine pVo hO hS hC hK hl hP hD (m_isNameF l G K 6 h0 nw nk mhasKept nt (nI ktp) nr mrowMany mroundOf mroundFrom mouts nm mfromHour mtoHour ns (nI kf17964) (nI kt17965) so17966 0 (nI kc) mlines nl nc nF np ntr nb mbestCost nso nsi nit nsh nsf nss nrc mtraced mdealer mnumber mwhose msize misParted ((by decide))) si_X12_248 [4] sm_4 fm_4 nd_4 rfl rfl rfl rfl rfl (Nat.le_of_ble_eq_true rfl) rm_32_5_4 ⟨by first | exact Nat.le_of_ble_eq_true rfl | exact Nat.zero_le _, by first | exact Nat.le_of_ble_eq_true rfl | exact Nat.zero_le _⟩ gX12_lineAt_9.2.2.1 (Keqr ?_)
        refine vV (wr := [(nc, iA G 100 fnc), (nl, iA G 54 (upd (upd (upd (upd (upd fnl ja 0) (ja + 1) (nI v_7968)) (ja + 2) (-9)) (ja + 3) (-9)) (ja + 2) 0)), (nF, sA G 5 (FCT K)), (nt, iA G 240 fnt)]) hC hK hl hP hD hS hA (m_needF l G h0 0 nw nk mhasKept nt (nI ktp) nr mrowMany mroundOf mroundFrom mouts nm mfromHour mtoHour ns (nI kf17964) (nI kt17965) so17966 0 (nI kc) mlines nl nc nF np ntr nb mbestCost nso nsi nit nsh nsf nss nrc mtraced mdealer mnumber mwhose msize misParted) si_X12_236 [4] [0, 1, 2, 3] sm_4 fm_4 nd_4 sm_0_1_2_3 nd_0_1_2_3 dj_4__0_1_2_3 rfl rfl rfl rfl rfl (Nat.le_of_ble_eq_true rfl) rm_32_4_2 ⟨Nat.le_of_ble_eq_true rfl, Nat.le_of_ble_eq_true rfl⟩ gX12_lineAt_9.2.2.2.1 (fun u8129 H locs hr8128 hP hD hS => ?_)
        refine Kpdr (ws := [(nc, iA G 100 fnc), (nl, iA G 54 (upd (upd (upd (upd (upd fnl ja 0) (ja + 1) (nI v_7968)) (ja + 2) (-9)) (ja + 3) (-9)) (ja + 2) 0)), (nF, sA G 5 (FCT K)), (nt, iA G 240 fnt), (h0, oX12 nw nk mhasKept nt (nI ktp) nr mrowMany mroundOf mroundFrom mouts nm mfromHour mtoHour ns (nI kf17964) (nI kt17965) so17966 1 0 (nI kc) mlines nl nc nF np ntr nb mbestCost nso nsi nit nsh nsf nss nrc mtraced mdealer mnumber mwhose msize misParted)]) hP hD (fun hP hD => ?_)
        refine lv_aload_n hx hb gX12_lineAt_9.2.2.2.2.1 rfl (lv_at1 hl) ?_
        refine gf_X12_32 hC rfl hK hP 4 rfl rfl gX12_lineAt_9.2.2.2.2.2.1 ?_
        refine lv_iload_n hx hb gX12_lineAt_9.2.2.2.2.2.2.1 rfl (lv_at2 hl) ?_
        refine lv_iconst (v := 3) hx hb gX12_lineAt_9.2.2.2.2.2.2.2.1 (by decide) ?_
        refine lv_iadd hx hb gX12_lineAt_9.2.2.2.2.2.2.2.2.1 ?_
        refine eqi (x1 := nI (ja + 3)) (nI_add ja 3) ?_
        refine lv_aload_n hx hb gX12_lineAt_9.2.2.2.2.2.2.2.2.2 rfl (lv_at1 hl) ?_
        refine lv_bipush (v := 7) hx hb gX12_lineAt_10.1 (by decide) ?_
        refine iV (wr := [(nc, iA G 100 fnc), (nl, iA G 54 (upd (upd (upd (upd (upd fnl ja 0) (ja + 1) (nI v_7968)) (ja + 2) (-9)) (ja + 3) (-9)) (ja + 2) 0)), (nF, sA G 5 (FCT K)), (nt, iA G 240 fnt)]) hC hK hl hP hD hS hA (m_numberF l G h0 7 nw nk mhasKept nt (nI ktp) nr mrowMany mroundOf mroundFrom mouts nm mfromHour mtoHour ns (nI kf17964) (nI kt17965) so17966 0 (nI kc) mlines nl nc nF np ntr nb mbestCost nso nsi nit nsh nsf nss nrc mtraced mdealer mnumber mwhose msize misParted) si_X12_271 [4] [0, 1, 2, 3] sm_4 fm_4 nd_4 sm_0_1_2_3 nd_0_1_2_3 dj_4__0_1_2_3 rfl rfl rfl rfl rfl (Nat.le_of_ble_eq_true rfl) rm_32_5_5 ⟨Nat.le_of_ble_eq_true rfl, Nat.le_of_ble_eq_true rfl⟩ gX12_lineAt_10.2.1 (fun r8130 u8131 H locs hr8130 hP hD hS => ?_)
        refine Kpdr (ws := [(nc, iA G 100 fnc), (nl, iA G 54 (upd (upd (upd (upd (upd fnl ja 0) (ja + 1) (nI v_7968)) (ja + 2) (-9)) (ja + 3) (-9)) (ja + 2) 0)), (nF, sA G 5 (FCT K)), (nt, iA G 240 fnt), (h0, oX12 nw nk mhasKept nt (nI ktp) nr mrowMany mroundOf mroundFrom mouts nm mfromHour mtoHour ns (nI kf17964) (nI kt17965) so17966 1 0 (nI kc) mlines nl nc nF np ntr nb mbestCost nso nsi nit nsh nsf nss nrc mtraced mdealer mnumber mwhose msize misParted)]) hP hD (fun hP hD => ?_)
        obtain rfl := hr8130
        refine astN hC hK hP hD hS 1 (ws' := [(nc, iA G 100 fnc), (nl, iA G 54 (upd (upd (upd (upd (upd (upd fnl ja 0) (ja + 1) (nI v_7968)) (ja + 2) (-9)) (ja + 3) (-9)) (ja + 2) 0) (ja + 3) 0)), (nF, sA G 5 (FCT K)), (nt, iA G 240 fnt), (h0, oX12 nw nk mhasKept nt (nI ktp) nr mrowMany mroundOf mroundFrom mouts nm mfromHour mtoHour ns (nI kf17964) (nI kt17965) so17966 1 0 (nI kc) mlines nl nc nF np ntr nb mbestCost nso nsi nit nsh nsf nss nrc mtraced mdealer mnumber mwhose msize misParted)]) rfl (k := (ja + 3)) (by omega) (Nat.le_of_ble_eq_true rfl) (rfl) gX12_lineAt_10.2.2.1 (fun H locs hP hD hS => ?_)
        refine lv_iload_n hx hb gX12_lineAt_10.2.2.2.1 rfl (lv_at0 hl) ?_
        refine lv_iconst (v := 2) hx hb gX12_lineAt_10.2.2.2.2.1 (by decide) ?_
        refine lv_icmp_ne (tgt := 221) hx hb gX12_lineAt_10.2.2.2.2.2.1 (by decide) (fun _ => ?_) (fun c9 => absurd c9 (by decide))
        refine lv_aload_n hx hb gX12_lineAt_12.1 rfl (lv_at1 hl) ?_
        refine gf_X12_32 hC rfl hK hP 4 rfl rfl gX12_lineAt_12.2.1 ?_
        refine lv_iload_n hx hb gX12_lineAt_12.2.2.1 rfl (lv_at2 hl) ?_
        refine lv_iconst (v := 4) hx hb gX12_lineAt_12.2.2.2.1 (by decide) ?_
        refine lv_iadd hx hb gX12_lineAt_12.2.2.2.2.1 ?_
        refine eqi (x1 := nI (ja + 4)) (nI_add ja 4) ?_
        refine lv_aload_n hx hb gX12_lineAt_12.2.2.2.2.2.1 rfl (lv_at1 hl) ?_
        refine gf_X12_240 hC rfl hK hP 4 rfl rfl gX12_lineAt_12.2.2.2.2.2.2.1 ?_
        refine astN hC hK hP hD hS 1 (ws' := [(nc, iA G 100 fnc), (nl, iA G 54 (upd (upd (upd (upd (upd (upd (upd fnl ja 0) (ja + 1) (nI v_7968)) (ja + 2) (-9)) (ja + 3) (-9)) (ja + 2) 0) (ja + 3) 0) (ja + 4) (nI kc))), (nF, sA G 5 (FCT K)), (nt, iA G 240 fnt), (h0, oX12 nw nk mhasKept nt (nI ktp) nr mrowMany mroundOf mroundFrom mouts nm mfromHour mtoHour ns (nI kf17964) (nI kt17965) so17966 1 0 (nI kc) mlines nl nc nF np ntr nb mbestCost nso nsi nit nsh nsf nss nrc mtraced mdealer mnumber mwhose msize misParted)]) rfl (k := (ja + 4)) (by omega) (Nat.le_of_ble_eq_true rfl) (rfl) gX12_lineAt_12.2.2.2.2.2.2.2.1 (fun H locs hP hD hS => ?_)
        refine lv_iload_n hx hb gX12_lineAt_12.2.2.2.2.2.2.2.2.1 rfl (lv_at0 hl) ?_
        refine lv_iconst (v := 3) hx hb gX12_lineAt_12.2.2.2.2.2.2.2.2.2 (by decide) ?_
        refine lv_icmp_eq (tgt := 256) hx hb gX12_lineAt_13.1 (by decide) (fun c9 => absurd c9 (by decide)) (fun _ => ?_)
        refine lv_aload_n hx hb gX12_lineAt_13.2.1 rfl (lv_at1 hl) ?_
        refine va_ldcSw (index := 287) (tx := "if") hx hb hown (hO.2.2 0 (by decide)) gX12_lineAt_13.2.2.1 ?_
        refine pVo hO hS hC hK hl hP hD (m_isNameF l G K 0 h0 nw nk mhasKept nt (nI ktp) nr mrowMany mroundOf mroundFrom mouts nm mfromHour mtoHour ns (nI kf17964) (nI kt17965) so17966 0 (nI kc) mlines nl nc nF np ntr nb mbestCost nso nsi nit nsh nsf nss nrc mtraced mdealer mnumber mwhose msize misParted ((by decide))) si_X12_248 [4] sm_4 fm_4 nd_4 rfl rfl rfl rfl rfl (Nat.le_of_ble_eq_true rfl) rm_32_5_4 ⟨by first | exact Nat.le_of_ble_eq_true rfl | exact Nat.zero_le _, by first | exact Nat.le_of_ble_eq_true rfl | exact Nat.zero_le _⟩ gX12_lineAt_13.2.2.2.1 (Keqr ?_)
        refine lv_if_eq (tgt := 256) hx hb gX12_lineAt_13.2.2.2.2.1 (by decide) (fun _ => ?_) (fun c9 => absurd (by decide) c9)
        refine lv_aload_n hx hb gX12_lineAt_13.2.2.2.2.2.2.2.2.2 rfl (lv_at1 hl) ?_
        refine gf_X12_32 hC rfl hK hP 4 rfl rfl gX12_lineAt_14.1 ?_
        refine lv_iload_n hx hb gX12_lineAt_14.2.1 rfl (lv_at2 hl) ?_
        refine lv_iconst (v := 5) hx hb gX12_lineAt_14.2.2.1 (by decide) ?_
        refine lv_iadd hx hb gX12_lineAt_14.2.2.2.1 ?_
        refine eqi (x1 := nI (ja + 5)) (nI_add ja 5) ?_
        refine lv_aload_n hx hb gX12_lineAt_14.2.2.2.2.1 rfl (lv_at1 hl) ?_
        refine gf_X12_240 hC rfl hK hP 4 rfl rfl gX12_lineAt_14.2.2.2.2.2.1 ?_
        refine astN hC hK hP hD hS 1 (ws' := [(nc, iA G 100 fnc), (nl, iA G 54 (upd (upd (upd (upd (upd (upd (upd (upd fnl ja 0) (ja + 1) (nI v_7968)) (ja + 2) (-9)) (ja + 3) (-9)) (ja + 2) 0) (ja + 3) 0) (ja + 4) (nI kc)) (ja + 5) (nI kc))), (nF, sA G 5 (FCT K)), (nt, iA G 240 fnt), (h0, oX12 nw nk mhasKept nt (nI ktp) nr mrowMany mroundOf mroundFrom mouts nm mfromHour mtoHour ns (nI kf17964) (nI kt17965) so17966 1 0 (nI kc) mlines nl nc nF np ntr nb mbestCost nso nsi nit nsh nsf nss nrc mtraced mdealer mnumber mwhose msize misParted)]) rfl (k := (ja + 5)) (by omega) (Nat.le_of_ble_eq_true rfl) (rfl) gX12_lineAt_14.2.2.2.2.2.2.1 (fun H locs hP hD hS => ?_)
        refine lv_aload_n hx hb gX12_lineAt_14.2.2.2.2.2.2.2.1 rfl (lv_at1 hl) ?_
        refine lv_aload_n hx hb gX12_lineAt_14.2.2.2.2.2.2.2.2.1 rfl (lv_at1 hl) ?_
        refine lv_bipush (v := 59) hx hb gX12_lineAt_14.2.2.2.2.2.2.2.2.2 (by decide) ?_
        refine pV hC hK hl hP hD (m_isSignF l G h0 59 nw nk mhasKept nt (nI ktp) nr mrowMany mroundOf mroundFrom mouts nm mfromHour mtoHour ns (nI kf17964) (nI kt17965) so17966 0 (nI kc) mlines nl nc nF np ntr nb mbestCost nso nsi nit nsh nsf nss nrc mtraced mdealer mnumber mwhose msize misParted) si_X12_262 [4] sm_4 fm_4 nd_4 rfl rfl rfl rfl rfl (Nat.le_of_ble_eq_true rfl) rm_32_1_2 ⟨by first | exact Nat.le_of_ble_eq_true rfl | exact Nat.zero_le _, by first | exact Nat.le_of_ble_eq_true rfl | exact Nat.zero_le _⟩ gX12_lineAt_15.1 (Keqr ?_)
        refine vV (wr := [(nc, iA G 100 fnc), (nl, iA G 54 (upd (upd (upd (upd (upd (upd (upd (upd fnl ja 0) (ja + 1) (nI v_7968)) (ja + 2) (-9)) (ja + 3) (-9)) (ja + 2) 0) (ja + 3) 0) (ja + 4) (nI kc)) (ja + 5) (nI kc))), (nF, sA G 5 (FCT K)), (nt, iA G 240 fnt)]) hC hK hl hP hD hS hA (m_needF l G h0 0 nw nk mhasKept nt (nI ktp) nr mrowMany mroundOf mroundFrom mouts nm mfromHour mtoHour ns (nI kf17964) (nI kt17965) so17966 0 (nI kc) mlines nl nc nF np ntr nb mbestCost nso nsi nit nsh nsf nss nrc mtraced mdealer mnumber mwhose msize misParted) si_X12_236 [4] [0, 1, 2, 3] sm_4 fm_4 nd_4 sm_0_1_2_3 nd_0_1_2_3 dj_4__0_1_2_3 rfl rfl rfl rfl rfl (Nat.le_of_ble_eq_true rfl) rm_32_4_2 ⟨Nat.le_of_ble_eq_true rfl, Nat.le_of_ble_eq_true rfl⟩ gX12_lineAt_15.2.1 (fun u8138 H locs hr8137 hP hD hS => ?_)
        refine Kpdr (ws := [(nc, iA G 100 fnc), (nl, iA G 54 (upd (upd (upd (upd (upd (upd (upd (upd fnl ja 0) (ja + 1) (nI v_7968)) (ja + 2) (-9)) (ja + 3) (-9)) (ja + 2) 0) (ja + 3) 0) (ja + 4) (nI kc)) (ja + 5) (nI kc))), (nF, sA G 5 (FCT K)), (nt, iA G 240 fnt), (h0, oX12 nw nk mhasKept nt (nI ktp) nr mrowMany mroundOf mroundFrom mouts nm mfromHour mtoHour ns (nI kf17964) (nI kt17965) so17966 1 0 (nI kc) mlines nl nc nF np ntr nb mbestCost nso nsi nit nsh nsf nss nrc mtraced mdealer mnumber mwhose msize misParted)]) hP hD (fun hP hD => ?_)
        refine toQ hQ0 ?_
        exact RV hC hP hD hS [4, 3, 0, 1, 2] (1, kf17964, kt17965, so17966, kc, fnc, upd (upd (upd (upd (upd (upd (upd (upd fnl ja 0) (ja + 1) (nI v_7968)) (ja + 2) (-9)) (ja + 3) (-9)) (ja + 2) 0) (ja + 3) 0) (ja + 4) (nI kc)) (ja + 5) (nI kc)) rfl rfl (by decide) (Or.inl rfl) gX12_lineAt_15.2.2
  · refine lv_if_eq (tgt := 14) hx hb gX12_lineAt_0.2.2.2.1 (by decide) (fun _ => ?_) (fun c9 => absurd (by decide) c9)
    refine lv_aload_n hx hb gX12_lineAt_0.2.2.2.2.2.2.1 rfl (lv_at0 hl) ?_
    refine va_ldcSw (index := 276) (tx := "warn") hx hb hown (hO.2.2 2 (by decide)) gX12_lineAt_0.2.2.2.2.2.2.2.1 ?_
    refine pVo hO hS hC hK hl hP hD (m_isName0 l G K 2 h0 nw nk mhasKept nt ktp nr mrowMany mroundOf mroundFrom mouts nm mfromHour mtoHour ns kf kt so 0 (nI kc) mlines nl nc nF np ntr nb mbestCost nso nsi nit nsh nsf nss nrc mtraced mdealer mnumber mwhose msize misParted fnt ((by decide)) (hT) (htp)) si_X12_248 [0, 1] sm_0_1 fm_0_1 nd_0_1 rfl rfl rfl rfl rfl (Nat.le_of_ble_eq_true rfl) rm_32_5_4 ⟨by first | exact Nat.le_of_ble_eq_true rfl | exact Nat.zero_le _, by first | exact Nat.le_of_ble_eq_true rfl | exact Nat.zero_le _⟩ gX12_lineAt_0.2.2.2.2.2.2.2.2.1 (Kors (Keqa fun a8140 => ?_) (Keqr ?_))
    · refine lv_if_eq (tgt := 28) hx hb gX12_lineAt_0.2.2.2.2.2.2.2.2.2 (by decide) (fun c9 => absurd c9 (by decide)) (fun _ => ?_)
      refine lv_iconst (v := 1) hx hb gX12_lineAt_1.1 (by decide) ?_
      refine lv_goto (tgt := 57) hx hb gX12_lineAt_1.2.1 (by decide) ?_
      refine lv_istore_n (lv' := [(2, .int 1), (0, .ref h0), (1, .int (nI ja))]) hx hb gX12_lineAt_2.2.2.2.2.2.1 rfl hl (by decide) rfl (fun ls hl => ?_)
      refine lv_aload_n hx hb gX12_lineAt_2.2.2.2.2.2.2.1 rfl (lv_at1 hl) ?_
      refine lv_iload_n hx hb gX12_lineAt_2.2.2.2.2.2.2.2.1 rfl (lv_at0 hl) ?_
      refine lv_if_lt (tgt := 67) hx hb gX12_lineAt_2.2.2.2.2.2.2.2.2.1 (by decide) (fun c9 => absurd c9 (by decide)) (fun _ => ?_)
      refine lv_iconst (v := 1) hx hb gX12_lineAt_2.2.2.2.2.2.2.2.2.2 (by decide) ?_
      refine lv_goto (tgt := 68) hx hb gX12_lineAt_3.1 (by decide) ?_
      have tI8141 : kt = kf + 4 := a8140.2
      refine vV (wr := [(nc, iA G 100 fnc), (nl, iA G 54 fnl), (nF, sA G 5 (FCT K))]) hC hK hl hP hD hS hA (m_need1 l G h0 nw nk mhasKept nt ktp nr mrowMany mroundOf mroundFrom mouts nm mfromHour mtoHour ns (nI kf) kt so 0 (nI kc) mlines nl nc nF np ntr nb mbestCost nso nsi nit nsh nsf nss nrc mtraced mdealer mnumber mwhose msize misParted fnt (by omega) (htp)) si_X12_236 [0, 1] [2, 3, 4] sm_0_1 fm_0_1 nd_0_1 sm_2_3_4 nd_2_3_4 dj_0_1__2_3_4 rfl rfl rfl rfl rfl (Nat.le_of_ble_eq_true rfl) rm_32_4_2 ⟨Nat.le_of_ble_eq_true rfl, Nat.le_of_ble_eq_true rfl⟩ gX12_lineAt_3.2.2.1 (Ktu3 fun kf18144 kt18145 so18146 => ?_)
      intro H locs hr8142 hP hD hS
      try dsimp only at hr8142
      refine Kpdr (ws := [(nc, iA G 100 fnc), (nl, iA G 54 fnl), (nF, sA G 5 (FCT K)), (h0, oX12 nw nk mhasKept nt (nI ktp) nr mrowMany mroundOf mroundFrom mouts nm mfromHour mtoHour ns (nI kf18144) (nI kt18145) so18146 0 0 (nI kc) mlines nl nc nF np ntr nb mbestCost nso nsi nit nsh nsf nss nrc mtraced mdealer mnumber mwhose msize misParted), (nt, iA G 240 fnt)]) hP hD (fun hP hD => ?_)
      have hw8148_0 := hr8142.1
      have hw8148_1 := hr8142.2
      have tA8150 := hw8148_1.1
      have tB8150 := hw8148_1.2.1
      refine lv_aload_n hx hb gX12_lineAt_3.2.2.2.1 rfl (lv_at1 hl) ?_
      refine gf_X12_32 hC rfl hK hP 3 rfl rfl gX12_lineAt_3.2.2.2.2.1 ?_
      refine lv_iload_n hx hb gX12_lineAt_3.2.2.2.2.2.1 rfl (lv_at2 hl) ?_
      refine lv_iload_n hx hb gX12_lineAt_3.2.2.2.2.2.2.1 rfl (lv_at0 hl) ?_
      refine astN hC hK hP hD hS 1 (ws' := [(nc, iA G 100 fnc), (nl, iA G 54 (upd fnl ja 1)), (nF, sA G 5 (FCT K)), (h0, oX12 nw nk mhasKept nt (nI ktp) nr mrowMany mroundOf mroundFrom mouts nm mfromHour mtoHour ns (nI kf18144) (nI kt18145) so18146 0 0 (nI kc) mlines nl nc nF np ntr nb mbestCost nso nsi nit nsh nsf nss nrc mtraced mdealer mnumber mwhose msize misParted), (nt, iA G 240 fnt)]) rfl (k := ja) (by omega) (Nat.le_of_ble_eq_true rfl) (rfl) gX12_lineAt_3.2.2.2.2.2.2.2.1 (fun H locs hP hD hS => ?_)
      refine lv_aload_n hx hb gX12_lineAt_3.2.2.2.2.2.2.2.2.1 rfl (lv_at1 hl) ?_
      refine gf_X12_32 hC rfl hK hP 3 rfl rfl gX12_lineAt_3.2.2.2.2.2.2.2.2.2 ?_
      refine lv_iload_n hx hb gX12_lineAt_4.1 rfl (lv_at2 hl) ?_
      refine lv_iconst (v := 1) hx hb gX12_lineAt_4.2.1 (by decide) ?_
      refine lv_iadd hx hb gX12_lineAt_4.2.2.1 ?_
      refine eqi (x1 := nI (ja + 1)) (nI_add ja 1) ?_
      refine lv_aload_n hx hb gX12_lineAt_4.2.2.2.1 rfl (lv_at1 hl) ?_
      refine lv_iload_n hx hb gX12_lineAt_4.2.2.2.2.1 rfl (lv_at0 hl) ?_
      refine lv_if_eq (tgt := 95) hx hb gX12_lineAt_4.2.2.2.2.2.1 (by decide) (fun c9 => absurd c9 (by decide)) (fun _ => ?_)
      refine lv_iload_n hx hb gX12_lineAt_4.2.2.2.2.2.2.1 rfl (lv_at0 hl) ?_
      refine lv_iconst (v := 1) hx hb gX12_lineAt_4.2.2.2.2.2.2.2.1 (by decide) ?_
      refine lv_icmp_ne (tgt := 100) hx hb gX12_lineAt_4.2.2.2.2.2.2.2.2.1 (by decide) (fun c9 => absurd (by decide) c9) (fun _ => ?_)
      refine lv_bipush (v := 99) hx hb gX12_lineAt_4.2.2.2.2.2.2.2.2.2 (by decide) ?_
      refine lv_goto (tgt := 112) hx hb gX12_lineAt_5.1 (by decide) ?_
      refine iV (wr := [(nc, iA G 100 fnc), (nl, iA G 54 (upd fnl ja 1)), (nF, sA G 5 (FCT K))]) hC hK hl hP hD hS hA (m_number0 l G h0 99 nw nk mhasKept nt ktp nr mrowMany mroundOf mroundFrom mouts nm mfromHour mtoHour ns kf18144 kt18145 so18146 0 (nI kc) mlines nl nc nF np ntr nb mbestCost nso nsi nit nsh nsf nss nrc mtraced mdealer mnumber mwhose msize misParted fnt (hw8148_1) (htp) (by omega)) si_X12_271 [3, 4] [0, 1, 2] sm_3_4 fm_3_4 nd_3_4 sm_0_1_2 nd_0_1_2 dj_3_4__0_1_2 rfl rfl rfl rfl rfl (Nat.le_of_ble_eq_true rfl) rm_32_5_5 ⟨Nat.le_of_ble_eq_true rfl, Nat.le_of_ble_eq_true rfl⟩ gX12_lineAt_5.2.2.2.2.2.2.2.1 (fun r8151 => Ktu4 fun ff18153 kf18154 kt18155 so18156 => ?_)
      intro H locs hr8151 hP hD hS
      try dsimp only at hr8151
      refine Kpdr (ws := [(nc, iA G 100 fnc), (nl, iA G 54 (upd fnl ja 1)), (nF, sA G 5 (FCT K)), (h0, oX12 nw nk mhasKept nt (nI ktp) nr mrowMany mroundOf mroundFrom mouts nm mfromHour mtoHour ns (nI kf18154) (nI kt18155) so18156 ff18153 0 (nI kc) mlines nl nc nF np ntr nb mbestCost nso nsi nit nsh nsf nss nrc mtraced mdealer mnumber mwhose msize misParted), (nt, iA G 240 fnt)]) hP hD (fun hP hD => ?_)
      obtain ⟨hr8151, w8157⟩ := hr8151
      rcases w8157 with rfl | ⟨rfl, ⟨v_8158, hv_8158, rfl⟩, hw8158_1, hw8158_2⟩
      · refine astN hC hK hP hD hS 1 (ws' := [(nc, iA G 100 fnc), (nl, iA G 54 (upd (upd fnl ja 1) (ja + 1) r8151)), (nF, sA G 5 (FCT K)), (h0, oX12 nw nk mhasKept nt (nI ktp) nr mrowMany mroundOf mroundFrom mouts nm mfromHour mtoHour ns (nI kf18154) (nI kt18155) so18156 1 0 (nI kc) mlines nl nc nF np ntr nb mbestCost nso nsi nit nsh nsf nss nrc mtraced mdealer mnumber mwhose msize misParted), (nt, iA G 240 fnt)]) rfl (k := (ja + 1)) (by omega) (Nat.le_of_ble_eq_true rfl) (rfl) gX12_lineAt_5.2.2.2.2.2.2.2.2.1 (fun H locs hP hD hS => ?_)
        refine lv_aload_n hx hb gX12_lineAt_5.2.2.2.2.2.2.2.2.2 rfl (lv_at1 hl) ?_
        refine gf_X12_32 hC rfl hK hP 3 rfl rfl gX12_lineAt_6.1 ?_
        refine lv_iload_n hx hb gX12_lineAt_6.2.1 rfl (lv_at2 hl) ?_
        refine lv_iconst (v := 2) hx hb gX12_lineAt_6.2.2.1 (by decide) ?_
        refine lv_iadd hx hb gX12_lineAt_6.2.2.2.1 ?_
        refine eqi (x1 := nI (ja + 2)) (nI_add ja 2) ?_
        refine lv_bipush (v := (-9)) hx hb gX12_lineAt_6.2.2.2.2.1 (by decide) ?_
        refine astN hC hK hP hD hS 1 (ws' := [(nc, iA G 100 fnc), (nl, iA G 54 (upd (upd (upd fnl ja 1) (ja + 1) r8151) (ja + 2) (-9))), (nF, sA G 5 (FCT K)), (h0, oX12 nw nk mhasKept nt (nI ktp) nr mrowMany mroundOf mroundFrom mouts nm mfromHour mtoHour ns (nI kf18154) (nI kt18155) so18156 1 0 (nI kc) mlines nl nc nF np ntr nb mbestCost nso nsi nit nsh nsf nss nrc mtraced mdealer mnumber mwhose msize misParted), (nt, iA G 240 fnt)]) rfl (k := (ja + 2)) (by omega) (Nat.le_of_ble_eq_true rfl) (rfl) gX12_lineAt_6.2.2.2.2.2.1 (fun H locs hP hD hS => ?_)
        refine lv_aload_n hx hb gX12_lineAt_6.2.2.2.2.2.2.1 rfl (lv_at1 hl) ?_
        refine gf_X12_32 hC rfl hK hP 3 rfl rfl gX12_lineAt_6.2.2.2.2.2.2.2.1 ?_
        refine lv_iload_n hx hb gX12_lineAt_6.2.2.2.2.2.2.2.2.1 rfl (lv_at2 hl) ?_
        refine lv_iconst (v := 3) hx hb gX12_lineAt_6.2.2.2.2.2.2.2.2.2 (by decide) ?_
        refine lv_iadd hx hb gX12_lineAt_7.1 ?_
        refine eqi (x1 := nI (ja + 3)) (nI_add ja 3) ?_
        refine lv_bipush (v := (-9)) hx hb gX12_lineAt_7.2.1 (by decide) ?_
        refine astN hC hK hP hD hS 1 (ws' := [(nc, iA G 100 fnc), (nl, iA G 54 (upd (upd (upd (upd fnl ja 1) (ja + 1) r8151) (ja + 2) (-9)) (ja + 3) (-9))), (nF, sA G 5 (FCT K)), (h0, oX12 nw nk mhasKept nt (nI ktp) nr mrowMany mroundOf mroundFrom mouts nm mfromHour mtoHour ns (nI kf18154) (nI kt18155) so18156 1 0 (nI kc) mlines nl nc nF np ntr nb mbestCost nso nsi nit nsh nsf nss nrc mtraced mdealer mnumber mwhose msize misParted), (nt, iA G 240 fnt)]) rfl (k := (ja + 3)) (by omega) (Nat.le_of_ble_eq_true rfl) (rfl) gX12_lineAt_7.2.2.1 (fun H locs hP hD hS => ?_)
        refine lv_iload_n hx hb gX12_lineAt_7.2.2.2.1 rfl (lv_at0 hl) ?_
        refine lv_if_ne (tgt := 190) hx hb gX12_lineAt_7.2.2.2.2.1 (by decide) (fun _ => ?_) (fun c9 => absurd c9 (by decide))
        refine lv_iload_n hx hb gX12_lineAt_10.2.2.2.1 rfl (lv_at0 hl) ?_
        refine lv_iconst (v := 2) hx hb gX12_lineAt_10.2.2.2.2.1 (by decide) ?_
        refine lv_icmp_ne (tgt := 221) hx hb gX12_lineAt_10.2.2.2.2.2.1 (by decide) (fun _ => ?_) (fun c9 => absurd c9 (by decide))
        refine lv_aload_n hx hb gX12_lineAt_12.1 rfl (lv_at1 hl) ?_
        refine gf_X12_32 hC rfl hK hP 3 rfl rfl gX12_lineAt_12.2.1 ?_
        refine lv_iload_n hx hb gX12_lineAt_12.2.2.1 rfl (lv_at2 hl) ?_
        refine lv_iconst (v := 4) hx hb gX12_lineAt_12.2.2.2.1 (by decide) ?_
        refine lv_iadd hx hb gX12_lineAt_12.2.2.2.2.1 ?_
        refine eqi (x1 := nI (ja + 4)) (nI_add ja 4) ?_
        refine lv_aload_n hx hb gX12_lineAt_12.2.2.2.2.2.1 rfl (lv_at1 hl) ?_
        refine gf_X12_240 hC rfl hK hP 3 rfl rfl gX12_lineAt_12.2.2.2.2.2.2.1 ?_
        refine astN hC hK hP hD hS 1 (ws' := [(nc, iA G 100 fnc), (nl, iA G 54 (upd (upd (upd (upd (upd fnl ja 1) (ja + 1) r8151) (ja + 2) (-9)) (ja + 3) (-9)) (ja + 4) (nI kc))), (nF, sA G 5 (FCT K)), (h0, oX12 nw nk mhasKept nt (nI ktp) nr mrowMany mroundOf mroundFrom mouts nm mfromHour mtoHour ns (nI kf18154) (nI kt18155) so18156 1 0 (nI kc) mlines nl nc nF np ntr nb mbestCost nso nsi nit nsh nsf nss nrc mtraced mdealer mnumber mwhose msize misParted), (nt, iA G 240 fnt)]) rfl (k := (ja + 4)) (by omega) (Nat.le_of_ble_eq_true rfl) (rfl) gX12_lineAt_12.2.2.2.2.2.2.2.1 (fun H locs hP hD hS => ?_)
        refine lv_iload_n hx hb gX12_lineAt_12.2.2.2.2.2.2.2.2.1 rfl (lv_at0 hl) ?_
        refine lv_iconst (v := 3) hx hb gX12_lineAt_12.2.2.2.2.2.2.2.2.2 (by decide) ?_
        refine lv_icmp_eq (tgt := 256) hx hb gX12_lineAt_13.1 (by decide) (fun c9 => absurd c9 (by decide)) (fun _ => ?_)
        refine lv_aload_n hx hb gX12_lineAt_13.2.1 rfl (lv_at1 hl) ?_
        refine va_ldcSw (index := 287) (tx := "if") hx hb hown (hO.2.2 0 (by decide)) gX12_lineAt_13.2.2.1 ?_
        refine pVo hO hS hC hK hl hP hD (m_isNameF l G K 0 h0 nw nk mhasKept nt (nI ktp) nr mrowMany mroundOf mroundFrom mouts nm mfromHour mtoHour ns (nI kf18154) (nI kt18155) so18156 0 (nI kc) mlines nl nc nF np ntr nb mbestCost nso nsi nit nsh nsf nss nrc mtraced mdealer mnumber mwhose msize misParted ((by decide))) si_X12_248 [3] sm_3 fm_3 nd_3 rfl rfl rfl rfl rfl (Nat.le_of_ble_eq_true rfl) rm_32_5_4 ⟨by first | exact Nat.le_of_ble_eq_true rfl | exact Nat.zero_le _, by first | exact Nat.le_of_ble_eq_true rfl | exact Nat.zero_le _⟩ gX12_lineAt_13.2.2.2.1 (Keqr ?_)
        refine lv_if_eq (tgt := 256) hx hb gX12_lineAt_13.2.2.2.2.1 (by decide) (fun _ => ?_) (fun c9 => absurd (by decide) c9)
        refine lv_aload_n hx hb gX12_lineAt_13.2.2.2.2.2.2.2.2.2 rfl (lv_at1 hl) ?_
        refine gf_X12_32 hC rfl hK hP 3 rfl rfl gX12_lineAt_14.1 ?_
        refine lv_iload_n hx hb gX12_lineAt_14.2.1 rfl (lv_at2 hl) ?_
        refine lv_iconst (v := 5) hx hb gX12_lineAt_14.2.2.1 (by decide) ?_
        refine lv_iadd hx hb gX12_lineAt_14.2.2.2.1 ?_
        refine eqi (x1 := nI (ja + 5)) (nI_add ja 5) ?_
        refine lv_aload_n hx hb gX12_lineAt_14.2.2.2.2.1 rfl (lv_at1 hl) ?_
        refine gf_X12_240 hC rfl hK hP 3 rfl rfl gX12_lineAt_14.2.2.2.2.2.1 ?_
        refine astN hC hK hP hD hS 1 (ws' := [(nc, iA G 100 fnc), (nl, iA G 54 (upd (upd (upd (upd (upd (upd fnl ja 1) (ja + 1) r8151) (ja + 2) (-9)) (ja + 3) (-9)) (ja + 4) (nI kc)) (ja + 5) (nI kc))), (nF, sA G 5 (FCT K)), (h0, oX12 nw nk mhasKept nt (nI ktp) nr mrowMany mroundOf mroundFrom mouts nm mfromHour mtoHour ns (nI kf18154) (nI kt18155) so18156 1 0 (nI kc) mlines nl nc nF np ntr nb mbestCost nso nsi nit nsh nsf nss nrc mtraced mdealer mnumber mwhose msize misParted), (nt, iA G 240 fnt)]) rfl (k := (ja + 5)) (by omega) (Nat.le_of_ble_eq_true rfl) (rfl) gX12_lineAt_14.2.2.2.2.2.2.1 (fun H locs hP hD hS => ?_)
        refine lv_aload_n hx hb gX12_lineAt_14.2.2.2.2.2.2.2.1 rfl (lv_at1 hl) ?_
        refine lv_aload_n hx hb gX12_lineAt_14.2.2.2.2.2.2.2.2.1 rfl (lv_at1 hl) ?_
        refine lv_bipush (v := 59) hx hb gX12_lineAt_14.2.2.2.2.2.2.2.2.2 (by decide) ?_
        refine pV hC hK hl hP hD (m_isSignF l G h0 59 nw nk mhasKept nt (nI ktp) nr mrowMany mroundOf mroundFrom mouts nm mfromHour mtoHour ns (nI kf18154) (nI kt18155) so18156 0 (nI kc) mlines nl nc nF np ntr nb mbestCost nso nsi nit nsh nsf nss nrc mtraced mdealer mnumber mwhose msize misParted) si_X12_262 [3] sm_3 fm_3 nd_3 rfl rfl rfl rfl rfl (Nat.le_of_ble_eq_true rfl) rm_32_1_2 ⟨by first | exact Nat.le_of_ble_eq_true rfl | exact Nat.zero_le _, by first | exact Nat.le_of_ble_eq_true rfl | exact Nat.zero_le _⟩ gX12_lineAt_15.1 (Keqr ?_)
        refine vV (wr := [(nc, iA G 100 fnc), (nl, iA G 54 (upd (upd (upd (upd (upd (upd fnl ja 1) (ja + 1) r8151) (ja + 2) (-9)) (ja + 3) (-9)) (ja + 4) (nI kc)) (ja + 5) (nI kc))), (nF, sA G 5 (FCT K)), (nt, iA G 240 fnt)]) hC hK hl hP hD hS hA (m_needF l G h0 0 nw nk mhasKept nt (nI ktp) nr mrowMany mroundOf mroundFrom mouts nm mfromHour mtoHour ns (nI kf18154) (nI kt18155) so18156 0 (nI kc) mlines nl nc nF np ntr nb mbestCost nso nsi nit nsh nsf nss nrc mtraced mdealer mnumber mwhose msize misParted) si_X12_236 [3] [0, 1, 2, 4] sm_3 fm_3 nd_3 sm_0_1_2_4 nd_0_1_2_4 dj_3__0_1_2_4 rfl rfl rfl rfl rfl (Nat.le_of_ble_eq_true rfl) rm_32_4_2 ⟨Nat.le_of_ble_eq_true rfl, Nat.le_of_ble_eq_true rfl⟩ gX12_lineAt_15.2.1 (fun u8164 H locs hr8163 hP hD hS => ?_)
        refine Kpdr (ws := [(nc, iA G 100 fnc), (nl, iA G 54 (upd (upd (upd (upd (upd (upd fnl ja 1) (ja + 1) r8151) (ja + 2) (-9)) (ja + 3) (-9)) (ja + 4) (nI kc)) (ja + 5) (nI kc))), (nF, sA G 5 (FCT K)), (nt, iA G 240 fnt), (h0, oX12 nw nk mhasKept nt (nI ktp) nr mrowMany mroundOf mroundFrom mouts nm mfromHour mtoHour ns (nI kf18154) (nI kt18155) so18156 1 0 (nI kc) mlines nl nc nF np ntr nb mbestCost nso nsi nit nsh nsf nss nrc mtraced mdealer mnumber mwhose msize misParted)]) hP hD (fun hP hD => ?_)
        refine toQ hQ0 ?_
        exact RV hC hP hD hS [4, 3, 0, 1, 2] (1, kf18154, kt18155, so18156, kc, fnc, upd (upd (upd (upd (upd (upd fnl ja 1) (ja + 1) r8151) (ja + 2) (-9)) (ja + 3) (-9)) (ja + 4) (nI kc)) (ja + 5) (nI kc)) rfl rfl (by decide) (Or.inl rfl) gX12_lineAt_15.2.2
      · have tA8166 := hw8158_2.1
        have tB8166 := hw8158_2.2.1
        refine astN hC hK hP hD hS 1 (ws' := [(nc, iA G 100 fnc), (nl, iA G 54 (upd (upd fnl ja 1) (ja + 1) (nI v_8158))), (nF, sA G 5 (FCT K)), (h0, oX12 nw nk mhasKept nt (nI ktp) nr mrowMany mroundOf mroundFrom mouts nm mfromHour mtoHour ns (nI kf18154) (nI kt18155) so18156 0 0 (nI kc) mlines nl nc nF np ntr nb mbestCost nso nsi nit nsh nsf nss nrc mtraced mdealer mnumber mwhose msize misParted), (nt, iA G 240 fnt)]) rfl (k := (ja + 1)) (by omega) (Nat.le_of_ble_eq_true rfl) (rfl) gX12_lineAt_5.2.2.2.2.2.2.2.2.1 (fun H locs hP hD hS => ?_)
        refine lv_aload_n hx hb gX12_lineAt_5.2.2.2.2.2.2.2.2.2 rfl (lv_at1 hl) ?_
        refine gf_X12_32 hC rfl hK hP 3 rfl rfl gX12_lineAt_6.1 ?_
        refine lv_iload_n hx hb gX12_lineAt_6.2.1 rfl (lv_at2 hl) ?_
        refine lv_iconst (v := 2) hx hb gX12_lineAt_6.2.2.1 (by decide) ?_
        refine lv_iadd hx hb gX12_lineAt_6.2.2.2.1 ?_
        refine eqi (x1 := nI (ja + 2)) (nI_add ja 2) ?_
        refine lv_bipush (v := (-9)) hx hb gX12_lineAt_6.2.2.2.2.1 (by decide) ?_
        refine astN hC hK hP hD hS 1 (ws' := [(nc, iA G 100 fnc), (nl, iA G 54 (upd (upd (upd fnl ja 1) (ja + 1) (nI v_8158)) (ja + 2) (-9))), (nF, sA G 5 (FCT K)), (h0, oX12 nw nk mhasKept nt (nI ktp) nr mrowMany mroundOf mroundFrom mouts nm mfromHour mtoHour ns (nI kf18154) (nI kt18155) so18156 0 0 (nI kc) mlines nl nc nF np ntr nb mbestCost nso nsi nit nsh nsf nss nrc mtraced mdealer mnumber mwhose msize misParted), (nt, iA G 240 fnt)]) rfl (k := (ja + 2)) (by omega) (Nat.le_of_ble_eq_true rfl) (rfl) gX12_lineAt_6.2.2.2.2.2.1 (fun H locs hP hD hS => ?_)
        refine lv_aload_n hx hb gX12_lineAt_6.2.2.2.2.2.2.1 rfl (lv_at1 hl) ?_
        refine gf_X12_32 hC rfl hK hP 3 rfl rfl gX12_lineAt_6.2.2.2.2.2.2.2.1 ?_
        refine lv_iload_n hx hb gX12_lineAt_6.2.2.2.2.2.2.2.2.1 rfl (lv_at2 hl) ?_
        refine lv_iconst (v := 3) hx hb gX12_lineAt_6.2.2.2.2.2.2.2.2.2 (by decide) ?_
        refine lv_iadd hx hb gX12_lineAt_7.1 ?_
        refine eqi (x1 := nI (ja + 3)) (nI_add ja 3) ?_
        refine lv_bipush (v := (-9)) hx hb gX12_lineAt_7.2.1 (by decide) ?_
        refine astN hC hK hP hD hS 1 (ws' := [(nc, iA G 100 fnc), (nl, iA G 54 (upd (upd (upd (upd fnl ja 1) (ja + 1) (nI v_8158)) (ja + 2) (-9)) (ja + 3) (-9))), (nF, sA G 5 (FCT K)), (h0, oX12 nw nk mhasKept nt (nI ktp) nr mrowMany mroundOf mroundFrom mouts nm mfromHour mtoHour ns (nI kf18154) (nI kt18155) so18156 0 0 (nI kc) mlines nl nc nF np ntr nb mbestCost nso nsi nit nsh nsf nss nrc mtraced mdealer mnumber mwhose msize misParted), (nt, iA G 240 fnt)]) rfl (k := (ja + 3)) (by omega) (Nat.le_of_ble_eq_true rfl) (rfl) gX12_lineAt_7.2.2.1 (fun H locs hP hD hS => ?_)
        refine lv_iload_n hx hb gX12_lineAt_7.2.2.2.1 rfl (lv_at0 hl) ?_
        refine lv_if_ne (tgt := 190) hx hb gX12_lineAt_7.2.2.2.2.1 (by decide) (fun _ => ?_) (fun c9 => absurd c9 (by decide))
        refine lv_iload_n hx hb gX12_lineAt_10.2.2.2.1 rfl (lv_at0 hl) ?_
        refine lv_iconst (v := 2) hx hb gX12_lineAt_10.2.2.2.2.1 (by decide) ?_
        refine lv_icmp_ne (tgt := 221) hx hb gX12_lineAt_10.2.2.2.2.2.1 (by decide) (fun _ => ?_) (fun c9 => absurd c9 (by decide))
        refine lv_aload_n hx hb gX12_lineAt_12.1 rfl (lv_at1 hl) ?_
        refine gf_X12_32 hC rfl hK hP 3 rfl rfl gX12_lineAt_12.2.1 ?_
        refine lv_iload_n hx hb gX12_lineAt_12.2.2.1 rfl (lv_at2 hl) ?_
        refine lv_iconst (v := 4) hx hb gX12_lineAt_12.2.2.2.1 (by decide) ?_
        refine lv_iadd hx hb gX12_lineAt_12.2.2.2.2.1 ?_
        refine eqi (x1 := nI (ja + 4)) (nI_add ja 4) ?_
        refine lv_aload_n hx hb gX12_lineAt_12.2.2.2.2.2.1 rfl (lv_at1 hl) ?_
        refine gf_X12_240 hC rfl hK hP 3 rfl rfl gX12_lineAt_12.2.2.2.2.2.2.1 ?_
        refine astN hC hK hP hD hS 1 (ws' := [(nc, iA G 100 fnc), (nl, iA G 54 (upd (upd (upd (upd (upd fnl ja 1) (ja + 1) (nI v_8158)) (ja + 2) (-9)) (ja + 3) (-9)) (ja + 4) (nI kc))), (nF, sA G 5 (FCT K)), (h0, oX12 nw nk mhasKept nt (nI ktp) nr mrowMany mroundOf mroundFrom mouts nm mfromHour mtoHour ns (nI kf18154) (nI kt18155) so18156 0 0 (nI kc) mlines nl nc nF np ntr nb mbestCost nso nsi nit nsh nsf nss nrc mtraced mdealer mnumber mwhose msize misParted), (nt, iA G 240 fnt)]) rfl (k := (ja + 4)) (by omega) (Nat.le_of_ble_eq_true rfl) (rfl) gX12_lineAt_12.2.2.2.2.2.2.2.1 (fun H locs hP hD hS => ?_)
        refine lv_iload_n hx hb gX12_lineAt_12.2.2.2.2.2.2.2.2.1 rfl (lv_at0 hl) ?_
        refine lv_iconst (v := 3) hx hb gX12_lineAt_12.2.2.2.2.2.2.2.2.2 (by decide) ?_
        refine lv_icmp_eq (tgt := 256) hx hb gX12_lineAt_13.1 (by decide) (fun c9 => absurd c9 (by decide)) (fun _ => ?_)
        refine lv_aload_n hx hb gX12_lineAt_13.2.1 rfl (lv_at1 hl) ?_
        refine va_ldcSw (index := 287) (tx := "if") hx hb hown (hO.2.2 0 (by decide)) gX12_lineAt_13.2.2.1 ?_
        refine pVo hO hS hC hK hl hP hD (m_isName0 l G K 0 h0 nw nk mhasKept nt ktp nr mrowMany mroundOf mroundFrom mouts nm mfromHour mtoHour ns kf18154 kt18155 so18156 0 (nI kc) mlines nl nc nF np ntr nb mbestCost nso nsi nit nsh nsf nss nrc mtraced mdealer mnumber mwhose msize misParted fnt ((by decide)) (hw8158_2) (htp)) si_X12_248 [3, 4] sm_3_4 fm_3_4 nd_3_4 rfl rfl rfl rfl rfl (Nat.le_of_ble_eq_true rfl) rm_32_5_4 ⟨by first | exact Nat.le_of_ble_eq_true rfl | exact Nat.zero_le _, by first | exact Nat.le_of_ble_eq_true rfl | exact Nat.zero_le _⟩ gX12_lineAt_13.2.2.2.1 (Kors (Keqa fun a8168 => ?_) (Keqr ?_))
        · refine lv_if_eq (tgt := 256) hx hb gX12_lineAt_13.2.2.2.2.1 (by decide) (fun c9 => absurd c9 (by decide)) (fun _ => ?_)
          refine lv_aload_n hx hb gX12_lineAt_13.2.2.2.2.2.1 rfl (lv_at1 hl) ?_
          have tI8169 : kt18155 = kf18154 + 2 := a8168.2
          refine vV (wr := [(nc, iA G 100 fnc), (nl, iA G 54 (upd (upd (upd (upd (upd fnl ja 1) (ja + 1) (nI v_8158)) (ja + 2) (-9)) (ja + 3) (-9)) (ja + 4) (nI kc))), (nF, sA G 5 (FCT K))]) hC hK hl hP hD hS hA (m_next l G h0 nw nk mhasKept nt ktp nr mrowMany mroundOf mroundFrom mouts nm mfromHour mtoHour ns (nI kf18154) kt18155 so18156 0 0 (nI kc) mlines nl nc nF np ntr nb mbestCost nso nsi nit nsh nsf nss nrc mtraced mdealer mnumber mwhose msize misParted fnt (by omega) (htp)) si_X12_233 [3, 4] [0, 1, 2] sm_3_4 fm_3_4 nd_3_4 sm_0_1_2 nd_0_1_2 dj_3_4__0_1_2 rfl rfl rfl rfl rfl (Nat.le_of_ble_eq_true rfl) rm_32_3_1 ⟨Nat.le_of_ble_eq_true rfl, Nat.le_of_ble_eq_true rfl⟩ gX12_lineAt_13.2.2.2.2.2.2.1 (Ktu3 fun kf18172 kt18173 so18174 => ?_)
          intro H locs hr8170 hP hD hS
          try dsimp only at hr8170
          refine Kpdr (ws := [(nc, iA G 100 fnc), (nl, iA G 54 (upd (upd (upd (upd (upd fnl ja 1) (ja + 1) (nI v_8158)) (ja + 2) (-9)) (ja + 3) (-9)) (ja + 4) (nI kc))), (nF, sA G 5 (FCT K)), (h0, oX12 nw nk mhasKept nt (nI ktp) nr mrowMany mroundOf mroundFrom mouts nm mfromHour mtoHour ns (nI kf18172) (nI kt18173) so18174 0 0 (nI kc) mlines nl nc nF np ntr nb mbestCost nso nsi nit nsh nsf nss nrc mtraced mdealer mnumber mwhose msize misParted), (nt, iA G 240 fnt)]) hP hD (fun hP hD => ?_)
          have hw8176_0 := hr8170.1
          have hw8176_1 := hr8170.2
          have tA8178 := hw8176_1.1
          have tB8178 := hw8176_1.2.1
          refine lv_aload_n hx hb gX12_lineAt_13.2.2.2.2.2.2.2.1 rfl (lv_at1 hl) ?_
          refine vVo (wr := [(nl, iA G 54 (upd (upd (upd (upd (upd fnl ja 1) (ja + 1) (nI v_8158)) (ja + 2) (-9)) (ja + 3) (-9)) (ja + 4) (nI kc)))]) hO hC hK hl hP hD hS hA (m_either l G K 4 h0 nw nk mhasKept nt ktp nr mrowMany mroundOf mroundFrom mouts nm mfromHour mtoHour ns kf18172 kt18173 so18174 0 kc mlines nl nc nF np ntr nb mbestCost nso nsi nit nsh nsf nss nrc mtraced mdealer mnumber mwhose msize misParted fnt fnc (hw8176_1) (by omega) (by omega) (by omega)) si_X12_268 [3, 4, 0, 2] [1] sm_3_4_0_2 fm_3_4_0_2 nd_3_4_0_2 sm_1 nd_1 dj_3_4_0_2__1 rfl rfl rfl rfl rfl (Nat.le_of_ble_eq_true rfl) ⟨Nat.le_of_ble_eq_true rfl, Nat.le_of_ble_eq_true rfl⟩ ⟨Nat.le_of_ble_eq_true rfl, Nat.le_of_ble_eq_true rfl⟩ gX12_lineAt_13.2.2.2.2.2.2.2.2.1 (Ktu6 fun ff18181 kf18182 kt18183 so18184 kc18185 gnc8186 => ?_)
          intro H locs hr8179 hP hD hS
          try dsimp only at hr8179
          refine Kpdr (ws := [(nl, iA G 54 (upd (upd (upd (upd (upd fnl ja 1) (ja + 1) (nI v_8158)) (ja + 2) (-9)) (ja + 3) (-9)) (ja + 4) (nI kc))), (h0, oX12 nw nk mhasKept nt (nI ktp) nr mrowMany mroundOf mroundFrom mouts nm mfromHour mtoHour ns (nI kf18182) (nI kt18183) so18184 ff18181 0 (nI kc18185) mlines nl nc nF np ntr nb mbestCost nso nsi nit nsh nsf nss nrc mtraced mdealer mnumber mwhose msize misParted), (nt, iA G 240 fnt), (nc, iA G 100 gnc8186), (nF, sA G 5 (FCT K))]) hP hD (fun hP hD => ?_)
          have w8187 := hr8179
          rcases w8187 with rfl | ⟨rfl, hw8188_0, hw8188_1⟩
          · refine lv_aload_n hx hb gX12_lineAt_13.2.2.2.2.2.2.2.2.2 rfl (lv_at1 hl) ?_
            refine gf_X12_32 hC rfl hK hP 1 rfl rfl gX12_lineAt_14.1 ?_
            refine lv_iload_n hx hb gX12_lineAt_14.2.1 rfl (lv_at2 hl) ?_
            refine lv_iconst (v := 5) hx hb gX12_lineAt_14.2.2.1 (by decide) ?_
            refine lv_iadd hx hb gX12_lineAt_14.2.2.2.1 ?_
            refine eqi (x1 := nI (ja + 5)) (nI_add ja 5) ?_
            refine lv_aload_n hx hb gX12_lineAt_14.2.2.2.2.1 rfl (lv_at1 hl) ?_
            refine gf_X12_240 hC rfl hK hP 1 rfl rfl gX12_lineAt_14.2.2.2.2.2.1 ?_
            refine astN hC hK hP hD hS 0 (ws' := [(nl, iA G 54 (upd (upd (upd (upd (upd (upd fnl ja 1) (ja + 1) (nI v_8158)) (ja + 2) (-9)) (ja + 3) (-9)) (ja + 4) (nI kc)) (ja + 5) (nI kc18185))), (h0, oX12 nw nk mhasKept nt (nI ktp) nr mrowMany mroundOf mroundFrom mouts nm mfromHour mtoHour ns (nI kf18182) (nI kt18183) so18184 1 0 (nI kc18185) mlines nl nc nF np ntr nb mbestCost nso nsi nit nsh nsf nss nrc mtraced mdealer mnumber mwhose msize misParted), (nt, iA G 240 fnt), (nc, iA G 100 gnc8186), (nF, sA G 5 (FCT K))]) rfl (k := (ja + 5)) (by omega) (Nat.le_of_ble_eq_true rfl) (rfl) gX12_lineAt_14.2.2.2.2.2.2.1 (fun H locs hP hD hS => ?_)
            refine lv_aload_n hx hb gX12_lineAt_14.2.2.2.2.2.2.2.1 rfl (lv_at1 hl) ?_
            refine lv_aload_n hx hb gX12_lineAt_14.2.2.2.2.2.2.2.2.1 rfl (lv_at1 hl) ?_
            refine lv_bipush (v := 59) hx hb gX12_lineAt_14.2.2.2.2.2.2.2.2.2 (by decide) ?_
            refine pV hC hK hl hP hD (m_isSignF l G h0 59 nw nk mhasKept nt (nI ktp) nr mrowMany mroundOf mroundFrom mouts nm mfromHour mtoHour ns (nI kf18182) (nI kt18183) so18184 0 (nI kc18185) mlines nl nc nF np ntr nb mbestCost nso nsi nit nsh nsf nss nrc mtraced mdealer mnumber mwhose msize misParted) si_X12_262 [1] sm_1 fm_1 nd_1 rfl rfl rfl rfl rfl (Nat.le_of_ble_eq_true rfl) rm_32_1_2 ⟨by first | exact Nat.le_of_ble_eq_true rfl | exact Nat.zero_le _, by first | exact Nat.le_of_ble_eq_true rfl | exact Nat.zero_le _⟩ gX12_lineAt_15.1 (Keqr ?_)
            refine vV (wr := [(nl, iA G 54 (upd (upd (upd (upd (upd (upd fnl ja 1) (ja + 1) (nI v_8158)) (ja + 2) (-9)) (ja + 3) (-9)) (ja + 4) (nI kc)) (ja + 5) (nI kc18185))), (nt, iA G 240 fnt), (nc, iA G 100 gnc8186), (nF, sA G 5 (FCT K))]) hC hK hl hP hD hS hA (m_needF l G h0 0 nw nk mhasKept nt (nI ktp) nr mrowMany mroundOf mroundFrom mouts nm mfromHour mtoHour ns (nI kf18182) (nI kt18183) so18184 0 (nI kc18185) mlines nl nc nF np ntr nb mbestCost nso nsi nit nsh nsf nss nrc mtraced mdealer mnumber mwhose msize misParted) si_X12_236 [1] [0, 2, 3, 4] sm_1 fm_1 nd_1 sm_0_2_3_4 nd_0_2_3_4 dj_1__0_2_3_4 rfl rfl rfl rfl rfl (Nat.le_of_ble_eq_true rfl) rm_32_4_2 ⟨Nat.le_of_ble_eq_true rfl, Nat.le_of_ble_eq_true rfl⟩ gX12_lineAt_15.2.1 (fun u8192 H locs hr8191 hP hD hS => ?_)
            refine Kpdr (ws := [(nl, iA G 54 (upd (upd (upd (upd (upd (upd fnl ja 1) (ja + 1) (nI v_8158)) (ja + 2) (-9)) (ja + 3) (-9)) (ja + 4) (nI kc)) (ja + 5) (nI kc18185))), (nt, iA G 240 fnt), (nc, iA G 100 gnc8186), (nF, sA G 5 (FCT K)), (h0, oX12 nw nk mhasKept nt (nI ktp) nr mrowMany mroundOf mroundFrom mouts nm mfromHour mtoHour ns (nI kf18182) (nI kt18183) so18184 1 0 (nI kc18185) mlines nl nc nF np ntr nb mbestCost nso nsi nit nsh nsf nss nrc mtraced mdealer mnumber mwhose msize misParted)]) hP hD (fun hP hD => ?_)
            refine toQ hQ0 ?_
            exact RV hC hP hD hS [4, 1, 2, 0, 3] (1, kf18182, kt18183, so18184, kc18185, gnc8186, upd (upd (upd (upd (upd (upd fnl ja 1) (ja + 1) (nI v_8158)) (ja + 2) (-9)) (ja + 3) (-9)) (ja + 4) (nI kc)) (ja + 5) (nI kc18185)) rfl rfl (by decide) (Or.inl rfl) gX12_lineAt_15.2.2
          · have tA8193 := hw8188_0.1
            have tB8193 := hw8188_0.2.1
            have tA8194 := hw8188_1.1
            have tB8194 := hw8188_1.2.1
            refine lv_aload_n hx hb gX12_lineAt_13.2.2.2.2.2.2.2.2.2 rfl (lv_at1 hl) ?_
            refine gf_X12_32 hC rfl hK hP 1 rfl rfl gX12_lineAt_14.1 ?_
            refine lv_iload_n hx hb gX12_lineAt_14.2.1 rfl (lv_at2 hl) ?_
            refine lv_iconst (v := 5) hx hb gX12_lineAt_14.2.2.1 (by decide) ?_
            refine lv_iadd hx hb gX12_lineAt_14.2.2.2.1 ?_
            refine eqi (x1 := nI (ja + 5)) (nI_add ja 5) ?_
            refine lv_aload_n hx hb gX12_lineAt_14.2.2.2.2.1 rfl (lv_at1 hl) ?_
            refine gf_X12_240 hC rfl hK hP 1 rfl rfl gX12_lineAt_14.2.2.2.2.2.1 ?_
            refine astN hC hK hP hD hS 0 (ws' := [(nl, iA G 54 (upd (upd (upd (upd (upd (upd fnl ja 1) (ja + 1) (nI v_8158)) (ja + 2) (-9)) (ja + 3) (-9)) (ja + 4) (nI kc)) (ja + 5) (nI kc18185))), (h0, oX12 nw nk mhasKept nt (nI ktp) nr mrowMany mroundOf mroundFrom mouts nm mfromHour mtoHour ns (nI kf18182) (nI kt18183) so18184 0 0 (nI kc18185) mlines nl nc nF np ntr nb mbestCost nso nsi nit nsh nsf nss nrc mtraced mdealer mnumber mwhose msize misParted), (nt, iA G 240 fnt), (nc, iA G 100 gnc8186), (nF, sA G 5 (FCT K))]) rfl (k := (ja + 5)) (by omega) (Nat.le_of_ble_eq_true rfl) (rfl) gX12_lineAt_14.2.2.2.2.2.2.1 (fun H locs hP hD hS => ?_)
            refine lv_aload_n hx hb gX12_lineAt_14.2.2.2.2.2.2.2.1 rfl (lv_at1 hl) ?_
            refine lv_aload_n hx hb gX12_lineAt_14.2.2.2.2.2.2.2.2.1 rfl (lv_at1 hl) ?_
            refine lv_bipush (v := 59) hx hb gX12_lineAt_14.2.2.2.2.2.2.2.2.2 (by decide) ?_
            refine pV hC hK hl hP hD (m_isSign0 l G h0 59 nw nk mhasKept nt ktp nr mrowMany mroundOf mroundFrom mouts nm mfromHour mtoHour ns kf18182 kt18183 so18184 0 (nI kc18185) mlines nl nc nF np ntr nb mbestCost nso nsi nit nsh nsf nss nrc mtraced mdealer mnumber mwhose msize misParted fnt (hw8188_0) (htp)) si_X12_262 [1, 2] sm_1_2 fm_1_2 nd_1_2 rfl rfl rfl rfl rfl (Nat.le_of_ble_eq_true rfl) rm_32_1_2 ⟨by first | exact Nat.le_of_ble_eq_true rfl | exact Nat.zero_le _, by first | exact Nat.le_of_ble_eq_true rfl | exact Nat.zero_le _⟩ gX12_lineAt_15.1 (Kors (Keqa fun a8196 => ?_) (Keqa fun a8196 => ?_))
            · have tI8197 := a8196.1
              refine vV (wr := [(nl, iA G 54 (upd (upd (upd (upd (upd (upd fnl ja 1) (ja + 1) (nI v_8158)) (ja + 2) (-9)) (ja + 3) (-9)) (ja + 4) (nI kc)) (ja + 5) (nI kc18185))), (nc, iA G 100 gnc8186), (nF, sA G 5 (FCT K))]) hC hK hl hP hD hS hA (m_need1 l G h0 nw nk mhasKept nt ktp nr mrowMany mroundOf mroundFrom mouts nm mfromHour mtoHour ns (nI kf18182) kt18183 so18184 0 (nI kc18185) mlines nl nc nF np ntr nb mbestCost nso nsi nit nsh nsf nss nrc mtraced mdealer mnumber mwhose msize misParted fnt (by omega) (htp)) si_X12_236 [1, 2] [0, 3, 4] sm_1_2 fm_1_2 nd_1_2 sm_0_3_4 nd_0_3_4 dj_1_2__0_3_4 rfl rfl rfl rfl rfl (Nat.le_of_ble_eq_true rfl) rm_32_4_2 ⟨Nat.le_of_ble_eq_true rfl, Nat.le_of_ble_eq_true rfl⟩ gX12_lineAt_15.2.1 (Ktu3 fun kf18200 kt18201 so18202 => ?_)
              intro H locs hr8198 hP hD hS
              try dsimp only at hr8198
              refine Kpdr (ws := [(nl, iA G 54 (upd (upd (upd (upd (upd (upd fnl ja 1) (ja + 1) (nI v_8158)) (ja + 2) (-9)) (ja + 3) (-9)) (ja + 4) (nI kc)) (ja + 5) (nI kc18185))), (nc, iA G 100 gnc8186), (nF, sA G 5 (FCT K)), (h0, oX12 nw nk mhasKept nt (nI ktp) nr mrowMany mroundOf mroundFrom mouts nm mfromHour mtoHour ns (nI kf18200) (nI kt18201) so18202 0 0 (nI kc18185) mlines nl nc nF np ntr nb mbestCost nso nsi nit nsh nsf nss nrc mtraced mdealer mnumber mwhose msize misParted), (nt, iA G 240 fnt)]) hP hD (fun hP hD => ?_)
              have hw8204_0 := hr8198.1
              have hw8204_1 := hr8198.2
              have tA8206 := hw8204_1.1
              have tB8206 := hw8204_1.2.1
              refine toQ hQ0 ?_
              exact RV hC hP hD hS [3, 4, 1, 0, 2] (0, kf18200, kt18201, so18202, kc18185, gnc8186, upd (upd (upd (upd (upd (upd fnl ja 1) (ja + 1) (nI v_8158)) (ja + 2) (-9)) (ja + 3) (-9)) (ja + 4) (nI kc)) (ja + 5) (nI kc18185)) rfl rfl (by decide) (Or.inr ⟨rfl, hw8204_1, by (try dsimp only); omega, by (try dsimp only); omega, fun i hi => (upd_ne (by omega)).trans ((upd_ne (by omega)).trans ((upd_ne (by omega)).trans ((upd_ne (by omega)).trans ((upd_ne (by omega)).trans ((upd_ne (by omega)).trans (rfl)))))), hw8188_1.2.2.1, ⟨1, by decide, (upd_ne (by omega)).trans ((upd_ne (by omega)).trans ((upd_ne (by omega)).trans ((upd_ne (by omega)).trans ((upd_ne (by omega)).trans (upd_eq (by omega)))))), fun h9 => absurd h9 (by decide), fun h9 => absurd h9 (by decide)⟩, kc, kc18185, (upd_ne (by omega)).trans (upd_eq (by omega)), upd_eq (by omega), by (try dsimp only); omega, by (try dsimp only); omega, hw8188_1.2.2.2.wfc⟩) gX12_lineAt_15.2.2
            · refine vV (wr := [(nl, iA G 54 (upd (upd (upd (upd (upd (upd fnl ja 1) (ja + 1) (nI v_8158)) (ja + 2) (-9)) (ja + 3) (-9)) (ja + 4) (nI kc)) (ja + 5) (nI kc18185))), (nt, iA G 240 fnt), (nc, iA G 100 gnc8186), (nF, sA G 5 (FCT K))]) hC hK hl hP hD hS hA (m_need0 l G h0 nw nk mhasKept nt (nI ktp) nr mrowMany mroundOf mroundFrom mouts nm mfromHour mtoHour ns (nI kf18182) (nI kt18183) so18184 0 (nI kc18185) mlines nl nc nF np ntr nb mbestCost nso nsi nit nsh nsf nss nrc mtraced mdealer mnumber mwhose msize misParted) si_X12_236 [1] [0, 2, 3, 4] sm_1 fm_1 nd_1 sm_0_2_3_4 nd_0_2_3_4 dj_1__0_2_3_4 rfl rfl rfl rfl rfl (Nat.le_of_ble_eq_true rfl) rm_32_4_2 ⟨Nat.le_of_ble_eq_true rfl, Nat.le_of_ble_eq_true rfl⟩ gX12_lineAt_15.2.1 (fun u8208 H locs hr8207 hP hD hS => ?_)
              refine Kpdr (ws := [(nl, iA G 54 (upd (upd (upd (upd (upd (upd fnl ja 1) (ja + 1) (nI v_8158)) (ja + 2) (-9)) (ja + 3) (-9)) (ja + 4) (nI kc)) (ja + 5) (nI kc18185))), (nt, iA G 240 fnt), (nc, iA G 100 gnc8186), (nF, sA G 5 (FCT K)), (h0, oX12 nw nk mhasKept nt (nI ktp) nr mrowMany mroundOf mroundFrom mouts nm mfromHour mtoHour ns (nI kf18182) (nI kt18183) so18184 1 0 (nI kc18185) mlines nl nc nF np ntr nb mbestCost nso nsi nit nsh nsf nss nrc mtraced mdealer mnumber mwhose msize misParted)]) hP hD (fun hP hD => ?_)
              refine toQ hQ0 ?_
              exact RV hC hP hD hS [4, 1, 2, 0, 3] (1, kf18182, kt18183, so18184, kc18185, gnc8186, upd (upd (upd (upd (upd (upd fnl ja 1) (ja + 1) (nI v_8158)) (ja + 2) (-9)) (ja + 3) (-9)) (ja + 4) (nI kc)) (ja + 5) (nI kc18185)) rfl rfl (by decide) (Or.inl rfl) gX12_lineAt_15.2.2
        · refine lv_if_eq (tgt := 256) hx hb gX12_lineAt_13.2.2.2.2.1 (by decide) (fun _ => ?_) (fun c9 => absurd (by decide) c9)
          refine lv_aload_n hx hb gX12_lineAt_13.2.2.2.2.2.2.2.2.2 rfl (lv_at1 hl) ?_
          refine gf_X12_32 hC rfl hK hP 3 rfl rfl gX12_lineAt_14.1 ?_
          refine lv_iload_n hx hb gX12_lineAt_14.2.1 rfl (lv_at2 hl) ?_
          refine lv_iconst (v := 5) hx hb gX12_lineAt_14.2.2.1 (by decide) ?_
          refine lv_iadd hx hb gX12_lineAt_14.2.2.2.1 ?_
          refine eqi (x1 := nI (ja + 5)) (nI_add ja 5) ?_
          refine lv_aload_n hx hb gX12_lineAt_14.2.2.2.2.1 rfl (lv_at1 hl) ?_
          refine gf_X12_240 hC rfl hK hP 3 rfl rfl gX12_lineAt_14.2.2.2.2.2.1 ?_
          refine astN hC hK hP hD hS 1 (ws' := [(nc, iA G 100 fnc), (nl, iA G 54 (upd (upd (upd (upd (upd (upd fnl ja 1) (ja + 1) (nI v_8158)) (ja + 2) (-9)) (ja + 3) (-9)) (ja + 4) (nI kc)) (ja + 5) (nI kc))), (nF, sA G 5 (FCT K)), (h0, oX12 nw nk mhasKept nt (nI ktp) nr mrowMany mroundOf mroundFrom mouts nm mfromHour mtoHour ns (nI kf18154) (nI kt18155) so18156 0 0 (nI kc) mlines nl nc nF np ntr nb mbestCost nso nsi nit nsh nsf nss nrc mtraced mdealer mnumber mwhose msize misParted), (nt, iA G 240 fnt)]) rfl (k := (ja + 5)) (by omega) (Nat.le_of_ble_eq_true rfl) (rfl) gX12_lineAt_14.2.2.2.2.2.2.1 (fun H locs hP hD hS => ?_)
          refine lv_aload_n hx hb gX12_lineAt_14.2.2.2.2.2.2.2.1 rfl (lv_at1 hl) ?_
          refine lv_aload_n hx hb gX12_lineAt_14.2.2.2.2.2.2.2.2.1 rfl (lv_at1 hl) ?_
          refine lv_bipush (v := 59) hx hb gX12_lineAt_14.2.2.2.2.2.2.2.2.2 (by decide) ?_
          refine pV hC hK hl hP hD (m_isSign0 l G h0 59 nw nk mhasKept nt ktp nr mrowMany mroundOf mroundFrom mouts nm mfromHour mtoHour ns kf18154 kt18155 so18156 0 (nI kc) mlines nl nc nF np ntr nb mbestCost nso nsi nit nsh nsf nss nrc mtraced mdealer mnumber mwhose msize misParted fnt (hw8158_2) (htp)) si_X12_262 [3, 4] sm_3_4 fm_3_4 nd_3_4 rfl rfl rfl rfl rfl (Nat.le_of_ble_eq_true rfl) rm_32_1_2 ⟨by first | exact Nat.le_of_ble_eq_true rfl | exact Nat.zero_le _, by first | exact Nat.le_of_ble_eq_true rfl | exact Nat.zero_le _⟩ gX12_lineAt_15.1 (Kors (Keqa fun a8210 => ?_) (Keqa fun a8210 => ?_))
          · have tI8211 := a8210.1
            refine vV (wr := [(nc, iA G 100 fnc), (nl, iA G 54 (upd (upd (upd (upd (upd (upd fnl ja 1) (ja + 1) (nI v_8158)) (ja + 2) (-9)) (ja + 3) (-9)) (ja + 4) (nI kc)) (ja + 5) (nI kc))), (nF, sA G 5 (FCT K))]) hC hK hl hP hD hS hA (m_need1 l G h0 nw nk mhasKept nt ktp nr mrowMany mroundOf mroundFrom mouts nm mfromHour mtoHour ns (nI kf18154) kt18155 so18156 0 (nI kc) mlines nl nc nF np ntr nb mbestCost nso nsi nit nsh nsf nss nrc mtraced mdealer mnumber mwhose msize misParted fnt (by omega) (htp)) si_X12_236 [3, 4] [0, 1, 2] sm_3_4 fm_3_4 nd_3_4 sm_0_1_2 nd_0_1_2 dj_3_4__0_1_2 rfl rfl rfl rfl rfl (Nat.le_of_ble_eq_true rfl) rm_32_4_2 ⟨Nat.le_of_ble_eq_true rfl, Nat.le_of_ble_eq_true rfl⟩ gX12_lineAt_15.2.1 (Ktu3 fun kf18214 kt18215 so18216 => ?_)
            intro H locs hr8212 hP hD hS
            try dsimp only at hr8212
            refine Kpdr (ws := [(nc, iA G 100 fnc), (nl, iA G 54 (upd (upd (upd (upd (upd (upd fnl ja 1) (ja + 1) (nI v_8158)) (ja + 2) (-9)) (ja + 3) (-9)) (ja + 4) (nI kc)) (ja + 5) (nI kc))), (nF, sA G 5 (FCT K)), (h0, oX12 nw nk mhasKept nt (nI ktp) nr mrowMany mroundOf mroundFrom mouts nm mfromHour mtoHour ns (nI kf18214) (nI kt18215) so18216 0 0 (nI kc) mlines nl nc nF np ntr nb mbestCost nso nsi nit nsh nsf nss nrc mtraced mdealer mnumber mwhose msize misParted), (nt, iA G 240 fnt)]) hP hD (fun hP hD => ?_)
            have hw8218_0 := hr8212.1
            have hw8218_1 := hr8212.2
            have tA8220 := hw8218_1.1
            have tB8220 := hw8218_1.2.1
            refine toQ hQ0 ?_
            exact RV hC hP hD hS [3, 4, 0, 1, 2] (0, kf18214, kt18215, so18216, kc, fnc, upd (upd (upd (upd (upd (upd fnl ja 1) (ja + 1) (nI v_8158)) (ja + 2) (-9)) (ja + 3) (-9)) (ja + 4) (nI kc)) (ja + 5) (nI kc)) rfl rfl (by decide) (Or.inr ⟨rfl, hw8218_1, by (try dsimp only); omega, by (try dsimp only); omega, fun i hi => (upd_ne (by omega)).trans ((upd_ne (by omega)).trans ((upd_ne (by omega)).trans ((upd_ne (by omega)).trans ((upd_ne (by omega)).trans ((upd_ne (by omega)).trans (rfl)))))), fun _ _ => rfl, ⟨1, by decide, (upd_ne (by omega)).trans ((upd_ne (by omega)).trans ((upd_ne (by omega)).trans ((upd_ne (by omega)).trans ((upd_ne (by omega)).trans (upd_eq (by omega)))))), fun h9 => absurd h9 (by decide), fun h9 => absurd h9 (by decide)⟩, kc, kc, (upd_ne (by omega)).trans (upd_eq (by omega)), upd_eq (by omega), by (try dsimp only); omega, by (try dsimp only); omega, WFC.zero⟩) gX12_lineAt_15.2.2
          · refine vV (wr := [(nc, iA G 100 fnc), (nl, iA G 54 (upd (upd (upd (upd (upd (upd fnl ja 1) (ja + 1) (nI v_8158)) (ja + 2) (-9)) (ja + 3) (-9)) (ja + 4) (nI kc)) (ja + 5) (nI kc))), (nF, sA G 5 (FCT K)), (nt, iA G 240 fnt)]) hC hK hl hP hD hS hA (m_need0 l G h0 nw nk mhasKept nt (nI ktp) nr mrowMany mroundOf mroundFrom mouts nm mfromHour mtoHour ns (nI kf18154) (nI kt18155) so18156 0 (nI kc) mlines nl nc nF np ntr nb mbestCost nso nsi nit nsh nsf nss nrc mtraced mdealer mnumber mwhose msize misParted) si_X12_236 [3] [0, 1, 2, 4] sm_3 fm_3 nd_3 sm_0_1_2_4 nd_0_1_2_4 dj_3__0_1_2_4 rfl rfl rfl rfl rfl (Nat.le_of_ble_eq_true rfl) rm_32_4_2 ⟨Nat.le_of_ble_eq_true rfl, Nat.le_of_ble_eq_true rfl⟩ gX12_lineAt_15.2.1 (fun u8222 H locs hr8221 hP hD hS => ?_)
            refine Kpdr (ws := [(nc, iA G 100 fnc), (nl, iA G 54 (upd (upd (upd (upd (upd (upd fnl ja 1) (ja + 1) (nI v_8158)) (ja + 2) (-9)) (ja + 3) (-9)) (ja + 4) (nI kc)) (ja + 5) (nI kc))), (nF, sA G 5 (FCT K)), (nt, iA G 240 fnt), (h0, oX12 nw nk mhasKept nt (nI ktp) nr mrowMany mroundOf mroundFrom mouts nm mfromHour mtoHour ns (nI kf18154) (nI kt18155) so18156 1 0 (nI kc) mlines nl nc nF np ntr nb mbestCost nso nsi nit nsh nsf nss nrc mtraced mdealer mnumber mwhose msize misParted)]) hP hD (fun hP hD => ?_)
            refine toQ hQ0 ?_
            exact RV hC hP hD hS [4, 3, 0, 1, 2] (1, kf18154, kt18155, so18156, kc, fnc, upd (upd (upd (upd (upd (upd fnl ja 1) (ja + 1) (nI v_8158)) (ja + 2) (-9)) (ja + 3) (-9)) (ja + 4) (nI kc)) (ja + 5) (nI kc)) rfl rfl (by decide) (Or.inl rfl) gX12_lineAt_15.2.2
    · refine lv_if_eq (tgt := 28) hx hb gX12_lineAt_0.2.2.2.2.2.2.2.2.2 (by decide) (fun _ => ?_) (fun c9 => absurd (by decide) c9)
      refine lv_aload_n hx hb gX12_lineAt_1.2.2.1 rfl (lv_at0 hl) ?_
      refine va_ldcSw (index := 278) (tx := "ask") hx hb hown (hO.2.2 3 (by decide)) gX12_lineAt_1.2.2.2.1 ?_
      refine pVo hO hS hC hK hl hP hD (m_isName0 l G K 3 h0 nw nk mhasKept nt ktp nr mrowMany mroundOf mroundFrom mouts nm mfromHour mtoHour ns kf kt so 0 (nI kc) mlines nl nc nF np ntr nb mbestCost nso nsi nit nsh nsf nss nrc mtraced mdealer mnumber mwhose msize misParted fnt ((by decide)) (hT) (htp)) si_X12_248 [0, 1] sm_0_1 fm_0_1 nd_0_1 rfl rfl rfl rfl rfl (Nat.le_of_ble_eq_true rfl) rm_32_5_4 ⟨by first | exact Nat.le_of_ble_eq_true rfl | exact Nat.zero_le _, by first | exact Nat.le_of_ble_eq_true rfl | exact Nat.zero_le _⟩ gX12_lineAt_1.2.2.2.2.1 (Kors (Keqa fun a8224 => ?_) (Keqr ?_))
      · refine lv_if_eq (tgt := 42) hx hb gX12_lineAt_1.2.2.2.2.2.1 (by decide) (fun c9 => absurd c9 (by decide)) (fun _ => ?_)
        refine lv_iconst (v := 2) hx hb gX12_lineAt_1.2.2.2.2.2.2.1 (by decide) ?_
        refine lv_goto (tgt := 57) hx hb gX12_lineAt_1.2.2.2.2.2.2.2.1 (by decide) ?_
        refine lv_istore_n (lv' := [(2, .int 2), (0, .ref h0), (1, .int (nI ja))]) hx hb gX12_lineAt_2.2.2.2.2.2.1 rfl hl (by decide) rfl (fun ls hl => ?_)
        refine lv_aload_n hx hb gX12_lineAt_2.2.2.2.2.2.2.1 rfl (lv_at1 hl) ?_
        refine lv_iload_n hx hb gX12_lineAt_2.2.2.2.2.2.2.2.1 rfl (lv_at0 hl) ?_
        refine lv_if_lt (tgt := 67) hx hb gX12_lineAt_2.2.2.2.2.2.2.2.2.1 (by decide) (fun c9 => absurd c9 (by decide)) (fun _ => ?_)
        refine lv_iconst (v := 1) hx hb gX12_lineAt_2.2.2.2.2.2.2.2.2.2 (by decide) ?_
        refine lv_goto (tgt := 68) hx hb gX12_lineAt_3.1 (by decide) ?_
        have tI8225 : kt = kf + 3 := a8224.2
        refine vV (wr := [(nc, iA G 100 fnc), (nl, iA G 54 fnl), (nF, sA G 5 (FCT K))]) hC hK hl hP hD hS hA (m_need1 l G h0 nw nk mhasKept nt ktp nr mrowMany mroundOf mroundFrom mouts nm mfromHour mtoHour ns (nI kf) kt so 0 (nI kc) mlines nl nc nF np ntr nb mbestCost nso nsi nit nsh nsf nss nrc mtraced mdealer mnumber mwhose msize misParted fnt (by omega) (htp)) si_X12_236 [0, 1] [2, 3, 4] sm_0_1 fm_0_1 nd_0_1 sm_2_3_4 nd_2_3_4 dj_0_1__2_3_4 rfl rfl rfl rfl rfl (Nat.le_of_ble_eq_true rfl) rm_32_4_2 ⟨Nat.le_of_ble_eq_true rfl, Nat.le_of_ble_eq_true rfl⟩ gX12_lineAt_3.2.2.1 (Ktu3 fun kf18228 kt18229 so18230 => ?_)
        intro H locs hr8226 hP hD hS
        try dsimp only at hr8226
        refine Kpdr (ws := [(nc, iA G 100 fnc), (nl, iA G 54 fnl), (nF, sA G 5 (FCT K)), (h0, oX12 nw nk mhasKept nt (nI ktp) nr mrowMany mroundOf mroundFrom mouts nm mfromHour mtoHour ns (nI kf18228) (nI kt18229) so18230 0 0 (nI kc) mlines nl nc nF np ntr nb mbestCost nso nsi nit nsh nsf nss nrc mtraced mdealer mnumber mwhose msize misParted), (nt, iA G 240 fnt)]) hP hD (fun hP hD => ?_)
        have hw8232_0 := hr8226.1
        have hw8232_1 := hr8226.2
        have tA8234 := hw8232_1.1
        have tB8234 := hw8232_1.2.1
        refine lv_aload_n hx hb gX12_lineAt_3.2.2.2.1 rfl (lv_at1 hl) ?_
        refine gf_X12_32 hC rfl hK hP 3 rfl rfl gX12_lineAt_3.2.2.2.2.1 ?_
        refine lv_iload_n hx hb gX12_lineAt_3.2.2.2.2.2.1 rfl (lv_at2 hl) ?_
        refine lv_iload_n hx hb gX12_lineAt_3.2.2.2.2.2.2.1 rfl (lv_at0 hl) ?_
        refine astN hC hK hP hD hS 1 (ws' := [(nc, iA G 100 fnc), (nl, iA G 54 (upd fnl ja 2)), (nF, sA G 5 (FCT K)), (h0, oX12 nw nk mhasKept nt (nI ktp) nr mrowMany mroundOf mroundFrom mouts nm mfromHour mtoHour ns (nI kf18228) (nI kt18229) so18230 0 0 (nI kc) mlines nl nc nF np ntr nb mbestCost nso nsi nit nsh nsf nss nrc mtraced mdealer mnumber mwhose msize misParted), (nt, iA G 240 fnt)]) rfl (k := ja) (by omega) (Nat.le_of_ble_eq_true rfl) (rfl) gX12_lineAt_3.2.2.2.2.2.2.2.1 (fun H locs hP hD hS => ?_)
        refine lv_aload_n hx hb gX12_lineAt_3.2.2.2.2.2.2.2.2.1 rfl (lv_at1 hl) ?_
        refine gf_X12_32 hC rfl hK hP 3 rfl rfl gX12_lineAt_3.2.2.2.2.2.2.2.2.2 ?_
        refine lv_iload_n hx hb gX12_lineAt_4.1 rfl (lv_at2 hl) ?_
        refine lv_iconst (v := 1) hx hb gX12_lineAt_4.2.1 (by decide) ?_
        refine lv_iadd hx hb gX12_lineAt_4.2.2.1 ?_
        refine eqi (x1 := nI (ja + 1)) (nI_add ja 1) ?_
        refine lv_aload_n hx hb gX12_lineAt_4.2.2.2.1 rfl (lv_at1 hl) ?_
        refine lv_iload_n hx hb gX12_lineAt_4.2.2.2.2.1 rfl (lv_at0 hl) ?_
        refine lv_if_eq (tgt := 95) hx hb gX12_lineAt_4.2.2.2.2.2.1 (by decide) (fun c9 => absurd c9 (by decide)) (fun _ => ?_)
        refine lv_iload_n hx hb gX12_lineAt_4.2.2.2.2.2.2.1 rfl (lv_at0 hl) ?_
        refine lv_iconst (v := 1) hx hb gX12_lineAt_4.2.2.2.2.2.2.2.1 (by decide) ?_
        refine lv_icmp_ne (tgt := 100) hx hb gX12_lineAt_4.2.2.2.2.2.2.2.2.1 (by decide) (fun _ => ?_) (fun c9 => absurd c9 (by decide))
        refine lv_iload_n hx hb gX12_lineAt_5.2.1 rfl (lv_at0 hl) ?_
        refine lv_iconst (v := 2) hx hb gX12_lineAt_5.2.2.1 (by decide) ?_
        refine lv_icmp_ne (tgt := 110) hx hb gX12_lineAt_5.2.2.2.1 (by decide) (fun c9 => absurd (by decide) c9) (fun _ => ?_)
        refine lv_bipush (v := 7) hx hb gX12_lineAt_5.2.2.2.2.1 (by decide) ?_
        refine lv_goto (tgt := 112) hx hb gX12_lineAt_5.2.2.2.2.2.1 (by decide) ?_
        refine iV (wr := [(nc, iA G 100 fnc), (nl, iA G 54 (upd fnl ja 2)), (nF, sA G 5 (FCT K))]) hC hK hl hP hD hS hA (m_number0 l G h0 7 nw nk mhasKept nt ktp nr mrowMany mroundOf mroundFrom mouts nm mfromHour mtoHour ns kf18228 kt18229 so18230 0 (nI kc) mlines nl nc nF np ntr nb mbestCost nso nsi nit nsh nsf nss nrc mtraced mdealer mnumber mwhose msize misParted fnt (hw8232_1) (htp) (by omega)) si_X12_271 [3, 4] [0, 1, 2] sm_3_4 fm_3_4 nd_3_4 sm_0_1_2 nd_0_1_2 dj_3_4__0_1_2 rfl rfl rfl rfl rfl (Nat.le_of_ble_eq_true rfl) rm_32_5_5 ⟨Nat.le_of_ble_eq_true rfl, Nat.le_of_ble_eq_true rfl⟩ gX12_lineAt_5.2.2.2.2.2.2.2.1 (fun r8235 => Ktu4 fun ff18237 kf18238 kt18239 so18240 => ?_)
        intro H locs hr8235 hP hD hS
        try dsimp only at hr8235
        refine Kpdr (ws := [(nc, iA G 100 fnc), (nl, iA G 54 (upd fnl ja 2)), (nF, sA G 5 (FCT K)), (h0, oX12 nw nk mhasKept nt (nI ktp) nr mrowMany mroundOf mroundFrom mouts nm mfromHour mtoHour ns (nI kf18238) (nI kt18239) so18240 ff18237 0 (nI kc) mlines nl nc nF np ntr nb mbestCost nso nsi nit nsh nsf nss nrc mtraced mdealer mnumber mwhose msize misParted), (nt, iA G 240 fnt)]) hP hD (fun hP hD => ?_)
        obtain ⟨hr8235, w8241⟩ := hr8235
        rcases w8241 with rfl | ⟨rfl, ⟨v_8242, hv_8242, rfl⟩, hw8242_1, hw8242_2⟩
        · refine astN hC hK hP hD hS 1 (ws' := [(nc, iA G 100 fnc), (nl, iA G 54 (upd (upd fnl ja 2) (ja + 1) r8235)), (nF, sA G 5 (FCT K)), (h0, oX12 nw nk mhasKept nt (nI ktp) nr mrowMany mroundOf mroundFrom mouts nm mfromHour mtoHour ns (nI kf18238) (nI kt18239) so18240 1 0 (nI kc) mlines nl nc nF np ntr nb mbestCost nso nsi nit nsh nsf nss nrc mtraced mdealer mnumber mwhose msize misParted), (nt, iA G 240 fnt)]) rfl (k := (ja + 1)) (by omega) (Nat.le_of_ble_eq_true rfl) (rfl) gX12_lineAt_5.2.2.2.2.2.2.2.2.1 (fun H locs hP hD hS => ?_)
          refine lv_aload_n hx hb gX12_lineAt_5.2.2.2.2.2.2.2.2.2 rfl (lv_at1 hl) ?_
          refine gf_X12_32 hC rfl hK hP 3 rfl rfl gX12_lineAt_6.1 ?_
          refine lv_iload_n hx hb gX12_lineAt_6.2.1 rfl (lv_at2 hl) ?_
          refine lv_iconst (v := 2) hx hb gX12_lineAt_6.2.2.1 (by decide) ?_
          refine lv_iadd hx hb gX12_lineAt_6.2.2.2.1 ?_
          refine eqi (x1 := nI (ja + 2)) (nI_add ja 2) ?_
          refine lv_bipush (v := (-9)) hx hb gX12_lineAt_6.2.2.2.2.1 (by decide) ?_
          refine astN hC hK hP hD hS 1 (ws' := [(nc, iA G 100 fnc), (nl, iA G 54 (upd (upd (upd fnl ja 2) (ja + 1) r8235) (ja + 2) (-9))), (nF, sA G 5 (FCT K)), (h0, oX12 nw nk mhasKept nt (nI ktp) nr mrowMany mroundOf mroundFrom mouts nm mfromHour mtoHour ns (nI kf18238) (nI kt18239) so18240 1 0 (nI kc) mlines nl nc nF np ntr nb mbestCost nso nsi nit nsh nsf nss nrc mtraced mdealer mnumber mwhose msize misParted), (nt, iA G 240 fnt)]) rfl (k := (ja + 2)) (by omega) (Nat.le_of_ble_eq_true rfl) (rfl) gX12_lineAt_6.2.2.2.2.2.1 (fun H locs hP hD hS => ?_)
          refine lv_aload_n hx hb gX12_lineAt_6.2.2.2.2.2.2.1 rfl (lv_at1 hl) ?_
          refine gf_X12_32 hC rfl hK hP 3 rfl rfl gX12_lineAt_6.2.2.2.2.2.2.2.1 ?_
          refine lv_iload_n hx hb gX12_lineAt_6.2.2.2.2.2.2.2.2.1 rfl (lv_at2 hl) ?_
          refine lv_iconst (v := 3) hx hb gX12_lineAt_6.2.2.2.2.2.2.2.2.2 (by decide) ?_
          refine lv_iadd hx hb gX12_lineAt_7.1 ?_
          refine eqi (x1 := nI (ja + 3)) (nI_add ja 3) ?_
          refine lv_bipush (v := (-9)) hx hb gX12_lineAt_7.2.1 (by decide) ?_
          refine astN hC hK hP hD hS 1 (ws' := [(nc, iA G 100 fnc), (nl, iA G 54 (upd (upd (upd (upd fnl ja 2) (ja + 1) r8235) (ja + 2) (-9)) (ja + 3) (-9))), (nF, sA G 5 (FCT K)), (h0, oX12 nw nk mhasKept nt (nI ktp) nr mrowMany mroundOf mroundFrom mouts nm mfromHour mtoHour ns (nI kf18238) (nI kt18239) so18240 1 0 (nI kc) mlines nl nc nF np ntr nb mbestCost nso nsi nit nsh nsf nss nrc mtraced mdealer mnumber mwhose msize misParted), (nt, iA G 240 fnt)]) rfl (k := (ja + 3)) (by omega) (Nat.le_of_ble_eq_true rfl) (rfl) gX12_lineAt_7.2.2.1 (fun H locs hP hD hS => ?_)
          refine lv_iload_n hx hb gX12_lineAt_7.2.2.2.1 rfl (lv_at0 hl) ?_
          refine lv_if_ne (tgt := 190) hx hb gX12_lineAt_7.2.2.2.2.1 (by decide) (fun _ => ?_) (fun c9 => absurd c9 (by decide))
          refine lv_iload_n hx hb gX12_lineAt_10.2.2.2.1 rfl (lv_at0 hl) ?_
          refine lv_iconst (v := 2) hx hb gX12_lineAt_10.2.2.2.2.1 (by decide) ?_
          refine lv_icmp_ne (tgt := 221) hx hb gX12_lineAt_10.2.2.2.2.2.1 (by decide) (fun c9 => absurd (by decide) c9) (fun _ => ?_)
          refine lv_aload_n hx hb gX12_lineAt_10.2.2.2.2.2.2.1 rfl (lv_at1 hl) ?_
          refine lv_aload_n hx hb gX12_lineAt_10.2.2.2.2.2.2.2.1 rfl (lv_at1 hl) ?_
          refine va_ldcSw (index := 285) (tx := "by") hx hb hown (hO.2.2 7 (by decide)) gX12_lineAt_10.2.2.2.2.2.2.2.2.1 ?_
          refine pVo hO hS hC hK hl hP hD (m_isNameF l G K 7 h0 nw nk mhasKept nt (nI ktp) nr mrowMany mroundOf mroundFrom mouts nm mfromHour mtoHour ns (nI kf18238) (nI kt18239) so18240 0 (nI kc) mlines nl nc nF np ntr nb mbestCost nso nsi nit nsh nsf nss nrc mtraced mdealer mnumber mwhose msize misParted ((by decide))) si_X12_248 [3] sm_3 fm_3 nd_3 rfl rfl rfl rfl rfl (Nat.le_of_ble_eq_true rfl) rm_32_5_4 ⟨by first | exact Nat.le_of_ble_eq_true rfl | exact Nat.zero_le _, by first | exact Nat.le_of_ble_eq_true rfl | exact Nat.zero_le _⟩ gX12_lineAt_10.2.2.2.2.2.2.2.2.2 (Keqr ?_)
          refine vV (wr := [(nc, iA G 100 fnc), (nl, iA G 54 (upd (upd (upd (upd fnl ja 2) (ja + 1) r8235) (ja + 2) (-9)) (ja + 3) (-9))), (nF, sA G 5 (FCT K)), (nt, iA G 240 fnt)]) hC hK hl hP hD hS hA (m_needF l G h0 0 nw nk mhasKept nt (nI ktp) nr mrowMany mroundOf mroundFrom mouts nm mfromHour mtoHour ns (nI kf18238) (nI kt18239) so18240 0 (nI kc) mlines nl nc nF np ntr nb mbestCost nso nsi nit nsh nsf nss nrc mtraced mdealer mnumber mwhose msize misParted) si_X12_236 [3] [0, 1, 2, 4] sm_3 fm_3 nd_3 sm_0_1_2_4 nd_0_1_2_4 dj_3__0_1_2_4 rfl rfl rfl rfl rfl (Nat.le_of_ble_eq_true rfl) rm_32_4_2 ⟨Nat.le_of_ble_eq_true rfl, Nat.le_of_ble_eq_true rfl⟩ gX12_lineAt_11.1 (fun u8246 H locs hr8245 hP hD hS => ?_)
          refine Kpdr (ws := [(nc, iA G 100 fnc), (nl, iA G 54 (upd (upd (upd (upd fnl ja 2) (ja + 1) r8235) (ja + 2) (-9)) (ja + 3) (-9))), (nF, sA G 5 (FCT K)), (nt, iA G 240 fnt), (h0, oX12 nw nk mhasKept nt (nI ktp) nr mrowMany mroundOf mroundFrom mouts nm mfromHour mtoHour ns (nI kf18238) (nI kt18239) so18240 1 0 (nI kc) mlines nl nc nF np ntr nb mbestCost nso nsi nit nsh nsf nss nrc mtraced mdealer mnumber mwhose msize misParted)]) hP hD (fun hP hD => ?_)
          refine lv_aload_n hx hb gX12_lineAt_11.2.1 rfl (lv_at1 hl) ?_
          refine gf_X12_32 hC rfl hK hP 4 rfl rfl gX12_lineAt_11.2.2.1 ?_
          refine lv_iload_n hx hb gX12_lineAt_11.2.2.2.1 rfl (lv_at2 hl) ?_
          refine lv_iconst (v := 2) hx hb gX12_lineAt_11.2.2.2.2.1 (by decide) ?_
          refine lv_iadd hx hb gX12_lineAt_11.2.2.2.2.2.1 ?_
          refine eqi (x1 := nI (ja + 2)) (nI_add ja 2) ?_
          refine lv_aload_n hx hb gX12_lineAt_11.2.2.2.2.2.2.1 rfl (lv_at1 hl) ?_
          refine lv_sipush (v := 999) hx hb gX12_lineAt_11.2.2.2.2.2.2.2.1 (by decide) ?_
          refine iV (wr := [(nc, iA G 100 fnc), (nl, iA G 54 (upd (upd (upd (upd fnl ja 2) (ja + 1) r8235) (ja + 2) (-9)) (ja + 3) (-9))), (nF, sA G 5 (FCT K)), (nt, iA G 240 fnt)]) hC hK hl hP hD hS hA (m_numberF l G h0 999 nw nk mhasKept nt (nI ktp) nr mrowMany mroundOf mroundFrom mouts nm mfromHour mtoHour ns (nI kf18238) (nI kt18239) so18240 0 (nI kc) mlines nl nc nF np ntr nb mbestCost nso nsi nit nsh nsf nss nrc mtraced mdealer mnumber mwhose msize misParted) si_X12_271 [4] [0, 1, 2, 3] sm_4 fm_4 nd_4 sm_0_1_2_3 nd_0_1_2_3 dj_4__0_1_2_3 rfl rfl rfl rfl rfl (Nat.le_of_ble_eq_true rfl) rm_32_5_5 ⟨Nat.le_of_ble_eq_true rfl, Nat.le_of_ble_eq_true rfl⟩ gX12_lineAt_11.2.2.2.2.2.2.2.2.1 (fun r8247 u8248 H locs hr8247 hP hD hS => ?_)
          refine Kpdr (ws := [(nc, iA G 100 fnc), (nl, iA G 54 (upd (upd (upd (upd fnl ja 2) (ja + 1) r8235) (ja + 2) (-9)) (ja + 3) (-9))), (nF, sA G 5 (FCT K)), (nt, iA G 240 fnt), (h0, oX12 nw nk mhasKept nt (nI ktp) nr mrowMany mroundOf mroundFrom mouts nm mfromHour mtoHour ns (nI kf18238) (nI kt18239) so18240 1 0 (nI kc) mlines nl nc nF np ntr nb mbestCost nso nsi nit nsh nsf nss nrc mtraced mdealer mnumber mwhose msize misParted)]) hP hD (fun hP hD => ?_)
          obtain rfl := hr8247
          refine astN hC hK hP hD hS 1 (ws' := [(nc, iA G 100 fnc), (nl, iA G 54 (upd (upd (upd (upd (upd fnl ja 2) (ja + 1) r8235) (ja + 2) (-9)) (ja + 3) (-9)) (ja + 2) 0)), (nF, sA G 5 (FCT K)), (nt, iA G 240 fnt), (h0, oX12 nw nk mhasKept nt (nI ktp) nr mrowMany mroundOf mroundFrom mouts nm mfromHour mtoHour ns (nI kf18238) (nI kt18239) so18240 1 0 (nI kc) mlines nl nc nF np ntr nb mbestCost nso nsi nit nsh nsf nss nrc mtraced mdealer mnumber mwhose msize misParted)]) rfl (k := (ja + 2)) (by omega) (Nat.le_of_ble_eq_true rfl) (rfl) gX12_lineAt_11.2.2.2.2.2.2.2.2.2 (fun H locs hP hD hS => ?_)
          refine lv_aload_n hx hb gX12_lineAt_12.1 rfl (lv_at1 hl) ?_
          refine gf_X12_32 hC rfl hK hP 4 rfl rfl gX12_lineAt_12.2.1 ?_
          refine lv_iload_n hx hb gX12_lineAt_12.2.2.1 rfl (lv_at2 hl) ?_
          refine lv_iconst (v := 4) hx hb gX12_lineAt_12.2.2.2.1 (by decide) ?_
          refine lv_iadd hx hb gX12_lineAt_12.2.2.2.2.1 ?_
          refine eqi (x1 := nI (ja + 4)) (nI_add ja 4) ?_
          refine lv_aload_n hx hb gX12_lineAt_12.2.2.2.2.2.1 rfl (lv_at1 hl) ?_
          refine gf_X12_240 hC rfl hK hP 4 rfl rfl gX12_lineAt_12.2.2.2.2.2.2.1 ?_
          refine astN hC hK hP hD hS 1 (ws' := [(nc, iA G 100 fnc), (nl, iA G 54 (upd (upd (upd (upd (upd (upd fnl ja 2) (ja + 1) r8235) (ja + 2) (-9)) (ja + 3) (-9)) (ja + 2) 0) (ja + 4) (nI kc))), (nF, sA G 5 (FCT K)), (nt, iA G 240 fnt), (h0, oX12 nw nk mhasKept nt (nI ktp) nr mrowMany mroundOf mroundFrom mouts nm mfromHour mtoHour ns (nI kf18238) (nI kt18239) so18240 1 0 (nI kc) mlines nl nc nF np ntr nb mbestCost nso nsi nit nsh nsf nss nrc mtraced mdealer mnumber mwhose msize misParted)]) rfl (k := (ja + 4)) (by omega) (Nat.le_of_ble_eq_true rfl) (rfl) gX12_lineAt_12.2.2.2.2.2.2.2.1 (fun H locs hP hD hS => ?_)
          refine lv_iload_n hx hb gX12_lineAt_12.2.2.2.2.2.2.2.2.1 rfl (lv_at0 hl) ?_
          refine lv_iconst (v := 3) hx hb gX12_lineAt_12.2.2.2.2.2.2.2.2.2 (by decide) ?_
          refine lv_icmp_eq (tgt := 256) hx hb gX12_lineAt_13.1 (by decide) (fun c9 => absurd c9 (by decide)) (fun _ => ?_)
          refine lv_aload_n hx hb gX12_lineAt_13.2.1 rfl (lv_at1 hl) ?_
          refine va_ldcSw (index := 287) (tx := "if") hx hb hown (hO.2.2 0 (by decide)) gX12_lineAt_13.2.2.1 ?_
          refine pVo hO hS hC hK hl hP hD (m_isNameF l G K 0 h0 nw nk mhasKept nt (nI ktp) nr mrowMany mroundOf mroundFrom mouts nm mfromHour mtoHour ns (nI kf18238) (nI kt18239) so18240 0 (nI kc) mlines nl nc nF np ntr nb mbestCost nso nsi nit nsh nsf nss nrc mtraced mdealer mnumber mwhose msize misParted ((by decide))) si_X12_248 [4] sm_4 fm_4 nd_4 rfl rfl rfl rfl rfl (Nat.le_of_ble_eq_true rfl) rm_32_5_4 ⟨by first | exact Nat.le_of_ble_eq_true rfl | exact Nat.zero_le _, by first | exact Nat.le_of_ble_eq_true rfl | exact Nat.zero_le _⟩ gX12_lineAt_13.2.2.2.1 (Keqr ?_)
          refine lv_if_eq (tgt := 256) hx hb gX12_lineAt_13.2.2.2.2.1 (by decide) (fun _ => ?_) (fun c9 => absurd (by decide) c9)
          refine lv_aload_n hx hb gX12_lineAt_13.2.2.2.2.2.2.2.2.2 rfl (lv_at1 hl) ?_
          refine gf_X12_32 hC rfl hK hP 4 rfl rfl gX12_lineAt_14.1 ?_
          refine lv_iload_n hx hb gX12_lineAt_14.2.1 rfl (lv_at2 hl) ?_
          refine lv_iconst (v := 5) hx hb gX12_lineAt_14.2.2.1 (by decide) ?_
          refine lv_iadd hx hb gX12_lineAt_14.2.2.2.1 ?_
          refine eqi (x1 := nI (ja + 5)) (nI_add ja 5) ?_
          refine lv_aload_n hx hb gX12_lineAt_14.2.2.2.2.1 rfl (lv_at1 hl) ?_
          refine gf_X12_240 hC rfl hK hP 4 rfl rfl gX12_lineAt_14.2.2.2.2.2.1 ?_
          refine astN hC hK hP hD hS 1 (ws' := [(nc, iA G 100 fnc), (nl, iA G 54 (upd (upd (upd (upd (upd (upd (upd fnl ja 2) (ja + 1) r8235) (ja + 2) (-9)) (ja + 3) (-9)) (ja + 2) 0) (ja + 4) (nI kc)) (ja + 5) (nI kc))), (nF, sA G 5 (FCT K)), (nt, iA G 240 fnt), (h0, oX12 nw nk mhasKept nt (nI ktp) nr mrowMany mroundOf mroundFrom mouts nm mfromHour mtoHour ns (nI kf18238) (nI kt18239) so18240 1 0 (nI kc) mlines nl nc nF np ntr nb mbestCost nso nsi nit nsh nsf nss nrc mtraced mdealer mnumber mwhose msize misParted)]) rfl (k := (ja + 5)) (by omega) (Nat.le_of_ble_eq_true rfl) (rfl) gX12_lineAt_14.2.2.2.2.2.2.1 (fun H locs hP hD hS => ?_)
          refine lv_aload_n hx hb gX12_lineAt_14.2.2.2.2.2.2.2.1 rfl (lv_at1 hl) ?_
          refine lv_aload_n hx hb gX12_lineAt_14.2.2.2.2.2.2.2.2.1 rfl (lv_at1 hl) ?_
          refine lv_bipush (v := 59) hx hb gX12_lineAt_14.2.2.2.2.2.2.2.2.2 (by decide) ?_
          refine pV hC hK hl hP hD (m_isSignF l G h0 59 nw nk mhasKept nt (nI ktp) nr mrowMany mroundOf mroundFrom mouts nm mfromHour mtoHour ns (nI kf18238) (nI kt18239) so18240 0 (nI kc) mlines nl nc nF np ntr nb mbestCost nso nsi nit nsh nsf nss nrc mtraced mdealer mnumber mwhose msize misParted) si_X12_262 [4] sm_4 fm_4 nd_4 rfl rfl rfl rfl rfl (Nat.le_of_ble_eq_true rfl) rm_32_1_2 ⟨by first | exact Nat.le_of_ble_eq_true rfl | exact Nat.zero_le _, by first | exact Nat.le_of_ble_eq_true rfl | exact Nat.zero_le _⟩ gX12_lineAt_15.1 (Keqr ?_)
          refine vV (wr := [(nc, iA G 100 fnc), (nl, iA G 54 (upd (upd (upd (upd (upd (upd (upd fnl ja 2) (ja + 1) r8235) (ja + 2) (-9)) (ja + 3) (-9)) (ja + 2) 0) (ja + 4) (nI kc)) (ja + 5) (nI kc))), (nF, sA G 5 (FCT K)), (nt, iA G 240 fnt)]) hC hK hl hP hD hS hA (m_needF l G h0 0 nw nk mhasKept nt (nI ktp) nr mrowMany mroundOf mroundFrom mouts nm mfromHour mtoHour ns (nI kf18238) (nI kt18239) so18240 0 (nI kc) mlines nl nc nF np ntr nb mbestCost nso nsi nit nsh nsf nss nrc mtraced mdealer mnumber mwhose msize misParted) si_X12_236 [4] [0, 1, 2, 3] sm_4 fm_4 nd_4 sm_0_1_2_3 nd_0_1_2_3 dj_4__0_1_2_3 rfl rfl rfl rfl rfl (Nat.le_of_ble_eq_true rfl) rm_32_4_2 ⟨Nat.le_of_ble_eq_true rfl, Nat.le_of_ble_eq_true rfl⟩ gX12_lineAt_15.2.1 (fun u8255 H locs hr8254 hP hD hS => ?_)
          refine Kpdr (ws := [(nc, iA G 100 fnc), (nl, iA G 54 (upd (upd (upd (upd (upd (upd (upd fnl ja 2) (ja + 1) r8235) (ja + 2) (-9)) (ja + 3) (-9)) (ja + 2) 0) (ja + 4) (nI kc)) (ja + 5) (nI kc))), (nF, sA G 5 (FCT K)), (nt, iA G 240 fnt), (h0, oX12 nw nk mhasKept nt (nI ktp) nr mrowMany mroundOf mroundFrom mouts nm mfromHour mtoHour ns (nI kf18238) (nI kt18239) so18240 1 0 (nI kc) mlines nl nc nF np ntr nb mbestCost nso nsi nit nsh nsf nss nrc mtraced mdealer mnumber mwhose msize misParted)]) hP hD (fun hP hD => ?_)
          refine toQ hQ0 ?_
          exact RV hC hP hD hS [4, 3, 0, 1, 2] (1, kf18238, kt18239, so18240, kc, fnc, upd (upd (upd (upd (upd (upd (upd fnl ja 2) (ja + 1) r8235) (ja + 2) (-9)) (ja + 3) (-9)) (ja + 2) 0) (ja + 4) (nI kc)) (ja + 5) (nI kc)) rfl rfl (by decide) (Or.inl rfl) gX12_lineAt_15.2.2
        · have tA8257 := hw8242_2.1
          have tB8257 := hw8242_2.2.1
          refine astN hC hK hP hD hS 1 (ws' := [(nc, iA G 100 fnc), (nl, iA G 54 (upd (upd fnl ja 2) (ja + 1) (nI v_8242))), (nF, sA G 5 (FCT K)), (h0, oX12 nw nk mhasKept nt (nI ktp) nr mrowMany mroundOf mroundFrom mouts nm mfromHour mtoHour ns (nI kf18238) (nI kt18239) so18240 0 0 (nI kc) mlines nl nc nF np ntr nb mbestCost nso nsi nit nsh nsf nss nrc mtraced mdealer mnumber mwhose msize misParted), (nt, iA G 240 fnt)]) rfl (k := (ja + 1)) (by omega) (Nat.le_of_ble_eq_true rfl) (rfl) gX12_lineAt_5.2.2.2.2.2.2.2.2.1 (fun H locs hP hD hS => ?_)
          refine lv_aload_n hx hb gX12_lineAt_5.2.2.2.2.2.2.2.2.2 rfl (lv_at1 hl) ?_
          refine gf_X12_32 hC rfl hK hP 3 rfl rfl gX12_lineAt_6.1 ?_
          refine lv_iload_n hx hb gX12_lineAt_6.2.1 rfl (lv_at2 hl) ?_
          refine lv_iconst (v := 2) hx hb gX12_lineAt_6.2.2.1 (by decide) ?_
          refine lv_iadd hx hb gX12_lineAt_6.2.2.2.1 ?_
          refine eqi (x1 := nI (ja + 2)) (nI_add ja 2) ?_
          refine lv_bipush (v := (-9)) hx hb gX12_lineAt_6.2.2.2.2.1 (by decide) ?_
          refine astN hC hK hP hD hS 1 (ws' := [(nc, iA G 100 fnc), (nl, iA G 54 (upd (upd (upd fnl ja 2) (ja + 1) (nI v_8242)) (ja + 2) (-9))), (nF, sA G 5 (FCT K)), (h0, oX12 nw nk mhasKept nt (nI ktp) nr mrowMany mroundOf mroundFrom mouts nm mfromHour mtoHour ns (nI kf18238) (nI kt18239) so18240 0 0 (nI kc) mlines nl nc nF np ntr nb mbestCost nso nsi nit nsh nsf nss nrc mtraced mdealer mnumber mwhose msize misParted), (nt, iA G 240 fnt)]) rfl (k := (ja + 2)) (by omega) (Nat.le_of_ble_eq_true rfl) (rfl) gX12_lineAt_6.2.2.2.2.2.1 (fun H locs hP hD hS => ?_)
          refine lv_aload_n hx hb gX12_lineAt_6.2.2.2.2.2.2.1 rfl (lv_at1 hl) ?_
          refine gf_X12_32 hC rfl hK hP 3 rfl rfl gX12_lineAt_6.2.2.2.2.2.2.2.1 ?_
          refine lv_iload_n hx hb gX12_lineAt_6.2.2.2.2.2.2.2.2.1 rfl (lv_at2 hl) ?_
          refine lv_iconst (v := 3) hx hb gX12_lineAt_6.2.2.2.2.2.2.2.2.2 (by decide) ?_
          refine lv_iadd hx hb gX12_lineAt_7.1 ?_
          refine eqi (x1 := nI (ja + 3)) (nI_add ja 3) ?_
          refine lv_bipush (v := (-9)) hx hb gX12_lineAt_7.2.1 (by decide) ?_
          refine astN hC hK hP hD hS 1 (ws' := [(nc, iA G 100 fnc), (nl, iA G 54 (upd (upd (upd (upd fnl ja 2) (ja + 1) (nI v_8242)) (ja + 2) (-9)) (ja + 3) (-9))), (nF, sA G 5 (FCT K)), (h0, oX12 nw nk mhasKept nt (nI ktp) nr mrowMany mroundOf mroundFrom mouts nm mfromHour mtoHour ns (nI kf18238) (nI kt18239) so18240 0 0 (nI kc) mlines nl nc nF np ntr nb mbestCost nso nsi nit nsh nsf nss nrc mtraced mdealer mnumber mwhose msize misParted), (nt, iA G 240 fnt)]) rfl (k := (ja + 3)) (by omega) (Nat.le_of_ble_eq_true rfl) (rfl) gX12_lineAt_7.2.2.1 (fun H locs hP hD hS => ?_)
          refine lv_iload_n hx hb gX12_lineAt_7.2.2.2.1 rfl (lv_at0 hl) ?_
          refine lv_if_ne (tgt := 190) hx hb gX12_lineAt_7.2.2.2.2.1 (by decide) (fun _ => ?_) (fun c9 => absurd c9 (by decide))
          refine lv_iload_n hx hb gX12_lineAt_10.2.2.2.1 rfl (lv_at0 hl) ?_
          refine lv_iconst (v := 2) hx hb gX12_lineAt_10.2.2.2.2.1 (by decide) ?_
          refine lv_icmp_ne (tgt := 221) hx hb gX12_lineAt_10.2.2.2.2.2.1 (by decide) (fun c9 => absurd (by decide) c9) (fun _ => ?_)
          refine lv_aload_n hx hb gX12_lineAt_10.2.2.2.2.2.2.1 rfl (lv_at1 hl) ?_
          refine lv_aload_n hx hb gX12_lineAt_10.2.2.2.2.2.2.2.1 rfl (lv_at1 hl) ?_
          refine va_ldcSw (index := 285) (tx := "by") hx hb hown (hO.2.2 7 (by decide)) gX12_lineAt_10.2.2.2.2.2.2.2.2.1 ?_
          refine pVo hO hS hC hK hl hP hD (m_isName0 l G K 7 h0 nw nk mhasKept nt ktp nr mrowMany mroundOf mroundFrom mouts nm mfromHour mtoHour ns kf18238 kt18239 so18240 0 (nI kc) mlines nl nc nF np ntr nb mbestCost nso nsi nit nsh nsf nss nrc mtraced mdealer mnumber mwhose msize misParted fnt ((by decide)) (hw8242_2) (htp)) si_X12_248 [3, 4] sm_3_4 fm_3_4 nd_3_4 rfl rfl rfl rfl rfl (Nat.le_of_ble_eq_true rfl) rm_32_5_4 ⟨by first | exact Nat.le_of_ble_eq_true rfl | exact Nat.zero_le _, by first | exact Nat.le_of_ble_eq_true rfl | exact Nat.zero_le _⟩ gX12_lineAt_10.2.2.2.2.2.2.2.2.2 (Kors (Keqa fun a8259 => ?_) (Keqr ?_))
          · have tI8260 : kt18239 = kf18238 + 2 := a8259.2
            refine vV (wr := [(nc, iA G 100 fnc), (nl, iA G 54 (upd (upd (upd (upd fnl ja 2) (ja + 1) (nI v_8242)) (ja + 2) (-9)) (ja + 3) (-9))), (nF, sA G 5 (FCT K))]) hC hK hl hP hD hS hA (m_need1 l G h0 nw nk mhasKept nt ktp nr mrowMany mroundOf mroundFrom mouts nm mfromHour mtoHour ns (nI kf18238) kt18239 so18240 0 (nI kc) mlines nl nc nF np ntr nb mbestCost nso nsi nit nsh nsf nss nrc mtraced mdealer mnumber mwhose msize misParted fnt (by omega) (htp)) si_X12_236 [3, 4] [0, 1, 2] sm_3_4 fm_3_4 nd_3_4 sm_0_1_2 nd_0_1_2 dj_3_4__0_1_2 rfl rfl rfl rfl rfl (Nat.le_of_ble_eq_true rfl) rm_32_4_2 ⟨Nat.le_of_ble_eq_true rfl, Nat.le_of_ble_eq_true rfl⟩ gX12_lineAt_11.1 (Ktu3 fun kf18263 kt18264 so18265 => ?_)
            intro H locs hr8261 hP hD hS
            try dsimp only at hr8261
            refine Kpdr (ws := [(nc, iA G 100 fnc), (nl, iA G 54 (upd (upd (upd (upd fnl ja 2) (ja + 1) (nI v_8242)) (ja + 2) (-9)) (ja + 3) (-9))), (nF, sA G 5 (FCT K)), (h0, oX12 nw nk mhasKept nt (nI ktp) nr mrowMany mroundOf mroundFrom mouts nm mfromHour mtoHour ns (nI kf18263) (nI kt18264) so18265 0 0 (nI kc) mlines nl nc nF np ntr nb mbestCost nso nsi nit nsh nsf nss nrc mtraced mdealer mnumber mwhose msize misParted), (nt, iA G 240 fnt)]) hP hD (fun hP hD => ?_)
            have hw8267_0 := hr8261.1
            have hw8267_1 := hr8261.2
            have tA8269 := hw8267_1.1
            have tB8269 := hw8267_1.2.1
            refine lv_aload_n hx hb gX12_lineAt_11.2.1 rfl (lv_at1 hl) ?_
            refine gf_X12_32 hC rfl hK hP 3 rfl rfl gX12_lineAt_11.2.2.1 ?_
            refine lv_iload_n hx hb gX12_lineAt_11.2.2.2.1 rfl (lv_at2 hl) ?_
            refine lv_iconst (v := 2) hx hb gX12_lineAt_11.2.2.2.2.1 (by decide) ?_
            refine lv_iadd hx hb gX12_lineAt_11.2.2.2.2.2.1 ?_
            refine eqi (x1 := nI (ja + 2)) (nI_add ja 2) ?_
            refine lv_aload_n hx hb gX12_lineAt_11.2.2.2.2.2.2.1 rfl (lv_at1 hl) ?_
            refine lv_sipush (v := 999) hx hb gX12_lineAt_11.2.2.2.2.2.2.2.1 (by decide) ?_
            refine iV (wr := [(nc, iA G 100 fnc), (nl, iA G 54 (upd (upd (upd (upd fnl ja 2) (ja + 1) (nI v_8242)) (ja + 2) (-9)) (ja + 3) (-9))), (nF, sA G 5 (FCT K))]) hC hK hl hP hD hS hA (m_number0 l G h0 999 nw nk mhasKept nt ktp nr mrowMany mroundOf mroundFrom mouts nm mfromHour mtoHour ns kf18263 kt18264 so18265 0 (nI kc) mlines nl nc nF np ntr nb mbestCost nso nsi nit nsh nsf nss nrc mtraced mdealer mnumber mwhose msize misParted fnt (hw8267_1) (htp) (by omega)) si_X12_271 [3, 4] [0, 1, 2] sm_3_4 fm_3_4 nd_3_4 sm_0_1_2 nd_0_1_2 dj_3_4__0_1_2 rfl rfl rfl rfl rfl (Nat.le_of_ble_eq_true rfl) rm_32_5_5 ⟨Nat.le_of_ble_eq_true rfl, Nat.le_of_ble_eq_true rfl⟩ gX12_lineAt_11.2.2.2.2.2.2.2.2.1 (fun r8270 => Ktu4 fun ff18272 kf18273 kt18274 so18275 => ?_)
            intro H locs hr8270 hP hD hS
            try dsimp only at hr8270
            refine Kpdr (ws := [(nc, iA G 100 fnc), (nl, iA G 54 (upd (upd (upd (upd fnl ja 2) (ja + 1) (nI v_8242)) (ja + 2) (-9)) (ja + 3) (-9))), (nF, sA G 5 (FCT K)), (h0, oX12 nw nk mhasKept nt (nI ktp) nr mrowMany mroundOf mroundFrom mouts nm mfromHour mtoHour ns (nI kf18273) (nI kt18274) so18275 ff18272 0 (nI kc) mlines nl nc nF np ntr nb mbestCost nso nsi nit nsh nsf nss nrc mtraced mdealer mnumber mwhose msize misParted), (nt, iA G 240 fnt)]) hP hD (fun hP hD => ?_)
            obtain ⟨hr8270, w8276⟩ := hr8270
            rcases w8276 with rfl | ⟨rfl, ⟨v_8277, hv_8277, rfl⟩, hw8277_1, hw8277_2⟩
            · refine astN hC hK hP hD hS 1 (ws' := [(nc, iA G 100 fnc), (nl, iA G 54 (upd (upd (upd (upd (upd fnl ja 2) (ja + 1) (nI v_8242)) (ja + 2) (-9)) (ja + 3) (-9)) (ja + 2) r8270)), (nF, sA G 5 (FCT K)), (h0, oX12 nw nk mhasKept nt (nI ktp) nr mrowMany mroundOf mroundFrom mouts nm mfromHour mtoHour ns (nI kf18273) (nI kt18274) so18275 1 0 (nI kc) mlines nl nc nF np ntr nb mbestCost nso nsi nit nsh nsf nss nrc mtraced mdealer mnumber mwhose msize misParted), (nt, iA G 240 fnt)]) rfl (k := (ja + 2)) (by omega) (Nat.le_of_ble_eq_true rfl) (rfl) gX12_lineAt_11.2.2.2.2.2.2.2.2.2 (fun H locs hP hD hS => ?_)
              refine lv_aload_n hx hb gX12_lineAt_12.1 rfl (lv_at1 hl) ?_
              refine gf_X12_32 hC rfl hK hP 3 rfl rfl gX12_lineAt_12.2.1 ?_
              refine lv_iload_n hx hb gX12_lineAt_12.2.2.1 rfl (lv_at2 hl) ?_
              refine lv_iconst (v := 4) hx hb gX12_lineAt_12.2.2.2.1 (by decide) ?_
              refine lv_iadd hx hb gX12_lineAt_12.2.2.2.2.1 ?_
              refine eqi (x1 := nI (ja + 4)) (nI_add ja 4) ?_
              refine lv_aload_n hx hb gX12_lineAt_12.2.2.2.2.2.1 rfl (lv_at1 hl) ?_
              refine gf_X12_240 hC rfl hK hP 3 rfl rfl gX12_lineAt_12.2.2.2.2.2.2.1 ?_
              refine astN hC hK hP hD hS 1 (ws' := [(nc, iA G 100 fnc), (nl, iA G 54 (upd (upd (upd (upd (upd (upd fnl ja 2) (ja + 1) (nI v_8242)) (ja + 2) (-9)) (ja + 3) (-9)) (ja + 2) r8270) (ja + 4) (nI kc))), (nF, sA G 5 (FCT K)), (h0, oX12 nw nk mhasKept nt (nI ktp) nr mrowMany mroundOf mroundFrom mouts nm mfromHour mtoHour ns (nI kf18273) (nI kt18274) so18275 1 0 (nI kc) mlines nl nc nF np ntr nb mbestCost nso nsi nit nsh nsf nss nrc mtraced mdealer mnumber mwhose msize misParted), (nt, iA G 240 fnt)]) rfl (k := (ja + 4)) (by omega) (Nat.le_of_ble_eq_true rfl) (rfl) gX12_lineAt_12.2.2.2.2.2.2.2.1 (fun H locs hP hD hS => ?_)
              refine lv_iload_n hx hb gX12_lineAt_12.2.2.2.2.2.2.2.2.1 rfl (lv_at0 hl) ?_
              refine lv_iconst (v := 3) hx hb gX12_lineAt_12.2.2.2.2.2.2.2.2.2 (by decide) ?_
              refine lv_icmp_eq (tgt := 256) hx hb gX12_lineAt_13.1 (by decide) (fun c9 => absurd c9 (by decide)) (fun _ => ?_)
              refine lv_aload_n hx hb gX12_lineAt_13.2.1 rfl (lv_at1 hl) ?_
              refine va_ldcSw (index := 287) (tx := "if") hx hb hown (hO.2.2 0 (by decide)) gX12_lineAt_13.2.2.1 ?_
              refine pVo hO hS hC hK hl hP hD (m_isNameF l G K 0 h0 nw nk mhasKept nt (nI ktp) nr mrowMany mroundOf mroundFrom mouts nm mfromHour mtoHour ns (nI kf18273) (nI kt18274) so18275 0 (nI kc) mlines nl nc nF np ntr nb mbestCost nso nsi nit nsh nsf nss nrc mtraced mdealer mnumber mwhose msize misParted ((by decide))) si_X12_248 [3] sm_3 fm_3 nd_3 rfl rfl rfl rfl rfl (Nat.le_of_ble_eq_true rfl) rm_32_5_4 ⟨by first | exact Nat.le_of_ble_eq_true rfl | exact Nat.zero_le _, by first | exact Nat.le_of_ble_eq_true rfl | exact Nat.zero_le _⟩ gX12_lineAt_13.2.2.2.1 (Keqr ?_)
              refine lv_if_eq (tgt := 256) hx hb gX12_lineAt_13.2.2.2.2.1 (by decide) (fun _ => ?_) (fun c9 => absurd (by decide) c9)
              refine lv_aload_n hx hb gX12_lineAt_13.2.2.2.2.2.2.2.2.2 rfl (lv_at1 hl) ?_
              refine gf_X12_32 hC rfl hK hP 3 rfl rfl gX12_lineAt_14.1 ?_
              refine lv_iload_n hx hb gX12_lineAt_14.2.1 rfl (lv_at2 hl) ?_
              refine lv_iconst (v := 5) hx hb gX12_lineAt_14.2.2.1 (by decide) ?_
              refine lv_iadd hx hb gX12_lineAt_14.2.2.2.1 ?_
              refine eqi (x1 := nI (ja + 5)) (nI_add ja 5) ?_
              refine lv_aload_n hx hb gX12_lineAt_14.2.2.2.2.1 rfl (lv_at1 hl) ?_
              refine gf_X12_240 hC rfl hK hP 3 rfl rfl gX12_lineAt_14.2.2.2.2.2.1 ?_
              refine astN hC hK hP hD hS 1 (ws' := [(nc, iA G 100 fnc), (nl, iA G 54 (upd (upd (upd (upd (upd (upd (upd fnl ja 2) (ja + 1) (nI v_8242)) (ja + 2) (-9)) (ja + 3) (-9)) (ja + 2) r8270) (ja + 4) (nI kc)) (ja + 5) (nI kc))), (nF, sA G 5 (FCT K)), (h0, oX12 nw nk mhasKept nt (nI ktp) nr mrowMany mroundOf mroundFrom mouts nm mfromHour mtoHour ns (nI kf18273) (nI kt18274) so18275 1 0 (nI kc) mlines nl nc nF np ntr nb mbestCost nso nsi nit nsh nsf nss nrc mtraced mdealer mnumber mwhose msize misParted), (nt, iA G 240 fnt)]) rfl (k := (ja + 5)) (by omega) (Nat.le_of_ble_eq_true rfl) (rfl) gX12_lineAt_14.2.2.2.2.2.2.1 (fun H locs hP hD hS => ?_)
              refine lv_aload_n hx hb gX12_lineAt_14.2.2.2.2.2.2.2.1 rfl (lv_at1 hl) ?_
              refine lv_aload_n hx hb gX12_lineAt_14.2.2.2.2.2.2.2.2.1 rfl (lv_at1 hl) ?_
              refine lv_bipush (v := 59) hx hb gX12_lineAt_14.2.2.2.2.2.2.2.2.2 (by decide) ?_
              refine pV hC hK hl hP hD (m_isSignF l G h0 59 nw nk mhasKept nt (nI ktp) nr mrowMany mroundOf mroundFrom mouts nm mfromHour mtoHour ns (nI kf18273) (nI kt18274) so18275 0 (nI kc) mlines nl nc nF np ntr nb mbestCost nso nsi nit nsh nsf nss nrc mtraced mdealer mnumber mwhose msize misParted) si_X12_262 [3] sm_3 fm_3 nd_3 rfl rfl rfl rfl rfl (Nat.le_of_ble_eq_true rfl) rm_32_1_2 ⟨by first | exact Nat.le_of_ble_eq_true rfl | exact Nat.zero_le _, by first | exact Nat.le_of_ble_eq_true rfl | exact Nat.zero_le _⟩ gX12_lineAt_15.1 (Keqr ?_)
              refine vV (wr := [(nc, iA G 100 fnc), (nl, iA G 54 (upd (upd (upd (upd (upd (upd (upd fnl ja 2) (ja + 1) (nI v_8242)) (ja + 2) (-9)) (ja + 3) (-9)) (ja + 2) r8270) (ja + 4) (nI kc)) (ja + 5) (nI kc))), (nF, sA G 5 (FCT K)), (nt, iA G 240 fnt)]) hC hK hl hP hD hS hA (m_needF l G h0 0 nw nk mhasKept nt (nI ktp) nr mrowMany mroundOf mroundFrom mouts nm mfromHour mtoHour ns (nI kf18273) (nI kt18274) so18275 0 (nI kc) mlines nl nc nF np ntr nb mbestCost nso nsi nit nsh nsf nss nrc mtraced mdealer mnumber mwhose msize misParted) si_X12_236 [3] [0, 1, 2, 4] sm_3 fm_3 nd_3 sm_0_1_2_4 nd_0_1_2_4 dj_3__0_1_2_4 rfl rfl rfl rfl rfl (Nat.le_of_ble_eq_true rfl) rm_32_4_2 ⟨Nat.le_of_ble_eq_true rfl, Nat.le_of_ble_eq_true rfl⟩ gX12_lineAt_15.2.1 (fun u8283 H locs hr8282 hP hD hS => ?_)
              refine Kpdr (ws := [(nc, iA G 100 fnc), (nl, iA G 54 (upd (upd (upd (upd (upd (upd (upd fnl ja 2) (ja + 1) (nI v_8242)) (ja + 2) (-9)) (ja + 3) (-9)) (ja + 2) r8270) (ja + 4) (nI kc)) (ja + 5) (nI kc))), (nF, sA G 5 (FCT K)), (nt, iA G 240 fnt), (h0, oX12 nw nk mhasKept nt (nI ktp) nr mrowMany mroundOf mroundFrom mouts nm mfromHour mtoHour ns (nI kf18273) (nI kt18274) so18275 1 0 (nI kc) mlines nl nc nF np ntr nb mbestCost nso nsi nit nsh nsf nss nrc mtraced mdealer mnumber mwhose msize misParted)]) hP hD (fun hP hD => ?_)
              refine toQ hQ0 ?_
              exact RV hC hP hD hS [4, 3, 0, 1, 2] (1, kf18273, kt18274, so18275, kc, fnc, upd (upd (upd (upd (upd (upd (upd fnl ja 2) (ja + 1) (nI v_8242)) (ja + 2) (-9)) (ja + 3) (-9)) (ja + 2) r8270) (ja + 4) (nI kc)) (ja + 5) (nI kc)) rfl rfl (by decide) (Or.inl rfl) gX12_lineAt_15.2.2
            · have tA8285 := hw8277_2.1
              have tB8285 := hw8277_2.2.1
              refine astN hC hK hP hD hS 1 (ws' := [(nc, iA G 100 fnc), (nl, iA G 54 (upd (upd (upd (upd (upd fnl ja 2) (ja + 1) (nI v_8242)) (ja + 2) (-9)) (ja + 3) (-9)) (ja + 2) (nI v_8277))), (nF, sA G 5 (FCT K)), (h0, oX12 nw nk mhasKept nt (nI ktp) nr mrowMany mroundOf mroundFrom mouts nm mfromHour mtoHour ns (nI kf18273) (nI kt18274) so18275 0 0 (nI kc) mlines nl nc nF np ntr nb mbestCost nso nsi nit nsh nsf nss nrc mtraced mdealer mnumber mwhose msize misParted), (nt, iA G 240 fnt)]) rfl (k := (ja + 2)) (by omega) (Nat.le_of_ble_eq_true rfl) (rfl) gX12_lineAt_11.2.2.2.2.2.2.2.2.2 (fun H locs hP hD hS => ?_)
              refine lv_aload_n hx hb gX12_lineAt_12.1 rfl (lv_at1 hl) ?_
              refine gf_X12_32 hC rfl hK hP 3 rfl rfl gX12_lineAt_12.2.1 ?_
              refine lv_iload_n hx hb gX12_lineAt_12.2.2.1 rfl (lv_at2 hl) ?_
              refine lv_iconst (v := 4) hx hb gX12_lineAt_12.2.2.2.1 (by decide) ?_
              refine lv_iadd hx hb gX12_lineAt_12.2.2.2.2.1 ?_
              refine eqi (x1 := nI (ja + 4)) (nI_add ja 4) ?_
              refine lv_aload_n hx hb gX12_lineAt_12.2.2.2.2.2.1 rfl (lv_at1 hl) ?_
              refine gf_X12_240 hC rfl hK hP 3 rfl rfl gX12_lineAt_12.2.2.2.2.2.2.1 ?_
              refine astN hC hK hP hD hS 1 (ws' := [(nc, iA G 100 fnc), (nl, iA G 54 (upd (upd (upd (upd (upd (upd fnl ja 2) (ja + 1) (nI v_8242)) (ja + 2) (-9)) (ja + 3) (-9)) (ja + 2) (nI v_8277)) (ja + 4) (nI kc))), (nF, sA G 5 (FCT K)), (h0, oX12 nw nk mhasKept nt (nI ktp) nr mrowMany mroundOf mroundFrom mouts nm mfromHour mtoHour ns (nI kf18273) (nI kt18274) so18275 0 0 (nI kc) mlines nl nc nF np ntr nb mbestCost nso nsi nit nsh nsf nss nrc mtraced mdealer mnumber mwhose msize misParted), (nt, iA G 240 fnt)]) rfl (k := (ja + 4)) (by omega) (Nat.le_of_ble_eq_true rfl) (rfl) gX12_lineAt_12.2.2.2.2.2.2.2.1 (fun H locs hP hD hS => ?_)
              refine lv_iload_n hx hb gX12_lineAt_12.2.2.2.2.2.2.2.2.1 rfl (lv_at0 hl) ?_
              refine lv_iconst (v := 3) hx hb gX12_lineAt_12.2.2.2.2.2.2.2.2.2 (by decide) ?_
              refine lv_icmp_eq (tgt := 256) hx hb gX12_lineAt_13.1 (by decide) (fun c9 => absurd c9 (by decide)) (fun _ => ?_)
              refine lv_aload_n hx hb gX12_lineAt_13.2.1 rfl (lv_at1 hl) ?_
              refine va_ldcSw (index := 287) (tx := "if") hx hb hown (hO.2.2 0 (by decide)) gX12_lineAt_13.2.2.1 ?_
              refine pVo hO hS hC hK hl hP hD (m_isName0 l G K 0 h0 nw nk mhasKept nt ktp nr mrowMany mroundOf mroundFrom mouts nm mfromHour mtoHour ns kf18273 kt18274 so18275 0 (nI kc) mlines nl nc nF np ntr nb mbestCost nso nsi nit nsh nsf nss nrc mtraced mdealer mnumber mwhose msize misParted fnt ((by decide)) (hw8277_2) (htp)) si_X12_248 [3, 4] sm_3_4 fm_3_4 nd_3_4 rfl rfl rfl rfl rfl (Nat.le_of_ble_eq_true rfl) rm_32_5_4 ⟨by first | exact Nat.le_of_ble_eq_true rfl | exact Nat.zero_le _, by first | exact Nat.le_of_ble_eq_true rfl | exact Nat.zero_le _⟩ gX12_lineAt_13.2.2.2.1 (Kors (Keqa fun a8287 => ?_) (Keqr ?_))
              · refine lv_if_eq (tgt := 256) hx hb gX12_lineAt_13.2.2.2.2.1 (by decide) (fun c9 => absurd c9 (by decide)) (fun _ => ?_)
                refine lv_aload_n hx hb gX12_lineAt_13.2.2.2.2.2.1 rfl (lv_at1 hl) ?_
                have tI8288 : kt18274 = kf18273 + 2 := a8287.2
                refine vV (wr := [(nc, iA G 100 fnc), (nl, iA G 54 (upd (upd (upd (upd (upd (upd fnl ja 2) (ja + 1) (nI v_8242)) (ja + 2) (-9)) (ja + 3) (-9)) (ja + 2) (nI v_8277)) (ja + 4) (nI kc))), (nF, sA G 5 (FCT K))]) hC hK hl hP hD hS hA (m_next l G h0 nw nk mhasKept nt ktp nr mrowMany mroundOf mroundFrom mouts nm mfromHour mtoHour ns (nI kf18273) kt18274 so18275 0 0 (nI kc) mlines nl nc nF np ntr nb mbestCost nso nsi nit nsh nsf nss nrc mtraced mdealer mnumber mwhose msize misParted fnt (by omega) (htp)) si_X12_233 [3, 4] [0, 1, 2] sm_3_4 fm_3_4 nd_3_4 sm_0_1_2 nd_0_1_2 dj_3_4__0_1_2 rfl rfl rfl rfl rfl (Nat.le_of_ble_eq_true rfl) rm_32_3_1 ⟨Nat.le_of_ble_eq_true rfl, Nat.le_of_ble_eq_true rfl⟩ gX12_lineAt_13.2.2.2.2.2.2.1 (Ktu3 fun kf18291 kt18292 so18293 => ?_)
                intro H locs hr8289 hP hD hS
                try dsimp only at hr8289
                refine Kpdr (ws := [(nc, iA G 100 fnc), (nl, iA G 54 (upd (upd (upd (upd (upd (upd fnl ja 2) (ja + 1) (nI v_8242)) (ja + 2) (-9)) (ja + 3) (-9)) (ja + 2) (nI v_8277)) (ja + 4) (nI kc))), (nF, sA G 5 (FCT K)), (h0, oX12 nw nk mhasKept nt (nI ktp) nr mrowMany mroundOf mroundFrom mouts nm mfromHour mtoHour ns (nI kf18291) (nI kt18292) so18293 0 0 (nI kc) mlines nl nc nF np ntr nb mbestCost nso nsi nit nsh nsf nss nrc mtraced mdealer mnumber mwhose msize misParted), (nt, iA G 240 fnt)]) hP hD (fun hP hD => ?_)
                have hw8295_0 := hr8289.1
                have hw8295_1 := hr8289.2
                have tA8297 := hw8295_1.1
                have tB8297 := hw8295_1.2.1
                refine lv_aload_n hx hb gX12_lineAt_13.2.2.2.2.2.2.2.1 rfl (lv_at1 hl) ?_
                refine vVo (wr := [(nl, iA G 54 (upd (upd (upd (upd (upd (upd fnl ja 2) (ja + 1) (nI v_8242)) (ja + 2) (-9)) (ja + 3) (-9)) (ja + 2) (nI v_8277)) (ja + 4) (nI kc)))]) hO hC hK hl hP hD hS hA (m_either l G K 4 h0 nw nk mhasKept nt ktp nr mrowMany mroundOf mroundFrom mouts nm mfromHour mtoHour ns kf18291 kt18292 so18293 0 kc mlines nl nc nF np ntr nb mbestCost nso nsi nit nsh nsf nss nrc mtraced mdealer mnumber mwhose msize misParted fnt fnc (hw8295_1) (by omega) (by omega) (by omega)) si_X12_268 [3, 4, 0, 2] [1] sm_3_4_0_2 fm_3_4_0_2 nd_3_4_0_2 sm_1 nd_1 dj_3_4_0_2__1 rfl rfl rfl rfl rfl (Nat.le_of_ble_eq_true rfl) ⟨Nat.le_of_ble_eq_true rfl, Nat.le_of_ble_eq_true rfl⟩ ⟨Nat.le_of_ble_eq_true rfl, Nat.le_of_ble_eq_true rfl⟩ gX12_lineAt_13.2.2.2.2.2.2.2.2.1 (Ktu6 fun ff18300 kf18301 kt18302 so18303 kc18304 gnc8305 => ?_)
                intro H locs hr8298 hP hD hS
                try dsimp only at hr8298
                refine Kpdr (ws := [(nl, iA G 54 (upd (upd (upd (upd (upd (upd fnl ja 2) (ja + 1) (nI v_8242)) (ja + 2) (-9)) (ja + 3) (-9)) (ja + 2) (nI v_8277)) (ja + 4) (nI kc))), (h0, oX12 nw nk mhasKept nt (nI ktp) nr mrowMany mroundOf mroundFrom mouts nm mfromHour mtoHour ns (nI kf18301) (nI kt18302) so18303 ff18300 0 (nI kc18304) mlines nl nc nF np ntr nb mbestCost nso nsi nit nsh nsf nss nrc mtraced mdealer mnumber mwhose msize misParted), (nt, iA G 240 fnt), (nc, iA G 100 gnc8305), (nF, sA G 5 (FCT K))]) hP hD (fun hP hD => ?_)
                have w8306 := hr8298
                rcases w8306 with rfl | ⟨rfl, hw8307_0, hw8307_1⟩
                · refine lv_aload_n hx hb gX12_lineAt_13.2.2.2.2.2.2.2.2.2 rfl (lv_at1 hl) ?_
                  refine gf_X12_32 hC rfl hK hP 1 rfl rfl gX12_lineAt_14.1 ?_
                  refine lv_iload_n hx hb gX12_lineAt_14.2.1 rfl (lv_at2 hl) ?_
                  refine lv_iconst (v := 5) hx hb gX12_lineAt_14.2.2.1 (by decide) ?_
                  refine lv_iadd hx hb gX12_lineAt_14.2.2.2.1 ?_
                  refine eqi (x1 := nI (ja + 5)) (nI_add ja 5) ?_
                  refine lv_aload_n hx hb gX12_lineAt_14.2.2.2.2.1 rfl (lv_at1 hl) ?_
                  refine gf_X12_240 hC rfl hK hP 1 rfl rfl gX12_lineAt_14.2.2.2.2.2.1 ?_
                  refine astN hC hK hP hD hS 0 (ws' := [(nl, iA G 54 (upd (upd (upd (upd (upd (upd (upd fnl ja 2) (ja + 1) (nI v_8242)) (ja + 2) (-9)) (ja + 3) (-9)) (ja + 2) (nI v_8277)) (ja + 4) (nI kc)) (ja + 5) (nI kc18304))), (h0, oX12 nw nk mhasKept nt (nI ktp) nr mrowMany mroundOf mroundFrom mouts nm mfromHour mtoHour ns (nI kf18301) (nI kt18302) so18303 1 0 (nI kc18304) mlines nl nc nF np ntr nb mbestCost nso nsi nit nsh nsf nss nrc mtraced mdealer mnumber mwhose msize misParted), (nt, iA G 240 fnt), (nc, iA G 100 gnc8305), (nF, sA G 5 (FCT K))]) rfl (k := (ja + 5)) (by omega) (Nat.le_of_ble_eq_true rfl) (rfl) gX12_lineAt_14.2.2.2.2.2.2.1 (fun H locs hP hD hS => ?_)
                  refine lv_aload_n hx hb gX12_lineAt_14.2.2.2.2.2.2.2.1 rfl (lv_at1 hl) ?_
                  refine lv_aload_n hx hb gX12_lineAt_14.2.2.2.2.2.2.2.2.1 rfl (lv_at1 hl) ?_
                  refine lv_bipush (v := 59) hx hb gX12_lineAt_14.2.2.2.2.2.2.2.2.2 (by decide) ?_
                  refine pV hC hK hl hP hD (m_isSignF l G h0 59 nw nk mhasKept nt (nI ktp) nr mrowMany mroundOf mroundFrom mouts nm mfromHour mtoHour ns (nI kf18301) (nI kt18302) so18303 0 (nI kc18304) mlines nl nc nF np ntr nb mbestCost nso nsi nit nsh nsf nss nrc mtraced mdealer mnumber mwhose msize misParted) si_X12_262 [1] sm_1 fm_1 nd_1 rfl rfl rfl rfl rfl (Nat.le_of_ble_eq_true rfl) rm_32_1_2 ⟨by first | exact Nat.le_of_ble_eq_true rfl | exact Nat.zero_le _, by first | exact Nat.le_of_ble_eq_true rfl | exact Nat.zero_le _⟩ gX12_lineAt_15.1 (Keqr ?_)
                  refine vV (wr := [(nl, iA G 54 (upd (upd (upd (upd (upd (upd (upd fnl ja 2) (ja + 1) (nI v_8242)) (ja + 2) (-9)) (ja + 3) (-9)) (ja + 2) (nI v_8277)) (ja + 4) (nI kc)) (ja + 5) (nI kc18304))), (nt, iA G 240 fnt), (nc, iA G 100 gnc8305), (nF, sA G 5 (FCT K))]) hC hK hl hP hD hS hA (m_needF l G h0 0 nw nk mhasKept nt (nI ktp) nr mrowMany mroundOf mroundFrom mouts nm mfromHour mtoHour ns (nI kf18301) (nI kt18302) so18303 0 (nI kc18304) mlines nl nc nF np ntr nb mbestCost nso nsi nit nsh nsf nss nrc mtraced mdealer mnumber mwhose msize misParted) si_X12_236 [1] [0, 2, 3, 4] sm_1 fm_1 nd_1 sm_0_2_3_4 nd_0_2_3_4 dj_1__0_2_3_4 rfl rfl rfl rfl rfl (Nat.le_of_ble_eq_true rfl) rm_32_4_2 ⟨Nat.le_of_ble_eq_true rfl, Nat.le_of_ble_eq_true rfl⟩ gX12_lineAt_15.2.1 (fun u8311 H locs hr8310 hP hD hS => ?_)
                  refine Kpdr (ws := [(nl, iA G 54 (upd (upd (upd (upd (upd (upd (upd fnl ja 2) (ja + 1) (nI v_8242)) (ja + 2) (-9)) (ja + 3) (-9)) (ja + 2) (nI v_8277)) (ja + 4) (nI kc)) (ja + 5) (nI kc18304))), (nt, iA G 240 fnt), (nc, iA G 100 gnc8305), (nF, sA G 5 (FCT K)), (h0, oX12 nw nk mhasKept nt (nI ktp) nr mrowMany mroundOf mroundFrom mouts nm mfromHour mtoHour ns (nI kf18301) (nI kt18302) so18303 1 0 (nI kc18304) mlines nl nc nF np ntr nb mbestCost nso nsi nit nsh nsf nss nrc mtraced mdealer mnumber mwhose msize misParted)]) hP hD (fun hP hD => ?_)
                  refine toQ hQ0 ?_
                  exact RV hC hP hD hS [4, 1, 2, 0, 3] (1, kf18301, kt18302, so18303, kc18304, gnc8305, upd (upd (upd (upd (upd (upd (upd fnl ja 2) (ja + 1) (nI v_8242)) (ja + 2) (-9)) (ja + 3) (-9)) (ja + 2) (nI v_8277)) (ja + 4) (nI kc)) (ja + 5) (nI kc18304)) rfl rfl (by decide) (Or.inl rfl) gX12_lineAt_15.2.2
                · have tA8312 := hw8307_0.1
                  have tB8312 := hw8307_0.2.1
                  have tA8313 := hw8307_1.1
                  have tB8313 := hw8307_1.2.1
                  refine lv_aload_n hx hb gX12_lineAt_13.2.2.2.2.2.2.2.2.2 rfl (lv_at1 hl) ?_
                  refine gf_X12_32 hC rfl hK hP 1 rfl rfl gX12_lineAt_14.1 ?_
                  refine lv_iload_n hx hb gX12_lineAt_14.2.1 rfl (lv_at2 hl) ?_
                  refine lv_iconst (v := 5) hx hb gX12_lineAt_14.2.2.1 (by decide) ?_
                  refine lv_iadd hx hb gX12_lineAt_14.2.2.2.1 ?_
                  refine eqi (x1 := nI (ja + 5)) (nI_add ja 5) ?_
                  refine lv_aload_n hx hb gX12_lineAt_14.2.2.2.2.1 rfl (lv_at1 hl) ?_
                  refine gf_X12_240 hC rfl hK hP 1 rfl rfl gX12_lineAt_14.2.2.2.2.2.1 ?_
                  refine astN hC hK hP hD hS 0 (ws' := [(nl, iA G 54 (upd (upd (upd (upd (upd (upd (upd fnl ja 2) (ja + 1) (nI v_8242)) (ja + 2) (-9)) (ja + 3) (-9)) (ja + 2) (nI v_8277)) (ja + 4) (nI kc)) (ja + 5) (nI kc18304))), (h0, oX12 nw nk mhasKept nt (nI ktp) nr mrowMany mroundOf mroundFrom mouts nm mfromHour mtoHour ns (nI kf18301) (nI kt18302) so18303 0 0 (nI kc18304) mlines nl nc nF np ntr nb mbestCost nso nsi nit nsh nsf nss nrc mtraced mdealer mnumber mwhose msize misParted), (nt, iA G 240 fnt), (nc, iA G 100 gnc8305), (nF, sA G 5 (FCT K))]) rfl (k := (ja + 5)) (by omega) (Nat.le_of_ble_eq_true rfl) (rfl) gX12_lineAt_14.2.2.2.2.2.2.1 (fun H locs hP hD hS => ?_)
                  refine lv_aload_n hx hb gX12_lineAt_14.2.2.2.2.2.2.2.1 rfl (lv_at1 hl) ?_
                  refine lv_aload_n hx hb gX12_lineAt_14.2.2.2.2.2.2.2.2.1 rfl (lv_at1 hl) ?_
                  refine lv_bipush (v := 59) hx hb gX12_lineAt_14.2.2.2.2.2.2.2.2.2 (by decide) ?_
                  refine pV hC hK hl hP hD (m_isSign0 l G h0 59 nw nk mhasKept nt ktp nr mrowMany mroundOf mroundFrom mouts nm mfromHour mtoHour ns kf18301 kt18302 so18303 0 (nI kc18304) mlines nl nc nF np ntr nb mbestCost nso nsi nit nsh nsf nss nrc mtraced mdealer mnumber mwhose msize misParted fnt (hw8307_0) (htp)) si_X12_262 [1, 2] sm_1_2 fm_1_2 nd_1_2 rfl rfl rfl rfl rfl (Nat.le_of_ble_eq_true rfl) rm_32_1_2 ⟨by first | exact Nat.le_of_ble_eq_true rfl | exact Nat.zero_le _, by first | exact Nat.le_of_ble_eq_true rfl | exact Nat.zero_le _⟩ gX12_lineAt_15.1 (Kors (Keqa fun a8315 => ?_) (Keqa fun a8315 => ?_))
                  · have tI8316 := a8315.1
                    refine vV (wr := [(nl, iA G 54 (upd (upd (upd (upd (upd (upd (upd fnl ja 2) (ja + 1) (nI v_8242)) (ja + 2) (-9)) (ja + 3) (-9)) (ja + 2) (nI v_8277)) (ja + 4) (nI kc)) (ja + 5) (nI kc18304))), (nc, iA G 100 gnc8305), (nF, sA G 5 (FCT K))]) hC hK hl hP hD hS hA (m_need1 l G h0 nw nk mhasKept nt ktp nr mrowMany mroundOf mroundFrom mouts nm mfromHour mtoHour ns (nI kf18301) kt18302 so18303 0 (nI kc18304) mlines nl nc nF np ntr nb mbestCost nso nsi nit nsh nsf nss nrc mtraced mdealer mnumber mwhose msize misParted fnt (by omega) (htp)) si_X12_236 [1, 2] [0, 3, 4] sm_1_2 fm_1_2 nd_1_2 sm_0_3_4 nd_0_3_4 dj_1_2__0_3_4 rfl rfl rfl rfl rfl (Nat.le_of_ble_eq_true rfl) rm_32_4_2 ⟨Nat.le_of_ble_eq_true rfl, Nat.le_of_ble_eq_true rfl⟩ gX12_lineAt_15.2.1 (Ktu3 fun kf18319 kt18320 so18321 => ?_)
                    intro H locs hr8317 hP hD hS
                    try dsimp only at hr8317
                    refine Kpdr (ws := [(nl, iA G 54 (upd (upd (upd (upd (upd (upd (upd fnl ja 2) (ja + 1) (nI v_8242)) (ja + 2) (-9)) (ja + 3) (-9)) (ja + 2) (nI v_8277)) (ja + 4) (nI kc)) (ja + 5) (nI kc18304))), (nc, iA G 100 gnc8305), (nF, sA G 5 (FCT K)), (h0, oX12 nw nk mhasKept nt (nI ktp) nr mrowMany mroundOf mroundFrom mouts nm mfromHour mtoHour ns (nI kf18319) (nI kt18320) so18321 0 0 (nI kc18304) mlines nl nc nF np ntr nb mbestCost nso nsi nit nsh nsf nss nrc mtraced mdealer mnumber mwhose msize misParted), (nt, iA G 240 fnt)]) hP hD (fun hP hD => ?_)
                    have hw8323_0 := hr8317.1
                    have hw8323_1 := hr8317.2
                    have tA8325 := hw8323_1.1
                    have tB8325 := hw8323_1.2.1
                    refine toQ hQ0 ?_
                    exact RV hC hP hD hS [3, 4, 1, 0, 2] (0, kf18319, kt18320, so18321, kc18304, gnc8305, upd (upd (upd (upd (upd (upd (upd fnl ja 2) (ja + 1) (nI v_8242)) (ja + 2) (-9)) (ja + 3) (-9)) (ja + 2) (nI v_8277)) (ja + 4) (nI kc)) (ja + 5) (nI kc18304)) rfl rfl (by decide) (Or.inr ⟨rfl, hw8323_1, by (try dsimp only); omega, by (try dsimp only); omega, fun i hi => (upd_ne (by omega)).trans ((upd_ne (by omega)).trans ((upd_ne (by omega)).trans ((upd_ne (by omega)).trans ((upd_ne (by omega)).trans ((upd_ne (by omega)).trans ((upd_ne (by omega)).trans (rfl))))))), hw8307_1.2.2.1, ⟨2, by decide, (upd_ne (by omega)).trans ((upd_ne (by omega)).trans ((upd_ne (by omega)).trans ((upd_ne (by omega)).trans ((upd_ne (by omega)).trans ((upd_ne (by omega)).trans (upd_eq (by omega))))))), fun h9 => absurd h9 (by decide), fun _ => ⟨v_8242, by omega, (upd_ne (by omega)).trans ((upd_ne (by omega)).trans ((upd_ne (by omega)).trans ((upd_ne (by omega)).trans ((upd_ne (by omega)).trans (upd_eq (by omega))))))⟩⟩, kc, kc18304, (upd_ne (by omega)).trans (upd_eq (by omega)), upd_eq (by omega), by (try dsimp only); omega, by (try dsimp only); omega, hw8307_1.2.2.2.wfc⟩) gX12_lineAt_15.2.2
                  · refine vV (wr := [(nl, iA G 54 (upd (upd (upd (upd (upd (upd (upd fnl ja 2) (ja + 1) (nI v_8242)) (ja + 2) (-9)) (ja + 3) (-9)) (ja + 2) (nI v_8277)) (ja + 4) (nI kc)) (ja + 5) (nI kc18304))), (nt, iA G 240 fnt), (nc, iA G 100 gnc8305), (nF, sA G 5 (FCT K))]) hC hK hl hP hD hS hA (m_need0 l G h0 nw nk mhasKept nt (nI ktp) nr mrowMany mroundOf mroundFrom mouts nm mfromHour mtoHour ns (nI kf18301) (nI kt18302) so18303 0 (nI kc18304) mlines nl nc nF np ntr nb mbestCost nso nsi nit nsh nsf nss nrc mtraced mdealer mnumber mwhose msize misParted) si_X12_236 [1] [0, 2, 3, 4] sm_1 fm_1 nd_1 sm_0_2_3_4 nd_0_2_3_4 dj_1__0_2_3_4 rfl rfl rfl rfl rfl (Nat.le_of_ble_eq_true rfl) rm_32_4_2 ⟨Nat.le_of_ble_eq_true rfl, Nat.le_of_ble_eq_true rfl⟩ gX12_lineAt_15.2.1 (fun u8327 H locs hr8326 hP hD hS => ?_)
                    refine Kpdr (ws := [(nl, iA G 54 (upd (upd (upd (upd (upd (upd (upd fnl ja 2) (ja + 1) (nI v_8242)) (ja + 2) (-9)) (ja + 3) (-9)) (ja + 2) (nI v_8277)) (ja + 4) (nI kc)) (ja + 5) (nI kc18304))), (nt, iA G 240 fnt), (nc, iA G 100 gnc8305), (nF, sA G 5 (FCT K)), (h0, oX12 nw nk mhasKept nt (nI ktp) nr mrowMany mroundOf mroundFrom mouts nm mfromHour mtoHour ns (nI kf18301) (nI kt18302) so18303 1 0 (nI kc18304) mlines nl nc nF np ntr nb mbestCost nso nsi nit nsh nsf nss nrc mtraced mdealer mnumber mwhose msize misParted)]) hP hD (fun hP hD => ?_)
                    refine toQ hQ0 ?_
                    exact RV hC hP hD hS [4, 1, 2, 0, 3] (1, kf18301, kt18302, so18303, kc18304, gnc8305, upd (upd (upd (upd (upd (upd (upd fnl ja 2) (ja + 1) (nI v_8242)) (ja + 2) (-9)) (ja + 3) (-9)) (ja + 2) (nI v_8277)) (ja + 4) (nI kc)) (ja + 5) (nI kc18304)) rfl rfl (by decide) (Or.inl rfl) gX12_lineAt_15.2.2
              · refine lv_if_eq (tgt := 256) hx hb gX12_lineAt_13.2.2.2.2.1 (by decide) (fun _ => ?_) (fun c9 => absurd (by decide) c9)
                refine lv_aload_n hx hb gX12_lineAt_13.2.2.2.2.2.2.2.2.2 rfl (lv_at1 hl) ?_
                refine gf_X12_32 hC rfl hK hP 3 rfl rfl gX12_lineAt_14.1 ?_
                refine lv_iload_n hx hb gX12_lineAt_14.2.1 rfl (lv_at2 hl) ?_
                refine lv_iconst (v := 5) hx hb gX12_lineAt_14.2.2.1 (by decide) ?_
                refine lv_iadd hx hb gX12_lineAt_14.2.2.2.1 ?_
                refine eqi (x1 := nI (ja + 5)) (nI_add ja 5) ?_
                refine lv_aload_n hx hb gX12_lineAt_14.2.2.2.2.1 rfl (lv_at1 hl) ?_
                refine gf_X12_240 hC rfl hK hP 3 rfl rfl gX12_lineAt_14.2.2.2.2.2.1 ?_
                refine astN hC hK hP hD hS 1 (ws' := [(nc, iA G 100 fnc), (nl, iA G 54 (upd (upd (upd (upd (upd (upd (upd fnl ja 2) (ja + 1) (nI v_8242)) (ja + 2) (-9)) (ja + 3) (-9)) (ja + 2) (nI v_8277)) (ja + 4) (nI kc)) (ja + 5) (nI kc))), (nF, sA G 5 (FCT K)), (h0, oX12 nw nk mhasKept nt (nI ktp) nr mrowMany mroundOf mroundFrom mouts nm mfromHour mtoHour ns (nI kf18273) (nI kt18274) so18275 0 0 (nI kc) mlines nl nc nF np ntr nb mbestCost nso nsi nit nsh nsf nss nrc mtraced mdealer mnumber mwhose msize misParted), (nt, iA G 240 fnt)]) rfl (k := (ja + 5)) (by omega) (Nat.le_of_ble_eq_true rfl) (rfl) gX12_lineAt_14.2.2.2.2.2.2.1 (fun H locs hP hD hS => ?_)
                refine lv_aload_n hx hb gX12_lineAt_14.2.2.2.2.2.2.2.1 rfl (lv_at1 hl) ?_
                refine lv_aload_n hx hb gX12_lineAt_14.2.2.2.2.2.2.2.2.1 rfl (lv_at1 hl) ?_
                refine lv_bipush (v := 59) hx hb gX12_lineAt_14.2.2.2.2.2.2.2.2.2 (by decide) ?_
                refine pV hC hK hl hP hD (m_isSign0 l G h0 59 nw nk mhasKept nt ktp nr mrowMany mroundOf mroundFrom mouts nm mfromHour mtoHour ns kf18273 kt18274 so18275 0 (nI kc) mlines nl nc nF np ntr nb mbestCost nso nsi nit nsh nsf nss nrc mtraced mdealer mnumber mwhose msize misParted fnt (hw8277_2) (htp)) si_X12_262 [3, 4] sm_3_4 fm_3_4 nd_3_4 rfl rfl rfl rfl rfl (Nat.le_of_ble_eq_true rfl) rm_32_1_2 ⟨by first | exact Nat.le_of_ble_eq_true rfl | exact Nat.zero_le _, by first | exact Nat.le_of_ble_eq_true rfl | exact Nat.zero_le _⟩ gX12_lineAt_15.1 (Kors (Keqa fun a8329 => ?_) (Keqa fun a8329 => ?_))
                · have tI8330 := a8329.1
                  refine vV (wr := [(nc, iA G 100 fnc), (nl, iA G 54 (upd (upd (upd (upd (upd (upd (upd fnl ja 2) (ja + 1) (nI v_8242)) (ja + 2) (-9)) (ja + 3) (-9)) (ja + 2) (nI v_8277)) (ja + 4) (nI kc)) (ja + 5) (nI kc))), (nF, sA G 5 (FCT K))]) hC hK hl hP hD hS hA (m_need1 l G h0 nw nk mhasKept nt ktp nr mrowMany mroundOf mroundFrom mouts nm mfromHour mtoHour ns (nI kf18273) kt18274 so18275 0 (nI kc) mlines nl nc nF np ntr nb mbestCost nso nsi nit nsh nsf nss nrc mtraced mdealer mnumber mwhose msize misParted fnt (by omega) (htp)) si_X12_236 [3, 4] [0, 1, 2] sm_3_4 fm_3_4 nd_3_4 sm_0_1_2 nd_0_1_2 dj_3_4__0_1_2 rfl rfl rfl rfl rfl (Nat.le_of_ble_eq_true rfl) rm_32_4_2 ⟨Nat.le_of_ble_eq_true rfl, Nat.le_of_ble_eq_true rfl⟩ gX12_lineAt_15.2.1 (Ktu3 fun kf18333 kt18334 so18335 => ?_)
                  intro H locs hr8331 hP hD hS
                  try dsimp only at hr8331
                  refine Kpdr (ws := [(nc, iA G 100 fnc), (nl, iA G 54 (upd (upd (upd (upd (upd (upd (upd fnl ja 2) (ja + 1) (nI v_8242)) (ja + 2) (-9)) (ja + 3) (-9)) (ja + 2) (nI v_8277)) (ja + 4) (nI kc)) (ja + 5) (nI kc))), (nF, sA G 5 (FCT K)), (h0, oX12 nw nk mhasKept nt (nI ktp) nr mrowMany mroundOf mroundFrom mouts nm mfromHour mtoHour ns (nI kf18333) (nI kt18334) so18335 0 0 (nI kc) mlines nl nc nF np ntr nb mbestCost nso nsi nit nsh nsf nss nrc mtraced mdealer mnumber mwhose msize misParted), (nt, iA G 240 fnt)]) hP hD (fun hP hD => ?_)
                  have hw8337_0 := hr8331.1
                  have hw8337_1 := hr8331.2
                  have tA8339 := hw8337_1.1
                  have tB8339 := hw8337_1.2.1
                  refine toQ hQ0 ?_
                  exact RV hC hP hD hS [3, 4, 0, 1, 2] (0, kf18333, kt18334, so18335, kc, fnc, upd (upd (upd (upd (upd (upd (upd fnl ja 2) (ja + 1) (nI v_8242)) (ja + 2) (-9)) (ja + 3) (-9)) (ja + 2) (nI v_8277)) (ja + 4) (nI kc)) (ja + 5) (nI kc)) rfl rfl (by decide) (Or.inr ⟨rfl, hw8337_1, by (try dsimp only); omega, by (try dsimp only); omega, fun i hi => (upd_ne (by omega)).trans ((upd_ne (by omega)).trans ((upd_ne (by omega)).trans ((upd_ne (by omega)).trans ((upd_ne (by omega)).trans ((upd_ne (by omega)).trans ((upd_ne (by omega)).trans (rfl))))))), fun _ _ => rfl, ⟨2, by decide, (upd_ne (by omega)).trans ((upd_ne (by omega)).trans ((upd_ne (by omega)).trans ((upd_ne (by omega)).trans ((upd_ne (by omega)).trans ((upd_ne (by omega)).trans (upd_eq (by omega))))))), fun h9 => absurd h9 (by decide), fun _ => ⟨v_8242, by omega, (upd_ne (by omega)).trans ((upd_ne (by omega)).trans ((upd_ne (by omega)).trans ((upd_ne (by omega)).trans ((upd_ne (by omega)).trans (upd_eq (by omega))))))⟩⟩, kc, kc, (upd_ne (by omega)).trans (upd_eq (by omega)), upd_eq (by omega), by (try dsimp only); omega, by (try dsimp only); omega, WFC.zero⟩) gX12_lineAt_15.2.2
                · refine vV (wr := [(nc, iA G 100 fnc), (nl, iA G 54 (upd (upd (upd (upd (upd (upd (upd fnl ja 2) (ja + 1) (nI v_8242)) (ja + 2) (-9)) (ja + 3) (-9)) (ja + 2) (nI v_8277)) (ja + 4) (nI kc)) (ja + 5) (nI kc))), (nF, sA G 5 (FCT K)), (nt, iA G 240 fnt)]) hC hK hl hP hD hS hA (m_need0 l G h0 nw nk mhasKept nt (nI ktp) nr mrowMany mroundOf mroundFrom mouts nm mfromHour mtoHour ns (nI kf18273) (nI kt18274) so18275 0 (nI kc) mlines nl nc nF np ntr nb mbestCost nso nsi nit nsh nsf nss nrc mtraced mdealer mnumber mwhose msize misParted) si_X12_236 [3] [0, 1, 2, 4] sm_3 fm_3 nd_3 sm_0_1_2_4 nd_0_1_2_4 dj_3__0_1_2_4 rfl rfl rfl rfl rfl (Nat.le_of_ble_eq_true rfl) rm_32_4_2 ⟨Nat.le_of_ble_eq_true rfl, Nat.le_of_ble_eq_true rfl⟩ gX12_lineAt_15.2.1 (fun u8341 H locs hr8340 hP hD hS => ?_)
                  refine Kpdr (ws := [(nc, iA G 100 fnc), (nl, iA G 54 (upd (upd (upd (upd (upd (upd (upd fnl ja 2) (ja + 1) (nI v_8242)) (ja + 2) (-9)) (ja + 3) (-9)) (ja + 2) (nI v_8277)) (ja + 4) (nI kc)) (ja + 5) (nI kc))), (nF, sA G 5 (FCT K)), (nt, iA G 240 fnt), (h0, oX12 nw nk mhasKept nt (nI ktp) nr mrowMany mroundOf mroundFrom mouts nm mfromHour mtoHour ns (nI kf18273) (nI kt18274) so18275 1 0 (nI kc) mlines nl nc nF np ntr nb mbestCost nso nsi nit nsh nsf nss nrc mtraced mdealer mnumber mwhose msize misParted)]) hP hD (fun hP hD => ?_)
                  refine toQ hQ0 ?_
                  exact RV hC hP hD hS [4, 3, 0, 1, 2] (1, kf18273, kt18274, so18275, kc, fnc, upd (upd (upd (upd (upd (upd (upd fnl ja 2) (ja + 1) (nI v_8242)) (ja + 2) (-9)) (ja + 3) (-9)) (ja + 2) (nI v_8277)) (ja + 4) (nI kc)) (ja + 5) (nI kc)) rfl rfl (by decide) (Or.inl rfl) gX12_lineAt_15.2.2
          · refine vV (wr := [(nc, iA G 100 fnc), (nl, iA G 54 (upd (upd (upd (upd fnl ja 2) (ja + 1) (nI v_8242)) (ja + 2) (-9)) (ja + 3) (-9))), (nF, sA G 5 (FCT K)), (nt, iA G 240 fnt)]) hC hK hl hP hD hS hA (m_need0 l G h0 nw nk mhasKept nt (nI ktp) nr mrowMany mroundOf mroundFrom mouts nm mfromHour mtoHour ns (nI kf18238) (nI kt18239) so18240 0 (nI kc) mlines nl nc nF np ntr nb mbestCost nso nsi nit nsh nsf nss nrc mtraced mdealer mnumber mwhose msize misParted) si_X12_236 [3] [0, 1, 2, 4] sm_3 fm_3 nd_3 sm_0_1_2_4 nd_0_1_2_4 dj_3__0_1_2_4 rfl rfl rfl rfl rfl (Nat.le_of_ble_eq_true rfl) rm_32_4_2 ⟨Nat.le_of_ble_eq_true rfl, Nat.le_of_ble_eq_true rfl⟩ gX12_lineAt_11.1 (fun u8343 H locs hr8342 hP hD hS => ?_)
            refine Kpdr (ws := [(nc, iA G 100 fnc), (nl, iA G 54 (upd (upd (upd (upd fnl ja 2) (ja + 1) (nI v_8242)) (ja + 2) (-9)) (ja + 3) (-9))), (nF, sA G 5 (FCT K)), (nt, iA G 240 fnt), (h0, oX12 nw nk mhasKept nt (nI ktp) nr mrowMany mroundOf mroundFrom mouts nm mfromHour mtoHour ns (nI kf18238) (nI kt18239) so18240 1 0 (nI kc) mlines nl nc nF np ntr nb mbestCost nso nsi nit nsh nsf nss nrc mtraced mdealer mnumber mwhose msize misParted)]) hP hD (fun hP hD => ?_)
            refine lv_aload_n hx hb gX12_lineAt_11.2.1 rfl (lv_at1 hl) ?_
            refine gf_X12_32 hC rfl hK hP 4 rfl rfl gX12_lineAt_11.2.2.1 ?_
            refine lv_iload_n hx hb gX12_lineAt_11.2.2.2.1 rfl (lv_at2 hl) ?_
            refine lv_iconst (v := 2) hx hb gX12_lineAt_11.2.2.2.2.1 (by decide) ?_
            refine lv_iadd hx hb gX12_lineAt_11.2.2.2.2.2.1 ?_
            refine eqi (x1 := nI (ja + 2)) (nI_add ja 2) ?_
            refine lv_aload_n hx hb gX12_lineAt_11.2.2.2.2.2.2.1 rfl (lv_at1 hl) ?_
            refine lv_sipush (v := 999) hx hb gX12_lineAt_11.2.2.2.2.2.2.2.1 (by decide) ?_
            refine iV (wr := [(nc, iA G 100 fnc), (nl, iA G 54 (upd (upd (upd (upd fnl ja 2) (ja + 1) (nI v_8242)) (ja + 2) (-9)) (ja + 3) (-9))), (nF, sA G 5 (FCT K)), (nt, iA G 240 fnt)]) hC hK hl hP hD hS hA (m_numberF l G h0 999 nw nk mhasKept nt (nI ktp) nr mrowMany mroundOf mroundFrom mouts nm mfromHour mtoHour ns (nI kf18238) (nI kt18239) so18240 0 (nI kc) mlines nl nc nF np ntr nb mbestCost nso nsi nit nsh nsf nss nrc mtraced mdealer mnumber mwhose msize misParted) si_X12_271 [4] [0, 1, 2, 3] sm_4 fm_4 nd_4 sm_0_1_2_3 nd_0_1_2_3 dj_4__0_1_2_3 rfl rfl rfl rfl rfl (Nat.le_of_ble_eq_true rfl) rm_32_5_5 ⟨Nat.le_of_ble_eq_true rfl, Nat.le_of_ble_eq_true rfl⟩ gX12_lineAt_11.2.2.2.2.2.2.2.2.1 (fun r8344 u8345 H locs hr8344 hP hD hS => ?_)
            refine Kpdr (ws := [(nc, iA G 100 fnc), (nl, iA G 54 (upd (upd (upd (upd fnl ja 2) (ja + 1) (nI v_8242)) (ja + 2) (-9)) (ja + 3) (-9))), (nF, sA G 5 (FCT K)), (nt, iA G 240 fnt), (h0, oX12 nw nk mhasKept nt (nI ktp) nr mrowMany mroundOf mroundFrom mouts nm mfromHour mtoHour ns (nI kf18238) (nI kt18239) so18240 1 0 (nI kc) mlines nl nc nF np ntr nb mbestCost nso nsi nit nsh nsf nss nrc mtraced mdealer mnumber mwhose msize misParted)]) hP hD (fun hP hD => ?_)
            obtain rfl := hr8344
            refine astN hC hK hP hD hS 1 (ws' := [(nc, iA G 100 fnc), (nl, iA G 54 (upd (upd (upd (upd (upd fnl ja 2) (ja + 1) (nI v_8242)) (ja + 2) (-9)) (ja + 3) (-9)) (ja + 2) 0)), (nF, sA G 5 (FCT K)), (nt, iA G 240 fnt), (h0, oX12 nw nk mhasKept nt (nI ktp) nr mrowMany mroundOf mroundFrom mouts nm mfromHour mtoHour ns (nI kf18238) (nI kt18239) so18240 1 0 (nI kc) mlines nl nc nF np ntr nb mbestCost nso nsi nit nsh nsf nss nrc mtraced mdealer mnumber mwhose msize misParted)]) rfl (k := (ja + 2)) (by omega) (Nat.le_of_ble_eq_true rfl) (rfl) gX12_lineAt_11.2.2.2.2.2.2.2.2.2 (fun H locs hP hD hS => ?_)
            refine lv_aload_n hx hb gX12_lineAt_12.1 rfl (lv_at1 hl) ?_
            refine gf_X12_32 hC rfl hK hP 4 rfl rfl gX12_lineAt_12.2.1 ?_
            refine lv_iload_n hx hb gX12_lineAt_12.2.2.1 rfl (lv_at2 hl) ?_
            refine lv_iconst (v := 4) hx hb gX12_lineAt_12.2.2.2.1 (by decide) ?_
            refine lv_iadd hx hb gX12_lineAt_12.2.2.2.2.1 ?_
            refine eqi (x1 := nI (ja + 4)) (nI_add ja 4) ?_
            refine lv_aload_n hx hb gX12_lineAt_12.2.2.2.2.2.1 rfl (lv_at1 hl) ?_
            refine gf_X12_240 hC rfl hK hP 4 rfl rfl gX12_lineAt_12.2.2.2.2.2.2.1 ?_
            refine astN hC hK hP hD hS 1 (ws' := [(nc, iA G 100 fnc), (nl, iA G 54 (upd (upd (upd (upd (upd (upd fnl ja 2) (ja + 1) (nI v_8242)) (ja + 2) (-9)) (ja + 3) (-9)) (ja + 2) 0) (ja + 4) (nI kc))), (nF, sA G 5 (FCT K)), (nt, iA G 240 fnt), (h0, oX12 nw nk mhasKept nt (nI ktp) nr mrowMany mroundOf mroundFrom mouts nm mfromHour mtoHour ns (nI kf18238) (nI kt18239) so18240 1 0 (nI kc) mlines nl nc nF np ntr nb mbestCost nso nsi nit nsh nsf nss nrc mtraced mdealer mnumber mwhose msize misParted)]) rfl (k := (ja + 4)) (by omega) (Nat.le_of_ble_eq_true rfl) (rfl) gX12_lineAt_12.2.2.2.2.2.2.2.1 (fun H locs hP hD hS => ?_)
            refine lv_iload_n hx hb gX12_lineAt_12.2.2.2.2.2.2.2.2.1 rfl (lv_at0 hl) ?_
            refine lv_iconst (v := 3) hx hb gX12_lineAt_12.2.2.2.2.2.2.2.2.2 (by decide) ?_
            refine lv_icmp_eq (tgt := 256) hx hb gX12_lineAt_13.1 (by decide) (fun c9 => absurd c9 (by decide)) (fun _ => ?_)
            refine lv_aload_n hx hb gX12_lineAt_13.2.1 rfl (lv_at1 hl) ?_
            refine va_ldcSw (index := 287) (tx := "if") hx hb hown (hO.2.2 0 (by decide)) gX12_lineAt_13.2.2.1 ?_
            refine pVo hO hS hC hK hl hP hD (m_isNameF l G K 0 h0 nw nk mhasKept nt (nI ktp) nr mrowMany mroundOf mroundFrom mouts nm mfromHour mtoHour ns (nI kf18238) (nI kt18239) so18240 0 (nI kc) mlines nl nc nF np ntr nb mbestCost nso nsi nit nsh nsf nss nrc mtraced mdealer mnumber mwhose msize misParted ((by decide))) si_X12_248 [4] sm_4 fm_4 nd_4 rfl rfl rfl rfl rfl (Nat.le_of_ble_eq_true rfl) rm_32_5_4 ⟨by first | exact Nat.le_of_ble_eq_true rfl | exact Nat.zero_le _, by first | exact Nat.le_of_ble_eq_true rfl | exact Nat.zero_le _⟩ gX12_lineAt_13.2.2.2.1 (Keqr ?_)
            refine lv_if_eq (tgt := 256) hx hb gX12_lineAt_13.2.2.2.2.1 (by decide) (fun _ => ?_) (fun c9 => absurd (by decide) c9)
            refine lv_aload_n hx hb gX12_lineAt_13.2.2.2.2.2.2.2.2.2 rfl (lv_at1 hl) ?_
            refine gf_X12_32 hC rfl hK hP 4 rfl rfl gX12_lineAt_14.1 ?_
            refine lv_iload_n hx hb gX12_lineAt_14.2.1 rfl (lv_at2 hl) ?_
            refine lv_iconst (v := 5) hx hb gX12_lineAt_14.2.2.1 (by decide) ?_
            refine lv_iadd hx hb gX12_lineAt_14.2.2.2.1 ?_
            refine eqi (x1 := nI (ja + 5)) (nI_add ja 5) ?_
            refine lv_aload_n hx hb gX12_lineAt_14.2.2.2.2.1 rfl (lv_at1 hl) ?_
            refine gf_X12_240 hC rfl hK hP 4 rfl rfl gX12_lineAt_14.2.2.2.2.2.1 ?_
            refine astN hC hK hP hD hS 1 (ws' := [(nc, iA G 100 fnc), (nl, iA G 54 (upd (upd (upd (upd (upd (upd (upd fnl ja 2) (ja + 1) (nI v_8242)) (ja + 2) (-9)) (ja + 3) (-9)) (ja + 2) 0) (ja + 4) (nI kc)) (ja + 5) (nI kc))), (nF, sA G 5 (FCT K)), (nt, iA G 240 fnt), (h0, oX12 nw nk mhasKept nt (nI ktp) nr mrowMany mroundOf mroundFrom mouts nm mfromHour mtoHour ns (nI kf18238) (nI kt18239) so18240 1 0 (nI kc) mlines nl nc nF np ntr nb mbestCost nso nsi nit nsh nsf nss nrc mtraced mdealer mnumber mwhose msize misParted)]) rfl (k := (ja + 5)) (by omega) (Nat.le_of_ble_eq_true rfl) (rfl) gX12_lineAt_14.2.2.2.2.2.2.1 (fun H locs hP hD hS => ?_)
            refine lv_aload_n hx hb gX12_lineAt_14.2.2.2.2.2.2.2.1 rfl (lv_at1 hl) ?_
            refine lv_aload_n hx hb gX12_lineAt_14.2.2.2.2.2.2.2.2.1 rfl (lv_at1 hl) ?_
            refine lv_bipush (v := 59) hx hb gX12_lineAt_14.2.2.2.2.2.2.2.2.2 (by decide) ?_
            refine pV hC hK hl hP hD (m_isSignF l G h0 59 nw nk mhasKept nt (nI ktp) nr mrowMany mroundOf mroundFrom mouts nm mfromHour mtoHour ns (nI kf18238) (nI kt18239) so18240 0 (nI kc) mlines nl nc nF np ntr nb mbestCost nso nsi nit nsh nsf nss nrc mtraced mdealer mnumber mwhose msize misParted) si_X12_262 [4] sm_4 fm_4 nd_4 rfl rfl rfl rfl rfl (Nat.le_of_ble_eq_true rfl) rm_32_1_2 ⟨by first | exact Nat.le_of_ble_eq_true rfl | exact Nat.zero_le _, by first | exact Nat.le_of_ble_eq_true rfl | exact Nat.zero_le _⟩ gX12_lineAt_15.1 (Keqr ?_)
            refine vV (wr := [(nc, iA G 100 fnc), (nl, iA G 54 (upd (upd (upd (upd (upd (upd (upd fnl ja 2) (ja + 1) (nI v_8242)) (ja + 2) (-9)) (ja + 3) (-9)) (ja + 2) 0) (ja + 4) (nI kc)) (ja + 5) (nI kc))), (nF, sA G 5 (FCT K)), (nt, iA G 240 fnt)]) hC hK hl hP hD hS hA (m_needF l G h0 0 nw nk mhasKept nt (nI ktp) nr mrowMany mroundOf mroundFrom mouts nm mfromHour mtoHour ns (nI kf18238) (nI kt18239) so18240 0 (nI kc) mlines nl nc nF np ntr nb mbestCost nso nsi nit nsh nsf nss nrc mtraced mdealer mnumber mwhose msize misParted) si_X12_236 [4] [0, 1, 2, 3] sm_4 fm_4 nd_4 sm_0_1_2_3 nd_0_1_2_3 dj_4__0_1_2_3 rfl rfl rfl rfl rfl (Nat.le_of_ble_eq_true rfl) rm_32_4_2 ⟨Nat.le_of_ble_eq_true rfl, Nat.le_of_ble_eq_true rfl⟩ gX12_lineAt_15.2.1 (fun u8352 H locs hr8351 hP hD hS => ?_)
            refine Kpdr (ws := [(nc, iA G 100 fnc), (nl, iA G 54 (upd (upd (upd (upd (upd (upd (upd fnl ja 2) (ja + 1) (nI v_8242)) (ja + 2) (-9)) (ja + 3) (-9)) (ja + 2) 0) (ja + 4) (nI kc)) (ja + 5) (nI kc))), (nF, sA G 5 (FCT K)), (nt, iA G 240 fnt), (h0, oX12 nw nk mhasKept nt (nI ktp) nr mrowMany mroundOf mroundFrom mouts nm mfromHour mtoHour ns (nI kf18238) (nI kt18239) so18240 1 0 (nI kc) mlines nl nc nF np ntr nb mbestCost nso nsi nit nsh nsf nss nrc mtraced mdealer mnumber mwhose msize misParted)]) hP hD (fun hP hD => ?_)
            refine toQ hQ0 ?_
            exact RV hC hP hD hS [4, 3, 0, 1, 2] (1, kf18238, kt18239, so18240, kc, fnc, upd (upd (upd (upd (upd (upd (upd fnl ja 2) (ja + 1) (nI v_8242)) (ja + 2) (-9)) (ja + 3) (-9)) (ja + 2) 0) (ja + 4) (nI kc)) (ja + 5) (nI kc)) rfl rfl (by decide) (Or.inl rfl) gX12_lineAt_15.2.2
      · refine lv_if_eq (tgt := 42) hx hb gX12_lineAt_1.2.2.2.2.2.1 (by decide) (fun _ => ?_) (fun c9 => absurd (by decide) c9)
        refine lv_aload_n hx hb gX12_lineAt_1.2.2.2.2.2.2.2.2.1 rfl (lv_at0 hl) ?_
        refine va_ldcSw (index := 280) (tx := "heard") hx hb hown (hO.2.2 4 (by decide)) gX12_lineAt_1.2.2.2.2.2.2.2.2.2 ?_
        refine pVo hO hS hC hK hl hP hD (m_isName0 l G K 4 h0 nw nk mhasKept nt ktp nr mrowMany mroundOf mroundFrom mouts nm mfromHour mtoHour ns kf kt so 0 (nI kc) mlines nl nc nF np ntr nb mbestCost nso nsi nit nsh nsf nss nrc mtraced mdealer mnumber mwhose msize misParted fnt ((by decide)) (hT) (htp)) si_X12_248 [0, 1] sm_0_1 fm_0_1 nd_0_1 rfl rfl rfl rfl rfl (Nat.le_of_ble_eq_true rfl) rm_32_5_4 ⟨by first | exact Nat.le_of_ble_eq_true rfl | exact Nat.zero_le _, by first | exact Nat.le_of_ble_eq_true rfl | exact Nat.zero_le _⟩ gX12_lineAt_2.1 (Kors (Keqa fun a8354 => ?_) (Keqr ?_))
        · refine lv_if_eq (tgt := 56) hx hb gX12_lineAt_2.2.1 (by decide) (fun c9 => absurd c9 (by decide)) (fun _ => ?_)
          refine lv_iconst (v := 3) hx hb gX12_lineAt_2.2.2.1 (by decide) ?_
          refine lv_goto (tgt := 57) hx hb gX12_lineAt_2.2.2.2.1 (by decide) ?_
          refine lv_istore_n (lv' := [(2, .int 3), (0, .ref h0), (1, .int (nI ja))]) hx hb gX12_lineAt_2.2.2.2.2.2.1 rfl hl (by decide) rfl (fun ls hl => ?_)
          refine lv_aload_n hx hb gX12_lineAt_2.2.2.2.2.2.2.1 rfl (lv_at1 hl) ?_
          refine lv_iload_n hx hb gX12_lineAt_2.2.2.2.2.2.2.2.1 rfl (lv_at0 hl) ?_
          refine lv_if_lt (tgt := 67) hx hb gX12_lineAt_2.2.2.2.2.2.2.2.2.1 (by decide) (fun c9 => absurd c9 (by decide)) (fun _ => ?_)
          refine lv_iconst (v := 1) hx hb gX12_lineAt_2.2.2.2.2.2.2.2.2.2 (by decide) ?_
          refine lv_goto (tgt := 68) hx hb gX12_lineAt_3.1 (by decide) ?_
          have tI8355 : kt = kf + 5 := a8354.2
          refine vV (wr := [(nc, iA G 100 fnc), (nl, iA G 54 fnl), (nF, sA G 5 (FCT K))]) hC hK hl hP hD hS hA (m_need1 l G h0 nw nk mhasKept nt ktp nr mrowMany mroundOf mroundFrom mouts nm mfromHour mtoHour ns (nI kf) kt so 0 (nI kc) mlines nl nc nF np ntr nb mbestCost nso nsi nit nsh nsf nss nrc mtraced mdealer mnumber mwhose msize misParted fnt (by omega) (htp)) si_X12_236 [0, 1] [2, 3, 4] sm_0_1 fm_0_1 nd_0_1 sm_2_3_4 nd_2_3_4 dj_0_1__2_3_4 rfl rfl rfl rfl rfl (Nat.le_of_ble_eq_true rfl) rm_32_4_2 ⟨Nat.le_of_ble_eq_true rfl, Nat.le_of_ble_eq_true rfl⟩ gX12_lineAt_3.2.2.1 (Ktu3 fun kf18358 kt18359 so18360 => ?_)
          intro H locs hr8356 hP hD hS
          try dsimp only at hr8356
          refine Kpdr (ws := [(nc, iA G 100 fnc), (nl, iA G 54 fnl), (nF, sA G 5 (FCT K)), (h0, oX12 nw nk mhasKept nt (nI ktp) nr mrowMany mroundOf mroundFrom mouts nm mfromHour mtoHour ns (nI kf18358) (nI kt18359) so18360 0 0 (nI kc) mlines nl nc nF np ntr nb mbestCost nso nsi nit nsh nsf nss nrc mtraced mdealer mnumber mwhose msize misParted), (nt, iA G 240 fnt)]) hP hD (fun hP hD => ?_)
          have hw8362_0 := hr8356.1
          have hw8362_1 := hr8356.2
          have tA8364 := hw8362_1.1
          have tB8364 := hw8362_1.2.1
          refine lv_aload_n hx hb gX12_lineAt_3.2.2.2.1 rfl (lv_at1 hl) ?_
          refine gf_X12_32 hC rfl hK hP 3 rfl rfl gX12_lineAt_3.2.2.2.2.1 ?_
          refine lv_iload_n hx hb gX12_lineAt_3.2.2.2.2.2.1 rfl (lv_at2 hl) ?_
          refine lv_iload_n hx hb gX12_lineAt_3.2.2.2.2.2.2.1 rfl (lv_at0 hl) ?_
          refine astN hC hK hP hD hS 1 (ws' := [(nc, iA G 100 fnc), (nl, iA G 54 (upd fnl ja 3)), (nF, sA G 5 (FCT K)), (h0, oX12 nw nk mhasKept nt (nI ktp) nr mrowMany mroundOf mroundFrom mouts nm mfromHour mtoHour ns (nI kf18358) (nI kt18359) so18360 0 0 (nI kc) mlines nl nc nF np ntr nb mbestCost nso nsi nit nsh nsf nss nrc mtraced mdealer mnumber mwhose msize misParted), (nt, iA G 240 fnt)]) rfl (k := ja) (by omega) (Nat.le_of_ble_eq_true rfl) (rfl) gX12_lineAt_3.2.2.2.2.2.2.2.1 (fun H locs hP hD hS => ?_)
          refine lv_aload_n hx hb gX12_lineAt_3.2.2.2.2.2.2.2.2.1 rfl (lv_at1 hl) ?_
          refine gf_X12_32 hC rfl hK hP 3 rfl rfl gX12_lineAt_3.2.2.2.2.2.2.2.2.2 ?_
          refine lv_iload_n hx hb gX12_lineAt_4.1 rfl (lv_at2 hl) ?_
          refine lv_iconst (v := 1) hx hb gX12_lineAt_4.2.1 (by decide) ?_
          refine lv_iadd hx hb gX12_lineAt_4.2.2.1 ?_
          refine eqi (x1 := nI (ja + 1)) (nI_add ja 1) ?_
          refine lv_aload_n hx hb gX12_lineAt_4.2.2.2.1 rfl (lv_at1 hl) ?_
          refine lv_iload_n hx hb gX12_lineAt_4.2.2.2.2.1 rfl (lv_at0 hl) ?_
          refine lv_if_eq (tgt := 95) hx hb gX12_lineAt_4.2.2.2.2.2.1 (by decide) (fun c9 => absurd c9 (by decide)) (fun _ => ?_)
          refine lv_iload_n hx hb gX12_lineAt_4.2.2.2.2.2.2.1 rfl (lv_at0 hl) ?_
          refine lv_iconst (v := 1) hx hb gX12_lineAt_4.2.2.2.2.2.2.2.1 (by decide) ?_
          refine lv_icmp_ne (tgt := 100) hx hb gX12_lineAt_4.2.2.2.2.2.2.2.2.1 (by decide) (fun _ => ?_) (fun c9 => absurd c9 (by decide))
          refine lv_iload_n hx hb gX12_lineAt_5.2.1 rfl (lv_at0 hl) ?_
          refine lv_iconst (v := 2) hx hb gX12_lineAt_5.2.2.1 (by decide) ?_
          refine lv_icmp_ne (tgt := 110) hx hb gX12_lineAt_5.2.2.2.1 (by decide) (fun _ => ?_) (fun c9 => absurd c9 (by decide))
          refine lv_bipush (v := 9) hx hb gX12_lineAt_5.2.2.2.2.2.2.1 (by decide) ?_
          refine iV (wr := [(nc, iA G 100 fnc), (nl, iA G 54 (upd fnl ja 3)), (nF, sA G 5 (FCT K))]) hC hK hl hP hD hS hA (m_number0 l G h0 9 nw nk mhasKept nt ktp nr mrowMany mroundOf mroundFrom mouts nm mfromHour mtoHour ns kf18358 kt18359 so18360 0 (nI kc) mlines nl nc nF np ntr nb mbestCost nso nsi nit nsh nsf nss nrc mtraced mdealer mnumber mwhose msize misParted fnt (hw8362_1) (htp) (by omega)) si_X12_271 [3, 4] [0, 1, 2] sm_3_4 fm_3_4 nd_3_4 sm_0_1_2 nd_0_1_2 dj_3_4__0_1_2 rfl rfl rfl rfl rfl (Nat.le_of_ble_eq_true rfl) rm_32_5_5 ⟨Nat.le_of_ble_eq_true rfl, Nat.le_of_ble_eq_true rfl⟩ gX12_lineAt_5.2.2.2.2.2.2.2.1 (fun r8365 => Ktu4 fun ff18367 kf18368 kt18369 so18370 => ?_)
          intro H locs hr8365 hP hD hS
          try dsimp only at hr8365
          refine Kpdr (ws := [(nc, iA G 100 fnc), (nl, iA G 54 (upd fnl ja 3)), (nF, sA G 5 (FCT K)), (h0, oX12 nw nk mhasKept nt (nI ktp) nr mrowMany mroundOf mroundFrom mouts nm mfromHour mtoHour ns (nI kf18368) (nI kt18369) so18370 ff18367 0 (nI kc) mlines nl nc nF np ntr nb mbestCost nso nsi nit nsh nsf nss nrc mtraced mdealer mnumber mwhose msize misParted), (nt, iA G 240 fnt)]) hP hD (fun hP hD => ?_)
          obtain ⟨hr8365, w8371⟩ := hr8365
          rcases w8371 with rfl | ⟨rfl, ⟨v_8372, hv_8372, rfl⟩, hw8372_1, hw8372_2⟩
          · refine astN hC hK hP hD hS 1 (ws' := [(nc, iA G 100 fnc), (nl, iA G 54 (upd (upd fnl ja 3) (ja + 1) r8365)), (nF, sA G 5 (FCT K)), (h0, oX12 nw nk mhasKept nt (nI ktp) nr mrowMany mroundOf mroundFrom mouts nm mfromHour mtoHour ns (nI kf18368) (nI kt18369) so18370 1 0 (nI kc) mlines nl nc nF np ntr nb mbestCost nso nsi nit nsh nsf nss nrc mtraced mdealer mnumber mwhose msize misParted), (nt, iA G 240 fnt)]) rfl (k := (ja + 1)) (by omega) (Nat.le_of_ble_eq_true rfl) (rfl) gX12_lineAt_5.2.2.2.2.2.2.2.2.1 (fun H locs hP hD hS => ?_)
            refine lv_aload_n hx hb gX12_lineAt_5.2.2.2.2.2.2.2.2.2 rfl (lv_at1 hl) ?_
            refine gf_X12_32 hC rfl hK hP 3 rfl rfl gX12_lineAt_6.1 ?_
            refine lv_iload_n hx hb gX12_lineAt_6.2.1 rfl (lv_at2 hl) ?_
            refine lv_iconst (v := 2) hx hb gX12_lineAt_6.2.2.1 (by decide) ?_
            refine lv_iadd hx hb gX12_lineAt_6.2.2.2.1 ?_
            refine eqi (x1 := nI (ja + 2)) (nI_add ja 2) ?_
            refine lv_bipush (v := (-9)) hx hb gX12_lineAt_6.2.2.2.2.1 (by decide) ?_
            refine astN hC hK hP hD hS 1 (ws' := [(nc, iA G 100 fnc), (nl, iA G 54 (upd (upd (upd fnl ja 3) (ja + 1) r8365) (ja + 2) (-9))), (nF, sA G 5 (FCT K)), (h0, oX12 nw nk mhasKept nt (nI ktp) nr mrowMany mroundOf mroundFrom mouts nm mfromHour mtoHour ns (nI kf18368) (nI kt18369) so18370 1 0 (nI kc) mlines nl nc nF np ntr nb mbestCost nso nsi nit nsh nsf nss nrc mtraced mdealer mnumber mwhose msize misParted), (nt, iA G 240 fnt)]) rfl (k := (ja + 2)) (by omega) (Nat.le_of_ble_eq_true rfl) (rfl) gX12_lineAt_6.2.2.2.2.2.1 (fun H locs hP hD hS => ?_)
            refine lv_aload_n hx hb gX12_lineAt_6.2.2.2.2.2.2.1 rfl (lv_at1 hl) ?_
            refine gf_X12_32 hC rfl hK hP 3 rfl rfl gX12_lineAt_6.2.2.2.2.2.2.2.1 ?_
            refine lv_iload_n hx hb gX12_lineAt_6.2.2.2.2.2.2.2.2.1 rfl (lv_at2 hl) ?_
            refine lv_iconst (v := 3) hx hb gX12_lineAt_6.2.2.2.2.2.2.2.2.2 (by decide) ?_
            refine lv_iadd hx hb gX12_lineAt_7.1 ?_
            refine eqi (x1 := nI (ja + 3)) (nI_add ja 3) ?_
            refine lv_bipush (v := (-9)) hx hb gX12_lineAt_7.2.1 (by decide) ?_
            refine astN hC hK hP hD hS 1 (ws' := [(nc, iA G 100 fnc), (nl, iA G 54 (upd (upd (upd (upd fnl ja 3) (ja + 1) r8365) (ja + 2) (-9)) (ja + 3) (-9))), (nF, sA G 5 (FCT K)), (h0, oX12 nw nk mhasKept nt (nI ktp) nr mrowMany mroundOf mroundFrom mouts nm mfromHour mtoHour ns (nI kf18368) (nI kt18369) so18370 1 0 (nI kc) mlines nl nc nF np ntr nb mbestCost nso nsi nit nsh nsf nss nrc mtraced mdealer mnumber mwhose msize misParted), (nt, iA G 240 fnt)]) rfl (k := (ja + 3)) (by omega) (Nat.le_of_ble_eq_true rfl) (rfl) gX12_lineAt_7.2.2.1 (fun H locs hP hD hS => ?_)
            refine lv_iload_n hx hb gX12_lineAt_7.2.2.2.1 rfl (lv_at0 hl) ?_
            refine lv_if_ne (tgt := 190) hx hb gX12_lineAt_7.2.2.2.2.1 (by decide) (fun _ => ?_) (fun c9 => absurd c9 (by decide))
            refine lv_iload_n hx hb gX12_lineAt_10.2.2.2.1 rfl (lv_at0 hl) ?_
            refine lv_iconst (v := 2) hx hb gX12_lineAt_10.2.2.2.2.1 (by decide) ?_
            refine lv_icmp_ne (tgt := 221) hx hb gX12_lineAt_10.2.2.2.2.2.1 (by decide) (fun _ => ?_) (fun c9 => absurd c9 (by decide))
            refine lv_aload_n hx hb gX12_lineAt_12.1 rfl (lv_at1 hl) ?_
            refine gf_X12_32 hC rfl hK hP 3 rfl rfl gX12_lineAt_12.2.1 ?_
            refine lv_iload_n hx hb gX12_lineAt_12.2.2.1 rfl (lv_at2 hl) ?_
            refine lv_iconst (v := 4) hx hb gX12_lineAt_12.2.2.2.1 (by decide) ?_
            refine lv_iadd hx hb gX12_lineAt_12.2.2.2.2.1 ?_
            refine eqi (x1 := nI (ja + 4)) (nI_add ja 4) ?_
            refine lv_aload_n hx hb gX12_lineAt_12.2.2.2.2.2.1 rfl (lv_at1 hl) ?_
            refine gf_X12_240 hC rfl hK hP 3 rfl rfl gX12_lineAt_12.2.2.2.2.2.2.1 ?_
            refine astN hC hK hP hD hS 1 (ws' := [(nc, iA G 100 fnc), (nl, iA G 54 (upd (upd (upd (upd (upd fnl ja 3) (ja + 1) r8365) (ja + 2) (-9)) (ja + 3) (-9)) (ja + 4) (nI kc))), (nF, sA G 5 (FCT K)), (h0, oX12 nw nk mhasKept nt (nI ktp) nr mrowMany mroundOf mroundFrom mouts nm mfromHour mtoHour ns (nI kf18368) (nI kt18369) so18370 1 0 (nI kc) mlines nl nc nF np ntr nb mbestCost nso nsi nit nsh nsf nss nrc mtraced mdealer mnumber mwhose msize misParted), (nt, iA G 240 fnt)]) rfl (k := (ja + 4)) (by omega) (Nat.le_of_ble_eq_true rfl) (rfl) gX12_lineAt_12.2.2.2.2.2.2.2.1 (fun H locs hP hD hS => ?_)
            refine lv_iload_n hx hb gX12_lineAt_12.2.2.2.2.2.2.2.2.1 rfl (lv_at0 hl) ?_
            refine lv_iconst (v := 3) hx hb gX12_lineAt_12.2.2.2.2.2.2.2.2.2 (by decide) ?_
            refine lv_icmp_eq (tgt := 256) hx hb gX12_lineAt_13.1 (by decide) (fun _ => ?_) (fun c9 => absurd (by decide) c9)
            refine lv_aload_n hx hb gX12_lineAt_13.2.2.2.2.2.2.2.2.2 rfl (lv_at1 hl) ?_
            refine gf_X12_32 hC rfl hK hP 3 rfl rfl gX12_lineAt_14.1 ?_
            refine lv_iload_n hx hb gX12_lineAt_14.2.1 rfl (lv_at2 hl) ?_
            refine lv_iconst (v := 5) hx hb gX12_lineAt_14.2.2.1 (by decide) ?_
            refine lv_iadd hx hb gX12_lineAt_14.2.2.2.1 ?_
            refine eqi (x1 := nI (ja + 5)) (nI_add ja 5) ?_
            refine lv_aload_n hx hb gX12_lineAt_14.2.2.2.2.1 rfl (lv_at1 hl) ?_
            refine gf_X12_240 hC rfl hK hP 3 rfl rfl gX12_lineAt_14.2.2.2.2.2.1 ?_
            refine astN hC hK hP hD hS 1 (ws' := [(nc, iA G 100 fnc), (nl, iA G 54 (upd (upd (upd (upd (upd (upd fnl ja 3) (ja + 1) r8365) (ja + 2) (-9)) (ja + 3) (-9)) (ja + 4) (nI kc)) (ja + 5) (nI kc))), (nF, sA G 5 (FCT K)), (h0, oX12 nw nk mhasKept nt (nI ktp) nr mrowMany mroundOf mroundFrom mouts nm mfromHour mtoHour ns (nI kf18368) (nI kt18369) so18370 1 0 (nI kc) mlines nl nc nF np ntr nb mbestCost nso nsi nit nsh nsf nss nrc mtraced mdealer mnumber mwhose msize misParted), (nt, iA G 240 fnt)]) rfl (k := (ja + 5)) (by omega) (Nat.le_of_ble_eq_true rfl) (rfl) gX12_lineAt_14.2.2.2.2.2.2.1 (fun H locs hP hD hS => ?_)
            refine lv_aload_n hx hb gX12_lineAt_14.2.2.2.2.2.2.2.1 rfl (lv_at1 hl) ?_
            refine lv_aload_n hx hb gX12_lineAt_14.2.2.2.2.2.2.2.2.1 rfl (lv_at1 hl) ?_
            refine lv_bipush (v := 59) hx hb gX12_lineAt_14.2.2.2.2.2.2.2.2.2 (by decide) ?_
            refine pV hC hK hl hP hD (m_isSignF l G h0 59 nw nk mhasKept nt (nI ktp) nr mrowMany mroundOf mroundFrom mouts nm mfromHour mtoHour ns (nI kf18368) (nI kt18369) so18370 0 (nI kc) mlines nl nc nF np ntr nb mbestCost nso nsi nit nsh nsf nss nrc mtraced mdealer mnumber mwhose msize misParted) si_X12_262 [3] sm_3 fm_3 nd_3 rfl rfl rfl rfl rfl (Nat.le_of_ble_eq_true rfl) rm_32_1_2 ⟨by first | exact Nat.le_of_ble_eq_true rfl | exact Nat.zero_le _, by first | exact Nat.le_of_ble_eq_true rfl | exact Nat.zero_le _⟩ gX12_lineAt_15.1 (Keqr ?_)
            refine vV (wr := [(nc, iA G 100 fnc), (nl, iA G 54 (upd (upd (upd (upd (upd (upd fnl ja 3) (ja + 1) r8365) (ja + 2) (-9)) (ja + 3) (-9)) (ja + 4) (nI kc)) (ja + 5) (nI kc))), (nF, sA G 5 (FCT K)), (nt, iA G 240 fnt)]) hC hK hl hP hD hS hA (m_needF l G h0 0 nw nk mhasKept nt (nI ktp) nr mrowMany mroundOf mroundFrom mouts nm mfromHour mtoHour ns (nI kf18368) (nI kt18369) so18370 0 (nI kc) mlines nl nc nF np ntr nb mbestCost nso nsi nit nsh nsf nss nrc mtraced mdealer mnumber mwhose msize misParted) si_X12_236 [3] [0, 1, 2, 4] sm_3 fm_3 nd_3 sm_0_1_2_4 nd_0_1_2_4 dj_3__0_1_2_4 rfl rfl rfl rfl rfl (Nat.le_of_ble_eq_true rfl) rm_32_4_2 ⟨Nat.le_of_ble_eq_true rfl, Nat.le_of_ble_eq_true rfl⟩ gX12_lineAt_15.2.1 (fun u8376 H locs hr8375 hP hD hS => ?_)
            refine Kpdr (ws := [(nc, iA G 100 fnc), (nl, iA G 54 (upd (upd (upd (upd (upd (upd fnl ja 3) (ja + 1) r8365) (ja + 2) (-9)) (ja + 3) (-9)) (ja + 4) (nI kc)) (ja + 5) (nI kc))), (nF, sA G 5 (FCT K)), (nt, iA G 240 fnt), (h0, oX12 nw nk mhasKept nt (nI ktp) nr mrowMany mroundOf mroundFrom mouts nm mfromHour mtoHour ns (nI kf18368) (nI kt18369) so18370 1 0 (nI kc) mlines nl nc nF np ntr nb mbestCost nso nsi nit nsh nsf nss nrc mtraced mdealer mnumber mwhose msize misParted)]) hP hD (fun hP hD => ?_)
            refine toQ hQ0 ?_
            exact RV hC hP hD hS [4, 3, 0, 1, 2] (1, kf18368, kt18369, so18370, kc, fnc, upd (upd (upd (upd (upd (upd fnl ja 3) (ja + 1) r8365) (ja + 2) (-9)) (ja + 3) (-9)) (ja + 4) (nI kc)) (ja + 5) (nI kc)) rfl rfl (by decide) (Or.inl rfl) gX12_lineAt_15.2.2
          · have tA8378 := hw8372_2.1
            have tB8378 := hw8372_2.2.1
            refine astN hC hK hP hD hS 1 (ws' := [(nc, iA G 100 fnc), (nl, iA G 54 (upd (upd fnl ja 3) (ja + 1) (nI v_8372))), (nF, sA G 5 (FCT K)), (h0, oX12 nw nk mhasKept nt (nI ktp) nr mrowMany mroundOf mroundFrom mouts nm mfromHour mtoHour ns (nI kf18368) (nI kt18369) so18370 0 0 (nI kc) mlines nl nc nF np ntr nb mbestCost nso nsi nit nsh nsf nss nrc mtraced mdealer mnumber mwhose msize misParted), (nt, iA G 240 fnt)]) rfl (k := (ja + 1)) (by omega) (Nat.le_of_ble_eq_true rfl) (rfl) gX12_lineAt_5.2.2.2.2.2.2.2.2.1 (fun H locs hP hD hS => ?_)
            refine lv_aload_n hx hb gX12_lineAt_5.2.2.2.2.2.2.2.2.2 rfl (lv_at1 hl) ?_
            refine gf_X12_32 hC rfl hK hP 3 rfl rfl gX12_lineAt_6.1 ?_
            refine lv_iload_n hx hb gX12_lineAt_6.2.1 rfl (lv_at2 hl) ?_
            refine lv_iconst (v := 2) hx hb gX12_lineAt_6.2.2.1 (by decide) ?_
            refine lv_iadd hx hb gX12_lineAt_6.2.2.2.1 ?_
            refine eqi (x1 := nI (ja + 2)) (nI_add ja 2) ?_
            refine lv_bipush (v := (-9)) hx hb gX12_lineAt_6.2.2.2.2.1 (by decide) ?_
            refine astN hC hK hP hD hS 1 (ws' := [(nc, iA G 100 fnc), (nl, iA G 54 (upd (upd (upd fnl ja 3) (ja + 1) (nI v_8372)) (ja + 2) (-9))), (nF, sA G 5 (FCT K)), (h0, oX12 nw nk mhasKept nt (nI ktp) nr mrowMany mroundOf mroundFrom mouts nm mfromHour mtoHour ns (nI kf18368) (nI kt18369) so18370 0 0 (nI kc) mlines nl nc nF np ntr nb mbestCost nso nsi nit nsh nsf nss nrc mtraced mdealer mnumber mwhose msize misParted), (nt, iA G 240 fnt)]) rfl (k := (ja + 2)) (by omega) (Nat.le_of_ble_eq_true rfl) (rfl) gX12_lineAt_6.2.2.2.2.2.1 (fun H locs hP hD hS => ?_)
            refine lv_aload_n hx hb gX12_lineAt_6.2.2.2.2.2.2.1 rfl (lv_at1 hl) ?_
            refine gf_X12_32 hC rfl hK hP 3 rfl rfl gX12_lineAt_6.2.2.2.2.2.2.2.1 ?_
            refine lv_iload_n hx hb gX12_lineAt_6.2.2.2.2.2.2.2.2.1 rfl (lv_at2 hl) ?_
            refine lv_iconst (v := 3) hx hb gX12_lineAt_6.2.2.2.2.2.2.2.2.2 (by decide) ?_
            refine lv_iadd hx hb gX12_lineAt_7.1 ?_
            refine eqi (x1 := nI (ja + 3)) (nI_add ja 3) ?_
            refine lv_bipush (v := (-9)) hx hb gX12_lineAt_7.2.1 (by decide) ?_
            refine astN hC hK hP hD hS 1 (ws' := [(nc, iA G 100 fnc), (nl, iA G 54 (upd (upd (upd (upd fnl ja 3) (ja + 1) (nI v_8372)) (ja + 2) (-9)) (ja + 3) (-9))), (nF, sA G 5 (FCT K)), (h0, oX12 nw nk mhasKept nt (nI ktp) nr mrowMany mroundOf mroundFrom mouts nm mfromHour mtoHour ns (nI kf18368) (nI kt18369) so18370 0 0 (nI kc) mlines nl nc nF np ntr nb mbestCost nso nsi nit nsh nsf nss nrc mtraced mdealer mnumber mwhose msize misParted), (nt, iA G 240 fnt)]) rfl (k := (ja + 3)) (by omega) (Nat.le_of_ble_eq_true rfl) (rfl) gX12_lineAt_7.2.2.1 (fun H locs hP hD hS => ?_)
            refine lv_iload_n hx hb gX12_lineAt_7.2.2.2.1 rfl (lv_at0 hl) ?_
            refine lv_if_ne (tgt := 190) hx hb gX12_lineAt_7.2.2.2.2.1 (by decide) (fun _ => ?_) (fun c9 => absurd c9 (by decide))
            refine lv_iload_n hx hb gX12_lineAt_10.2.2.2.1 rfl (lv_at0 hl) ?_
            refine lv_iconst (v := 2) hx hb gX12_lineAt_10.2.2.2.2.1 (by decide) ?_
            refine lv_icmp_ne (tgt := 221) hx hb gX12_lineAt_10.2.2.2.2.2.1 (by decide) (fun _ => ?_) (fun c9 => absurd c9 (by decide))
            refine lv_aload_n hx hb gX12_lineAt_12.1 rfl (lv_at1 hl) ?_
            refine gf_X12_32 hC rfl hK hP 3 rfl rfl gX12_lineAt_12.2.1 ?_
            refine lv_iload_n hx hb gX12_lineAt_12.2.2.1 rfl (lv_at2 hl) ?_
            refine lv_iconst (v := 4) hx hb gX12_lineAt_12.2.2.2.1 (by decide) ?_
            refine lv_iadd hx hb gX12_lineAt_12.2.2.2.2.1 ?_
            refine eqi (x1 := nI (ja + 4)) (nI_add ja 4) ?_
            refine lv_aload_n hx hb gX12_lineAt_12.2.2.2.2.2.1 rfl (lv_at1 hl) ?_
            refine gf_X12_240 hC rfl hK hP 3 rfl rfl gX12_lineAt_12.2.2.2.2.2.2.1 ?_
            refine astN hC hK hP hD hS 1 (ws' := [(nc, iA G 100 fnc), (nl, iA G 54 (upd (upd (upd (upd (upd fnl ja 3) (ja + 1) (nI v_8372)) (ja + 2) (-9)) (ja + 3) (-9)) (ja + 4) (nI kc))), (nF, sA G 5 (FCT K)), (h0, oX12 nw nk mhasKept nt (nI ktp) nr mrowMany mroundOf mroundFrom mouts nm mfromHour mtoHour ns (nI kf18368) (nI kt18369) so18370 0 0 (nI kc) mlines nl nc nF np ntr nb mbestCost nso nsi nit nsh nsf nss nrc mtraced mdealer mnumber mwhose msize misParted), (nt, iA G 240 fnt)]) rfl (k := (ja + 4)) (by omega) (Nat.le_of_ble_eq_true rfl) (rfl) gX12_lineAt_12.2.2.2.2.2.2.2.1 (fun H locs hP hD hS => ?_)
            refine lv_iload_n hx hb gX12_lineAt_12.2.2.2.2.2.2.2.2.1 rfl (lv_at0 hl) ?_
            refine lv_iconst (v := 3) hx hb gX12_lineAt_12.2.2.2.2.2.2.2.2.2 (by decide) ?_
            refine lv_icmp_eq (tgt := 256) hx hb gX12_lineAt_13.1 (by decide) (fun _ => ?_) (fun c9 => absurd (by decide) c9)
            refine lv_aload_n hx hb gX12_lineAt_13.2.2.2.2.2.2.2.2.2 rfl (lv_at1 hl) ?_
            refine gf_X12_32 hC rfl hK hP 3 rfl rfl gX12_lineAt_14.1 ?_
            refine lv_iload_n hx hb gX12_lineAt_14.2.1 rfl (lv_at2 hl) ?_
            refine lv_iconst (v := 5) hx hb gX12_lineAt_14.2.2.1 (by decide) ?_
            refine lv_iadd hx hb gX12_lineAt_14.2.2.2.1 ?_
            refine eqi (x1 := nI (ja + 5)) (nI_add ja 5) ?_
            refine lv_aload_n hx hb gX12_lineAt_14.2.2.2.2.1 rfl (lv_at1 hl) ?_
            refine gf_X12_240 hC rfl hK hP 3 rfl rfl gX12_lineAt_14.2.2.2.2.2.1 ?_
            refine astN hC hK hP hD hS 1 (ws' := [(nc, iA G 100 fnc), (nl, iA G 54 (upd (upd (upd (upd (upd (upd fnl ja 3) (ja + 1) (nI v_8372)) (ja + 2) (-9)) (ja + 3) (-9)) (ja + 4) (nI kc)) (ja + 5) (nI kc))), (nF, sA G 5 (FCT K)), (h0, oX12 nw nk mhasKept nt (nI ktp) nr mrowMany mroundOf mroundFrom mouts nm mfromHour mtoHour ns (nI kf18368) (nI kt18369) so18370 0 0 (nI kc) mlines nl nc nF np ntr nb mbestCost nso nsi nit nsh nsf nss nrc mtraced mdealer mnumber mwhose msize misParted), (nt, iA G 240 fnt)]) rfl (k := (ja + 5)) (by omega) (Nat.le_of_ble_eq_true rfl) (rfl) gX12_lineAt_14.2.2.2.2.2.2.1 (fun H locs hP hD hS => ?_)
            refine lv_aload_n hx hb gX12_lineAt_14.2.2.2.2.2.2.2.1 rfl (lv_at1 hl) ?_
            refine lv_aload_n hx hb gX12_lineAt_14.2.2.2.2.2.2.2.2.1 rfl (lv_at1 hl) ?_
            refine lv_bipush (v := 59) hx hb gX12_lineAt_14.2.2.2.2.2.2.2.2.2 (by decide) ?_
            refine pV hC hK hl hP hD (m_isSign0 l G h0 59 nw nk mhasKept nt ktp nr mrowMany mroundOf mroundFrom mouts nm mfromHour mtoHour ns kf18368 kt18369 so18370 0 (nI kc) mlines nl nc nF np ntr nb mbestCost nso nsi nit nsh nsf nss nrc mtraced mdealer mnumber mwhose msize misParted fnt (hw8372_2) (htp)) si_X12_262 [3, 4] sm_3_4 fm_3_4 nd_3_4 rfl rfl rfl rfl rfl (Nat.le_of_ble_eq_true rfl) rm_32_1_2 ⟨by first | exact Nat.le_of_ble_eq_true rfl | exact Nat.zero_le _, by first | exact Nat.le_of_ble_eq_true rfl | exact Nat.zero_le _⟩ gX12_lineAt_15.1 (Kors (Keqa fun a8380 => ?_) (Keqa fun a8380 => ?_))
            · have tI8381 := a8380.1
              refine vV (wr := [(nc, iA G 100 fnc), (nl, iA G 54 (upd (upd (upd (upd (upd (upd fnl ja 3) (ja + 1) (nI v_8372)) (ja + 2) (-9)) (ja + 3) (-9)) (ja + 4) (nI kc)) (ja + 5) (nI kc))), (nF, sA G 5 (FCT K))]) hC hK hl hP hD hS hA (m_need1 l G h0 nw nk mhasKept nt ktp nr mrowMany mroundOf mroundFrom mouts nm mfromHour mtoHour ns (nI kf18368) kt18369 so18370 0 (nI kc) mlines nl nc nF np ntr nb mbestCost nso nsi nit nsh nsf nss nrc mtraced mdealer mnumber mwhose msize misParted fnt (by omega) (htp)) si_X12_236 [3, 4] [0, 1, 2] sm_3_4 fm_3_4 nd_3_4 sm_0_1_2 nd_0_1_2 dj_3_4__0_1_2 rfl rfl rfl rfl rfl (Nat.le_of_ble_eq_true rfl) rm_32_4_2 ⟨Nat.le_of_ble_eq_true rfl, Nat.le_of_ble_eq_true rfl⟩ gX12_lineAt_15.2.1 (Ktu3 fun kf18384 kt18385 so18386 => ?_)
              intro H locs hr8382 hP hD hS
              try dsimp only at hr8382
              refine Kpdr (ws := [(nc, iA G 100 fnc), (nl, iA G 54 (upd (upd (upd (upd (upd (upd fnl ja 3) (ja + 1) (nI v_8372)) (ja + 2) (-9)) (ja + 3) (-9)) (ja + 4) (nI kc)) (ja + 5) (nI kc))), (nF, sA G 5 (FCT K)), (h0, oX12 nw nk mhasKept nt (nI ktp) nr mrowMany mroundOf mroundFrom mouts nm mfromHour mtoHour ns (nI kf18384) (nI kt18385) so18386 0 0 (nI kc) mlines nl nc nF np ntr nb mbestCost nso nsi nit nsh nsf nss nrc mtraced mdealer mnumber mwhose msize misParted), (nt, iA G 240 fnt)]) hP hD (fun hP hD => ?_)
              have hw8388_0 := hr8382.1
              have hw8388_1 := hr8382.2
              have tA8390 := hw8388_1.1
              have tB8390 := hw8388_1.2.1
              refine toQ hQ0 ?_
              exact RV hC hP hD hS [3, 4, 0, 1, 2] (0, kf18384, kt18385, so18386, kc, fnc, upd (upd (upd (upd (upd (upd fnl ja 3) (ja + 1) (nI v_8372)) (ja + 2) (-9)) (ja + 3) (-9)) (ja + 4) (nI kc)) (ja + 5) (nI kc)) rfl rfl (by decide) (Or.inr ⟨rfl, hw8388_1, by (try dsimp only); omega, by (try dsimp only); omega, fun i hi => (upd_ne (by omega)).trans ((upd_ne (by omega)).trans ((upd_ne (by omega)).trans ((upd_ne (by omega)).trans ((upd_ne (by omega)).trans ((upd_ne (by omega)).trans (rfl)))))), fun _ _ => rfl, ⟨3, by decide, (upd_ne (by omega)).trans ((upd_ne (by omega)).trans ((upd_ne (by omega)).trans ((upd_ne (by omega)).trans ((upd_ne (by omega)).trans (upd_eq (by omega)))))), fun h9 => absurd h9 (by decide), fun h9 => absurd h9 (by decide)⟩, kc, kc, (upd_ne (by omega)).trans (upd_eq (by omega)), upd_eq (by omega), by (try dsimp only); omega, by (try dsimp only); omega, WFC.zero⟩) gX12_lineAt_15.2.2
            · refine vV (wr := [(nc, iA G 100 fnc), (nl, iA G 54 (upd (upd (upd (upd (upd (upd fnl ja 3) (ja + 1) (nI v_8372)) (ja + 2) (-9)) (ja + 3) (-9)) (ja + 4) (nI kc)) (ja + 5) (nI kc))), (nF, sA G 5 (FCT K)), (nt, iA G 240 fnt)]) hC hK hl hP hD hS hA (m_need0 l G h0 nw nk mhasKept nt (nI ktp) nr mrowMany mroundOf mroundFrom mouts nm mfromHour mtoHour ns (nI kf18368) (nI kt18369) so18370 0 (nI kc) mlines nl nc nF np ntr nb mbestCost nso nsi nit nsh nsf nss nrc mtraced mdealer mnumber mwhose msize misParted) si_X12_236 [3] [0, 1, 2, 4] sm_3 fm_3 nd_3 sm_0_1_2_4 nd_0_1_2_4 dj_3__0_1_2_4 rfl rfl rfl rfl rfl (Nat.le_of_ble_eq_true rfl) rm_32_4_2 ⟨Nat.le_of_ble_eq_true rfl, Nat.le_of_ble_eq_true rfl⟩ gX12_lineAt_15.2.1 (fun u8392 H locs hr8391 hP hD hS => ?_)
              refine Kpdr (ws := [(nc, iA G 100 fnc), (nl, iA G 54 (upd (upd (upd (upd (upd (upd fnl ja 3) (ja + 1) (nI v_8372)) (ja + 2) (-9)) (ja + 3) (-9)) (ja + 4) (nI kc)) (ja + 5) (nI kc))), (nF, sA G 5 (FCT K)), (nt, iA G 240 fnt), (h0, oX12 nw nk mhasKept nt (nI ktp) nr mrowMany mroundOf mroundFrom mouts nm mfromHour mtoHour ns (nI kf18368) (nI kt18369) so18370 1 0 (nI kc) mlines nl nc nF np ntr nb mbestCost nso nsi nit nsh nsf nss nrc mtraced mdealer mnumber mwhose msize misParted)]) hP hD (fun hP hD => ?_)
              refine toQ hQ0 ?_
              exact RV hC hP hD hS [4, 3, 0, 1, 2] (1, kf18368, kt18369, so18370, kc, fnc, upd (upd (upd (upd (upd (upd fnl ja 3) (ja + 1) (nI v_8372)) (ja + 2) (-9)) (ja + 3) (-9)) (ja + 4) (nI kc)) (ja + 5) (nI kc)) rfl rfl (by decide) (Or.inl rfl) gX12_lineAt_15.2.2
        · refine lv_if_eq (tgt := 56) hx hb gX12_lineAt_2.2.1 (by decide) (fun _ => ?_) (fun c9 => absurd (by decide) c9)
          refine lv_iconst (v := (-1)) hx hb gX12_lineAt_2.2.2.2.2.1 (by decide) ?_
          refine lv_istore_n (lv' := [(2, .int (-1)), (0, .ref h0), (1, .int (nI ja))]) hx hb gX12_lineAt_2.2.2.2.2.2.1 rfl hl (by decide) rfl (fun ls hl => ?_)
          refine lv_aload_n hx hb gX12_lineAt_2.2.2.2.2.2.2.1 rfl (lv_at1 hl) ?_
          refine lv_iload_n hx hb gX12_lineAt_2.2.2.2.2.2.2.2.1 rfl (lv_at0 hl) ?_
          refine lv_if_lt (tgt := 67) hx hb gX12_lineAt_2.2.2.2.2.2.2.2.2.1 (by decide) (fun _ => ?_) (fun c9 => absurd (by decide) c9)
          refine lv_iconst (v := 0) hx hb gX12_lineAt_3.2.1 (by decide) ?_
          refine vV (wr := [(nt, iA G 240 fnt), (nc, iA G 100 fnc), (nl, iA G 54 fnl), (nF, sA G 5 (FCT K))]) hC hK hl hP hD hS hA (m_need0 l G h0 nw nk mhasKept nt (nI ktp) nr mrowMany mroundOf mroundFrom mouts nm mfromHour mtoHour ns (nI kf) (nI kt) so 0 (nI kc) mlines nl nc nF np ntr nb mbestCost nso nsi nit nsh nsf nss nrc mtraced mdealer mnumber mwhose msize misParted) si_X12_236 [0] [1, 2, 3, 4] sm_0 fm_0 nd_0 sm_1_2_3_4 nd_1_2_3_4 dj_0__1_2_3_4 rfl rfl rfl rfl rfl (Nat.le_of_ble_eq_true rfl) rm_32_4_2 ⟨Nat.le_of_ble_eq_true rfl, Nat.le_of_ble_eq_true rfl⟩ gX12_lineAt_3.2.2.1 (fun u8394 H locs hr8393 hP hD hS => ?_)
          refine Kpdr (ws := [(nt, iA G 240 fnt), (nc, iA G 100 fnc), (nl, iA G 54 fnl), (nF, sA G 5 (FCT K)), (h0, oX12 nw nk mhasKept nt (nI ktp) nr mrowMany mroundOf mroundFrom mouts nm mfromHour mtoHour ns (nI kf) (nI kt) so 1 0 (nI kc) mlines nl nc nF np ntr nb mbestCost nso nsi nit nsh nsf nss nrc mtraced mdealer mnumber mwhose msize misParted)]) hP hD (fun hP hD => ?_)
          refine lv_aload_n hx hb gX12_lineAt_3.2.2.2.1 rfl (lv_at1 hl) ?_
          refine gf_X12_32 hC rfl hK hP 4 rfl rfl gX12_lineAt_3.2.2.2.2.1 ?_
          refine lv_iload_n hx hb gX12_lineAt_3.2.2.2.2.2.1 rfl (lv_at2 hl) ?_
          refine lv_iload_n hx hb gX12_lineAt_3.2.2.2.2.2.2.1 rfl (lv_at0 hl) ?_
          refine astN hC hK hP hD hS 2 (ws' := [(nt, iA G 240 fnt), (nc, iA G 100 fnc), (nl, iA G 54 (upd fnl ja (-1))), (nF, sA G 5 (FCT K)), (h0, oX12 nw nk mhasKept nt (nI ktp) nr mrowMany mroundOf mroundFrom mouts nm mfromHour mtoHour ns (nI kf) (nI kt) so 1 0 (nI kc) mlines nl nc nF np ntr nb mbestCost nso nsi nit nsh nsf nss nrc mtraced mdealer mnumber mwhose msize misParted)]) rfl (k := ja) (by omega) (Nat.le_of_ble_eq_true rfl) (rfl) gX12_lineAt_3.2.2.2.2.2.2.2.1 (fun H locs hP hD hS => ?_)
          refine lv_aload_n hx hb gX12_lineAt_3.2.2.2.2.2.2.2.2.1 rfl (lv_at1 hl) ?_
          refine gf_X12_32 hC rfl hK hP 4 rfl rfl gX12_lineAt_3.2.2.2.2.2.2.2.2.2 ?_
          refine lv_iload_n hx hb gX12_lineAt_4.1 rfl (lv_at2 hl) ?_
          refine lv_iconst (v := 1) hx hb gX12_lineAt_4.2.1 (by decide) ?_
          refine lv_iadd hx hb gX12_lineAt_4.2.2.1 ?_
          refine eqi (x1 := nI (ja + 1)) (nI_add ja 1) ?_
          refine lv_aload_n hx hb gX12_lineAt_4.2.2.2.1 rfl (lv_at1 hl) ?_
          refine lv_iload_n hx hb gX12_lineAt_4.2.2.2.2.1 rfl (lv_at0 hl) ?_
          refine lv_if_eq (tgt := 95) hx hb gX12_lineAt_4.2.2.2.2.2.1 (by decide) (fun c9 => absurd c9 (by decide)) (fun _ => ?_)
          refine lv_iload_n hx hb gX12_lineAt_4.2.2.2.2.2.2.1 rfl (lv_at0 hl) ?_
          refine lv_iconst (v := 1) hx hb gX12_lineAt_4.2.2.2.2.2.2.2.1 (by decide) ?_
          refine lv_icmp_ne (tgt := 100) hx hb gX12_lineAt_4.2.2.2.2.2.2.2.2.1 (by decide) (fun _ => ?_) (fun c9 => absurd c9 (by decide))
          refine lv_iload_n hx hb gX12_lineAt_5.2.1 rfl (lv_at0 hl) ?_
          refine lv_iconst (v := 2) hx hb gX12_lineAt_5.2.2.1 (by decide) ?_
          refine lv_icmp_ne (tgt := 110) hx hb gX12_lineAt_5.2.2.2.1 (by decide) (fun _ => ?_) (fun c9 => absurd c9 (by decide))
          refine lv_bipush (v := 9) hx hb gX12_lineAt_5.2.2.2.2.2.2.1 (by decide) ?_
          refine iV (wr := [(nt, iA G 240 fnt), (nc, iA G 100 fnc), (nl, iA G 54 (upd fnl ja (-1))), (nF, sA G 5 (FCT K))]) hC hK hl hP hD hS hA (m_numberF l G h0 9 nw nk mhasKept nt (nI ktp) nr mrowMany mroundOf mroundFrom mouts nm mfromHour mtoHour ns (nI kf) (nI kt) so 0 (nI kc) mlines nl nc nF np ntr nb mbestCost nso nsi nit nsh nsf nss nrc mtraced mdealer mnumber mwhose msize misParted) si_X12_271 [4] [0, 1, 2, 3] sm_4 fm_4 nd_4 sm_0_1_2_3 nd_0_1_2_3 dj_4__0_1_2_3 rfl rfl rfl rfl rfl (Nat.le_of_ble_eq_true rfl) rm_32_5_5 ⟨Nat.le_of_ble_eq_true rfl, Nat.le_of_ble_eq_true rfl⟩ gX12_lineAt_5.2.2.2.2.2.2.2.1 (fun r8395 u8396 H locs hr8395 hP hD hS => ?_)
          refine Kpdr (ws := [(nt, iA G 240 fnt), (nc, iA G 100 fnc), (nl, iA G 54 (upd fnl ja (-1))), (nF, sA G 5 (FCT K)), (h0, oX12 nw nk mhasKept nt (nI ktp) nr mrowMany mroundOf mroundFrom mouts nm mfromHour mtoHour ns (nI kf) (nI kt) so 1 0 (nI kc) mlines nl nc nF np ntr nb mbestCost nso nsi nit nsh nsf nss nrc mtraced mdealer mnumber mwhose msize misParted)]) hP hD (fun hP hD => ?_)
          obtain rfl := hr8395
          refine astN hC hK hP hD hS 2 (ws' := [(nt, iA G 240 fnt), (nc, iA G 100 fnc), (nl, iA G 54 (upd (upd fnl ja (-1)) (ja + 1) 0)), (nF, sA G 5 (FCT K)), (h0, oX12 nw nk mhasKept nt (nI ktp) nr mrowMany mroundOf mroundFrom mouts nm mfromHour mtoHour ns (nI kf) (nI kt) so 1 0 (nI kc) mlines nl nc nF np ntr nb mbestCost nso nsi nit nsh nsf nss nrc mtraced mdealer mnumber mwhose msize misParted)]) rfl (k := (ja + 1)) (by omega) (Nat.le_of_ble_eq_true rfl) (rfl) gX12_lineAt_5.2.2.2.2.2.2.2.2.1 (fun H locs hP hD hS => ?_)
          refine lv_aload_n hx hb gX12_lineAt_5.2.2.2.2.2.2.2.2.2 rfl (lv_at1 hl) ?_
          refine gf_X12_32 hC rfl hK hP 4 rfl rfl gX12_lineAt_6.1 ?_
          refine lv_iload_n hx hb gX12_lineAt_6.2.1 rfl (lv_at2 hl) ?_
          refine lv_iconst (v := 2) hx hb gX12_lineAt_6.2.2.1 (by decide) ?_
          refine lv_iadd hx hb gX12_lineAt_6.2.2.2.1 ?_
          refine eqi (x1 := nI (ja + 2)) (nI_add ja 2) ?_
          refine lv_bipush (v := (-9)) hx hb gX12_lineAt_6.2.2.2.2.1 (by decide) ?_
          refine astN hC hK hP hD hS 2 (ws' := [(nt, iA G 240 fnt), (nc, iA G 100 fnc), (nl, iA G 54 (upd (upd (upd fnl ja (-1)) (ja + 1) 0) (ja + 2) (-9))), (nF, sA G 5 (FCT K)), (h0, oX12 nw nk mhasKept nt (nI ktp) nr mrowMany mroundOf mroundFrom mouts nm mfromHour mtoHour ns (nI kf) (nI kt) so 1 0 (nI kc) mlines nl nc nF np ntr nb mbestCost nso nsi nit nsh nsf nss nrc mtraced mdealer mnumber mwhose msize misParted)]) rfl (k := (ja + 2)) (by omega) (Nat.le_of_ble_eq_true rfl) (rfl) gX12_lineAt_6.2.2.2.2.2.1 (fun H locs hP hD hS => ?_)
          refine lv_aload_n hx hb gX12_lineAt_6.2.2.2.2.2.2.1 rfl (lv_at1 hl) ?_
          refine gf_X12_32 hC rfl hK hP 4 rfl rfl gX12_lineAt_6.2.2.2.2.2.2.2.1 ?_
          refine lv_iload_n hx hb gX12_lineAt_6.2.2.2.2.2.2.2.2.1 rfl (lv_at2 hl) ?_
          refine lv_iconst (v := 3) hx hb gX12_lineAt_6.2.2.2.2.2.2.2.2.2 (by decide) ?_
          refine lv_iadd hx hb gX12_lineAt_7.1 ?_
          refine eqi (x1 := nI (ja + 3)) (nI_add ja 3) ?_
          refine lv_bipush (v := (-9)) hx hb gX12_lineAt_7.2.1 (by decide) ?_
          refine astN hC hK hP hD hS 2 (ws' := [(nt, iA G 240 fnt), (nc, iA G 100 fnc), (nl, iA G 54 (upd (upd (upd (upd fnl ja (-1)) (ja + 1) 0) (ja + 2) (-9)) (ja + 3) (-9))), (nF, sA G 5 (FCT K)), (h0, oX12 nw nk mhasKept nt (nI ktp) nr mrowMany mroundOf mroundFrom mouts nm mfromHour mtoHour ns (nI kf) (nI kt) so 1 0 (nI kc) mlines nl nc nF np ntr nb mbestCost nso nsi nit nsh nsf nss nrc mtraced mdealer mnumber mwhose msize misParted)]) rfl (k := (ja + 3)) (by omega) (Nat.le_of_ble_eq_true rfl) (rfl) gX12_lineAt_7.2.2.1 (fun H locs hP hD hS => ?_)
          refine lv_iload_n hx hb gX12_lineAt_7.2.2.2.1 rfl (lv_at0 hl) ?_
          refine lv_if_ne (tgt := 190) hx hb gX12_lineAt_7.2.2.2.2.1 (by decide) (fun _ => ?_) (fun c9 => absurd c9 (by decide))
          refine lv_iload_n hx hb gX12_lineAt_10.2.2.2.1 rfl (lv_at0 hl) ?_
          refine lv_iconst (v := 2) hx hb gX12_lineAt_10.2.2.2.2.1 (by decide) ?_
          refine lv_icmp_ne (tgt := 221) hx hb gX12_lineAt_10.2.2.2.2.2.1 (by decide) (fun _ => ?_) (fun c9 => absurd c9 (by decide))
          refine lv_aload_n hx hb gX12_lineAt_12.1 rfl (lv_at1 hl) ?_
          refine gf_X12_32 hC rfl hK hP 4 rfl rfl gX12_lineAt_12.2.1 ?_
          refine lv_iload_n hx hb gX12_lineAt_12.2.2.1 rfl (lv_at2 hl) ?_
          refine lv_iconst (v := 4) hx hb gX12_lineAt_12.2.2.2.1 (by decide) ?_
          refine lv_iadd hx hb gX12_lineAt_12.2.2.2.2.1 ?_
          refine eqi (x1 := nI (ja + 4)) (nI_add ja 4) ?_
          refine lv_aload_n hx hb gX12_lineAt_12.2.2.2.2.2.1 rfl (lv_at1 hl) ?_
          refine gf_X12_240 hC rfl hK hP 4 rfl rfl gX12_lineAt_12.2.2.2.2.2.2.1 ?_
          refine astN hC hK hP hD hS 2 (ws' := [(nt, iA G 240 fnt), (nc, iA G 100 fnc), (nl, iA G 54 (upd (upd (upd (upd (upd fnl ja (-1)) (ja + 1) 0) (ja + 2) (-9)) (ja + 3) (-9)) (ja + 4) (nI kc))), (nF, sA G 5 (FCT K)), (h0, oX12 nw nk mhasKept nt (nI ktp) nr mrowMany mroundOf mroundFrom mouts nm mfromHour mtoHour ns (nI kf) (nI kt) so 1 0 (nI kc) mlines nl nc nF np ntr nb mbestCost nso nsi nit nsh nsf nss nrc mtraced mdealer mnumber mwhose msize misParted)]) rfl (k := (ja + 4)) (by omega) (Nat.le_of_ble_eq_true rfl) (rfl) gX12_lineAt_12.2.2.2.2.2.2.2.1 (fun H locs hP hD hS => ?_)
          refine lv_iload_n hx hb gX12_lineAt_12.2.2.2.2.2.2.2.2.1 rfl (lv_at0 hl) ?_
          refine lv_iconst (v := 3) hx hb gX12_lineAt_12.2.2.2.2.2.2.2.2.2 (by decide) ?_
          refine lv_icmp_eq (tgt := 256) hx hb gX12_lineAt_13.1 (by decide) (fun c9 => absurd c9 (by decide)) (fun _ => ?_)
          refine lv_aload_n hx hb gX12_lineAt_13.2.1 rfl (lv_at1 hl) ?_
          refine va_ldcSw (index := 287) (tx := "if") hx hb hown (hO.2.2 0 (by decide)) gX12_lineAt_13.2.2.1 ?_
          refine pVo hO hS hC hK hl hP hD (m_isNameF l G K 0 h0 nw nk mhasKept nt (nI ktp) nr mrowMany mroundOf mroundFrom mouts nm mfromHour mtoHour ns (nI kf) (nI kt) so 0 (nI kc) mlines nl nc nF np ntr nb mbestCost nso nsi nit nsh nsf nss nrc mtraced mdealer mnumber mwhose msize misParted ((by decide))) si_X12_248 [4] sm_4 fm_4 nd_4 rfl rfl rfl rfl rfl (Nat.le_of_ble_eq_true rfl) rm_32_5_4 ⟨by first | exact Nat.le_of_ble_eq_true rfl | exact Nat.zero_le _, by first | exact Nat.le_of_ble_eq_true rfl | exact Nat.zero_le _⟩ gX12_lineAt_13.2.2.2.1 (Keqr ?_)
          refine lv_if_eq (tgt := 256) hx hb gX12_lineAt_13.2.2.2.2.1 (by decide) (fun _ => ?_) (fun c9 => absurd (by decide) c9)
          refine lv_aload_n hx hb gX12_lineAt_13.2.2.2.2.2.2.2.2.2 rfl (lv_at1 hl) ?_
          refine gf_X12_32 hC rfl hK hP 4 rfl rfl gX12_lineAt_14.1 ?_
          refine lv_iload_n hx hb gX12_lineAt_14.2.1 rfl (lv_at2 hl) ?_
          refine lv_iconst (v := 5) hx hb gX12_lineAt_14.2.2.1 (by decide) ?_
          refine lv_iadd hx hb gX12_lineAt_14.2.2.2.1 ?_
          refine eqi (x1 := nI (ja + 5)) (nI_add ja 5) ?_
          refine lv_aload_n hx hb gX12_lineAt_14.2.2.2.2.1 rfl (lv_at1 hl) ?_
          refine gf_X12_240 hC rfl hK hP 4 rfl rfl gX12_lineAt_14.2.2.2.2.2.1 ?_
          refine astN hC hK hP hD hS 2 (ws' := [(nt, iA G 240 fnt), (nc, iA G 100 fnc), (nl, iA G 54 (upd (upd (upd (upd (upd (upd fnl ja (-1)) (ja + 1) 0) (ja + 2) (-9)) (ja + 3) (-9)) (ja + 4) (nI kc)) (ja + 5) (nI kc))), (nF, sA G 5 (FCT K)), (h0, oX12 nw nk mhasKept nt (nI ktp) nr mrowMany mroundOf mroundFrom mouts nm mfromHour mtoHour ns (nI kf) (nI kt) so 1 0 (nI kc) mlines nl nc nF np ntr nb mbestCost nso nsi nit nsh nsf nss nrc mtraced mdealer mnumber mwhose msize misParted)]) rfl (k := (ja + 5)) (by omega) (Nat.le_of_ble_eq_true rfl) (rfl) gX12_lineAt_14.2.2.2.2.2.2.1 (fun H locs hP hD hS => ?_)
          refine lv_aload_n hx hb gX12_lineAt_14.2.2.2.2.2.2.2.1 rfl (lv_at1 hl) ?_
          refine lv_aload_n hx hb gX12_lineAt_14.2.2.2.2.2.2.2.2.1 rfl (lv_at1 hl) ?_
          refine lv_bipush (v := 59) hx hb gX12_lineAt_14.2.2.2.2.2.2.2.2.2 (by decide) ?_
          refine pV hC hK hl hP hD (m_isSignF l G h0 59 nw nk mhasKept nt (nI ktp) nr mrowMany mroundOf mroundFrom mouts nm mfromHour mtoHour ns (nI kf) (nI kt) so 0 (nI kc) mlines nl nc nF np ntr nb mbestCost nso nsi nit nsh nsf nss nrc mtraced mdealer mnumber mwhose msize misParted) si_X12_262 [4] sm_4 fm_4 nd_4 rfl rfl rfl rfl rfl (Nat.le_of_ble_eq_true rfl) rm_32_1_2 ⟨by first | exact Nat.le_of_ble_eq_true rfl | exact Nat.zero_le _, by first | exact Nat.le_of_ble_eq_true rfl | exact Nat.zero_le _⟩ gX12_lineAt_15.1 (Keqr ?_)
          refine vV (wr := [(nt, iA G 240 fnt), (nc, iA G 100 fnc), (nl, iA G 54 (upd (upd (upd (upd (upd (upd fnl ja (-1)) (ja + 1) 0) (ja + 2) (-9)) (ja + 3) (-9)) (ja + 4) (nI kc)) (ja + 5) (nI kc))), (nF, sA G 5 (FCT K))]) hC hK hl hP hD hS hA (m_needF l G h0 0 nw nk mhasKept nt (nI ktp) nr mrowMany mroundOf mroundFrom mouts nm mfromHour mtoHour ns (nI kf) (nI kt) so 0 (nI kc) mlines nl nc nF np ntr nb mbestCost nso nsi nit nsh nsf nss nrc mtraced mdealer mnumber mwhose msize misParted) si_X12_236 [4] [0, 1, 2, 3] sm_4 fm_4 nd_4 sm_0_1_2_3 nd_0_1_2_3 dj_4__0_1_2_3 rfl rfl rfl rfl rfl (Nat.le_of_ble_eq_true rfl) rm_32_4_2 ⟨Nat.le_of_ble_eq_true rfl, Nat.le_of_ble_eq_true rfl⟩ gX12_lineAt_15.2.1 (fun u8403 H locs hr8402 hP hD hS => ?_)
          refine Kpdr (ws := [(nt, iA G 240 fnt), (nc, iA G 100 fnc), (nl, iA G 54 (upd (upd (upd (upd (upd (upd fnl ja (-1)) (ja + 1) 0) (ja + 2) (-9)) (ja + 3) (-9)) (ja + 4) (nI kc)) (ja + 5) (nI kc))), (nF, sA G 5 (FCT K)), (h0, oX12 nw nk mhasKept nt (nI ktp) nr mrowMany mroundOf mroundFrom mouts nm mfromHour mtoHour ns (nI kf) (nI kt) so 1 0 (nI kc) mlines nl nc nF np ntr nb mbestCost nso nsi nit nsh nsf nss nrc mtraced mdealer mnumber mwhose msize misParted)]) hP hD (fun hP hD => ?_)
          refine toQ hQ0 ?_
          exact RV hC hP hD hS [4, 0, 1, 2, 3] (1, kf, kt, so, kc, fnc, upd (upd (upd (upd (upd (upd fnl ja (-1)) (ja + 1) 0) (ja + 2) (-9)) (ja + 3) (-9)) (ja + 4) (nI kc)) (ja + 5) (nI kc)) rfl rfl (by decide) (Or.inl rfl) gX12_lineAt_15.2.2
def K_w_read (l : Launch) (G : GG) (K : OO) (h0 : Nat) (nw : Nat) (nk : Nat) (mhasKept : Int32) (nt : Nat) (ktp : Nat) (nr : Nat) (mrowMany : Int32) (mroundOf : Int32) (mroundFrom : Int32) (mouts : Int32) (nm : Nat) (mfromHour : Int32) (mtoHour : Int32) (ns : Nat) (mfrom : Int32) (mto : Int32) (msort : Int32) (misFault : Int32) (mdeep : Int32) (mcoded : Int32) (mlines : Int32) (nl : Nat) (nc : Nat) (nF : Nat) (np : Nat) (ntr : Nat) (nb : Nat) (mbestCost : Int32) (nso : Nat) (nsi : Nat) (nit : Nat) (nsh : Nat) (nsf : Nat) (nss : Nat) (nrc : Nat) (mtraced : Int32) (mdealer : Int32) (mnumber : Int32) (mwhose : Int32) (msize : Int32) (misParted : Int32) (fnw : Nat → Int32) (fnt : Nat → Int32) (fnc : Nat → Int32) (fnl : Nat → Int32) : Prop := MIo l G K yX12_read cX12_read 5 (some .int) 33 0 0 [.ref h0] [(h0, oX12 nw nk mhasKept nt (nI ktp) nr mrowMany mroundOf mroundFrom mouts nm mfromHour mtoHour ns mfrom mto msort misFault mdeep mcoded mlines nl nc nF np ntr nb mbestCost nso nsi nit nsh nsf nss nrc mtraced mdealer mnumber mwhose msize misParted), (nw, iA G 1662 fnw), (nt, iA G 240 fnt), (nc, iA G 100 fnc), (nl, iA G 54 fnl), (nF, sA G 5 (FCT K))] (fun (r : Int32) (u : Int32 × Nat × Nat × Int32 × Nat × Nat × (Nat → Int32) × (Nat → Int32) × (Nat → Int32)) => (True) ∧ (NI u.2.2.2.2.2.2.1 ∧ VI u.2.2.2.2.2.2.1 ∧ SCX u.2.2.2.2.2.2.1 (fnw 0) (fnw 1) (fnw 2) (fnw 3) (fnw 4) (fnw 5) (fnw 6) (fnw 8) (fnw 9) (fnw 10) (fnw 11) ∧ FRO u.2.2.2.2.2.2.1 fnw 176 1424)) (fun u : Int32 × Nat × Nat × Int32 × Nat × Nat × (Nat → Int32) × (Nat → Int32) × (Nat → Int32) => [(h0, oX12 nw nk mhasKept nt 0 nr mrowMany mroundOf mroundFrom mouts nm mfromHour mtoHour ns (nI u.2.1) (nI u.2.2.1) u.2.2.2.1 u.1 0 (nI u.2.2.2.2.1) (nI u.2.2.2.2.2.1) nl nc nF np ntr nb mbestCost nso nsi nit nsh nsf nss nrc mtraced mdealer mnumber mwhose msize misParted), (nw, iA G 1662 u.2.2.2.2.2.2.1), (nt, iA G 240 fnt), (nc, iA G 100 u.2.2.2.2.2.2.2.1), (nl, iA G 54 u.2.2.2.2.2.2.2.2), (nF, sA G 5 (FCT K))])
set_option maxHeartbeats 4000000 in
set_option maxRecDepth 100000 in
theorem w_read (l : Launch) (G : GG) (K : OO) (h0 : Nat) (nw : Nat) (nk : Nat) (mhasKept : Int32) (nt : Nat) (ktp : Nat) (nr : Nat) (mrowMany : Int32) (mroundOf : Int32) (mroundFrom : Int32) (mouts : Int32) (nm : Nat) (mfromHour : Int32) (mtoHour : Int32) (ns : Nat) (mfrom : Int32) (mto : Int32) (msort : Int32) (misFault : Int32) (mdeep : Int32) (mcoded : Int32) (mlines : Int32) (nl : Nat) (nc : Nat) (nF : Nat) (np : Nat) (ntr : Nat) (nb : Nat) (mbestCost : Int32) (nso : Nat) (nsi : Nat) (nit : Nat) (nsh : Nat) (nsf : Nat) (nss : Nat) (nrc : Nat) (mtraced : Int32) (mdealer : Int32) (mnumber : Int32) (mwhose : Int32) (msize : Int32) (misParted : Int32) (fnw : Nat → Int32) (fnt : Nat → Int32) (fnc : Nat → Int32) (fnl : Nat → Int32) (hN : NI fnw) (hV : VI fnw) (htp : ktp ≤ 240) : K_w_read l G K h0 nw nk mhasKept nt ktp nr mrowMany mroundOf mroundFrom mouts nm mfromHour mtoHour ns mfrom mto msort misFault mdeep mcoded mlines nl nc nF np ntr nb mbestCost nso nsi nit nsh nsf nss nrc mtraced mdealer mnumber mwhose msize misParted fnw fnt fnc fnl := by
  refine MIo.start (by decide +kernel) (Nat.le_of_ble_eq_true rfl) ?_
  intro p e s m below meth c A ls hC hK hP hD hS hA hl hO
  refine absQ (fun Q0 hQ0 => ?_)
  have hl : lv_has ls 5 [(0, .ref h0)] := hl
  refine Kan8 hC (fun hx hb hr hml hB hown hlocks hnm => ?_)
  obtain ⟨k7, hk7, ek7⟩ := NI.nat hN (i := 7) (B := 8) (by decide +kernel) (by decide)
  refine lv_aload_n hx hb gX12_read_0.1 rfl (lv_at0 hl) ?_
  refine lv_iconst (v := 0) hx hb gX12_read_0.2.1 (by decide) ?_
  refine pf_X12_211 hC rfl hK hP hD hS 0 (ws' := [(h0, oX12 nw nk mhasKept nt (nI ktp) nr mrowMany mroundOf mroundFrom mouts nm mfromHour mtoHour ns mfrom 0 msort misFault mdeep mcoded mlines nl nc nF np ntr nb mbestCost nso nsi nit nsh nsf nss nrc mtraced mdealer mnumber mwhose msize misParted), (nw, iA G 1662 fnw), (nt, iA G 240 fnt), (nc, iA G 100 fnc), (nl, iA G 54 fnl), (nF, sA G 5 (FCT K))]) rfl (Nat.le_of_ble_eq_true rfl) rfl rfl rfl gX12_read_0.2.2.1 (fun H locs hP hD hS => ?_)
  refine lv_aload_n hx hb gX12_read_0.2.2.2.1 rfl (lv_at0 hl) ?_
  refine lv_iconst (v := 0) hx hb gX12_read_0.2.2.2.2.1 (by decide) ?_
  refine pf_X12_222 hC rfl hK hP hD hS 0 (ws' := [(h0, oX12 nw nk mhasKept nt (nI ktp) nr mrowMany mroundOf mroundFrom mouts nm mfromHour mtoHour ns mfrom 0 msort 0 mdeep mcoded mlines nl nc nF np ntr nb mbestCost nso nsi nit nsh nsf nss nrc mtraced mdealer mnumber mwhose msize misParted), (nw, iA G 1662 fnw), (nt, iA G 240 fnt), (nc, iA G 100 fnc), (nl, iA G 54 fnl), (nF, sA G 5 (FCT K))]) rfl (Nat.le_of_ble_eq_true rfl) rfl (by decide +kernel) (by decide +kernel) gX12_read_0.2.2.2.2.2.1 (fun H locs hP hD hS => ?_)
  refine lv_aload_n hx hb gX12_read_0.2.2.2.2.2.2.1 rfl (lv_at0 hl) ?_
  refine lv_iconst (v := 0) hx hb gX12_read_0.2.2.2.2.2.2.2.1 (by decide) ?_
  refine pf_X12_265 hC rfl hK hP hD hS 0 (ws' := [(h0, oX12 nw nk mhasKept nt (nI ktp) nr mrowMany mroundOf mroundFrom mouts nm mfromHour mtoHour ns mfrom 0 msort 0 0 mcoded mlines nl nc nF np ntr nb mbestCost nso nsi nit nsh nsf nss nrc mtraced mdealer mnumber mwhose msize misParted), (nw, iA G 1662 fnw), (nt, iA G 240 fnt), (nc, iA G 100 fnc), (nl, iA G 54 fnl), (nF, sA G 5 (FCT K))]) rfl (Nat.le_of_ble_eq_true rfl) rfl rfl rfl gX12_read_0.2.2.2.2.2.2.2.2.1 (fun H locs hP hD hS => ?_)
  refine lv_aload_n hx hb gX12_read_0.2.2.2.2.2.2.2.2.2 rfl (lv_at0 hl) ?_
  refine lv_iconst (v := 0) hx hb gX12_read_1.1 (by decide) ?_
  refine pf_X12_240 hC rfl hK hP hD hS 0 (ws' := [(h0, oX12 nw nk mhasKept nt (nI ktp) nr mrowMany mroundOf mroundFrom mouts nm mfromHour mtoHour ns mfrom 0 msort 0 0 0 mlines nl nc nF np ntr nb mbestCost nso nsi nit nsh nsf nss nrc mtraced mdealer mnumber mwhose msize misParted), (nw, iA G 1662 fnw), (nt, iA G 240 fnt), (nc, iA G 100 fnc), (nl, iA G 54 fnl), (nF, sA G 5 (FCT K))]) rfl (Nat.le_of_ble_eq_true rfl) rfl rfl rfl gX12_read_1.2.1 (fun H locs hP hD hS => ?_)
  refine lv_aload_n hx hb gX12_read_1.2.2.1 rfl (lv_at0 hl) ?_
  refine lv_iconst (v := 0) hx hb gX12_read_1.2.2.2.1 (by decide) ?_
  refine pf_X12_289 hC rfl hK hP hD hS 0 (ws' := [(h0, oX12 nw nk mhasKept nt (nI ktp) nr mrowMany mroundOf mroundFrom mouts nm mfromHour mtoHour ns mfrom 0 msort 0 0 0 0 nl nc nF np ntr nb mbestCost nso nsi nit nsh nsf nss nrc mtraced mdealer mnumber mwhose msize misParted), (nw, iA G 1662 fnw), (nt, iA G 240 fnt), (nc, iA G 100 fnc), (nl, iA G 54 fnl), (nF, sA G 5 (FCT K))]) rfl (Nat.le_of_ble_eq_true rfl) rfl rfl rfl gX12_read_1.2.2.2.2.1 (fun H locs hP hD hS => ?_)
  refine lv_aload_n hx hb gX12_read_1.2.2.2.2.2.1 rfl (lv_at0 hl) ?_
  refine vV (wr := [(nw, iA G 1662 fnw), (nc, iA G 100 fnc), (nl, iA G 54 fnl), (nF, sA G 5 (FCT K))]) hC hK hl hP hD hS hA (m_next l G h0 nw nk mhasKept nt ktp nr mrowMany mroundOf mroundFrom mouts nm mfromHour mtoHour ns mfrom 0 msort 0 0 0 0 nl nc nF np ntr nb mbestCost nso nsi nit nsh nsf nss nrc mtraced mdealer mnumber mwhose msize misParted fnt (by omega) (htp)) si_X12_233 [0, 2] [1, 3, 4, 5] sm_0_2 fm_0_2 nd_0_2 sm_1_3_4_5 nd_1_3_4_5 dj_0_2__1_3_4_5 rfl rfl rfl rfl rfl (Nat.le_of_ble_eq_true rfl) rm_33_3_1 ⟨Nat.le_of_ble_eq_true rfl, Nat.le_of_ble_eq_true rfl⟩ gX12_read_1.2.2.2.2.2.2.1 (Ktu3 fun kf18406 kt18407 so18408 => ?_)
  intro H locs hr8404 hP hD hS
  try dsimp only at hr8404
  refine Kpdr (ws := [(nw, iA G 1662 fnw), (nc, iA G 100 fnc), (nl, iA G 54 fnl), (nF, sA G 5 (FCT K)), (h0, oX12 nw nk mhasKept nt (nI ktp) nr mrowMany mroundOf mroundFrom mouts nm mfromHour mtoHour ns (nI kf18406) (nI kt18407) so18408 0 0 0 0 nl nc nF np ntr nb mbestCost nso nsi nit nsh nsf nss nrc mtraced mdealer mnumber mwhose msize misParted), (nt, iA G 240 fnt)]) hP hD (fun hP hD => ?_)
  have hw8410_0 := hr8404.1
  have hw8410_1 := hr8404.2
  have tA8412 := hw8410_1.1
  have tB8412 := hw8410_1.2.1
  have keyR : ∀ (nR : Nat) (vs : Int32) (vff : Int32) (vf : Nat) (vt : Nat) (vc : Nat) (vl : Nat) (vL : Nat → Int32) (vC : Nat → Int32) (H : Heap) (locs : List Loc) (ls : Array Slot), (vff = 1 ∨ (vff = 0 ∧ RDI fnt vs vf vt ktp vL vC vc vl ∧ 10 ≤ vl + nR)) → va_PD G A [(nw, iA G 1662 fnw), (nc, iA G 100 vC), (nl, iA G 54 vL), (nF, sA G 5 (FCT K)), (h0, oX12 nw nk mhasKept nt (nI ktp) nr mrowMany mroundOf mroundFrom mouts nm mfromHour mtoHour ns (nI vf) (nI vt) vs vff 0 (nI vc) (nI vl) nl nc nF np ntr nb mbestCost nso nsi nit nsh nsf nss nrc mtraced mdealer mnumber mwhose msize misParted), (nt, iA G 240 fnt)] H → va_S A s.heap H locs → lv_has ls 5 [(0, .ref h0)] → W p l e (RM 33 0 0) s m ([.ref h0] : List Value).toArray below meth c H locs 0 0 Q0 (F0 m 29 ls []) := by
    intro nR
    induction nR with
    | zero =>
      intro vs vff vf vt vc vl vL vC H locs ls hiR hPD hS hl
      refine Kan2 hPD (fun hP hD => ?_)
      rcases hiR with rfl | ⟨rfl, hRD, hRn⟩
      · refine lv_aload_n hx hb gX12_read_1.2.2.2.2.2.2.2.1 rfl (lv_at0 hl) ?_
        refine gf_X12_222 hC rfl hK hP 4 rfl rfl gX12_read_1.2.2.2.2.2.2.2.2.1 ?_
        refine lv_if_ne (tgt := 92) hx hb gX12_read_1.2.2.2.2.2.2.2.2.2 (by decide) (fun _ => ?_) (fun c9 => absurd c9 (by decide))
        refine lv_aload_n hx hb gX12_read_4.2.2.2.2.2.2.2.2.1 rfl (lv_at0 hl) ?_
        refine gf_X12_214 hC rfl hK hP 4 rfl rfl gX12_read_4.2.2.2.2.2.2.2.2.2 ?_
        refine lv_istore_n (lv' := [(1, .int (nI vf)), (0, .ref h0)]) hx hb gX12_read_5.1 rfl hl (by decide) rfl (fun ls hl => ?_)
        refine lv_aload_n hx hb gX12_read_5.2.1 rfl (lv_at1 hl) ?_
        refine lv_iconst (v := 0) hx hb gX12_read_5.2.2.1 (by decide) ?_
        refine pf_X12_206 hC rfl hK hP hD hS 4 (ws' := [(nw, iA G 1662 fnw), (nc, iA G 100 vC), (nl, iA G 54 vL), (nF, sA G 5 (FCT K)), (h0, oX12 nw nk mhasKept nt 0 nr mrowMany mroundOf mroundFrom mouts nm mfromHour mtoHour ns (nI vf) (nI vt) vs 1 0 (nI vc) (nI vl) nl nc nF np ntr nb mbestCost nso nsi nit nsh nsf nss nrc mtraced mdealer mnumber mwhose msize misParted), (nt, iA G 240 fnt)]) rfl (Nat.le_of_ble_eq_true rfl) rfl rfl rfl gX12_read_5.2.2.2.1 (fun H locs hP hD hS => ?_)
        refine lv_aload_n hx hb gX12_read_5.2.2.2.2.1 rfl (lv_at1 hl) ?_
        refine gf_X12_222 hC rfl hK hP 4 rfl rfl gX12_read_5.2.2.2.2.2.1 ?_
        refine lv_if_eq (tgt := 114) hx hb gX12_read_5.2.2.2.2.2.2.1 (by decide) (fun c9 => absurd c9 (by decide)) (fun _ => ?_)
        refine lv_bipush (v := (-100)) hx hb gX12_read_5.2.2.2.2.2.2.2.1 (by decide) ?_
        refine lv_iload_n hx hb gX12_read_5.2.2.2.2.2.2.2.2.1 rfl (lv_at0 hl) ?_
        refine lv_isub hx hb gX12_read_5.2.2.2.2.2.2.2.2.2 ?_
        refine toQ hQ0 ?_
        exact RI (v := (-100) - (nI vf)) hC hP hD hS [4, 0, 5, 1, 2, 3] (1, vf, vt, vs, vc, vl, fnw, vC, vL) rfl rfl (by decide) (⟨trivial, ⟨hN, hV, SCX.rf, FRO.rf⟩⟩) rfl gX12_read_6.1
      · have hR9 := hRD.2.2.1; exact (show False by omega).elim
    | succ nR ihR =>
      intro vs vff vf vt vc vl vL vC H locs ls hiR hPD hS hl
      refine Kan2 hPD (fun hP hD => ?_)
      rcases hiR with rfl | ⟨rfl, hRD, hRn⟩
      · refine lv_aload_n hx hb gX12_read_1.2.2.2.2.2.2.2.1 rfl (lv_at0 hl) ?_
        refine gf_X12_222 hC rfl hK hP 4 rfl rfl gX12_read_1.2.2.2.2.2.2.2.2.1 ?_
        refine lv_if_ne (tgt := 92) hx hb gX12_read_1.2.2.2.2.2.2.2.2.2 (by decide) (fun _ => ?_) (fun c9 => absurd c9 (by decide))
        refine lv_aload_n hx hb gX12_read_4.2.2.2.2.2.2.2.2.1 rfl (lv_at0 hl) ?_
        refine gf_X12_214 hC rfl hK hP 4 rfl rfl gX12_read_4.2.2.2.2.2.2.2.2.2 ?_
        refine lv_istore_n (lv' := [(1, .int (nI vf)), (0, .ref h0)]) hx hb gX12_read_5.1 rfl hl (by decide) rfl (fun ls hl => ?_)
        refine lv_aload_n hx hb gX12_read_5.2.1 rfl (lv_at1 hl) ?_
        refine lv_iconst (v := 0) hx hb gX12_read_5.2.2.1 (by decide) ?_
        refine pf_X12_206 hC rfl hK hP hD hS 4 (ws' := [(nw, iA G 1662 fnw), (nc, iA G 100 vC), (nl, iA G 54 vL), (nF, sA G 5 (FCT K)), (h0, oX12 nw nk mhasKept nt 0 nr mrowMany mroundOf mroundFrom mouts nm mfromHour mtoHour ns (nI vf) (nI vt) vs 1 0 (nI vc) (nI vl) nl nc nF np ntr nb mbestCost nso nsi nit nsh nsf nss nrc mtraced mdealer mnumber mwhose msize misParted), (nt, iA G 240 fnt)]) rfl (Nat.le_of_ble_eq_true rfl) rfl rfl rfl gX12_read_5.2.2.2.1 (fun H locs hP hD hS => ?_)
        refine lv_aload_n hx hb gX12_read_5.2.2.2.2.1 rfl (lv_at1 hl) ?_
        refine gf_X12_222 hC rfl hK hP 4 rfl rfl gX12_read_5.2.2.2.2.2.1 ?_
        refine lv_if_eq (tgt := 114) hx hb gX12_read_5.2.2.2.2.2.2.1 (by decide) (fun c9 => absurd c9 (by decide)) (fun _ => ?_)
        refine lv_bipush (v := (-100)) hx hb gX12_read_5.2.2.2.2.2.2.2.1 (by decide) ?_
        refine lv_iload_n hx hb gX12_read_5.2.2.2.2.2.2.2.2.1 rfl (lv_at0 hl) ?_
        refine lv_isub hx hb gX12_read_5.2.2.2.2.2.2.2.2.2 ?_
        refine toQ hQ0 ?_
        exact RI (v := (-100) - (nI vf)) hC hP hD hS [4, 0, 5, 1, 2, 3] (1, vf, vt, vs, vc, vl, fnw, vC, vL) rfl rfl (by decide) (⟨trivial, ⟨hN, hV, SCX.rf, FRO.rf⟩⟩) rfl gX12_read_6.1
      · have hRT := hRD.1
        have tA8413 := hRT.1
        have tB8413 := hRT.2.1
        have hRc := hRD.2.1
        have hRl := hRD.2.2.1
        refine lv_aload_n hx hb gX12_read_1.2.2.2.2.2.2.2.1 rfl (lv_at0 hl) ?_
        refine gf_X12_222 hC rfl hK hP 4 rfl rfl gX12_read_1.2.2.2.2.2.2.2.2.1 ?_
        refine lv_if_ne (tgt := 92) hx hb gX12_read_1.2.2.2.2.2.2.2.2.2 (by decide) (fun c9 => absurd (by decide) c9) (fun _ => ?_)
        refine lv_aload_n hx hb gX12_read_2.1 rfl (lv_at0 hl) ?_
        refine gf_X12_217 hC rfl hK hP 4 rfl rfl gX12_read_2.2.1 ?_
        refine lv_if_eq (tgt := 92) hx hb gX12_read_2.2.2.1 (by decide) (fun c_40_8414 => ?_) (fun c_40_8414 => ?_)
        · refine lv_aload_n hx hb gX12_read_4.2.2.2.2.2.2.2.2.1 rfl (lv_at0 hl) ?_
          refine gf_X12_214 hC rfl hK hP 4 rfl rfl gX12_read_4.2.2.2.2.2.2.2.2.2 ?_
          refine lv_istore_n (lv' := [(1, .int (nI vf)), (0, .ref h0)]) hx hb gX12_read_5.1 rfl hl (by decide) rfl (fun ls hl => ?_)
          refine lv_aload_n hx hb gX12_read_5.2.1 rfl (lv_at1 hl) ?_
          refine lv_iconst (v := 0) hx hb gX12_read_5.2.2.1 (by decide) ?_
          refine pf_X12_206 hC rfl hK hP hD hS 4 (ws' := [(nw, iA G 1662 fnw), (nc, iA G 100 vC), (nl, iA G 54 vL), (nF, sA G 5 (FCT K)), (h0, oX12 nw nk mhasKept nt 0 nr mrowMany mroundOf mroundFrom mouts nm mfromHour mtoHour ns (nI vf) (nI vt) vs 0 0 (nI vc) (nI vl) nl nc nF np ntr nb mbestCost nso nsi nit nsh nsf nss nrc mtraced mdealer mnumber mwhose msize misParted), (nt, iA G 240 fnt)]) rfl (Nat.le_of_ble_eq_true rfl) rfl rfl rfl gX12_read_5.2.2.2.1 (fun H locs hP hD hS => ?_)
          refine lv_aload_n hx hb gX12_read_5.2.2.2.2.1 rfl (lv_at1 hl) ?_
          refine gf_X12_222 hC rfl hK hP 4 rfl rfl gX12_read_5.2.2.2.2.2.1 ?_
          refine lv_if_eq (tgt := 114) hx hb gX12_read_5.2.2.2.2.2.2.1 (by decide) (fun _ => ?_) (fun c9 => absurd (by decide) c9)
          refine lv_aload_n hx hb gX12_read_6.2.1 rfl (lv_at1 hl) ?_
          refine gf_X12_9 hC rfl hK hP 4 rfl rfl gX12_read_6.2.2.1 ?_
          refine lv_bipush (v := 7) hx hb gX12_read_6.2.2.2.1 (by decide) ?_
          refine ald hC hK hP 0 rfl (vin (by decide +kernel)) (k := 7) (by decide +kernel) (v := nI k7) (ek7) gX12_read_6.2.2.2.2.1 ?_
          refine lv_istore_n (lv' := [(2, .int (nI k7)), (1, .int (nI vf)), (0, .ref h0)]) hx hb gX12_read_6.2.2.2.2.2.1 rfl hl (by decide) rfl (fun ls hl => ?_)
          refine lv_iload_n hx hb gX12_read_6.2.2.2.2.2.2.1 rfl (lv_at0 hl) ?_
          refine lv_bipush (v := 8) hx hb gX12_read_6.2.2.2.2.2.2.2.1 (by decide) ?_
          refine lv_icmp_ne (tgt := 131) hx hb gX12_read_6.2.2.2.2.2.2.2.2.1 (by decide) (fun c_125_8415 => ?_) (fun c_125_8415 => ?_)
          · have hk79 := nI_neq (a := k7) (b := 8) (by omega) (by decide) c_125_8415
            refine lv_sipush (v := 176) hx hb gX12_read_7.2.1 (by decide) ?_
            refine lv_sipush (v := 156) hx hb gX12_read_7.2.2.1 (by decide) ?_
            refine lv_iload_n hx hb gX12_read_7.2.2.2.1 rfl (lv_at0 hl) ?_
            refine lv_imul hx hb gX12_read_7.2.2.2.2.1 ?_
            refine eqi (x1 := nI (156 * k7)) (nI_mul 156 k7) ?_
            refine lv_iadd hx hb gX12_read_7.2.2.2.2.2.1 ?_
            refine eqi (x1 := nI (176 + 156 * k7)) (nI_add 176 (156 * k7)) ?_
            refine lv_istore_n (lv' := [(3, .int (nI (176 + 156 * k7))), (2, .int (nI k7)), (1, .int (nI vf)), (0, .ref h0)]) hx hb gX12_read_7.2.2.2.2.2.2.1 rfl hl (by decide) rfl (fun ls hl => ?_)
            refine lv_aload_n hx hb gX12_read_7.2.2.2.2.2.2.2.1 rfl (lv_at3 hl) ?_
            refine gf_X12_9 hC rfl hK hP 4 rfl rfl gX12_read_7.2.2.2.2.2.2.2.2.1 ?_
            refine lv_iload_n hx hb gX12_read_7.2.2.2.2.2.2.2.2.2 rfl (lv_at0 hl) ?_
            refine lv_iconst (v := 0) hx hb gX12_read_8.1 (by decide) ?_
            refine lv_iadd hx hb gX12_read_8.2.1 ?_
            refine eqi (x1 := nI (176 + 156 * k7 + 0)) (nI_add (176 + 156 * k7) 0) ?_
            refine lv_aload_n hx hb gX12_read_8.2.2.1 rfl (lv_at3 hl) ?_
            refine gf_X12_9 hC rfl hK hP 4 rfl rfl gX12_read_8.2.2.2.1 ?_
            refine lv_iconst (v := 0) hx hb gX12_read_8.2.2.2.2.1 (by decide) ?_
            refine ald hC hK hP 0 rfl (vin (by decide +kernel)) (k := 0) (by decide +kernel) (v := fnw 0) (rfl) gX12_read_8.2.2.2.2.2.1 ?_
            refine astN hC hK hP hD hS 0 (ws' := [(nw, iA G 1662 (upd fnw (176 + 156 * k7 + 0) (fnw 0))), (nc, iA G 100 vC), (nl, iA G 54 vL), (nF, sA G 5 (FCT K)), (h0, oX12 nw nk mhasKept nt 0 nr mrowMany mroundOf mroundFrom mouts nm mfromHour mtoHour ns (nI vf) (nI vt) vs 0 0 (nI vc) (nI vl) nl nc nF np ntr nb mbestCost nso nsi nit nsh nsf nss nrc mtraced mdealer mnumber mwhose msize misParted), (nt, iA G 240 fnt)]) rfl (k := (176 + 156 * k7 + 0)) (by omega) (Nat.le_of_ble_eq_true rfl) (rfl) gX12_read_8.2.2.2.2.2.2.1 (fun H locs hP hD hS => ?_)
            refine lv_aload_n hx hb gX12_read_8.2.2.2.2.2.2.2.1 rfl (lv_at3 hl) ?_
            refine gf_X12_9 hC rfl hK hP 4 rfl rfl gX12_read_8.2.2.2.2.2.2.2.2.1 ?_
            refine lv_iload_n hx hb gX12_read_8.2.2.2.2.2.2.2.2.2 rfl (lv_at0 hl) ?_
            refine lv_iconst (v := 1) hx hb gX12_read_9.1 (by decide) ?_
            refine lv_iadd hx hb gX12_read_9.2.1 ?_
            refine eqi (x1 := nI (176 + 156 * k7 + 1)) (nI_add (176 + 156 * k7) 1) ?_
            refine lv_aload_n hx hb gX12_read_9.2.2.1 rfl (lv_at3 hl) ?_
            refine gf_X12_289 hC rfl hK hP 4 rfl rfl gX12_read_9.2.2.2.1 ?_
            refine astN hC hK hP hD hS 0 (ws' := [(nw, iA G 1662 (upd (upd fnw (176 + 156 * k7 + 0) (fnw 0)) (176 + 156 * k7 + 1) (nI vl))), (nc, iA G 100 vC), (nl, iA G 54 vL), (nF, sA G 5 (FCT K)), (h0, oX12 nw nk mhasKept nt 0 nr mrowMany mroundOf mroundFrom mouts nm mfromHour mtoHour ns (nI vf) (nI vt) vs 0 0 (nI vc) (nI vl) nl nc nF np ntr nb mbestCost nso nsi nit nsh nsf nss nrc mtraced mdealer mnumber mwhose msize misParted), (nt, iA G 240 fnt)]) rfl (k := (176 + 156 * k7 + 1)) (by omega) (Nat.le_of_ble_eq_true rfl) (rfl) gX12_read_9.2.2.2.2.1 (fun H locs hP hD hS => ?_)
            refine lv_iconst (v := 0) hx hb gX12_read_9.2.2.2.2.2.1 (by decide) ?_
            refine lv_istore (lv' := [(4, .int 0), (3, .int (nI (176 + 156 * k7))), (2, .int (nI k7)), (1, .int (nI vf)), (0, .ref h0)]) hx hb gX12_read_9.2.2.2.2.2.2.1 hl (by decide) rfl (fun ls hl => ?_)
            have hNF : NI (upd (upd fnw (176 + 156 * k7 + 0) (fnw 0)) (176 + 156 * k7 + 1) (nI vl)) := (hN.setA (bnd_ver (by omega) (by omega))).setA (bnd_ver (by omega) (by omega))
            have keyP : ∀ (nP kP : Nat) (vW : Nat → Int32) (H : Heap) (locs : List Loc) (ls : Array Slot), kP + nP = 54 → (CP (upd (upd fnw (176 + 156 * k7 + 0) (fnw 0)) (176 + 156 * k7 + 1) (nI vl)) vW (176 + 156 * k7 + 2) kP vL) → va_PD G A [(nw, iA G 1662 vW), (nc, iA G 100 vC), (nl, iA G 54 vL), (nF, sA G 5 (FCT K)), (h0, oX12 nw nk mhasKept nt 0 nr mrowMany mroundOf mroundFrom mouts nm mfromHour mtoHour ns (nI vf) (nI vt) vs 0 0 (nI vc) (nI vl) nl nc nF np ntr nb mbestCost nso nsi nit nsh nsf nss nrc mtraced mdealer mnumber mwhose msize misParted), (nt, iA G 240 fnt)] H → va_S A s.heap H locs → lv_has ls 5 [(4, .int (nI kP)), (3, .int (nI (176 + 156 * k7))), (2, .int (nI k7)), (1, .int (nI vf)), (0, .ref h0)] → W p l e (RM 33 0 0) s m ([.ref h0] : List Value).toArray below meth c H locs 0 0 Q0 (F0 m 170 ls []) := by
              intro nP
              induction nP with
              | zero =>
                intro kP vW H locs ls hkP hcp hPD hS hl
                refine Kan2 hPD (fun hP hD => ?_)
                obtain rfl : 54 = kP := by omega
                have hl : lv_has ls 5 [(4, .int 54), (3, .int (nI (176 + 156 * k7))), (2, .int (nI k7)), (1, .int (nI vf)), (0, .ref h0)] := hl
                refine lv_iload hx hb gX12_read_9.2.2.2.2.2.2.2.1 (lv_at0 hl) ?_
                refine lv_bipush (v := 54) hx hb gX12_read_9.2.2.2.2.2.2.2.2.1 (by decide) ?_
                refine lv_icmp_ge (tgt := 201) hx hb gX12_read_9.2.2.2.2.2.2.2.2.2 (by decide) (fun _ => ?_) (fun c9 => absurd (by decide) c9)
                refine lv_iconst (v := 0) hx hb gX12_read_11.2.2.2.2.1 (by decide) ?_
                refine lv_istore (lv' := [(4, .int 0), (3, .int (nI (176 + 156 * k7))), (2, .int (nI k7)), (1, .int (nI vf)), (0, .ref h0)]) hx hb gX12_read_11.2.2.2.2.2.1 hl (by decide) rfl (fun ls hl => ?_)
                have keyQ : ∀ (nQ kQ : Nat) (vX : Nat → Int32) (H : Heap) (locs : List Loc) (ls : Array Slot), kQ + nQ = vc → (CP vW vX (176 + 156 * k7 + 56) kQ vC) → va_PD G A [(nw, iA G 1662 vX), (nc, iA G 100 vC), (nl, iA G 54 vL), (nF, sA G 5 (FCT K)), (h0, oX12 nw nk mhasKept nt 0 nr mrowMany mroundOf mroundFrom mouts nm mfromHour mtoHour ns (nI vf) (nI vt) vs 0 0 (nI vc) (nI vl) nl nc nF np ntr nb mbestCost nso nsi nit nsh nsf nss nrc mtraced mdealer mnumber mwhose msize misParted), (nt, iA G 240 fnt)] H → va_S A s.heap H locs → lv_has ls 5 [(4, .int (nI kQ)), (3, .int (nI (176 + 156 * k7))), (2, .int (nI k7)), (1, .int (nI vf)), (0, .ref h0)] → W p l e (RM 33 0 0) s m ([.ref h0] : List Value).toArray below meth c H locs 0 0 Q0 (F0 m 204 ls []) := by
                  intro nQ
                  induction nQ with
                  | zero =>
                    intro kQ vX H locs ls hkQ hcq hPD hS hl
                    refine Kan2 hPD (fun hP hD => ?_)
                    obtain rfl : vc = kQ := by omega
                    have hl : lv_has ls 5 [(4, .int (nI vc)), (3, .int (nI (176 + 156 * k7))), (2, .int (nI k7)), (1, .int (nI vf)), (0, .ref h0)] := hl
                    refine lv_iload hx hb gX12_read_11.2.2.2.2.2.2.1 (lv_at0 hl) ?_
                    refine lv_aload_n hx hb gX12_read_11.2.2.2.2.2.2.2.1 rfl (lv_at4 hl) ?_
                    refine gf_X12_240 hC rfl hK hP 4 rfl rfl gX12_read_11.2.2.2.2.2.2.2.2.1 ?_
                    refine lv_icmp_ge (tgt := 238) hx hb gX12_read_11.2.2.2.2.2.2.2.2.2 (by decide) (fun _ => ?_) (fun c9 => absurd (Int32.le_refl _) c9)
                    have e7X : vX 7 = nI k7 := (hcq.2.1 7 (by omega)).trans ((hcp.2.1 7 (by omega)).trans ((upd_ne (by omega)).trans ((upd_ne (by omega)).trans ek7)))
                    refine lv_aload_n hx hb gX12_read_13.2.2.2.2.1 rfl (lv_at4 hl) ?_
                    refine gf_X12_9 hC rfl hK hP 4 rfl rfl gX12_read_13.2.2.2.2.2.1 ?_
                    refine lv_bipush (v := 7) hx hb gX12_read_13.2.2.2.2.2.2.1 (by decide) ?_
                    refine lv_dup2_11 hx hb gX12_read_13.2.2.2.2.2.2.2.1 rfl rfl ?_
                    refine ald hC hK hP 0 rfl (vin (by decide +kernel)) (k := 7) (by decide +kernel) (v := nI k7) (e7X) gX12_read_13.2.2.2.2.2.2.2.2.1 ?_
                    refine lv_iconst (v := 1) hx hb gX12_read_13.2.2.2.2.2.2.2.2.2 (by decide) ?_
                    refine lv_iadd hx hb gX12_read_14.1 ?_
                    refine eqi (x1 := nI (k7 + 1)) (nI_add k7 1) ?_
                    refine ast hC hK hP hD hS 0 (ws' := [(nw, iA G 1662 (upd vX 7 (nI (k7 + 1)))), (nc, iA G 100 vC), (nl, iA G 54 vL), (nF, sA G 5 (FCT K)), (h0, oX12 nw nk mhasKept nt 0 nr mrowMany mroundOf mroundFrom mouts nm mfromHour mtoHour ns (nI vf) (nI vt) vs 0 0 (nI vc) (nI vl) nl nc nF np ntr nb mbestCost nso nsi nit nsh nsf nss nrc mtraced mdealer mnumber mwhose msize misParted), (nt, iA G 240 fnt)]) rfl (vin (by decide +kernel)) (k := 7) (by decide +kernel) (rfl) gX12_read_14.2.1 (fun H locs hP hD hS => ?_)
                    refine lv_iload_n hx hb gX12_read_14.2.2.1 rfl (lv_at2 hl) ?_
                    refine toQ hQ0 ?_
                    exact RI (v := nI k7) hC hP hD hS [4, 0, 5, 1, 2, 3] (0, vf, vt, vs, vc, vl, upd vX 7 (nI (k7 + 1)), vC, vL) rfl rfl (by decide) (⟨trivial, ⟨hcq.1.setN (B := 8) (show bnd 7 = (0, ((8 : Nat) : Int)) from by decide +kernel) (by omega) (by decide), VI.newrow hV (by omega) (by omega) (by omega) hcp hcq hRD.2.2.2, (hcq.SC (by omega) (hcp.SC (by omega) ((SCX.rf.set (by omega)).set (by omega)))).set (by omega), (hcq.FR (by omega) (by omega) (hcp.FR (by omega) (by omega) ((FRO.rf.set (by omega)).set (by omega)))).set (by omega)⟩⟩) rfl gX12_read_14.2.2.2
                  | succ nQ ihQ =>
                    intro kQ vX H locs ls hkQ hcq hPD hS hl
                    refine Kan2 hPD (fun hP hD => ?_)
                    refine lv_iload hx hb gX12_read_11.2.2.2.2.2.2.1 (lv_at0 hl) ?_
                    refine lv_aload_n hx hb gX12_read_11.2.2.2.2.2.2.2.1 rfl (lv_at4 hl) ?_
                    refine gf_X12_240 hC rfl hK hP 4 rfl rfl gX12_read_11.2.2.2.2.2.2.2.2.1 ?_
                    refine lv_icmp_ge (tgt := 238) hx hb gX12_read_11.2.2.2.2.2.2.2.2.2 (by decide) (fun c9 => absurd c9 (nI_ge (a := kQ) (b := vc) (by omega) (by omega))) (fun _ => ?_)
                    refine lv_aload_n hx hb gX12_read_12.1 rfl (lv_at4 hl) ?_
                    refine gf_X12_9 hC rfl hK hP 4 rfl rfl gX12_read_12.2.1 ?_
                    refine lv_iload_n hx hb gX12_read_12.2.2.1 rfl (lv_at1 hl) ?_
                    refine lv_bipush (v := 56) hx hb gX12_read_12.2.2.2.1 (by decide) ?_
                    refine lv_iadd hx hb gX12_read_12.2.2.2.2.1 ?_
                    refine eqi (x1 := nI (176 + 156 * k7 + 56)) (nI_add (176 + 156 * k7) 56) ?_
                    refine lv_iload hx hb gX12_read_12.2.2.2.2.2.1 (lv_at0 hl) ?_
                    refine lv_iadd hx hb gX12_read_12.2.2.2.2.2.2.1 ?_
                    refine eqi (x1 := nI (176 + 156 * k7 + 56 + kQ)) (nI_add (176 + 156 * k7 + 56) kQ) ?_
                    refine lv_aload_n hx hb gX12_read_12.2.2.2.2.2.2.2.1 rfl (lv_at4 hl) ?_
                    refine gf_X12_35 hC rfl hK hP 4 rfl rfl gX12_read_12.2.2.2.2.2.2.2.2.1 ?_
                    refine lv_iload hx hb gX12_read_12.2.2.2.2.2.2.2.2.2 (lv_at0 hl) ?_
                    refine aldN hC hK hP 1 rfl (k := kQ) (by omega) (Nat.le_of_ble_eq_true rfl) (v := vC kQ) rfl gX12_read_13.1 ?_
                    refine lv_topi (fun x8416 ex8416 => ?_)
                    refine astN hC hK hP hD hS 0 (ws' := [(nw, iA G 1662 (upd vX (176 + 156 * k7 + 56 + kQ) x8416)), (nc, iA G 100 vC), (nl, iA G 54 vL), (nF, sA G 5 (FCT K)), (h0, oX12 nw nk mhasKept nt 0 nr mrowMany mroundOf mroundFrom mouts nm mfromHour mtoHour ns (nI vf) (nI vt) vs 0 0 (nI vc) (nI vl) nl nc nF np ntr nb mbestCost nso nsi nit nsh nsf nss nrc mtraced mdealer mnumber mwhose msize misParted), (nt, iA G 240 fnt)]) rfl (k := (176 + 156 * k7 + 56 + kQ)) (by omega) (Nat.le_of_ble_eq_true rfl) (rfl) gX12_read_13.2.1 (fun H locs hP hD hS => ?_)
                    refine lv_iinc (v := nI (kQ + 1)) (lv' := [(4, .int (nI (kQ + 1))), (3, .int (nI (176 + 156 * k7))), (2, .int (nI k7)), (1, .int (nI vf)), (0, .ref h0)]) hx hb gX12_read_13.2.2.1 hl (k := 0) rfl (nI_1 _) (by decide) rfl (fun ls hl => ?_)
                    refine lv_goto (tgt := 204) hx hb gX12_read_13.2.2.2.1 (by decide) ?_
                    exact ihQ (kQ + 1) (upd vX (176 + 156 * k7 + 56 + kQ) x8416) _ _ _ (by omega) (by first | assumption | exact Or.inl rfl | exact Or.inr rfl | exact CP.zero hcp.1 | exact CP.next hcq (by assumption) (bnd_ver (by omega) (by omega))) (And.intro hP hD) hS (lv_sub hl [0, 1, 2, 3, 4] rfl)
                exact keyQ vc 0 vW _ _ _ (by omega) (by first | assumption | exact Or.inl rfl | exact Or.inr rfl | exact CP.zero hcp.1 | exact CP.next hcq (by assumption) (bnd_ver (by omega) (by omega))) (And.intro hP hD) hS (lv_sub hl [0, 1, 2, 3, 4] rfl)
              | succ nP ihP =>
                intro kP vW H locs ls hkP hcp hPD hS hl
                refine Kan2 hPD (fun hP hD => ?_)
                refine lv_iload hx hb gX12_read_9.2.2.2.2.2.2.2.1 (lv_at0 hl) ?_
                refine lv_bipush (v := 54) hx hb gX12_read_9.2.2.2.2.2.2.2.2.1 (by decide) ?_
                refine lv_icmp_ge (tgt := 201) hx hb gX12_read_9.2.2.2.2.2.2.2.2.2 (by decide) (fun c9 => absurd c9 (nI_ge (a := kP) (b := 54) (by omega) (by omega))) (fun _ => ?_)
                refine lv_aload_n hx hb gX12_read_10.1 rfl (lv_at4 hl) ?_
                refine gf_X12_9 hC rfl hK hP 4 rfl rfl gX12_read_10.2.1 ?_
                refine lv_iload_n hx hb gX12_read_10.2.2.1 rfl (lv_at1 hl) ?_
                refine lv_iconst (v := 2) hx hb gX12_read_10.2.2.2.1 (by decide) ?_
                refine lv_iadd hx hb gX12_read_10.2.2.2.2.1 ?_
                refine eqi (x1 := nI (176 + 156 * k7 + 2)) (nI_add (176 + 156 * k7) 2) ?_
                refine lv_iload hx hb gX12_read_10.2.2.2.2.2.1 (lv_at0 hl) ?_
                refine lv_iadd hx hb gX12_read_10.2.2.2.2.2.2.1 ?_
                refine eqi (x1 := nI (176 + 156 * k7 + 2 + kP)) (nI_add (176 + 156 * k7 + 2) kP) ?_
                refine lv_aload_n hx hb gX12_read_10.2.2.2.2.2.2.2.1 rfl (lv_at4 hl) ?_
                refine gf_X12_32 hC rfl hK hP 4 rfl rfl gX12_read_10.2.2.2.2.2.2.2.2.1 ?_
                refine lv_iload hx hb gX12_read_10.2.2.2.2.2.2.2.2.2 (lv_at0 hl) ?_
                refine aldN hC hK hP 2 rfl (k := kP) (by omega) (Nat.le_of_ble_eq_true rfl) (v := vL kP) rfl gX12_read_11.1 ?_
                refine lv_topi (fun x8417 ex8417 => ?_)
                refine astN hC hK hP hD hS 0 (ws' := [(nw, iA G 1662 (upd vW (176 + 156 * k7 + 2 + kP) x8417)), (nc, iA G 100 vC), (nl, iA G 54 vL), (nF, sA G 5 (FCT K)), (h0, oX12 nw nk mhasKept nt 0 nr mrowMany mroundOf mroundFrom mouts nm mfromHour mtoHour ns (nI vf) (nI vt) vs 0 0 (nI vc) (nI vl) nl nc nF np ntr nb mbestCost nso nsi nit nsh nsf nss nrc mtraced mdealer mnumber mwhose msize misParted), (nt, iA G 240 fnt)]) rfl (k := (176 + 156 * k7 + 2 + kP)) (by omega) (Nat.le_of_ble_eq_true rfl) (rfl) gX12_read_11.2.1 (fun H locs hP hD hS => ?_)
                refine lv_iinc (v := nI (kP + 1)) (lv' := [(4, .int (nI (kP + 1))), (3, .int (nI (176 + 156 * k7))), (2, .int (nI k7)), (1, .int (nI vf)), (0, .ref h0)]) hx hb gX12_read_11.2.2.1 hl (k := 0) rfl (nI_1 _) (by decide) rfl (fun ls hl => ?_)
                refine lv_goto (tgt := 170) hx hb gX12_read_11.2.2.2.1 (by decide) ?_
                exact ihP (kP + 1) (upd vW (176 + 156 * k7 + 2 + kP) x8417) _ _ _ (by omega) (by first | assumption | exact Or.inl rfl | exact Or.inr rfl | exact CP.zero hNF | exact CP.next hcp (by assumption) (bnd_ver (by omega) (by omega))) (And.intro hP hD) hS (lv_sub hl [0, 1, 2, 3, 4] rfl)
            exact keyP 54 0 (upd (upd fnw (176 + 156 * k7 + 0) (fnw 0)) (176 + 156 * k7 + 1) (nI vl)) _ _ _ (by omega) (by first | assumption | exact Or.inl rfl | exact Or.inr rfl | exact CP.zero hNF | exact CP.next hcp (by assumption) (bnd_ver (by omega) (by omega))) (And.intro hP hD) hS (lv_sub hl [0, 1, 2, 3, 4] rfl)
          · refine lv_bipush (v := (-2)) hx hb gX12_read_6.2.2.2.2.2.2.2.2.2 (by decide) ?_
            refine toQ hQ0 ?_
            exact RI (v := (-2)) hC hP hD hS [4, 0, 5, 1, 2, 3] (0, vf, vt, vs, vc, vl, fnw, vC, vL) rfl rfl (by decide) (⟨trivial, ⟨hN, hV, SCX.rf, FRO.rf⟩⟩) rfl gX12_read_7.1
        · refine lv_aload_n hx hb gX12_read_2.2.2.2.1 rfl (lv_at0 hl) ?_
          refine lv_aload_n hx hb gX12_read_2.2.2.2.2.1 rfl (lv_at0 hl) ?_
          refine gf_X12_289 hC rfl hK hP 4 rfl rfl gX12_read_2.2.2.2.2.2.1 ?_
          refine lv_bipush (v := 9) hx hb gX12_read_2.2.2.2.2.2.2.1 (by decide) ?_
          refine lv_icmp_ne (tgt := 57) hx hb gX12_read_2.2.2.2.2.2.2.2.1 (by decide) (fun c_50_8418 => ?_) (fun c_50_8418 => ?_)
          · refine lv_iconst (v := 0) hx hb gX12_read_3.1 (by decide) ?_
            refine pf_X12_222 hC rfl hK hP hD hS 4 (ws' := [(nw, iA G 1662 fnw), (nc, iA G 100 vC), (nl, iA G 54 vL), (nF, sA G 5 (FCT K)), (h0, oX12 nw nk mhasKept nt (nI ktp) nr mrowMany mroundOf mroundFrom mouts nm mfromHour mtoHour ns (nI vf) (nI vt) vs 0 0 (nI vc) (nI vl) nl nc nF np ntr nb mbestCost nso nsi nit nsh nsf nss nrc mtraced mdealer mnumber mwhose msize misParted), (nt, iA G 240 fnt)]) rfl (Nat.le_of_ble_eq_true rfl) rfl (by decide +kernel) (by decide +kernel) gX12_read_3.2.1 (fun H locs hP hD hS => ?_)
            refine lv_aload_n hx hb gX12_read_3.2.2.1 rfl (lv_at0 hl) ?_
            refine gf_X12_222 hC rfl hK hP 4 rfl rfl gX12_read_3.2.2.2.1 ?_
            refine lv_if_ne (tgt := 29) hx hb gX12_read_3.2.2.2.2.1 (by decide) (fun c9 => absurd (by decide) c9) (fun _ => ?_)
            have hvl9 := nI_neq (a := vl) (b := 9) (by omega) (by decide) c_50_8418
            refine lv_aload_n hx hb gX12_read_3.2.2.2.2.2.1 rfl (lv_at0 hl) ?_
            refine lv_bipush (v := 6) hx hb gX12_read_3.2.2.2.2.2.2.1 (by decide) ?_
            refine lv_aload_n hx hb gX12_read_3.2.2.2.2.2.2.2.1 rfl (lv_at0 hl) ?_
            refine gf_X12_289 hC rfl hK hP 4 rfl rfl gX12_read_3.2.2.2.2.2.2.2.2.1 ?_
            refine lv_imul hx hb gX12_read_3.2.2.2.2.2.2.2.2.2 ?_
            refine eqi (x1 := nI (6 * vl)) (nI_mul 6 vl) ?_
            refine vVo (wr := [(nw, iA G 1662 fnw)]) hO hC hK hl hP hD hS hA (m_lineAt l G K h0 (6 * vl) nw nk mhasKept nt ktp nr mrowMany mroundOf mroundFrom mouts nm mfromHour mtoHour ns vf vt vs vc (nI vl) nl nc nF np ntr nb mbestCost nso nsi nit nsh nsf nss nrc mtraced mdealer mnumber mwhose msize misParted fnt vC vL (hRT) (htp) (by omega) (by omega)) si_X12_292 [4, 5, 1, 2, 3] [0] sm_4_5_1_2_3 fm_4_5_1_2_3 nd_4_5_1_2_3 sm_0 nd_0 dj_4_5_1_2_3__0 rfl rfl rfl rfl rfl (Nat.le_of_ble_eq_true rfl) rm_33_32_3 ⟨Nat.le_of_ble_eq_true rfl, Nat.le_of_ble_eq_true rfl⟩ gX12_read_4.1 (Ktu7 fun ff18421 kf18422 kt18423 so18424 kc18425 gnc8426 gnl8427 => ?_)
            intro H locs hr8419 hP hD hS
            try dsimp only at hr8419
            refine Kpdr (ws := [(nw, iA G 1662 fnw), (h0, oX12 nw nk mhasKept nt (nI ktp) nr mrowMany mroundOf mroundFrom mouts nm mfromHour mtoHour ns (nI kf18422) (nI kt18423) so18424 ff18421 0 (nI kc18425) (nI vl) nl nc nF np ntr nb mbestCost nso nsi nit nsh nsf nss nrc mtraced mdealer mnumber mwhose msize misParted), (nt, iA G 240 fnt), (nc, iA G 100 gnc8426), (nl, iA G 54 gnl8427), (nF, sA G 5 (FCT K))]) hP hD (fun hP hD => ?_)
            have w8428 := hr8419
            rcases w8428 with rfl | ⟨rfl, hw8429_0, hw8429_1⟩
            · refine lv_aload_n hx hb gX12_read_4.2.1 rfl (lv_at0 hl) ?_
              refine lv_dup hx hb gX12_read_4.2.2.1 rfl ?_
              refine gf_X12_289 hC rfl hK hP 1 rfl rfl gX12_read_4.2.2.2.1 ?_
              refine lv_iconst (v := 1) hx hb gX12_read_4.2.2.2.2.1 (by decide) ?_
              refine lv_iadd hx hb gX12_read_4.2.2.2.2.2.1 ?_
              refine eqi (x1 := nI (vl + 1)) (nI_add vl 1) ?_
              refine pf_X12_289 hC rfl hK hP hD hS 1 (ws' := [(nw, iA G 1662 fnw), (h0, oX12 nw nk mhasKept nt (nI ktp) nr mrowMany mroundOf mroundFrom mouts nm mfromHour mtoHour ns (nI kf18422) (nI kt18423) so18424 1 0 (nI kc18425) (nI (vl + 1)) nl nc nF np ntr nb mbestCost nso nsi nit nsh nsf nss nrc mtraced mdealer mnumber mwhose msize misParted), (nt, iA G 240 fnt), (nc, iA G 100 gnc8426), (nl, iA G 54 gnl8427), (nF, sA G 5 (FCT K))]) rfl (Nat.le_of_ble_eq_true rfl) rfl rfl rfl gX12_read_4.2.2.2.2.2.2.1 (fun H locs hP hD hS => ?_)
              refine lv_goto (tgt := 29) hx hb gX12_read_4.2.2.2.2.2.2.2.1 (by decide) ?_
              refine Kpds (ws' := [(nw, iA G 1662 fnw), (nc, iA G 100 gnc8426), (nl, iA G 54 gnl8427), (nF, sA G 5 (FCT K)), (h0, oX12 nw nk mhasKept nt (nI ktp) nr mrowMany mroundOf mroundFrom mouts nm mfromHour mtoHour ns (nI kf18422) (nI kt18423) so18424 1 0 (nI kc18425) (nI (vl + 1)) nl nc nF np ntr nb mbestCost nso nsi nit nsh nsf nss nrc mtraced mdealer mnumber mwhose msize misParted), (nt, iA G 240 fnt)]) hP hD [0, 3, 4, 5, 1, 2] fm_0_3_4_5_1_2 nd_0_3_4_5_1_2 sm_0_3_4_5_1_2 (fun hP hD => ?_)
              exact ihR so18424 1 kf18422 kt18423 kc18425 (vl + 1) gnl8427 gnc8426 _ _ _ (Or.inl rfl) (And.intro hP hD) hS (lv_sub hl [0] rfl)
            · have tA8430 := hw8429_0.1
              have tB8430 := hw8429_0.2.1
              have tA8431 := hw8429_1.1
              have tB8431 := hw8429_1.2.1
              refine lv_aload_n hx hb gX12_read_4.2.1 rfl (lv_at0 hl) ?_
              refine lv_dup hx hb gX12_read_4.2.2.1 rfl ?_
              refine gf_X12_289 hC rfl hK hP 1 rfl rfl gX12_read_4.2.2.2.1 ?_
              refine lv_iconst (v := 1) hx hb gX12_read_4.2.2.2.2.1 (by decide) ?_
              refine lv_iadd hx hb gX12_read_4.2.2.2.2.2.1 ?_
              refine eqi (x1 := nI (vl + 1)) (nI_add vl 1) ?_
              refine pf_X12_289 hC rfl hK hP hD hS 1 (ws' := [(nw, iA G 1662 fnw), (h0, oX12 nw nk mhasKept nt (nI ktp) nr mrowMany mroundOf mroundFrom mouts nm mfromHour mtoHour ns (nI kf18422) (nI kt18423) so18424 0 0 (nI kc18425) (nI (vl + 1)) nl nc nF np ntr nb mbestCost nso nsi nit nsh nsf nss nrc mtraced mdealer mnumber mwhose msize misParted), (nt, iA G 240 fnt), (nc, iA G 100 gnc8426), (nl, iA G 54 gnl8427), (nF, sA G 5 (FCT K))]) rfl (Nat.le_of_ble_eq_true rfl) rfl rfl rfl gX12_read_4.2.2.2.2.2.2.1 (fun H locs hP hD hS => ?_)
              refine lv_goto (tgt := 29) hx hb gX12_read_4.2.2.2.2.2.2.2.1 (by decide) ?_
              refine Kpds (ws' := [(nw, iA G 1662 fnw), (nc, iA G 100 gnc8426), (nl, iA G 54 gnl8427), (nF, sA G 5 (FCT K)), (h0, oX12 nw nk mhasKept nt (nI ktp) nr mrowMany mroundOf mroundFrom mouts nm mfromHour mtoHour ns (nI kf18422) (nI kt18423) so18424 0 0 (nI kc18425) (nI (vl + 1)) nl nc nF np ntr nb mbestCost nso nsi nit nsh nsf nss nrc mtraced mdealer mnumber mwhose msize misParted), (nt, iA G 240 fnt)]) hP hD [0, 3, 4, 5, 1, 2] fm_0_3_4_5_1_2 nd_0_3_4_5_1_2 sm_0_3_4_5_1_2 (fun hP hD => ?_)
              exact ihR so18424 0 kf18422 kt18423 kc18425 (vl + 1) gnl8427 gnc8426 _ _ _ (Or.inr ⟨rfl, RDI.next hRD hw8429_1 hw8429_0 (by omega), by omega⟩) (And.intro hP hD) hS (lv_sub hl [0] rfl)
          · refine lv_iconst (v := 1) hx hb gX12_read_2.2.2.2.2.2.2.2.2.1 (by decide) ?_
            refine lv_goto (tgt := 58) hx hb gX12_read_2.2.2.2.2.2.2.2.2.2 (by decide) ?_
            refine pf_X12_222 hC rfl hK hP hD hS 4 (ws' := [(nw, iA G 1662 fnw), (nc, iA G 100 vC), (nl, iA G 54 vL), (nF, sA G 5 (FCT K)), (h0, oX12 nw nk mhasKept nt (nI ktp) nr mrowMany mroundOf mroundFrom mouts nm mfromHour mtoHour ns (nI vf) (nI vt) vs 1 0 (nI vc) (nI vl) nl nc nF np ntr nb mbestCost nso nsi nit nsh nsf nss nrc mtraced mdealer mnumber mwhose msize misParted), (nt, iA G 240 fnt)]) rfl (Nat.le_of_ble_eq_true rfl) rfl (by decide +kernel) (by decide +kernel) gX12_read_3.2.1 (fun H locs hP hD hS => ?_)
            refine lv_aload_n hx hb gX12_read_3.2.2.1 rfl (lv_at0 hl) ?_
            refine gf_X12_222 hC rfl hK hP 4 rfl rfl gX12_read_3.2.2.2.1 ?_
            refine lv_if_ne (tgt := 29) hx hb gX12_read_3.2.2.2.2.1 (by decide) (fun _ => ?_) (fun c9 => absurd c9 (by decide))
            exact ihR vs 1 vf vt vc vl vL vC _ _ _ (Or.inl rfl) (And.intro hP hD) hS (lv_sub hl [0] rfl)
  exact keyR 10 so18408 0 kf18406 kt18407 0 0 fnl fnc _ _ _ (Or.inr ⟨rfl, ⟨hw8410_1, by omega, by omega, fun i h9 => absurd h9 (Nat.not_lt_zero i)⟩, by omega⟩) (And.intro hP hD) hS (lv_sub hl [0] rfl)
