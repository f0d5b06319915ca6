section WR
variable {p : Program} {l : Launch} {e : Env} {R : Room} {s : State} {m : MethodId} {args : Array Value} {below : List Frame} {meth : Method} {c : Code} {H : Heap} {locs : List Loc} {cells slots : Nat} {Q : State → Prop}
variable {pc : Nat} {ls : Array Slot} {rest : List Value} {G : GG} {ws : va_W} {A : Nat → Prop} {y0 : MethodName} {b0 : ByteArray} {mL0 : Nat} {rt0 : Option FieldType} {a : Nat} {H0 : Heap}
end WR
theorem nI_subR {a b : Nat} (h : b ≤ a) : nI a - nI b = nI (a - b) := by
  obtain ⟨c, rfl⟩ : ∃ c, a = b + c := ⟨a - b, by omega⟩
  rw [show b + c - b = c by omega, ← nI_add b c, Int32.add_comm, Int32.add_sub_cancel]
theorem nle_of {a b : Nat} (ha : a < 2 ^ 31) (hb : b < 2 ^ 31) (h : ¬ nI a < nI b) : b ≤ a := (nI_leI hb ha).mp (Int32.not_lt.mp h)
theorem slen3 : ∀ i : Nat, i < 16 → 11 ≤ i → 3 ≤ SLEN.getD i 0 := by decide
def FCT (K : OO) : Nat → Option Nat := fun k => if k < 5 then some (K.1 (11 + k)) else none
theorem Wi1_nat {v : Int32} {N : Nat} (hN : N < 2 ^ 31) (h : Wi v 1 (nI N)) : ∃ j, j ≤ N ∧ v = nI j := by
  rw [Wi_iff, nI_ti hN] at h
  obtain ⟨h1, h2⟩ := h
  have e1 : (1 : Int32).toInt = 1 := by decide
  rw [e1] at h1
  have h0 : ¬ v < 0 := by
    intro h9
    rw [Int32.lt_iff_toInt_lt] at h9
    have e : (0 : Int32).toInt = 0 := by decide
    omega
  obtain ⟨j, hj, rfl⟩ := nI_of h0
  rw [nI_ti hj] at h2
  exact ⟨j, by omega, rfl⟩
/-- digits from a to b -/
def DG (f : Nat → Int32) (a b : Nat) : Prop := ∀ i, a ≤ i → i < b → ∃ d, d ≤ 9 ∧ f i = nI (48 + d)
theorem DG.zero {f : Nat → Int32} {a : Nat} : DG f a a := fun i h1 h2 => by omega
theorem dig {x : Int32} (h : Wi x 48 57) : ∃ d, d ≤ 9 ∧ x = nI (48 + d) := by
  rw [Wi_iff] at h
  obtain ⟨h1, h2⟩ := h
  have e0 : (48 : Int32).toInt = 48 := by decide
  have e1 : (57 : Int32).toInt = 57 := by decide
  rw [e0] at h1
  rw [e1] at h2
  have h0 : ¬ x < 0 := by
    intro h9
    rw [Int32.lt_iff_toInt_lt] at h9
    have e : (0 : Int32).toInt = 0 := by decide
    omega
  obtain ⟨j, hj, rfl⟩ := nI_of h0
  rw [nI_ti hj] at h1 h2
  exact ⟨j - 48, by omega, congrArg nI (by omega)⟩
theorem DG.next {f : Nat → Int32} {a b : Nat} (h : DG f a b) (hx : Wi (f b) 48 57) : DG f a (b + 1) := by
  intro i h1 h2
  by_cases c : i = b
  · subst c; exact dig hx
  · exact h i h1 (by omega)
/-- the token at hand -/
def TOK (f : Nat → Int32) (so : Int32) (kf kt tp : Nat) : Prop := kf ≤ kt ∧ kt ≤ tp ∧ (so = 0 ∨ kf < kt) ∧ (so = 2 → DG f kf kt)
theorem TOK.n0 {f : Nat → Int32} {kf tp : Nat} (h : kf ≤ tp) : TOK f 0 kf kf tp := ⟨Nat.le_refl _, h, Or.inl rfl, fun h9 => absurd h9 (by decide)⟩
theorem TOK.n1 {f : Nat → Int32} {kf kt tp : Nat} (h : kf < kt) (h2 : kt ≤ tp) : TOK f 1 kf kt tp := ⟨by omega, h2, Or.inr h, fun h9 => absurd h9 (by decide)⟩
theorem TOK.n3 {f : Nat → Int32} {kf kt tp : Nat} (h : kf < kt) (h2 : kt ≤ tp) : TOK f 3 kf kt tp := ⟨by omega, h2, Or.inr h, fun h9 => absurd h9 (by decide)⟩
theorem TOK.n2 {f : Nat → Int32} {kf kt tp : Nat} (h : kf < kt) (h2 : kt ≤ tp) (hd : DG f kf kt) : TOK f 2 kf kt tp := ⟨by omega, h2, Or.inr h, fun _ => hd⟩
theorem TOK.lt {f : Nat → Int32} {so : Int32} {kf kt tp : Nat} (h : TOK f so kf kt tp) (c : ¬ so = 0) : kf < kt := h.2.2.1.resolve_left c
def ISG (f : Nat → Int32) (so : Int32) (kf kt : Nat) (c : Int32) : Prop := kf < kt ∧ so = 3 ∧ f kf = c
/-- codes that leave one more on the pile -/
def SEG (c : Nat → Int32) (a b : Nat) : Prop := ∀ h0 : Nat, ∃ ht : Nat → Nat, ht a = h0 ∧ ht b = h0 + 1 ∧ ∀ k, a ≤ k → k < b → STEP (c k) (ht k) (ht (k + 1))
theorem SEG.ext {c d : Nat → Int32} {a b : Nat} (h : SEG c a b) (he : ∀ k, a ≤ k → k < b → d k = c k) : SEG d a b := by
  intro h0
  obtain ⟨ht, e1, e2, hs⟩ := h h0
  exact ⟨ht, e1, e2, fun k h1 h2 => by rw [he k h1 h2]; exact hs k h1 h2⟩
theorem SEG.push {f : Nat → Int32} {a : Nat} {v : Int32} (hv : v < 30000) : SEG (upd f a v) a (a + 1) := by
  intro h0
  refine ⟨fun k => if k ≤ a then h0 else h0 + 1, if_pos (Nat.le_refl _), if_neg (by omega), fun k h1 h2 => ?_⟩
  obtain rfl : k = a := by omega
  rw [upd_eq rfl]
  refine Or.inl ⟨hv, ?_⟩
  show (if k + 1 ≤ k then h0 else h0 + 1) = (if k ≤ k then h0 else h0 + 1) + 1
  rw [if_neg (by omega), if_pos (Nat.le_refl _)]
theorem SEG.not {f : Nat → Int32} {a b : Nat} (h : SEG f a b) (hab : a < b) : SEG (upd f b 30000) a (b + 1) := by
  intro h0
  obtain ⟨ht, e1, e2, hs⟩ := h h0
  refine ⟨fun k => if k ≤ b then ht k else h0 + 1, ?_, if_neg (by omega), fun k h1 h2 => ?_⟩
  · show (if a ≤ b then ht a else h0 + 1) = h0
    rw [if_pos (by omega), e1]
  · by_cases c : k = b
    · subst c
      rw [upd_eq rfl]
      refine Or.inr (Or.inl ⟨by decide, rfl, ?_, ?_⟩)
      · show 1 ≤ (if k ≤ k then ht k else h0 + 1)
        rw [if_pos (Nat.le_refl _), e2]; omega
      · show (if k + 1 ≤ k then ht (k + 1) else h0 + 1) = (if k ≤ k then ht k else h0 + 1)
        rw [if_neg (by omega), if_pos (Nat.le_refl _), e2]
    · rw [upd_ne c]
      have h9 := hs k h1 (by omega)
      show STEP (f k) (if k ≤ b then ht k else h0 + 1) (if k + 1 ≤ b then ht (k + 1) else h0 + 1)
      rw [if_pos (by omega), if_pos (by omega)]
      exact h9
theorem SEG.op {f : Nat → Int32} {a b c : Nat} {v : Int32} (h : SEG f a b) (h2 : SEG f b c) (hab : a < b) (hbc : b < c) (hv : v = 30001 ∨ v = 30002) : SEG (upd f c v) a (c + 1) := by
  intro h0
  obtain ⟨ht, e1, e2, hs⟩ := h h0
  obtain ⟨hu, e3, e4, hs2⟩ := h2 (h0 + 1)
  refine ⟨fun k => if k ≤ b then ht k else if k ≤ c then hu k else h0 + 1, ?_, ?_, fun k h1 h9 => ?_⟩
  · show (if a ≤ b then ht a else if a ≤ c then hu a else h0 + 1) = h0
    rw [if_pos (by omega), e1]
  · show (if c + 1 ≤ b then ht (c + 1) else if c + 1 ≤ c then hu (c + 1) else h0 + 1) = h0 + 1
    rw [if_neg (by omega), if_neg (by omega)]
  · show STEP (upd f c v k) (if k ≤ b then ht k else if k ≤ c then hu k else h0 + 1) (if k + 1 ≤ b then ht (k + 1) else if k + 1 ≤ c then hu (k + 1) else h0 + 1)
    by_cases c1 : k < b
    · rw [upd_ne (by omega), if_pos (by omega), if_pos (by omega)]
      exact hs k h1 c1
    · by_cases c2 : k < c
      · rw [upd_ne (by omega), if_neg (show ¬ k + 1 ≤ b by omega), if_pos (show k + 1 ≤ c by omega)]
        have h8 := hs2 k (by omega) c2
        by_cases c3 : k = b
        · subst c3
          rw [if_pos (Nat.le_refl _), e2, ← e3]
          exact h8
        · rw [if_neg (by omega), if_pos (by omega)]
          exact h8
      · obtain rfl : k = c := by omega
        rw [upd_eq rfl, if_neg (show ¬ k ≤ b by omega), if_pos (Nat.le_refl _), if_neg (show ¬ k + 1 ≤ b by omega), if_neg (show ¬ k + 1 ≤ k by omega), e4]
        refine Or.inr (Or.inr ⟨?_, ?_, by omega, rfl⟩) <;> rcases hv with rfl | rfl <;> decide
/-- an expression has been read: its codes, and how far -/
def EXPR (f g : Nat → Int32) (a b p q : Nat) : Prop := a < b ∧ p + 3 * b + 2 ≤ q + 3 * a ∧ (∀ k, k < a → g k = f k) ∧ SEG g a b
theorem EXPR.op {f g h : Nat → Int32} {a b c p q q2 r : Nat} {v : Int32} (h1 : EXPR f g a b p q) (h2 : EXPR g h b c q2 r) (hq : q + 2 ≤ q2) (hv : v = 30001 ∨ v = 30002) : EXPR f (upd h c v) a (c + 1) p r := by
  obtain ⟨a1, a2, a3, a4⟩ := h1
  obtain ⟨b1, b2, b3, b4⟩ := h2
  refine ⟨by omega, by omega, fun k hk => ?_, ?_⟩
  · rw [upd_ne (by omega), b3 k (by omega), a3 k hk]
  · exact SEG.op (a4.ext fun k h1 h2 => b3 k h2) b4 a1 b1 hv
theorem EXPR.fact {f : Nat → Int32} {a p q : Nat} {v : Int32} (hv : v < 30000) (hq : p + 5 ≤ q) : EXPR f (upd f a v) a (a + 1) p q :=
  ⟨by omega, by omega, fun k hk => upd_ne (by omega), SEG.push hv⟩
theorem EXPR.not {f g : Nat → Int32} {a b p q : Nat} (h : EXPR f g a b p q) (hq : p + 3 * (b + 1) + 2 ≤ q + 3 * a) : EXPR f (upd g b 30000) a (b + 1) p q :=
  ⟨by have := h.1; omega, hq, fun k hk => by have := h.1; rw [upd_ne (by omega)]; exact h.2.2.1 k hk, h.2.2.2.not h.1⟩
theorem EXPR.wid {f g : Nat → Int32} {a b p q p2 q2 : Nat} (h : EXPR f g a b p q) (hq : p2 + 3 * b + 2 ≤ q2 + 3 * a) : EXPR f g a b p2 q2 := ⟨h.1, hq, h.2.2.1, h.2.2.2⟩
def LOKB (ln cd : Nat → Int32) (B : Nat) : Prop := (∃ so, so < 4 ∧ ln 0 = nI so ∧ (so = 0 → (∃ n2, n2 < 8 ∧ ln 2 = nI n2) ∧ ∃ n3, n3 < 8 ∧ ln 3 = nI n3) ∧ (so = 2 → ∃ n1, n1 < 8 ∧ ln 1 = nI n1)) ∧ ∃ a b, ln 4 = nI a ∧ ln 5 = nI b ∧ a ≤ b ∧ b ≤ B ∧ WFC cd a b
theorem LOKB.ext {l1 l2 c1 c2 : Nat → Int32} {B B2 : Nat} (h1 : ∀ j, j < 6 → l2 j = l1 j) (h2 : ∀ j, j < B → c2 j = c1 j) (hB : B ≤ B2) (h : LOKB l1 c1 B) : LOKB l2 c2 B2 := by
  obtain ⟨⟨so, hs, e0, hA, hC⟩, a, b, e4, e5, hab, hb, ht, h0, hst⟩ := h
  refine ⟨⟨so, hs, (h1 0 (by omega)).trans e0, fun h => ?_, fun h => ?_⟩, a, b, (h1 4 (by omega)).trans e4, (h1 5 (by omega)).trans e5, hab, by omega, ht, h0, fun k hk1 hk2 => ?_⟩
  · obtain ⟨⟨n2, q1, q2⟩, n3, q3, q4⟩ := hA h
    exact ⟨⟨n2, q1, (h1 2 (by omega)).trans q2⟩, n3, q3, (h1 3 (by omega)).trans q4⟩
  · obtain ⟨n1, q1, q2⟩ := hC h
    exact ⟨n1, q1, (h1 1 (by omega)).trans q2⟩
  · rw [h2 k (by omega)]
    exact hst k hk1 hk2
theorem LOKB.lok {ln cd : Nat → Int32} {B : Nat} (hB : B ≤ 100) (h : LOKB ln cd B) : LOK ln cd := by
  obtain ⟨h1, a, b, e4, e5, hab, hb, hw⟩ := h
  exact ⟨h1, a, b, e4, e5, hab, by omega, hw⟩
theorem WFC.zero {c : Nat → Int32} {a : Nat} : WFC c a a := ⟨fun _ => 0, rfl, fun k h1 h2 => by omega⟩
theorem SEG.wfc {c : Nat → Int32} {a b : Nat} (h : SEG c a b) : WFC c a b := by
  obtain ⟨ht, e1, -, hs⟩ := h 0
  exact ⟨ht, e1, hs⟩
/-- a line has been read -/
def LINE (fl gl fc gc : Nat → Int32) (ja a b q : Nat) : Prop := a ≤ b ∧ 3 * b ≤ q ∧ (∀ i, i < ja → gl i = fl i) ∧ (∀ k, k < a → gc k = fc k) ∧ LOKB (fun j => gl (ja + j)) gc b
theorem fct_lt {j c n : Nat} (h1 : j < 5) (h2 : c ≤ 2000) (h3 : n ≤ 999) : nI (3000 * j + c + n) < 30000 := by
  rw [Int32.lt_iff_toInt_lt, nI_ti (by omega)]
  have e : (30000 : Int32).toInt = 30000 := by decide
  omega
/-- what the reader keeps to between two lines -/
def RDI (f : Nat → Int32) (so : Int32) (kf kt tp : Nat) (L C : Nat → Int32) (c l : Nat) : Prop := TOK f so kf kt tp ∧ 3 * c ≤ kf ∧ l ≤ 9 ∧ ∀ i, i < l → LOKB (fun j => L (6 * i + j)) C c
theorem RDI.next {f L L2 C C2 : Nat → Int32} {so so2 : Int32} {kf kt kf2 kt2 tp c c2 l : Nat} (h : RDI f so kf kt tp L C c l) (h2 : LINE L L2 C C2 (6 * l) c c2 kf2) (hT : TOK f so2 kf2 kt2 tp) (hl : l < 9) : RDI f so2 kf2 kt2 tp L2 C2 c2 (l + 1) := by
  obtain ⟨-, -, -, h9⟩ := h
  obtain ⟨a1, a2, a3, a4, a5⟩ := h2
  refine ⟨hT, a2, by omega, fun i hi => ?_⟩
  by_cases e : i = l
  · subst e; exact a5
  · exact LOKB.ext (fun j hj => a3 _ (by omega)) (fun j hj => a4 j hj) a1 (h9 i (by omega))
/-- a piece of the row has been copied -/
def CP (f0 w : Nat → Int32) (b n : Nat) (src : Nat → Int32) : Prop := NI w ∧ (∀ i, (i < b ∨ b + n ≤ i) → w i = f0 i) ∧ ∀ k, k < n → w (b + k) = src k
theorem CP.zero {f src : Nat → Int32} {b : Nat} (h : NI f) : CP f f b 0 src := ⟨h, fun _ _ => rfl, fun k h => absurd h (Nat.not_lt_zero k)⟩
theorem CP.next {f0 w src : Nat → Int32} {b n : Nat} {x : Int32} (h : CP f0 w b n src) (hx : x = src n) (hb : bnd (b + n) = (-2147483648, 2147483647)) : CP f0 (upd w (b + n) x) b (n + 1) src := by
  obtain ⟨h1, h2, h3⟩ := h
  refine ⟨h1.setA hb, fun i hi => ?_, fun k hk => ?_⟩
  · rw [upd_ne (by omega)]; exact h2 i (by omega)
  · by_cases e : k = n
    · subst e; rw [upd_eq rfl, hx]
    · rw [upd_ne (by omega)]; exact h3 k (by omega)
theorem CP.SC {f0 w src : Nat → Int32} {b n : Nat} {a x y z p q s r u v t : Int32} (h : CP f0 w b n src) (hb : 12 ≤ b) (hs : SCX f0 a x y z p q s r u v t) : SCX w a x y z p q s r u v t :=
  hs.ag fun i h1 _ => h.2.1 i (by omega)
theorem CP.FR {f0 w e src : Nat → Int32} {b n lo hi : Nat} (h : CP f0 w b n src) (hb : lo ≤ b) (hn : b + n ≤ hi) (hs : FRO f0 e lo hi) : FRO w e lo hi :=
  fun j h1 h2 => (h.2.1 j (by omega)).trans (hs j h1 h2)
theorem VI.newrow {f w w2 ln cd : Nat → Int32} {k7 L c : Nat} {d x : Int32} (hV : VI f) (hk : k7 < 8) (hL : L ≤ 9) (hc : c ≤ 100) (h1 : CP (upd (upd f (176 + 156 * k7 + 0) d) (176 + 156 * k7 + 1) (nI L)) w (176 + 156 * k7 + 2) 54 ln) (h2 : CP w w2 (176 + 156 * k7 + 56) c cd) (hl : ∀ i, i < L → LOKB (fun j => ln (6 * i + j)) cd c) : VI (upd w2 7 x) := by
  obtain ⟨-, p2, p3⟩ := h1
  obtain ⟨-, q2, q3⟩ := h2
  intro v hv
  by_cases e : v = k7
  · subst e
    refine ⟨L, hL, ?_, fun l hl9 => LOKB.lok hc (LOKB.ext (fun j hj => ?_) (fun j hj => ?_) (Nat.le_refl c) (hl l hl9))⟩
    · show upd w2 7 x (176 + 156 * v + 1) = nI L
      rw [upd_ne (by omega), q2 _ (by omega), p2 _ (by omega), upd_eq rfl]
    · show upd w2 7 x (176 + 156 * v + (2 + 6 * l + j)) = ln (6 * l + j)
      rw [upd_ne (by omega), q2 _ (by omega), show 176 + 156 * v + (2 + 6 * l + j) = 176 + 156 * v + 2 + (6 * l + j) by omega, p3 _ (by omega)]
    · show upd w2 7 x (176 + 156 * v + (56 + j)) = cd j
      rw [upd_ne (by omega), show 176 + 156 * v + (56 + j) = 176 + 156 * v + 56 + j by omega, q3 _ hj]
  · refine VOK.ext (fun j hj => ?_) (hV v hv)
    show f (176 + 156 * v + j) = upd w2 7 x (176 + 156 * v + j)
    rw [upd_ne (by omega), q2 _ (by omega), p2 _ (by omega), upd_ne (by omega), upd_ne (by omega)]
section WR
variable {p : Program} {l : Launch} {e : Env} {R : Room} {s : State} {m : MethodId} {args : Array Value} {below : List Frame} {meth : Method} {c : Code} {H : Heap} {locs : List Loc} {cells slots : Nat} {Q : State → Prop}
variable {pc : Nat} {ls : Array Slot} {rest : List Value} {G : GG} {K : OO} {ws : va_W} {A : Nat → Prop} {y0 : MethodName} {b0 : ByteArray} {mL0 : Nat} {rt0 : Option FieldType} {a : Nat} {H0 : Heap}
theorem va_ldcSw (hexec : p.tables.exec = Jvm.exec) {cc : ByteArray} (hb : c.code = cc) {own tx : String} {index q : Nat} (hown : s.vm.findClass own = some m.cls) (hZ : vk_R own index tx q s) (hdg : decode cc pc = .ok (.ldc_w index, 3))
    (k : W p l e R s m args below meth c H locs cells slots Q (F0 m (pc + 3) ls (.ref q :: rest))) : W p l e R s m args below meth c H locs cells slots Q (F0 m pc ls rest) := by
  intro T hT X
  obtain ⟨t, a1, b1⟩ := k T hT X
  exact ⟨t, Jvm.Stand.ldcStringW X hexec hown (text := tx) (a := q) hZ.1 hZ.2 (g := F0 m pc ls rest) rfl (by rw [hb]; exact hdg) t a1, b1⟩
theorem aldS (hC : CX p s m meth c y0 b0 mL0 rt0 args) (hK : KK G s) (hP : va_P G.1 vwCl ws H) (q0 : Nat) {n : Nat} {f : Nat → Option Nat} (ha : ws[q0]? = some (a, .inl (G.2.2.2, n, .inr (.inr (.inr (.inr f)))))) {i : Int32} (hin : vp_in i n) {k v : Nat} (hk : i.toNatClampNeg = k) (hv : f k = some v) (hdg : decode b0 pc = .ok (.aaload, 1)) (kk : W p l e R s m args below meth c H locs cells slots Q (F0 m (pc + 1) ls (.ref v :: rest))) : W p l e R s m args below meth c H locs cells slots Q (F0 m pc ls (.int i :: .ref a :: rest)) := by
  obtain ⟨hx, hb, hr, hml, hB, hown, hlocks, hnm⟩ := hC
  refine va_aldq hx hb hK.1 hP q0 2 ha rfl hin hdg ?_
  rw [hk, hv]
  exact kk
theorem gX12_feed_0 : (decode cX12_feed 0 = .ok (.iload_n 3, 1)) ∧ (decode cX12_feed 1 = .ok (.iconst 1, 1)) ∧ (decode cX12_feed 2 = .ok (.bipush 8, 2)) ∧ (decode cX12_feed 4 = .ok (.invokestatic 84, 3)) ∧ (decode cX12_feed 7 = .ok (.ifCond .ne 5, 3)) ∧ (decode cX12_feed 10 = .ok (.iconst (-1), 1)) ∧ (decode cX12_feed 11 = .ok (.ireturn, 1)) ∧ (decode cX12_feed 12 = .ok (.aload_n 0, 1)) ∧ (decode cX12_feed 13 = .ok (.getfield 206, 3)) ∧ (decode cX12_feed 16 = .ok (.iload_n 3, 1)) := by decide +kernel
theorem gX12_feed_1 : (decode cX12_feed 17 = .ok (.iadd, 1)) ∧ (decode cX12_feed 18 = .ok (.sipush 240, 3)) ∧ (decode cX12_feed 21 = .ok (.if_icmp .le 6, 3)) ∧ (decode cX12_feed 24 = .ok (.bipush (-2), 2)) ∧ (decode cX12_feed 26 = .ok (.ireturn, 1)) ∧ (decode cX12_feed 27 = .ok (.iconst 0, 1)) ∧ (decode cX12_feed 28 = .ok (.istore 4, 2)) ∧ (decode cX12_feed 30 = .ok (.iload 4, 2)) ∧ (decode cX12_feed 32 = .ok (.iload_n 3, 1)) ∧ (decode cX12_feed 33 = .ok (.if_icmp .ge 40, 3)) := by decide +kernel
theorem gX12_feed_4 : (decode cX12_feed 70 = .ok (.goto (-40), 3)) ∧ (decode cX12_feed 73 = .ok (.aload_n 0, 1)) ∧ (decode cX12_feed 74 = .ok (.getfield 206, 3)) ∧ (decode cX12_feed 77 = .ok (.ireturn, 1)) := by decide +kernel
theorem gX12_feed_2 : (decode cX12_feed 36 = .ok (.aload_n 0, 1)) ∧ (decode cX12_feed 37 = .ok (.getfield 16, 3)) ∧ (decode cX12_feed 40 = .ok (.aload_n 0, 1)) ∧ (decode cX12_feed 41 = .ok (.getfield 206, 3)) ∧ (decode cX12_feed 44 = .ok (.lload_n 1, 1)) ∧ (decode cX12_feed 45 = .ok (.bipush 8, 2)) ∧ (decode cX12_feed 47 = .ok (.iload 4, 2)) ∧ (decode cX12_feed 49 = .ok (.imul, 1)) ∧ (decode cX12_feed 50 = .ok (.lshr, 1)) ∧ (decode cX12_feed 51 = .ok (.ldc2_w 209, 3)) := by decide +kernel
theorem m_1033 : Cond.fieldLink RX12 16 "InquiryBenchModel" "tape" "[I" ∈ BW := iB_BW55 _ (List.mem_of_getElem? (i := 2) rfl)
theorem gf_X12_16 (hC : CX p s m meth c y0 b0 mL0 rt0 args) (hy0 : y0.cls = RX12) (hK : KK G s) (hP : va_P G.1 vwCl ws H) (q0 : Nat) {fs : List Value} {v : Value} (he : ws[q0]? = some (a, .inr (12, fs))) (hv : fs[3]? = some v) (hdg : decode b0 pc = .ok (.getfield 16, 3)) (kk : W p l e R s m args below meth c H locs cells slots Q (F0 m (pc + 3) ls (v :: rest))) : W p l e R s m args below meth c H locs cells slots Q (F0 m pc ls (.ref a :: rest)) := by
  obtain ⟨hx, hb, hr, hml, hB, hown, hlocks, hnm⟩ := hC
  rw [hy0] at hown
  exact va_get (ci := 12) (C := RX12) (T := TX12) (N := 41) hx hb hB in_X12 hown hK.1 hP q0 he rfl 3 (by decide) (hB _ m_1033) (fun _ h => h) hv hdg kk
theorem m_1237 : Cond.constantLong RX12 209 (255) ∈ BW := iB_BW66 _ (List.mem_of_getElem? (i := 5) rfl)
theorem gX12_feed_3 : (decode cX12_feed 54 = .ok (.land, 1)) ∧ (decode cX12_feed 55 = .ok (.l2i, 1)) ∧ (decode cX12_feed 56 = .ok (.iastore, 1)) ∧ (decode cX12_feed 57 = .ok (.aload_n 0, 1)) ∧ (decode cX12_feed 58 = .ok (.dup, 1)) ∧ (decode cX12_feed 59 = .ok (.getfield 206, 3)) ∧ (decode cX12_feed 62 = .ok (.iconst 1, 1)) ∧ (decode cX12_feed 63 = .ok (.iadd, 1)) ∧ (decode cX12_feed 64 = .ok (.putfield 206, 3)) ∧ (decode cX12_feed 67 = .ok (.iinc 4 1, 3)) := by decide +kernel
theorem pf_X12_206 (hC : CX p s m meth c y0 b0 mL0 rt0 args) (hy0 : y0.cls = RX12) (hK : KK G s) (hP : va_P G.1 vwCl ws H) (hD : va_D A ws) (hS : va_S A H0 H locs) (q0 : Nat) {fs : List Value} {v : Value} {ws' : va_W} (he : ws[q0]? = some (a, .inr (12, fs))) (hl : 4 < fs.length) (hws : ws.set q0 (a, .inr (12, fs.set 4 v)) = ws') (hn : narrow .int v = v) (hfit : fits .int v = true) (hdg : decode b0 pc = .ok (.putfield 206, 3)) (kk : ∀ (H1 : Heap) (locs1 : List Loc), va_P G.1 vwCl ws' H1 → va_D A ws' → va_S A H0 H1 locs1 → W p l e R s m args below meth c H1 locs1 cells slots Q (F0 m (pc + 3) ls rest)) : W p l e R s m args below meth c H locs cells slots Q (F0 m pc ls (v :: .ref a :: rest)) := by
  obtain ⟨hx, hb, hr, hml, hB, hown, hlocks, hnm⟩ := hC
  rw [hy0] at hown
  subst hws
  exact va_put (ci := 12) (ty := .int) (C := RX12) (T := TX12) (N := 41) hx hb hB in_X12 tyX12 tyX12_ok nmX12 hown hK.1 hP hD hS q0 he rfl 4 (by decide) (hB _ m_1034) (fun _ h => h) rfl (by decide +kernel) hn hfit hl hdg kk
theorem gX12_isIn__0 : (decode cX12_isIn_ 0 = .ok (.iload_n 1, 1)) ∧ (decode cX12_isIn_ 1 = .ok (.aload_n 0, 1)) ∧ (decode cX12_isIn_ 2 = .ok (.getfield 206, 3)) ∧ (decode cX12_isIn_ 5 = .ok (.if_icmp .ge 21, 3)) ∧ (decode cX12_isIn_ 8 = .ok (.aload_n 0, 1)) ∧ (decode cX12_isIn_ 9 = .ok (.getfield 16, 3)) ∧ (decode cX12_isIn_ 12 = .ok (.iload_n 1, 1)) ∧ (decode cX12_isIn_ 13 = .ok (.iaload, 1)) ∧ (decode cX12_isIn_ 14 = .ok (.iload_n 2, 1)) ∧ (decode cX12_isIn_ 15 = .ok (.iload_n 3, 1)) := by decide +kernel
theorem gX12_isIn__1 : (decode cX12_isIn_ 16 = .ok (.invokestatic 84, 3)) ∧ (decode cX12_isIn_ 19 = .ok (.ifCond .eq 7, 3)) ∧ (decode cX12_isIn_ 22 = .ok (.iconst 1, 1)) ∧ (decode cX12_isIn_ 23 = .ok (.goto 4, 3)) ∧ (decode cX12_isIn_ 26 = .ok (.iconst 0, 1)) ∧ (decode cX12_isIn_ 27 = .ok (.ireturn, 1)) := by decide +kernel
theorem gX12_next_0 : (decode cX12_next 0 = .ok (.aload_n 0, 1)) ∧ (decode cX12_next 1 = .ok (.aload_n 0, 1)) ∧ (decode cX12_next 2 = .ok (.getfield 211, 3)) ∧ (decode cX12_next 5 = .ok (.putfield 214, 3)) ∧ (decode cX12_next 8 = .ok (.aload_n 0, 1)) ∧ (decode cX12_next 9 = .ok (.getfield 214, 3)) ∧ (decode cX12_next 12 = .ok (.aload_n 0, 1)) ∧ (decode cX12_next 13 = .ok (.getfield 206, 3)) ∧ (decode cX12_next 16 = .ok (.if_icmp .ge 30, 3)) ∧ (decode cX12_next 19 = .ok (.aload_n 0, 1)) := by decide +kernel
theorem m_1045 : Cond.fieldLink RX12 211 "InquiryBenchModel" "to" "I" ∈ BW := iB_BW55 _ (List.mem_of_getElem? (i := 14) rfl)
theorem gf_X12_211 (hC : CX p s m meth c y0 b0 mL0 rt0 args) (hy0 : y0.cls = RX12) (hK : KK G s) (hP : va_P G.1 vwCl ws H) (q0 : Nat) {fs : List Value} {v : Value} (he : ws[q0]? = some (a, .inr (12, fs))) (hv : fs[15]? = some v) (hdg : decode b0 pc = .ok (.getfield 211, 3)) (kk : W p l e R s m args below meth c H locs cells slots Q (F0 m (pc + 3) ls (v :: rest))) : W p l e R s m args below meth c H locs cells slots Q (F0 m pc ls (.ref a :: rest)) := by
  obtain ⟨hx, hb, hr, hml, hB, hown, hlocks, hnm⟩ := hC
  rw [hy0] at hown
  exact va_get (ci := 12) (C := RX12) (T := TX12) (N := 41) hx hb hB in_X12 hown hK.1 hP q0 he rfl 15 (by decide) (hB _ m_1045) (fun _ h => h) hv hdg kk
theorem m_1044 : Cond.fieldLink RX12 214 "InquiryBenchModel" "from" "I" ∈ BW := iB_BW55 _ (List.mem_of_getElem? (i := 13) rfl)
theorem pf_X12_214 (hC : CX p s m meth c y0 b0 mL0 rt0 args) (hy0 : y0.cls = RX12) (hK : KK G s) (hP : va_P G.1 vwCl ws H) (hD : va_D A ws) (hS : va_S A H0 H locs) (q0 : Nat) {fs : List Value} {v : Value} {ws' : va_W} (he : ws[q0]? = some (a, .inr (12, fs))) (hl : 14 < fs.length) (hws : ws.set q0 (a, .inr (12, fs.set 14 v)) = ws') (hn : narrow .int v = v) (hfit : fits .int v = true) (hdg : decode b0 pc = .ok (.putfield 214, 3)) (kk : ∀ (H1 : Heap) (locs1 : List Loc), va_P G.1 vwCl ws' H1 → va_D A ws' → va_S A H0 H1 locs1 → W p l e R s m args below meth c H1 locs1 cells slots Q (F0 m (pc + 3) ls rest)) : W p l e R s m args below meth c H locs cells slots Q (F0 m pc ls (v :: .ref a :: rest)) := by
  obtain ⟨hx, hb, hr, hml, hB, hown, hlocks, hnm⟩ := hC
  rw [hy0] at hown
  subst hws
  exact va_put (ci := 12) (ty := .int) (C := RX12) (T := TX12) (N := 41) hx hb hB in_X12 tyX12 tyX12_ok nmX12 hown hK.1 hP hD hS q0 he rfl 14 (by decide) (hB _ m_1044) (fun _ h => h) rfl (by decide +kernel) hn hfit hl hdg kk
theorem gf_X12_214 (hC : CX p s m meth c y0 b0 mL0 rt0 args) (hy0 : y0.cls = RX12) (hK : KK G s) (hP : va_P G.1 vwCl ws H) (q0 : Nat) {fs : List Value} {v : Value} (he : ws[q0]? = some (a, .inr (12, fs))) (hv : fs[14]? = some v) (hdg : decode b0 pc = .ok (.getfield 214, 3)) (kk : W p l e R s m args below meth c H locs cells slots Q (F0 m (pc + 3) ls (v :: rest))) : W p l e R s m args below meth c H locs cells slots Q (F0 m pc ls (.ref a :: rest)) := by
  obtain ⟨hx, hb, hr, hml, hB, hown, hlocks, hnm⟩ := hC
  rw [hy0] at hown
  exact va_get (ci := 12) (C := RX12) (T := TX12) (N := 41) hx hb hB in_X12 hown hK.1 hP q0 he rfl 14 (by decide) (hB _ m_1044) (fun _ h => h) hv hdg kk
theorem gX12_next_2 : (decode cX12_next 39 = .ok (.iadd, 1)) ∧ (decode cX12_next 40 = .ok (.putfield 214, 3)) ∧ (decode cX12_next 43 = .ok (.goto (-35), 3)) ∧ (decode cX12_next 46 = .ok (.aload_n 0, 1)) ∧ (decode cX12_next 47 = .ok (.aload_n 0, 1)) ∧ (decode cX12_next 48 = .ok (.getfield 214, 3)) ∧ (decode cX12_next 51 = .ok (.putfield 211, 3)) ∧ (decode cX12_next 54 = .ok (.aload_n 0, 1)) ∧ (decode cX12_next 55 = .ok (.getfield 214, 3)) ∧ (decode cX12_next 58 = .ok (.aload_n 0, 1)) := by decide +kernel
theorem pf_X12_211 (hC : CX p s m meth c y0 b0 mL0 rt0 args) (hy0 : y0.cls = RX12) (hK : KK G s) (hP : va_P G.1 vwCl ws H) (hD : va_D A ws) (hS : va_S A H0 H locs) (q0 : Nat) {fs : List Value} {v : Value} {ws' : va_W} (he : ws[q0]? = some (a, .inr (12, fs))) (hl : 15 < fs.length) (hws : ws.set q0 (a, .inr (12, fs.set 15 v)) = ws') (hn : narrow .int v = v) (hfit : fits .int v = true) (hdg : decode b0 pc = .ok (.putfield 211, 3)) (kk : ∀ (H1 : Heap) (locs1 : List Loc), va_P G.1 vwCl ws' H1 → va_D A ws' → va_S A H0 H1 locs1 → W p l e R s m args below meth c H1 locs1 cells slots Q (F0 m (pc + 3) ls rest)) : W p l e R s m args below meth c H locs cells slots Q (F0 m pc ls (v :: .ref a :: rest)) := by
  obtain ⟨hx, hb, hr, hml, hB, hown, hlocks, hnm⟩ := hC
  rw [hy0] at hown
  subst hws
  exact va_put (ci := 12) (ty := .int) (C := RX12) (T := TX12) (N := 41) hx hb hB in_X12 tyX12 tyX12_ok nmX12 hown hK.1 hP hD hS q0 he rfl 15 (by decide) (hB _ m_1045) (fun _ h => h) rfl (by decide +kernel) hn hfit hl hdg kk
theorem gX12_next_3 : (decode cX12_next 59 = .ok (.getfield 206, 3)) ∧ (decode cX12_next 62 = .ok (.if_icmp .ne 9, 3)) ∧ (decode cX12_next 65 = .ok (.aload_n 0, 1)) ∧ (decode cX12_next 66 = .ok (.iconst 0, 1)) ∧ (decode cX12_next 67 = .ok (.putfield 217, 3)) ∧ (decode cX12_next 70 = .ok (.return_, 1)) ∧ (decode cX12_next 71 = .ok (.aload_n 0, 1)) ∧ (decode cX12_next 72 = .ok (.aload_n 0, 1)) ∧ (decode cX12_next 73 = .ok (.aload_n 0, 1)) ∧ (decode cX12_next 74 = .ok (.getfield 214, 3)) := by decide +kernel
theorem gX12_next_4 : (decode cX12_next 77 = .ok (.bipush 97, 2)) ∧ (decode cX12_next 79 = .ok (.bipush 122, 2)) ∧ (decode cX12_next 81 = .ok (.invokevirtual 220, 3)) ∧ (decode cX12_next 84 = .ok (.ifCond .eq 7, 3)) ∧ (decode cX12_next 87 = .ok (.iconst 1, 1)) ∧ (decode cX12_next 88 = .ok (.goto 23, 3)) ∧ (decode cX12_next 91 = .ok (.aload_n 0, 1)) ∧ (decode cX12_next 92 = .ok (.aload_n 0, 1)) ∧ (decode cX12_next 93 = .ok (.getfield 214, 3)) ∧ (decode cX12_next 96 = .ok (.bipush 48, 2)) := by decide +kernel
theorem m_1247 : Cond.code yX12_isIn_ cX12_isIn_ 4 (some .boolean) ∈ BW := iB_BW66 _ (List.mem_of_getElem? (i := 15) rfl)
theorem m_1245 : Cond.methodLink RX12 220 yX12_isIn_ ∈ BW := iB_BW66 _ (List.mem_of_getElem? (i := 13) rfl)
theorem m_1246 : Cond.instanceMethod yX12_isIn_ ∈ BW := iB_BW66 _ (List.mem_of_getElem? (i := 14) rfl)
theorem m_78 : Cond.selects RX12 yX12_isIn_ yX12_isIn_ ∈ BW := iB_BW3 _ (List.mem_of_getElem? (i := 18) rfl)
theorem si_X12_220 : SV RX12 RX12 220 yX12_isIn_ cX12_isIn_ 4 (some .boolean) 3 := ⟨⟨m_1245, m_1246, m_78, m_115, m_1247⟩, rfl, nK_RX12.1, nK_RX12.2, pd_0⟩
theorem gX12_next_5 : (decode cX12_next 98 = .ok (.bipush 57, 2)) ∧ (decode cX12_next 100 = .ok (.invokevirtual 220, 3)) ∧ (decode cX12_next 103 = .ok (.ifCond .eq 7, 3)) ∧ (decode cX12_next 106 = .ok (.iconst 2, 1)) ∧ (decode cX12_next 107 = .ok (.goto 4, 3)) ∧ (decode cX12_next 110 = .ok (.iconst 3, 1)) ∧ (decode cX12_next 111 = .ok (.putfield 217, 3)) ∧ (decode cX12_next 114 = .ok (.aload_n 0, 1)) ∧ (decode cX12_next 115 = .ok (.dup, 1)) ∧ (decode cX12_next 116 = .ok (.getfield 211, 3)) := by decide +kernel
theorem m_1046 : Cond.fieldLink RX12 217 "InquiryBenchModel" "sort" "I" ∈ BW := iB_BW55 _ (List.mem_of_getElem? (i := 15) rfl)
theorem pf_X12_217 (hC : CX p s m meth c y0 b0 mL0 rt0 args) (hy0 : y0.cls = RX12) (hK : KK G s) (hP : va_P G.1 vwCl ws H) (hD : va_D A ws) (hS : va_S A H0 H locs) (q0 : Nat) {fs : List Value} {v : Value} {ws' : va_W} (he : ws[q0]? = some (a, .inr (12, fs))) (hl : 16 < fs.length) (hws : ws.set q0 (a, .inr (12, fs.set 16 v)) = ws') (hn : narrow .int v = v) (hfit : fits .int v = true) (hdg : decode b0 pc = .ok (.putfield 217, 3)) (kk : ∀ (H1 : Heap) (locs1 : List Loc), va_P G.1 vwCl ws' H1 → va_D A ws' → va_S A H0 H1 locs1 → W p l e R s m args below meth c H1 locs1 cells slots Q (F0 m (pc + 3) ls rest)) : W p l e R s m args below meth c H locs cells slots Q (F0 m pc ls (v :: .ref a :: rest)) := by
  obtain ⟨hx, hb, hr, hml, hB, hown, hlocks, hnm⟩ := hC
  rw [hy0] at hown
  subst hws
  exact va_put (ci := 12) (ty := .int) (C := RX12) (T := TX12) (N := 41) hx hb hB in_X12 tyX12 tyX12_ok nmX12 hown hK.1 hP hD hS q0 he rfl 16 (by decide) (hB _ m_1046) (fun _ h => h) rfl (by decide +kernel) hn hfit hl hdg kk
theorem gX12_next_6 : (decode cX12_next 119 = .ok (.iconst 1, 1)) ∧ (decode cX12_next 120 = .ok (.iadd, 1)) ∧ (decode cX12_next 121 = .ok (.putfield 211, 3)) ∧ (decode cX12_next 124 = .ok (.aload_n 0, 1)) ∧ (decode cX12_next 125 = .ok (.getfield 217, 3)) ∧ (decode cX12_next 128 = .ok (.iconst 1, 1)) ∧ (decode cX12_next 129 = .ok (.if_icmp .ne 18, 3)) ∧ (decode cX12_next 132 = .ok (.aload_n 0, 1)) ∧ (decode cX12_next 133 = .ok (.aload_n 0, 1)) ∧ (decode cX12_next 134 = .ok (.getfield 211, 3)) := by decide +kernel
theorem gf_X12_217 (hC : CX p s m meth c y0 b0 mL0 rt0 args) (hy0 : y0.cls = RX12) (hK : KK G s) (hP : va_P G.1 vwCl ws H) (q0 : Nat) {fs : List Value} {v : Value} (he : ws[q0]? = some (a, .inr (12, fs))) (hv : fs[16]? = some v) (hdg : decode b0 pc = .ok (.getfield 217, 3)) (kk : W p l e R s m args below meth c H locs cells slots Q (F0 m (pc + 3) ls (v :: rest))) : W p l e R s m args below meth c H locs cells slots Q (F0 m pc ls (.ref a :: rest)) := by
  obtain ⟨hx, hb, hr, hml, hB, hown, hlocks, hnm⟩ := hC
  rw [hy0] at hown
  exact va_get (ci := 12) (C := RX12) (T := TX12) (N := 41) hx hb hB in_X12 hown hK.1 hP q0 he rfl 16 (by decide) (hB _ m_1046) (fun _ h => h) hv hdg kk
theorem gX12_next_7 : (decode cX12_next 137 = .ok (.bipush 97, 2)) ∧ (decode cX12_next 139 = .ok (.bipush 122, 2)) ∧ (decode cX12_next 141 = .ok (.invokevirtual 220, 3)) ∧ (decode cX12_next 144 = .ok (.ifCond .ne 26, 3)) ∧ (decode cX12_next 147 = .ok (.aload_n 0, 1)) ∧ (decode cX12_next 148 = .ok (.getfield 217, 3)) ∧ (decode cX12_next 151 = .ok (.iconst 2, 1)) ∧ (decode cX12_next 152 = .ok (.if_icmp .ne 31, 3)) ∧ (decode cX12_next 155 = .ok (.aload_n 0, 1)) ∧ (decode cX12_next 156 = .ok (.aload_n 0, 1)) := by decide +kernel
theorem gX12_next_8 : (decode cX12_next 157 = .ok (.getfield 211, 3)) ∧ (decode cX12_next 160 = .ok (.bipush 48, 2)) ∧ (decode cX12_next 162 = .ok (.bipush 57, 2)) ∧ (decode cX12_next 164 = .ok (.invokevirtual 220, 3)) ∧ (decode cX12_next 167 = .ok (.ifCond .eq 16, 3)) ∧ (decode cX12_next 170 = .ok (.aload_n 0, 1)) ∧ (decode cX12_next 171 = .ok (.dup, 1)) ∧ (decode cX12_next 172 = .ok (.getfield 211, 3)) ∧ (decode cX12_next 175 = .ok (.iconst 1, 1)) ∧ (decode cX12_next 176 = .ok (.iadd, 1)) := by decide +kernel
theorem gX12_next_9 : (decode cX12_next 177 = .ok (.putfield 211, 3)) ∧ (decode cX12_next 180 = .ok (.goto (-56), 3)) ∧ (decode cX12_next 183 = .ok (.return_, 1)) := by decide +kernel
theorem gX12_next_1 : (decode cX12_next 20 = .ok (.getfield 16, 3)) ∧ (decode cX12_next 23 = .ok (.aload_n 0, 1)) ∧ (decode cX12_next 24 = .ok (.getfield 214, 3)) ∧ (decode cX12_next 27 = .ok (.iaload, 1)) ∧ (decode cX12_next 28 = .ok (.bipush 32, 2)) ∧ (decode cX12_next 30 = .ok (.if_icmp .ne 16, 3)) ∧ (decode cX12_next 33 = .ok (.aload_n 0, 1)) ∧ (decode cX12_next 34 = .ok (.dup, 1)) ∧ (decode cX12_next 35 = .ok (.getfield 214, 3)) ∧ (decode cX12_next 38 = .ok (.iconst 1, 1)) := by decide +kernel
end WR
def FBT (f bt : Nat → Int32) (n : Nat) : Prop := ∀ j, j < n → f j = bt j
theorem FBT.feed {f fb f2 fb2 : Nat → Int32} {k y m y2 : Nat} {e : Int64} (h : FBT f fb k) (hB : BNN fb k) (e1 : y = k) (e2 : y2 = m) (hc : FDB (BYT e) k m fb fb2) (hm : FDB (BYM e) y y2 f f2) : FBT f2 fb2 m ∧ BNN fb2 m := by
  subst e1
  subst e2
  obtain ⟨c1, c2, c3⟩ := hc
  obtain ⟨m1, m2, -⟩ := hm
  refine ⟨fun j hj => ?_, fun j hj => ?_⟩
  · rcases Nat.lt_or_ge j y with q | q
    · rw [m1 j q, c1 j q]; exact h j q
    · rw [m2 j q hj, c2 j q hj]; exact BYM.eq (by omega)
  · rcases Nat.lt_or_ge j y with q | q
    · rw [c1 j q]; exact hB j q
    · rw [c2 j q hj]; exact nn255 _
section RDMS
variable {bt : Nat → Int32} {n s : Nat}
theorem MNX.en (hs : n ≤ s) : TKN bt n s = 0 ∧ TKE bt n s = s := ⟨TKN.e0 (by omega), TKE.e0 (TKN.e0 (by omega))⟩
theorem MNX.nm {j : Nat} (hs : s < n) (hl : LTR (bt s)) (h1 : s ≤ j) (h2 : j ≤ n) (h3 : RUN bt LTR s j) (h4 : j < n → ¬ LTR (bt j)) : TKN bt n s = 1 ∧ TKE bt n s = j := ⟨TKN.e1 hs hl, (TKE.nm hs hl h1 h2 h3 h4).2⟩
theorem MNX.nu {j : Nat} (hs : s < n) (hl : ¬ LTR (bt s)) (hd : DGT (bt s)) (h1 : s ≤ j) (h2 : j ≤ n) (h3 : RUN bt DGT s j) (h4 : j < n → ¬ DGT (bt j)) : TKN bt n s = 2 ∧ TKE bt n s = j := ⟨TKN.e2 hs hl hd, (TKE.nu hs hl hd h1 h2 h3 h4).2⟩
theorem MNX.by9 (hs : s < n) (hl : ¬ LTR (bt s)) (hd : ¬ DGT (bt s)) : TKN bt n s = 3 ∧ TKE bt n s = s + 1 := ⟨TKN.e3 hs hl hd, (TKE.by9 hs hl hd).2⟩
theorem TKN.lt (h : ¬ TKN bt n s = 0) : s < n := by
  rcases TKN.cases bt n s with ⟨h1, h2⟩ | ⟨h1, -⟩ | ⟨h1, -⟩ | ⟨h1, -⟩
  · exact absurd h2 h
  · exact h1
  · exact h1
  · exact h1
theorem TKN.le3 (bt : Nat → Int32) (n s : Nat) : TKN bt n s ≤ 3 := by
  rcases TKN.cases bt n s with ⟨-, h⟩ | ⟨-, -, h⟩ | ⟨-, -, -, h⟩ | ⟨-, -, -, h⟩ <;> omega
/-- a word so far, as the reference holds it -/
def ISW (bt : Nat → Int32) (s i : Nat) (is : Int32) (k : Nat) : Prop := (is = 1 ∧ WDP bt s i k) ∨ (is = 0 ∧ ¬ WDP bt s i k)
theorem WDP.le {i k m : Nat} (h : WDP bt s i m) (hk : k ≤ m) : WDP bt s i k := fun j hj => h j (by omega)
theorem WDP.nn {i k : Nat} (h : ¬ bt (s + k) = (SBY.getD i []).getD k 0) : ¬ WDP bt s i (k + 1) := fun h2 => h (h2 k (by omega))
/-- a fact so far -/
def FCI (bt : Nat → Int32) (n s : Nat) (fa : Int32) (k : Nat) : Prop := (fa = -1 ∧ ∀ j, j < k → ¬ WRD bt n s (11 + j)) ∨ ∃ j, j < k ∧ WRD bt n s (11 + j) ∧ fa = nI j
theorem FCI.zero : FCI bt n s (-1) 0 := Or.inl ⟨rfl, fun j h => absurd h (Nat.not_lt_zero j)⟩
theorem FCI.no {fa : Int32} {k i : Nat} (h : FCI bt n s fa k) (hi : i = 11 + k) (h2 : ¬ WRD bt n s i) : FCI bt n s fa (k + 1) := by
  subst hi
  rcases h with ⟨e, h⟩ | ⟨j, hj, hw, e⟩
  · refine Or.inl ⟨e, fun j hj => ?_⟩
    by_cases c : j = k
    · rw [c]; exact h2
    · exact h j (by omega)
  · exact Or.inr ⟨j, by omega, hw, e⟩
theorem FCI.yes {k i : Nat} (hi : i = 11 + k) (h2 : WRD bt n s i) : FCI bt n s (nI k) (k + 1) := Or.inr ⟨k, by omega, hi ▸ h2, rfl⟩
theorem FCI.end {fa : Int32} (h : FCI bt n s fa 5) : (fa = -1 ∧ FAC bt n s = none) ∨ (fa = nI (FAV bt n s) ∧ FAC bt n s = some (FAV bt n s) ∧ FAV bt n s < 5) := by
  rcases h with ⟨e, h⟩ | ⟨j, hj, hw, e⟩
  · exact Or.inl ⟨e, FAC.n h⟩
  · have h2 := FAV.y hj hw
    exact Or.inr ⟨e.trans h2.1, h2.2⟩
theorem STP.rep {b k : Nat} {f : Nat → Int32} {r : List Int32} {x : Int32} (h : STP (b + k) f (r ++ List.replicate k x)) : STP (b + (k + 1)) (upd f (b + k) x) (r ++ List.replicate (k + 1) x) := by
  rw [List.replicate_succ', ← List.append_assoc]
  exact h.push
theorem STP.r0 {b : Nat} {f : Nat → Int32} {r : List Int32} {x : Int32} (h : STP b f r) : STP (b + 0) f (r ++ List.replicate 0 x) := by
  show STP b f (r ++ [])
  rw [List.append_nil]
  exact h
theorem STP.cn {k v : Nat} {x : Int32} {f : Nat → Int32} {rs : List Int32} (h : STP k f ((rs ++ [x]) ++ List.replicate v 30000)) : STP k f (rs ++ x :: NTR v) := by
  rw [List.append_assoc] at h
  exact h
/-- a line's row as the reference lays it -/
def LRM (g : Nat → Int32) (b : Nat) (ln : LNT) : Prop := g b = nI ln.1 ∧ g (b + 1) = ln.2.1 ∧ g (b + 2) = ln.2.2.1 ∧ g (b + 3) = ln.2.2.2.1 ∧ g (b + 4) = nI ln.2.2.2.2.2.2.2.1 ∧ g (b + 5) = nI ln.2.2.2.2.2.2.2.2 ∧ (ln.2.2.2.2.1 = 0 → ln.2.2.2.2.2.2.2.1 = ln.2.2.2.2.2.2.2.2) ∧ (ln.2.2.2.2.1 = 1 → ln.2.2.2.2.2.2.2.1 < ln.2.2.2.2.2.2.2.2) ∧ ln.2.2.2.2.1 ≤ 1 ∧ ln.2.2.2.2.2.2.2.2 ≤ 100
def LNM (f g : Nat → Int32) (k : Nat) (ln : LNT) : Prop := (∀ j, j < 6 * k → g j = f j) ∧ LRM g (6 * k) ln
def LNZ (k : Nat) (f : Nat → Int32) (ls : List LNT) : Prop := ls.length = k ∧ ∀ i, i < k → LRM f (6 * i) (ls.getD i LN0)
theorem LNZ.zero {f : Nat → Int32} : LNZ 0 f [] := ⟨rfl, fun i h => absurd h (Nat.not_lt_zero i)⟩
theorem LRM.ext {f g : Nat → Int32} {b : Nat} {ln : LNT} (h : LRM f b ln) (e : ∀ j, j < 6 → g (b + j) = f (b + j)) : LRM g b ln :=
  ⟨(e 0 (by omega)).trans h.1, (e 1 (by omega)).trans h.2.1, (e 2 (by omega)).trans h.2.2.1, (e 3 (by omega)).trans h.2.2.2.1, (e 4 (by omega)).trans h.2.2.2.2.1, (e 5 (by omega)).trans h.2.2.2.2.2.1, h.2.2.2.2.2.2⟩
theorem LNZ.push {k : Nat} {f g : Nat → Int32} {ls : List LNT} {ln : LNT} (h : LNZ k f ls) (h2 : LNM f g k ln) : LNZ (k + 1) g (ls ++ [ln]) := by
  obtain ⟨h1, h3⟩ := h
  obtain ⟨h4, h5⟩ := h2
  refine ⟨by rw [List.length_append, h1]; rfl, fun i hi => ?_⟩
  by_cases c : i = k
  · subst c
    rw [List.getD_eq_getElem?_getD, List.getElem?_append_right (by omega), h1, Nat.sub_self]
    exact h5
  · have e : (ls ++ [ln]).getD i LN0 = ls.getD i LN0 := by rw [List.getD_eq_getElem?_getD, List.getD_eq_getElem?_getD, List.getElem?_append_left (by omega)]
    rw [e]
    exact (h3 i (by omega)).ext fun j hj => h4 _ (by omega)
/-- what the whole text comes to is what the rest of it comes to -/
def TXM (bt : Nat → Int32) (n s0 kl p kc : Nat) (fl fc : Nat → Int32) : Prop := ∃ ls c r, LNZ kl fl ls ∧ STP kc fc r ∧ ∀ q, TXT bt n (9 - kl) p ls c r q → TXT bt n 9 s0 [] [] [] q
theorem TXM.zero {fl fc : Nat → Int32} {s0 : Nat} : TXM bt n s0 0 s0 0 fl fc := ⟨[], [], [], LNZ.zero, STP.zero, fun _ h => h⟩
theorem gdl {a b : List Int32} {i : Nat} (h : i < a.length) : (a ++ b).getD i 0 = a.getD i 0 := by rw [List.getD_eq_getElem?_getD, List.getD_eq_getElem?_getD, List.getElem?_append_left h]
theorem gdr {a b : List Int32} {i : Nat} : (a ++ b).getD (a.length + i) 0 = b.getD i 0 := by rw [List.getD_eq_getElem?_getD, List.getD_eq_getElem?_getD, List.getElem?_append_right (by omega), show a.length + i - a.length = i by omega]
/-- codes that leave one more on the pile, wherever they lie -/
def WSG (t : List Int32) : Prop := 0 < t.length ∧ ∀ (f : Nat → Int32) (a : Nat), (∀ i, i < t.length → f (a + i) = t.getD i 0) → SEG f a (a + t.length)
theorem WSG.fact {v : Int32} (hv : v < 30000) : WSG [v] := by
  refine ⟨Nat.zero_lt_one, fun f a h => ?_⟩
  have e : f a = v := h 0 Nat.zero_lt_one
  show SEG f a (a + 1)
  refine (SEG.push (f := f) (a := a) hv).ext fun k h1 h2 => ?_
  obtain rfl : k = a := by omega
  rw [upd_eq rfl]
  exact e
theorem WSG.not {t : List Int32} (h : WSG t) : WSG (t ++ [30000]) := by
  have l : (t ++ [30000]).length = t.length + 1 := by rw [List.length_append]; rfl
  have p := h.1
  refine ⟨by omega, fun f a hf => ?_⟩
  have h1 : SEG f a (a + t.length) := h.2 f a (fun i hi => (hf i (by omega)).trans (gdl hi))
  have e : f (a + t.length) = 30000 := (hf (t.length + 0) (by omega)).trans gdr
  rw [l]
  refine (h1.not (by omega)).ext fun k q1 q2 => ?_
  by_cases c : k = a + t.length
  · rw [c, upd_eq rfl]; exact e
  · rw [upd_ne c]
theorem WSG.op {s t : List Int32} {v : Int32} (h : WSG s) (h2 : WSG t) (hv : v = 30001 ∨ v = 30002) : WSG ((s ++ t) ++ [v]) := by
  have l : ((s ++ t) ++ [v]).length = s.length + t.length + 1 := by rw [List.length_append, List.length_append]; rfl
  have l2 : (s ++ t).length = s.length + t.length := List.length_append
  have p := h.1
  have p2 := h2.1
  refine ⟨by omega, fun f a hf => ?_⟩
  have a1 : SEG f a (a + s.length) := h.2 f a (fun i hi => ((hf i (by omega)).trans (gdl (by omega))).trans (gdl hi))
  have a2 : SEG f (a + s.length) (a + s.length + t.length) := h2.2 f (a + s.length) (fun i hi => by
    rw [Nat.add_assoc]
    exact ((hf (s.length + i) (by omega)).trans (gdl (by omega))).trans gdr)
  have e : f (a + s.length + t.length) = v := by
    have e9 := hf ((s ++ t).length + 0) (by omega)
    have e8 : ((s ++ t) ++ [v]).getD ((s ++ t).length + 0) 0 = v := gdr
    rw [e8, Nat.add_zero, l2] at e9
    rw [Nat.add_assoc]
    exact e9
  rw [l, ← Nat.add_assoc, ← Nat.add_assoc]
  refine (SEG.op a1 a2 (by omega) (by omega) hv).ext fun k q1 q2 => ?_
  by_cases c : k = a + s.length + t.length
  · rw [c, upd_eq rfl]; exact e
  · rw [upd_ne c]
theorem WSG.nots {t : List Int32} (h : WSG t) : ∀ k, WSG (t ++ List.replicate k 30000)
  | 0 => by
    show WSG (t ++ [])
    rw [List.append_nil]
    exact h
  | k + 1 => by
    rw [List.replicate_succ', ← List.append_assoc]
    exact (WSG.nots h k).not
theorem NMO.bd {v : Nat} (h : NMO bt n s = some v) : v ≤ 999 := NMO.le h (by
  have h1 := (NMO.tk h).1
  have h2 := TKN.lt (bt := bt) (n := n) (s := s) (by omega)
  omega)
theorem CMP.bd {p v : Nat} (h : CMP bt n s = (1, p, v)) : v ≤ 14999 := by
  cases hf : FAC bt n s with
  | none =>
    rw [CMP.f1 hf] at h
    exact absurd (show (0 : Nat) = 1 from congrArg Prod.fst h) (by decide)
  | some fa =>
    cases hg : SIG bt n (NXT bt n s) with
    | none =>
      rw [CMP.f2 hf hg] at h
      exact absurd (show (0 : Nat) = 1 from congrArg Prod.fst h) (by decide)
    | some sg =>
      cases hm : NMO bt n (NXT bt n (NXT bt n s)) with
      | none =>
        rw [CMP.f3 hf hg hm] at h
        exact absurd (show (0 : Nat) = 1 from congrArg Prod.fst h) (by decide)
      | some w =>
        rw [CMP.y hf hg hm] at h
        have a1 := (FAC.of hf).1
        have a2 := (SIG.of hg).1
        have a3 := NMO.bd hm
        have e : (fa * 3 + sg) * 1000 + w = v := congrArg (fun q => q.2.2) h
        omega
theorem nI_3 {v : Nat} (h : v ≤ 14999) : nI v < 30000 := by
  rw [Int32.lt_iff_toInt_lt, nI_ti (by omega)]
  have e : (30000 : Int32).toInt = 30000 := by decide
  omega
def SGP (X : PRX) : Prop := ∀ mo d k s cs rs, (X mo d k s cs rs).1 = 1 → ∃ t, (X mo d k s cs rs).2.2.2 = rs ++ t ∧ (mo ≤ 2 → WSG t) ∧ (¬ mo ≤ 2 → ∀ s0, WSG s0 → WSG (s0 ++ t))
theorem PS0.seg {X : PRX} (h : SGP X) {d k : Nat} {cs rs : List Int32} (hn : (PS0 bt n X d k s cs rs).1 = 1) : ∃ t, (PS0 bt n X d k s cs rs).2.2.2 = rs ++ t ∧ WSG t := by
  unfold PS0 at hn ⊢
  by_cases e : WRD bt n s 10
  · rw [if_pos e] at hn
    rw [if_pos e]
    obtain ⟨t, h1, h2, -⟩ := h 0 d (k + 1) _ cs rs hn
    exact ⟨t, h1, h2 (by decide)⟩
  · rw [if_neg e] at hn
    rw [if_neg e]
    by_cases g : SGN bt n s 40
    · rw [if_pos g] at hn
      rw [if_pos g]
      by_cases q : 4 ≤ d
      · rw [if_pos q] at hn
        exact absurd hn (show ¬ (0 : Nat) = 1 by decide)
      · rw [if_neg q] at hn
        rw [if_neg q]
        by_cases c : (X 2 (d + 1) 0 (NXT bt n s) cs rs).1 = 1
        · rw [if_pos c] at hn
          rw [if_pos c]
          by_cases g2 : SGN bt n (X 2 (d + 1) 0 (NXT bt n s) cs rs).2.1 41
          · rw [if_pos g2]
            obtain ⟨t, h1, h2, -⟩ := h 2 (d + 1) 0 _ cs rs c
            refine ⟨t ++ NTR k, ?_, (h2 (by decide)).nots k⟩
            show (X 2 (d + 1) 0 (NXT bt n s) cs rs).2.2.2 ++ NTR k = rs ++ (t ++ NTR k)
            rw [h1, List.append_assoc]
          · rw [if_neg g2] at hn
            exact absurd hn (show ¬ (0 : Nat) = 1 by decide)
        · rw [if_neg c] at hn
          exact absurd hn c
    · rw [if_neg g] at hn
      rw [if_neg g]
      by_cases c : (CMP bt n s).1 = 1
      · rw [if_pos c]
        exact ⟨nI (CMP bt n s).2.2 :: NTR k, rfl, (WSG.fact (nI_3 (CMP.bd (CMP.e1 c)))).nots k⟩
      · rw [if_neg c] at hn
        exact absurd hn (show ¬ (0 : Nat) = 1 by decide)
theorem PS1.seg {X : PRX} (h : SGP X) {a b d : Nat} {cs rs : List Int32} (ha : a ≤ 2) (hb : ¬ b ≤ 2) (hn : (PS1 X a b d s cs rs).1 = 1) : ∃ t, (PS1 X a b d s cs rs).2.2.2 = rs ++ t ∧ WSG t := by
  unfold PS1 at hn ⊢
  by_cases c : (X a d 0 s cs rs).1 = 1
  · rw [if_pos c] at hn
    rw [if_pos c]
    obtain ⟨t1, h1, h2, -⟩ := h a d 0 s cs rs c
    obtain ⟨t2, h3, -, h4⟩ := h b d 0 _ _ _ hn
    refine ⟨t1 ++ t2, ?_, h4 hb t1 (h2 ha)⟩
    rw [h3, h1, List.append_assoc]
  · rw [if_neg c] at hn
    exact absurd hn c
theorem PS3.seg {X : PRX} (h : SGP X) {w a b d : Nat} {u v : Int32} {cs rs : List Int32} (ha : a ≤ 2) (hb : ¬ b ≤ 2) (hv : v = 30001 ∨ v = 30002) (hn : (PS3 bt n X w a b u v d s cs rs).1 = 1) : ∃ t, (PS3 bt n X w a b u v d s cs rs).2.2.2 = rs ++ t ∧ ∀ s0, WSG s0 → WSG (s0 ++ t) := by
  unfold PS3 at hn ⊢
  by_cases e : WRD bt n s w
  · rw [if_pos e] at hn
    rw [if_pos e]
    by_cases c : (X a d 0 (NXT bt n s) cs rs).1 = 1
    · rw [if_pos c] at hn
      rw [if_pos c]
      obtain ⟨t1, h1, h2, -⟩ := h a d 0 _ cs rs c
      obtain ⟨t2, h3, -, h4⟩ := h b d 0 _ _ _ hn
      refine ⟨(t1 ++ [v]) ++ t2, ?_, fun s0 hs0 => ?_⟩
      · rw [h3, h1]
        simp only [List.append_assoc]
      · have h5 := h4 hb _ (hs0.op (h2 ha) hv)
        simp only [List.append_assoc] at h5 ⊢
        exact h5
    · rw [if_neg c] at hn
      exact absurd hn c
  · rw [if_neg e]
    exact ⟨[], (List.append_nil rs).symm, fun s0 hs0 => by rw [List.append_nil]; exact hs0⟩
theorem PX.seg : ∀ f, SGP (PX bt n f)
  | 0 => fun _ _ _ _ _ _ h => absurd (show (2 : Nat) = 1 from h) (by decide)
  | f + 1 => fun mo d k s cs rs hn => by
    have ih : SGP (PX bt n f) := PX.seg f
    have e : PX bt n (f + 1) mo d k s cs rs = PSt bt n (PX bt n f) mo d k s cs rs := rfl
    rw [e] at hn ⊢
    unfold PSt at hn ⊢
    by_cases c0 : mo = 0
    · rw [if_pos c0] at hn
      rw [if_pos c0]
      obtain ⟨t, h1, h2⟩ := PS0.seg ih hn
      exact ⟨t, h1, fun _ => h2, fun h9 => absurd (show mo ≤ 2 by omega) h9⟩
    rw [if_neg c0] at hn
    rw [if_neg c0]
    by_cases c1 : mo = 1
    · rw [if_pos c1] at hn
      rw [if_pos c1]
      obtain ⟨t, h1, h2⟩ := PS1.seg ih (by decide) (by decide) hn
      exact ⟨t, h1, fun _ => h2, fun h9 => absurd (show mo ≤ 2 by omega) h9⟩
    rw [if_neg c1] at hn
    rw [if_neg c1]
    by_cases c2 : mo = 2
    · rw [if_pos c2] at hn
      rw [if_pos c2]
      obtain ⟨t, h1, h2⟩ := PS1.seg ih (by decide) (by decide) hn
      exact ⟨t, h1, fun _ => h2, fun h9 => absurd (show mo ≤ 2 by omega) h9⟩
    rw [if_neg c2] at hn
    rw [if_neg c2]
    by_cases c3 : mo = 3
    · rw [if_pos c3] at hn
      rw [if_pos c3]
      obtain ⟨t, h1, h2⟩ := PS3.seg ih (by decide) (by decide) (Or.inl rfl) hn
      exact ⟨t, h1, fun h9 => absurd h9 (by omega), fun _ => h2⟩
    rw [if_neg c3] at hn
    rw [if_neg c3]
    obtain ⟨t, h1, h2⟩ := PS3.seg ih (by decide) (by decide) (Or.inr rfl) hn
    exact ⟨t, h1, fun h9 => absurd h9 (by omega), fun _ => h2⟩
theorem RT.seg {mo d p : Nat} {cs rs c1 r1 : List Int32} (h : RT bt n mo d 0 s cs rs (1, p, c1, r1)) (hm : mo ≤ 2) : ∃ t, r1 = rs ++ t ∧ WSG t := by
  obtain ⟨f, h1, -⟩ := h
  obtain ⟨t, h2, h3, -⟩ := PX.seg (bt := bt) (n := n) f mo d 0 s cs rs (by rw [h1])
  rw [h1] at h2
  exact ⟨t, h2, h3 hm⟩
theorem STP.seg {kc kc1 : Nat} {f g : Nat → Int32} {rs t : List Int32} (h : STP kc f rs) (h1 : STP kc1 g (rs ++ t)) (hw : WSG t) : kc < kc1 ∧ (∀ j, j < kc → g j = f j) ∧ WFC g kc kc1 := by
  obtain ⟨a1, a2⟩ := h
  obtain ⟨b1, b2⟩ := h1
  have l : (rs ++ t).length = rs.length + t.length := List.length_append
  have p := hw.1
  obtain rfl : kc1 = kc + t.length := by omega
  refine ⟨by omega, fun j hj => ?_, ?_⟩
  · rw [b2 j (by omega), a2 j hj, gdl (by omega)]
  · refine (hw.2 g kc (fun i hi => ?_)).wfc
    rw [b2 (kc + i) (by omega), ← a1]
    exact gdr
theorem STP.same {kc kc1 : Nat} {f g : Nat → Int32} {rs : List Int32} (h : STP kc f rs) (h1 : STP kc1 g rs) : kc = kc1 ∧ ∀ j, j < kc → g j = f j :=
  ⟨h.1.symm.trans h1.1, fun j hj => (h1.2 j (by have a := h.1; have b := h1.1; omega)).trans (h.2 j hj).symm⟩
theorem HDQ.bd {so p : Nat} {x y z : Int32} (h : HDQ bt n so s (1, p, x, y, z)) : (so = 0 → (∃ n2, n2 < 8 ∧ y = nI n2) ∧ ∃ n3, n3 < 8 ∧ z = nI n3) ∧ (so = 2 → ∃ n1, n1 < 8 ∧ x = nI n1) := by
  rcases h with ⟨-, h⟩ | ⟨a, h1, h⟩
  · exact absurd (show (1 : Nat) = 0 from congrArg Prod.fst h) (by decide)
  · rcases h with ⟨hs, h⟩ | ⟨hs, h⟩ | ⟨hs, h⟩
    · exact ⟨fun h9 => absurd h9 (by omega), fun h9 => absurd h9 (by omega)⟩
    · refine ⟨fun _ => ?_, fun h9 => absurd h9 (by omega)⟩
      rcases h with ⟨-, h⟩ | ⟨-, h⟩
      · exact absurd (show (1 : Nat) = 0 from congrArg Prod.fst h) (by decide)
      · rcases h with ⟨-, h⟩ | ⟨b, h2, h⟩
        · exact absurd (show (1 : Nat) = 0 from congrArg Prod.fst h) (by decide)
        · rcases h with ⟨-, h⟩ | ⟨-, h⟩
          · exact absurd (show (1 : Nat) = 0 from congrArg Prod.fst h) (by decide)
          · rcases h with ⟨-, h⟩ | ⟨c, h3, h⟩
            · exact absurd (show (1 : Nat) = 0 from congrArg Prod.fst h) (by decide)
            · have q2 := (NML.of h2).2
              have q3 := (NML.of h3).2
              exact ⟨⟨b, by omega, congrArg (fun q => q.2.2.2.1) h⟩, c, by omega, congrArg (fun q => q.2.2.2.2) h⟩
    · refine ⟨fun h9 => absurd h9 (by omega), fun _ => ?_⟩
      subst hs
      have q1 : a ≤ 7 := (NML.of h1).2
      have e : x = nI a := by
        rcases h with ⟨-, h⟩ | ⟨-, h⟩
        · exact absurd (show (1 : Nat) = 0 from congrArg Prod.fst h) (by decide)
        · rcases h with ⟨-, h⟩ | ⟨b, -, h⟩
          · exact absurd (show (1 : Nat) = 0 from congrArg Prod.fst h) (by decide)
          · exact congrArg (fun q => q.2.2.1) h
      exact ⟨a, by omega, e⟩
theorem SRT.lt {so : Nat} (h : SRT bt n s = some so) : so < 4 := by
  by_cases c : ∃ j, j < 4 ∧ WRD bt n s (1 + j)
  · obtain ⟨j, hj, hw⟩ := c
    rw [SRT.y hj hw] at h
    cases h
    exact hj
  · rw [SRT.n (fun j hj hw => c ⟨j, hj, hw⟩)] at h
    cases h
theorem RLN.lok {p b kc kc1 : Nat} {cs rs c1 r1 : List Int32} {ln : LNT} {fc gc gl : Nat → Int32} (h : RLN bt n s cs rs (1, p, ln, c1, r1)) (hs : STP kc fc rs) (h1 : STP kc1 gc r1) (hl : LRM gl b ln) : LOKB (fun j => gl (b + j)) gc kc1 ∧ kc ≤ kc1 ∧ ∀ j, j < kc → gc j = fc j := by
  rcases h with ⟨-, e⟩ | ⟨so, hso, h⟩
  · exact absurd (show (1 : Nat) = 0 from congrArg Prod.fst e) (by decide)
  have hs4 := SRT.lt hso
  rcases h with ⟨q, -, e⟩ | ⟨q, x, y, z, hd, h⟩
  · exact absurd (show (1 : Nat) = 0 from congrArg Prod.fst e) (by decide)
  have hb := hd.bd
  rcases h with ⟨-, h⟩ | ⟨-, h⟩
  · rcases h with ⟨-, e⟩ | ⟨-, e⟩
    · exact absurd (show (1 : Nat) = 0 from congrArg Prod.fst e) (by decide)
    · have e1 : ln = (so, x, y, z, 0, cs.length, cs.length, rs.length, rs.length) := congrArg (fun q => q.2.2.1) e
      have e2 : r1 = rs := congrArg (fun q => q.2.2.2.2) e
      subst e1
      subst e2
      obtain ⟨l0, l1, l2, l3, l4, l5, -⟩ := hl
      have sm := STP.same hs h1
      refine ⟨⟨⟨so, hs4, l0, fun h9 => ?_, fun h9 => ?_⟩, _, _, l4, l5, Nat.le_refl _, ?_, WFC.zero⟩, by omega, sm.2⟩
      · obtain ⟨⟨n2, q1, q2⟩, n3, q3, q4⟩ := hb.1 h9
        exact ⟨⟨n2, q1, l2.trans q2⟩, n3, q3, l3.trans q4⟩
      · obtain ⟨n1, q1, q2⟩ := hb.2 h9
        exact ⟨n1, q1, l1.trans q2⟩
      · have a := h1.1
        show r1.length ≤ kc1
        omega
  · rcases h with ⟨q2, -, e⟩ | ⟨q2, c2, r2, hr, h⟩
    · exact absurd (show (1 : Nat) = 0 from congrArg Prod.fst e) (by decide)
    rcases h with ⟨-, e⟩ | ⟨-, e⟩
    · exact absurd (show (1 : Nat) = 0 from congrArg Prod.fst e) (by decide)
    · have e1 : ln = (so, x, y, z, 1, cs.length, c2.length, rs.length, r2.length) := congrArg (fun q => q.2.2.1) e
      have e2 : r1 = r2 := congrArg (fun q => q.2.2.2.2) e
      subst e1
      subst e2
      obtain ⟨t, rfl, hw⟩ := RT.seg hr (by decide)
      have sg := STP.seg hs h1 hw
      have k1 := hs.1
      have k2 := h1.1
      obtain ⟨l0, l1, l2, l3, l4, l5, -⟩ := hl
      refine ⟨⟨⟨so, hs4, l0, fun h9 => ?_, fun h9 => ?_⟩, kc, kc1, l4.trans (congrArg nI k1), l5.trans (congrArg nI k2), by omega, Nat.le_refl _, sg.2.2⟩, by omega, sg.2.1⟩
      · obtain ⟨⟨n2, q1, q2⟩, n3, q3, q4⟩ := hb.1 h9
        exact ⟨⟨n2, q1, l2.trans q2⟩, n3, q3, l3.trans q4⟩
      · obtain ⟨n1, q1, q2⟩ := hb.2 h9
        exact ⟨n1, q1, l1.trans q2⟩
/-- the lines so far are right -/
def LKB (L C : Nat → Int32) (c l : Nat) : Prop := ∀ i, i < l → LOKB (fun j => L (6 * i + j)) C c
theorem LKB.zero {L C : Nat → Int32} {c : Nat} : LKB L C c 0 := fun i h => absurd h (Nat.not_lt_zero i)
theorem LKB.next {L L2 C C2 : Nat → Int32} {c c2 l p : Nat} {cs rs c1 r1 : List Int32} {ln : LNT} (h : LKB L C c l) (hr : RLN bt n s cs rs (1, p, ln, c1, r1)) (hs : STP c C rs) (h1 : STP c2 C2 r1) (hl : LNM L L2 l ln) : LKB L2 C2 c2 (l + 1) := by
  obtain ⟨h2, h3, h4⟩ := RLN.lok hr hs h1 hl.2
  intro i hi
  by_cases e : i = l
  · rw [e]; exact h2
  · exact LOKB.ext (fun j hj => hl.1 _ (by omega)) h4 h3 (h i (by omega))
def RTV (bt : Nat → Int32) (n mo d s : Nat) (cs rs : List Int32) (m0 p k : Nat) (f : Nat → Int32) : Prop := ∃ c1 r1, STP k f r1 ∧ ∀ r, RT bt n m0 d 0 p c1 r1 r → RT bt n mo d 0 s cs rs r
end RDMS
section WR
variable {p : Program} {l : Launch} {e : Env} {R : Room} {s : State} {m : MethodId} {args : Array Value} {below : List Frame} {meth : Method} {c : Code} {H : Heap} {locs : List Loc} {cells slots : Nat} {Q : State → Prop}
variable {pc : Nat} {ls : Array Slot} {rest : List Value} {G : GG} {K : OO} {ws : va_W} {A : Nat → Prop} {y0 : MethodName} {b0 : ByteArray} {mL0 : Nat} {rt0 : Option FieldType} {a : Nat} {H0 : Heap}
theorem gX12_isName_0 : (decode cX12_isName 0 = .ok (.aload_n 0, 1)) ∧ (decode cX12_isName 1 = .ok (.getfield 222, 3)) ∧ (decode cX12_isName 4 = .ok (.ifCond .ne 31, 3)) ∧ (decode cX12_isName 7 = .ok (.aload_n 0, 1)) ∧ (decode cX12_isName 8 = .ok (.getfield 217, 3)) ∧ (decode cX12_isName 11 = .ok (.iconst 1, 1)) ∧ (decode cX12_isName 12 = .ok (.if_icmp .ne 23, 3)) ∧ (decode cX12_isName 15 = .ok (.aload_n 0, 1)) ∧ (decode cX12_isName 16 = .ok (.getfield 211, 3)) ∧ (decode cX12_isName 19 = .ok (.aload_n 0, 1)) := by decide +kernel
theorem m_1047 : Cond.fieldLink RX12 222 "InquiryBenchModel" "isFault" "Z" ∈ BW := iB_BW55 _ (List.mem_of_getElem? (i := 16) rfl)
theorem gf_X12_222 (hC : CX p s m meth c y0 b0 mL0 rt0 args) (hy0 : y0.cls = RX12) (hK : KK G s) (hP : va_P G.1 vwCl ws H) (q0 : Nat) {fs : List Value} {v : Value} (he : ws[q0]? = some (a, .inr (12, fs))) (hv : fs[17]? = some v) (hdg : decode b0 pc = .ok (.getfield 222, 3)) (kk : W p l e R s m args below meth c H locs cells slots Q (F0 m (pc + 3) ls (v :: rest))) : W p l e R s m args below meth c H locs cells slots Q (F0 m pc ls (.ref a :: rest)) := by
  obtain ⟨hx, hb, hr, hml, hB, hown, hlocks, hnm⟩ := hC
  rw [hy0] at hown
  exact va_get (ci := 12) (C := RX12) (T := TX12) (N := 41) hx hb hB in_X12 hown hK.1 hP q0 he rfl 17 (by decide) (hB _ m_1047) (fun _ h => h) hv hdg kk
theorem gX12_isName_1 : (decode cX12_isName 20 = .ok (.getfield 214, 3)) ∧ (decode cX12_isName 23 = .ok (.isub, 1)) ∧ (decode cX12_isName 24 = .ok (.aload_n 1, 1)) ∧ (decode cX12_isName 25 = .ok (.invokevirtual 226, 3)) ∧ (decode cX12_isName 28 = .ok (.if_icmp .ne 7, 3)) ∧ (decode cX12_isName 31 = .ok (.iconst 1, 1)) ∧ (decode cX12_isName 32 = .ok (.goto 4, 3)) ∧ (decode cX12_isName 35 = .ok (.iconst 0, 1)) ∧ (decode cX12_isName 36 = .ok (.istore_n 2, 1)) ∧ (decode cX12_isName 37 = .ok (.iconst 0, 1)) := by decide +kernel
theorem gX12_isName_2 : (decode cX12_isName 38 = .ok (.istore_n 3, 1)) ∧ (decode cX12_isName 39 = .ok (.iload_n 2, 1)) ∧ (decode cX12_isName 40 = .ok (.ifCond .eq 42, 3)) ∧ (decode cX12_isName 43 = .ok (.iload_n 3, 1)) ∧ (decode cX12_isName 44 = .ok (.aload_n 1, 1)) ∧ (decode cX12_isName 45 = .ok (.invokevirtual 226, 3)) ∧ (decode cX12_isName 48 = .ok (.if_icmp .ge 34, 3)) ∧ (decode cX12_isName 51 = .ok (.aload_n 0, 1)) ∧ (decode cX12_isName 52 = .ok (.getfield 16, 3)) ∧ (decode cX12_isName 55 = .ok (.aload_n 0, 1)) := by decide +kernel
theorem gX12_isName_4 : (decode cX12_isName 74 = .ok (.iconst 0, 1)) ∧ (decode cX12_isName 75 = .ok (.istore_n 2, 1)) ∧ (decode cX12_isName 76 = .ok (.iinc 3 1, 3)) ∧ (decode cX12_isName 79 = .ok (.goto (-40), 3)) ∧ (decode cX12_isName 82 = .ok (.iload_n 2, 1)) ∧ (decode cX12_isName 83 = .ok (.ireturn, 1)) := by decide +kernel
theorem m_1254 : Cond.methodLink RX12 226 yJ0_length_8abf5 ∈ BW := iB_BW67 _ (List.mem_of_getElem? (i := 2) rfl)
theorem si_X12_226 : SV RX12 RJ0 226 yJ0_length_8abf5 cJ0_length_8abf5 1 (some .int) 0 := ⟨⟨m_1254, m_652, m_653, m_118, m_654⟩, rfl, nK_RJ0.1, nK_RJ0.2, pd_1⟩
theorem gX12_isName_3 : (decode cX12_isName 56 = .ok (.getfield 214, 3)) ∧ (decode cX12_isName 59 = .ok (.iload_n 3, 1)) ∧ (decode cX12_isName 60 = .ok (.iadd, 1)) ∧ (decode cX12_isName 61 = .ok (.iaload, 1)) ∧ (decode cX12_isName 62 = .ok (.aload_n 1, 1)) ∧ (decode cX12_isName 63 = .ok (.iload_n 3, 1)) ∧ (decode cX12_isName 64 = .ok (.invokevirtual 229, 3)) ∧ (decode cX12_isName 67 = .ok (.if_icmp .ne 7, 3)) ∧ (decode cX12_isName 70 = .ok (.iconst 1, 1)) ∧ (decode cX12_isName 71 = .ok (.goto 4, 3)) := by decide +kernel
theorem m_1255 : Cond.methodLink RX12 229 yJ0_charAt_5068e ∈ BW := iB_BW67 _ (List.mem_of_getElem? (i := 3) rfl)
theorem si_X12_229 : SV RX12 RJ0 229 yJ0_charAt_5068e cJ0_charAt_5068e 2 (some .char) 1 := ⟨⟨m_1255, m_661, m_662, m_118, m_663⟩, rfl, nK_RJ0.1, nK_RJ0.2, pd_25⟩
theorem gX12_isSign_0 : (decode cX12_isSign 0 = .ok (.aload_n 0, 1)) ∧ (decode cX12_isSign 1 = .ok (.getfield 222, 3)) ∧ (decode cX12_isSign 4 = .ok (.ifCond .ne 28, 3)) ∧ (decode cX12_isSign 7 = .ok (.aload_n 0, 1)) ∧ (decode cX12_isSign 8 = .ok (.getfield 217, 3)) ∧ (decode cX12_isSign 11 = .ok (.iconst 3, 1)) ∧ (decode cX12_isSign 12 = .ok (.if_icmp .ne 20, 3)) ∧ (decode cX12_isSign 15 = .ok (.aload_n 0, 1)) ∧ (decode cX12_isSign 16 = .ok (.getfield 16, 3)) ∧ (decode cX12_isSign 19 = .ok (.aload_n 0, 1)) := by decide +kernel
theorem gX12_isSign_1 : (decode cX12_isSign 20 = .ok (.getfield 214, 3)) ∧ (decode cX12_isSign 23 = .ok (.iaload, 1)) ∧ (decode cX12_isSign 24 = .ok (.iload_n 1, 1)) ∧ (decode cX12_isSign 25 = .ok (.if_icmp .ne 7, 3)) ∧ (decode cX12_isSign 28 = .ok (.iconst 1, 1)) ∧ (decode cX12_isSign 29 = .ok (.goto 4, 3)) ∧ (decode cX12_isSign 32 = .ok (.iconst 0, 1)) ∧ (decode cX12_isSign 33 = .ok (.ireturn, 1)) := by decide +kernel
theorem gX12_need_0 : (decode cX12_need 0 = .ok (.aload_n 0, 1)) ∧ (decode cX12_need 1 = .ok (.aload_n 0, 1)) ∧ (decode cX12_need 2 = .ok (.getfield 222, 3)) ∧ (decode cX12_need 5 = .ok (.ifCond .ne 7, 3)) ∧ (decode cX12_need 8 = .ok (.iload_n 1, 1)) ∧ (decode cX12_need 9 = .ok (.ifCond .ne 7, 3)) ∧ (decode cX12_need 12 = .ok (.iconst 1, 1)) ∧ (decode cX12_need 13 = .ok (.goto 4, 3)) ∧ (decode cX12_need 16 = .ok (.iconst 0, 1)) ∧ (decode cX12_need 17 = .ok (.putfield 222, 3)) := by decide +kernel
theorem pf_X12_222 (hC : CX p s m meth c y0 b0 mL0 rt0 args) (hy0 : y0.cls = RX12) (hK : KK G s) (hP : va_P G.1 vwCl ws H) (hD : va_D A ws) (hS : va_S A H0 H locs) (q0 : Nat) {fs : List Value} {v : Value} {ws' : va_W} (he : ws[q0]? = some (a, .inr (12, fs))) (hl : 17 < fs.length) (hws : ws.set q0 (a, .inr (12, fs.set 17 v)) = ws') (hn : narrow .boolean v = v) (hfit : fits .boolean v = true) (hdg : decode b0 pc = .ok (.putfield 222, 3)) (kk : ∀ (H1 : Heap) (locs1 : List Loc), va_P G.1 vwCl ws' H1 → va_D A ws' → va_S A H0 H1 locs1 → W p l e R s m args below meth c H1 locs1 cells slots Q (F0 m (pc + 3) ls rest)) : W p l e R s m args below meth c H locs cells slots Q (F0 m pc ls (v :: .ref a :: rest)) := by
  obtain ⟨hx, hb, hr, hml, hB, hown, hlocks, hnm⟩ := hC
  rw [hy0] at hown
  subst hws
  exact va_put (ci := 12) (ty := .boolean) (C := RX12) (T := TX12) (N := 41) hx hb hB in_X12 tyX12 tyX12_ok nmX12 hown hK.1 hP hD hS q0 he rfl 17 (by decide) (hB _ m_1047) (fun _ h => h) rfl (by decide +kernel) hn hfit hl hdg kk
theorem gX12_need_1 : (decode cX12_need 20 = .ok (.aload_n 0, 1)) ∧ (decode cX12_need 21 = .ok (.getfield 222, 3)) ∧ (decode cX12_need 24 = .ok (.ifCond .ne 7, 3)) ∧ (decode cX12_need 27 = .ok (.aload_n 0, 1)) ∧ (decode cX12_need 28 = .ok (.invokevirtual 233, 3)) ∧ (decode cX12_need 31 = .ok (.return_, 1)) := by decide +kernel
theorem m_1244 : Cond.code yX12_next cX12_next 1 none ∈ BW := iB_BW66 _ (List.mem_of_getElem? (i := 12) rfl)
theorem m_1242 : Cond.methodLink RX12 233 yX12_next ∈ BW := iB_BW66 _ (List.mem_of_getElem? (i := 10) rfl)
theorem m_1243 : Cond.instanceMethod yX12_next ∈ BW := iB_BW66 _ (List.mem_of_getElem? (i := 11) rfl)
theorem m_77 : Cond.selects RX12 yX12_next yX12_next ∈ BW := iB_BW3 _ (List.mem_of_getElem? (i := 17) rfl)
theorem si_X12_233 : SV RX12 RX12 233 yX12_next cX12_next 1 none 0 := ⟨⟨m_1242, m_1243, m_77, m_115, m_1244⟩, rfl, nK_RX12.1, nK_RX12.2, pd_9⟩
theorem gX12_number_0 : (decode cX12_number 0 = .ok (.iconst 0, 1)) ∧ (decode cX12_number 1 = .ok (.istore_n 2, 1)) ∧ (decode cX12_number 2 = .ok (.aload_n 0, 1)) ∧ (decode cX12_number 3 = .ok (.getfield 222, 3)) ∧ (decode cX12_number 6 = .ok (.ifCond .ne 28, 3)) ∧ (decode cX12_number 9 = .ok (.aload_n 0, 1)) ∧ (decode cX12_number 10 = .ok (.getfield 217, 3)) ∧ (decode cX12_number 13 = .ok (.iconst 2, 1)) ∧ (decode cX12_number 14 = .ok (.if_icmp .ne 20, 3)) ∧ (decode cX12_number 17 = .ok (.aload_n 0, 1)) := by decide +kernel
theorem gX12_number_1 : (decode cX12_number 18 = .ok (.getfield 211, 3)) ∧ (decode cX12_number 21 = .ok (.aload_n 0, 1)) ∧ (decode cX12_number 22 = .ok (.getfield 214, 3)) ∧ (decode cX12_number 25 = .ok (.isub, 1)) ∧ (decode cX12_number 26 = .ok (.iconst 3, 1)) ∧ (decode cX12_number 27 = .ok (.if_icmp .gt 7, 3)) ∧ (decode cX12_number 30 = .ok (.iconst 1, 1)) ∧ (decode cX12_number 31 = .ok (.goto 4, 3)) ∧ (decode cX12_number 34 = .ok (.iconst 0, 1)) ∧ (decode cX12_number 35 = .ok (.istore_n 3, 1)) := by decide +kernel
theorem gX12_number_2 : (decode cX12_number 36 = .ok (.aload_n 0, 1)) ∧ (decode cX12_number 37 = .ok (.getfield 214, 3)) ∧ (decode cX12_number 40 = .ok (.istore 4, 2)) ∧ (decode cX12_number 42 = .ok (.iload_n 3, 1)) ∧ (decode cX12_number 43 = .ok (.ifCond .eq 34, 3)) ∧ (decode cX12_number 46 = .ok (.iload 4, 2)) ∧ (decode cX12_number 48 = .ok (.aload_n 0, 1)) ∧ (decode cX12_number 49 = .ok (.getfield 211, 3)) ∧ (decode cX12_number 52 = .ok (.if_icmp .ge 25, 3)) ∧ (decode cX12_number 55 = .ok (.bipush 10, 2)) := by decide +kernel
theorem gX12_number_4 : (decode cX12_number 71 = .ok (.iinc 4 1, 3)) ∧ (decode cX12_number 74 = .ok (.goto (-32), 3)) ∧ (decode cX12_number 77 = .ok (.aload_n 0, 1)) ∧ (decode cX12_number 78 = .ok (.iload_n 3, 1)) ∧ (decode cX12_number 79 = .ok (.ifCond .eq 12, 3)) ∧ (decode cX12_number 82 = .ok (.iload_n 2, 1)) ∧ (decode cX12_number 83 = .ok (.iload_n 1, 1)) ∧ (decode cX12_number 84 = .ok (.if_icmp .gt 7, 3)) ∧ (decode cX12_number 87 = .ok (.iconst 1, 1)) ∧ (decode cX12_number 88 = .ok (.goto 4, 3)) := by decide +kernel
theorem gX12_number_5 : (decode cX12_number 91 = .ok (.iconst 0, 1)) ∧ (decode cX12_number 92 = .ok (.invokevirtual 236, 3)) ∧ (decode cX12_number 95 = .ok (.iload_n 2, 1)) ∧ (decode cX12_number 96 = .ok (.ireturn, 1)) := by decide +kernel
theorem m_1258 : Cond.code yX12_need cX12_need 2 none ∈ BW := iB_BW67 _ (List.mem_of_getElem? (i := 6) rfl)
theorem pd_33 : (parseMethodDescriptor "(Z)V").map (fun d => d.parameters.length) = some 1 := by decide +kernel
theorem m_1256 : Cond.methodLink RX12 236 yX12_need ∈ BW := iB_BW67 _ (List.mem_of_getElem? (i := 4) rfl)
theorem m_1257 : Cond.instanceMethod yX12_need ∈ BW := iB_BW67 _ (List.mem_of_getElem? (i := 5) rfl)
theorem m_81 : Cond.selects RX12 yX12_need yX12_need ∈ BW := iB_BW4 _ (List.mem_of_getElem? (i := 1) rfl)
theorem si_X12_236 : SV RX12 RX12 236 yX12_need cX12_need 2 none 1 := ⟨⟨m_1256, m_1257, m_81, m_115, m_1258⟩, rfl, nK_RX12.1, nK_RX12.2, pd_33⟩
theorem gX12_number_3 : (decode cX12_number 57 = .ok (.iload_n 2, 1)) ∧ (decode cX12_number 58 = .ok (.imul, 1)) ∧ (decode cX12_number 59 = .ok (.aload_n 0, 1)) ∧ (decode cX12_number 60 = .ok (.getfield 16, 3)) ∧ (decode cX12_number 63 = .ok (.iload 4, 2)) ∧ (decode cX12_number 65 = .ok (.iaload, 1)) ∧ (decode cX12_number 66 = .ok (.iadd, 1)) ∧ (decode cX12_number 67 = .ok (.bipush 48, 2)) ∧ (decode cX12_number 69 = .ok (.isub, 1)) ∧ (decode cX12_number 70 = .ok (.istore_n 2, 1)) := by decide +kernel
theorem gX12_codes_0 : (decode cX12_codes 0 = .ok (.aload_n 0, 1)) ∧ (decode cX12_codes 1 = .ok (.getfield 222, 3)) ∧ (decode cX12_codes 4 = .ok (.ifCond .ne 23, 3)) ∧ (decode cX12_codes 7 = .ok (.aload_n 0, 1)) ∧ (decode cX12_codes 8 = .ok (.getfield 35, 3)) ∧ (decode cX12_codes 11 = .ok (.aload_n 0, 1)) ∧ (decode cX12_codes 12 = .ok (.getfield 240, 3)) ∧ (decode cX12_codes 15 = .ok (.iload_n 1, 1)) ∧ (decode cX12_codes 16 = .ok (.iastore, 1)) ∧ (decode cX12_codes 17 = .ok (.aload_n 0, 1)) := by decide +kernel
theorem gX12_codes_1 : (decode cX12_codes 18 = .ok (.dup, 1)) ∧ (decode cX12_codes 19 = .ok (.getfield 240, 3)) ∧ (decode cX12_codes 22 = .ok (.iconst 1, 1)) ∧ (decode cX12_codes 23 = .ok (.iadd, 1)) ∧ (decode cX12_codes 24 = .ok (.putfield 240, 3)) ∧ (decode cX12_codes 27 = .ok (.return_, 1)) := by decide +kernel
theorem m_1052 : Cond.fieldLink RX12 35 "InquiryBenchModel" "code" "[I" ∈ BW := iB_BW56 _ (List.mem_of_getElem? (i := 1) rfl)
theorem gf_X12_35 (hC : CX p s m meth c y0 b0 mL0 rt0 args) (hy0 : y0.cls = RX12) (hK : KK G s) (hP : va_P G.1 vwCl ws H) (q0 : Nat) {fs : List Value} {v : Value} (he : ws[q0]? = some (a, .inr (12, fs))) (hv : fs[22]? = some v) (hdg : decode b0 pc = .ok (.getfield 35, 3)) (kk : W p l e R s m args below meth c H locs cells slots Q (F0 m (pc + 3) ls (v :: rest))) : W p l e R s m args below meth c H locs cells slots Q (F0 m pc ls (.ref a :: rest)) := by
  obtain ⟨hx, hb, hr, hml, hB, hown, hlocks, hnm⟩ := hC
  rw [hy0] at hown
  exact va_get (ci := 12) (C := RX12) (T := TX12) (N := 41) hx hb hB in_X12 hown hK.1 hP q0 he rfl 22 (by decide) (hB _ m_1052) (fun _ h => h) hv hdg kk
theorem m_1049 : Cond.fieldLink RX12 240 "InquiryBenchModel" "coded" "I" ∈ BW := iB_BW55 _ (List.mem_of_getElem? (i := 18) rfl)
theorem gf_X12_240 (hC : CX p s m meth c y0 b0 mL0 rt0 args) (hy0 : y0.cls = RX12) (hK : KK G s) (hP : va_P G.1 vwCl ws H) (q0 : Nat) {fs : List Value} {v : Value} (he : ws[q0]? = some (a, .inr (12, fs))) (hv : fs[19]? = some v) (hdg : decode b0 pc = .ok (.getfield 240, 3)) (kk : W p l e R s m args below meth c H locs cells slots Q (F0 m (pc + 3) ls (v :: rest))) : W p l e R s m args below meth c H locs cells slots Q (F0 m pc ls (.ref a :: rest)) := by
  obtain ⟨hx, hb, hr, hml, hB, hown, hlocks, hnm⟩ := hC
  rw [hy0] at hown
  exact va_get (ci := 12) (C := RX12) (T := TX12) (N := 41) hx hb hB in_X12 hown hK.1 hP q0 he rfl 19 (by decide) (hB _ m_1049) (fun _ h => h) hv hdg kk
theorem pf_X12_240 (hC : CX p s m meth c y0 b0 mL0 rt0 args) (hy0 : y0.cls = RX12) (hK : KK G s) (hP : va_P G.1 vwCl ws H) (hD : va_D A ws) (hS : va_S A H0 H locs) (q0 : Nat) {fs : List Value} {v : Value} {ws' : va_W} (he : ws[q0]? = some (a, .inr (12, fs))) (hl : 19 < fs.length) (hws : ws.set q0 (a, .inr (12, fs.set 19 v)) = ws') (hn : narrow .int v = v) (hfit : fits .int v = true) (hdg : decode b0 pc = .ok (.putfield 240, 3)) (kk : ∀ (H1 : Heap) (locs1 : List Loc), va_P G.1 vwCl ws' H1 → va_D A ws' → va_S A H0 H1 locs1 → W p l e R s m args below meth c H1 locs1 cells slots Q (F0 m (pc + 3) ls rest)) : W p l e R s m args below meth c H locs cells slots Q (F0 m pc ls (v :: .ref a :: rest)) := by
  obtain ⟨hx, hb, hr, hml, hB, hown, hlocks, hnm⟩ := hC
  rw [hy0] at hown
  subst hws
  exact va_put (ci := 12) (ty := .int) (C := RX12) (T := TX12) (N := 41) hx hb hB in_X12 tyX12 tyX12_ok nmX12 hown hK.1 hP hD hS q0 he rfl 19 (by decide) (hB _ m_1049) (fun _ h => h) rfl (by decide +kernel) hn hfit hl hdg kk
theorem gX12_one_0 : (decode cX12_one 0 = .ok (.iconst 0, 1)) ∧ (decode cX12_one 1 = .ok (.istore_n 1, 1)) ∧ (decode cX12_one 2 = .ok (.aload_n 0, 1)) ∧ (decode cX12_one 3 = .ok (.ldc_w 260, 3)) ∧ (decode cX12_one 6 = .ok (.invokevirtual 248, 3)) ∧ (decode cX12_one 9 = .ok (.ifCond .eq 13, 3)) ∧ (decode cX12_one 12 = .ok (.aload_n 0, 1)) ∧ (decode cX12_one 13 = .ok (.invokevirtual 233, 3)) ∧ (decode cX12_one 16 = .ok (.iinc 1 1, 3)) ∧ (decode cX12_one 19 = .ok (.goto (-17), 3)) := by decide +kernel
theorem m_1253 : Cond.code yX12_isName cX12_isName 4 (some .boolean) ∈ BW := iB_BW67 _ (List.mem_of_getElem? (i := 1) rfl)
theorem m_1251 : Cond.methodLink RX12 248 yX12_isName ∈ BW := iB_BW66 _ (List.mem_of_getElem? (i := 19) rfl)
theorem m_1252 : Cond.instanceMethod yX12_isName ∈ BW := iB_BW67 _ (List.mem_of_getElem? (i := 0) rfl)
theorem m_80 : Cond.selects RX12 yX12_isName yX12_isName ∈ BW := iB_BW4 _ (List.mem_of_getElem? (i := 0) rfl)
theorem si_X12_248 : SV RX12 RX12 248 yX12_isName cX12_isName 4 (some .boolean) 1 := ⟨⟨m_1251, m_1252, m_80, m_115, m_1253⟩, rfl, nK_RX12.1, nK_RX12.2, pd_26⟩
theorem gX12_one_1 : (decode cX12_one 22 = .ok (.aload_n 0, 1)) ∧ (decode cX12_one 23 = .ok (.bipush 40, 2)) ∧ (decode cX12_one 25 = .ok (.invokevirtual 262, 3)) ∧ (decode cX12_one 28 = .ok (.ifCond .eq 57, 3)) ∧ (decode cX12_one 31 = .ok (.aload_n 0, 1)) ∧ (decode cX12_one 32 = .ok (.dup, 1)) ∧ (decode cX12_one 33 = .ok (.getfield 265, 3)) ∧ (decode cX12_one 36 = .ok (.iconst 1, 1)) ∧ (decode cX12_one 37 = .ok (.iadd, 1)) ∧ (decode cX12_one 38 = .ok (.putfield 265, 3)) := by decide +kernel
theorem m_1273 : Cond.code yX12_isSign cX12_isSign 2 (some .boolean) ∈ BW := iB_BW68 _ (List.mem_of_getElem? (i := 1) rfl)
theorem m_1271 : Cond.methodLink RX12 262 yX12_isSign ∈ BW := iB_BW67 _ (List.mem_of_getElem? (i := 19) rfl)
theorem m_1272 : Cond.instanceMethod yX12_isSign ∈ BW := iB_BW68 _ (List.mem_of_getElem? (i := 0) rfl)
theorem m_86 : Cond.selects RX12 yX12_isSign yX12_isSign ∈ BW := iB_BW4 _ (List.mem_of_getElem? (i := 6) rfl)
theorem si_X12_262 : SV RX12 RX12 262 yX12_isSign cX12_isSign 2 (some .boolean) 1 := ⟨⟨m_1271, m_1272, m_86, m_115, m_1273⟩, rfl, nK_RX12.1, nK_RX12.2, pd_5⟩
theorem gX12_one_4 : (decode cX12_one 78 = .ok (.isub, 1)) ∧ (decode cX12_one 79 = .ok (.putfield 265, 3)) ∧ (decode cX12_one 82 = .ok (.goto 141, 3)) ∧ (decode cX12_one 85 = .ok (.iconst (-1), 1)) ∧ (decode cX12_one 86 = .ok (.istore_n 2, 1)) ∧ (decode cX12_one 87 = .ok (.iconst 0, 1)) ∧ (decode cX12_one 88 = .ok (.istore_n 3, 1)) ∧ (decode cX12_one 89 = .ok (.iload_n 3, 1)) ∧ (decode cX12_one 90 = .ok (.iconst 5, 1)) ∧ (decode cX12_one 91 = .ok (.if_icmp .ge 28, 3)) := by decide +kernel
theorem gX12_one_5 : (decode cX12_one 94 = .ok (.aload_n 0, 1)) ∧ (decode cX12_one 95 = .ok (.aload_n 0, 1)) ∧ (decode cX12_one 96 = .ok (.getfield 50, 3)) ∧ (decode cX12_one 99 = .ok (.iload_n 3, 1)) ∧ (decode cX12_one 100 = .ok (.aaload, 1)) ∧ (decode cX12_one 101 = .ok (.invokevirtual 248, 3)) ∧ (decode cX12_one 104 = .ok (.ifCond .eq 7, 3)) ∧ (decode cX12_one 107 = .ok (.iload_n 3, 1)) ∧ (decode cX12_one 108 = .ok (.goto 4, 3)) ∧ (decode cX12_one 111 = .ok (.iload_n 2, 1)) := by decide +kernel
theorem m_1053 : Cond.fieldLink RX12 50 "InquiryBenchModel" "FACTS" "[Ljava/lang/String;" ∈ BW := iB_BW56 _ (List.mem_of_getElem? (i := 2) rfl)
theorem gf_X12_50 (hC : CX p s m meth c y0 b0 mL0 rt0 args) (hy0 : y0.cls = RX12) (hK : KK G s) (hP : va_P G.1 vwCl ws H) (q0 : Nat) {fs : List Value} {v : Value} (he : ws[q0]? = some (a, .inr (12, fs))) (hv : fs[23]? = some v) (hdg : decode b0 pc = .ok (.getfield 50, 3)) (kk : W p l e R s m args below meth c H locs cells slots Q (F0 m (pc + 3) ls (v :: rest))) : W p l e R s m args below meth c H locs cells slots Q (F0 m pc ls (.ref a :: rest)) := by
  obtain ⟨hx, hb, hr, hml, hB, hown, hlocks, hnm⟩ := hC
  rw [hy0] at hown
  exact va_get (ci := 12) (C := RX12) (T := TX12) (N := 41) hx hb hB in_X12 hown hK.1 hP q0 he rfl 23 (by decide) (hB _ m_1053) (fun _ h => h) hv hdg kk
theorem gX12_one_6 : (decode cX12_one 112 = .ok (.istore_n 2, 1)) ∧ (decode cX12_one 113 = .ok (.iinc 3 1, 3)) ∧ (decode cX12_one 116 = .ok (.goto (-27), 3)) ∧ (decode cX12_one 119 = .ok (.aload_n 0, 1)) ∧ (decode cX12_one 120 = .ok (.iload_n 2, 1)) ∧ (decode cX12_one 121 = .ok (.ifCond .lt 7, 3)) ∧ (decode cX12_one 124 = .ok (.iconst 1, 1)) ∧ (decode cX12_one 125 = .ok (.goto 4, 3)) ∧ (decode cX12_one 128 = .ok (.iconst 0, 1)) ∧ (decode cX12_one 129 = .ok (.invokevirtual 236, 3)) := by decide +kernel
theorem gX12_one_7 : (decode cX12_one 132 = .ok (.aload_n 0, 1)) ∧ (decode cX12_one 133 = .ok (.bipush 60, 2)) ∧ (decode cX12_one 135 = .ok (.invokevirtual 262, 3)) ∧ (decode cX12_one 138 = .ok (.ifCond .eq 7, 3)) ∧ (decode cX12_one 141 = .ok (.iconst 0, 1)) ∧ (decode cX12_one 142 = .ok (.goto 17, 3)) ∧ (decode cX12_one 145 = .ok (.aload_n 0, 1)) ∧ (decode cX12_one 146 = .ok (.bipush 61, 2)) ∧ (decode cX12_one 148 = .ok (.invokevirtual 262, 3)) ∧ (decode cX12_one 151 = .ok (.ifCond .eq 7, 3)) := by decide +kernel
theorem gX12_one_8 : (decode cX12_one 154 = .ok (.iconst 1, 1)) ∧ (decode cX12_one 155 = .ok (.goto 4, 3)) ∧ (decode cX12_one 158 = .ok (.iconst 2, 1)) ∧ (decode cX12_one 159 = .ok (.istore_n 3, 1)) ∧ (decode cX12_one 160 = .ok (.aload_n 0, 1)) ∧ (decode cX12_one 161 = .ok (.aload_n 0, 1)) ∧ (decode cX12_one 162 = .ok (.bipush 60, 2)) ∧ (decode cX12_one 164 = .ok (.invokevirtual 262, 3)) ∧ (decode cX12_one 167 = .ok (.ifCond .ne 21, 3)) ∧ (decode cX12_one 170 = .ok (.aload_n 0, 1)) := by decide +kernel
theorem gX12_one_9 : (decode cX12_one 171 = .ok (.bipush 61, 2)) ∧ (decode cX12_one 173 = .ok (.invokevirtual 262, 3)) ∧ (decode cX12_one 176 = .ok (.ifCond .ne 12, 3)) ∧ (decode cX12_one 179 = .ok (.aload_n 0, 1)) ∧ (decode cX12_one 180 = .ok (.bipush 62, 2)) ∧ (decode cX12_one 182 = .ok (.invokevirtual 262, 3)) ∧ (decode cX12_one 185 = .ok (.ifCond .eq 7, 3)) ∧ (decode cX12_one 188 = .ok (.iconst 1, 1)) ∧ (decode cX12_one 189 = .ok (.goto 4, 3)) ∧ (decode cX12_one 192 = .ok (.iconst 0, 1)) := by decide +kernel
theorem gX12_one_10 : (decode cX12_one 193 = .ok (.invokevirtual 236, 3)) ∧ (decode cX12_one 196 = .ok (.aload_n 0, 1)) ∧ (decode cX12_one 197 = .ok (.sipush 999, 3)) ∧ (decode cX12_one 200 = .ok (.invokevirtual 271, 3)) ∧ (decode cX12_one 203 = .ok (.istore 4, 2)) ∧ (decode cX12_one 205 = .ok (.aload_n 0, 1)) ∧ (decode cX12_one 206 = .ok (.sipush 3000, 3)) ∧ (decode cX12_one 209 = .ok (.iload_n 2, 1)) ∧ (decode cX12_one 210 = .ok (.imul, 1)) ∧ (decode cX12_one 211 = .ok (.sipush 1000, 3)) := by decide +kernel
theorem m_1261 : Cond.code yX12_number cX12_number 5 (some .int) ∈ BW := iB_BW67 _ (List.mem_of_getElem? (i := 9) rfl)
theorem m_1259 : Cond.methodLink RX12 271 yX12_number ∈ BW := iB_BW67 _ (List.mem_of_getElem? (i := 7) rfl)
theorem m_1260 : Cond.instanceMethod yX12_number ∈ BW := iB_BW67 _ (List.mem_of_getElem? (i := 8) rfl)
theorem m_82 : Cond.selects RX12 yX12_number yX12_number ∈ BW := iB_BW4 _ (List.mem_of_getElem? (i := 2) rfl)
theorem si_X12_271 : SV RX12 RX12 271 yX12_number cX12_number 5 (some .int) 1 := ⟨⟨m_1259, m_1260, m_82, m_115, m_1261⟩, rfl, nK_RX12.1, nK_RX12.2, pd_7⟩
theorem gX12_one_11 : (decode cX12_one 214 = .ok (.iload_n 3, 1)) ∧ (decode cX12_one 215 = .ok (.imul, 1)) ∧ (decode cX12_one 216 = .ok (.iadd, 1)) ∧ (decode cX12_one 217 = .ok (.iload 4, 2)) ∧ (decode cX12_one 219 = .ok (.iadd, 1)) ∧ (decode cX12_one 220 = .ok (.invokevirtual 252, 3)) ∧ (decode cX12_one 223 = .ok (.iconst 0, 1)) ∧ (decode cX12_one 224 = .ok (.istore_n 2, 1)) ∧ (decode cX12_one 225 = .ok (.iload_n 2, 1)) ∧ (decode cX12_one 226 = .ok (.iload_n 1, 1)) := by decide +kernel
theorem m_1276 : Cond.code yX12_codes cX12_codes 2 none ∈ BW := iB_BW68 _ (List.mem_of_getElem? (i := 4) rfl)
theorem m_1274 : Cond.methodLink RX12 252 yX12_codes ∈ BW := iB_BW68 _ (List.mem_of_getElem? (i := 2) rfl)
theorem m_1275 : Cond.instanceMethod yX12_codes ∈ BW := iB_BW68 _ (List.mem_of_getElem? (i := 3) rfl)
theorem m_87 : Cond.selects RX12 yX12_codes yX12_codes ∈ BW := iB_BW4 _ (List.mem_of_getElem? (i := 7) rfl)
theorem si_X12_252 : SV RX12 RX12 252 yX12_codes cX12_codes 2 none 1 := ⟨⟨m_1274, m_1275, m_87, m_115, m_1276⟩, rfl, nK_RX12.1, nK_RX12.2, pd_18⟩
theorem gX12_one_12 : (decode cX12_one 227 = .ok (.if_icmp .ge 16, 3)) ∧ (decode cX12_one 230 = .ok (.aload_n 0, 1)) ∧ (decode cX12_one 231 = .ok (.sipush 30000, 3)) ∧ (decode cX12_one 234 = .ok (.invokevirtual 252, 3)) ∧ (decode cX12_one 237 = .ok (.iinc 2 1, 3)) ∧ (decode cX12_one 240 = .ok (.goto (-15), 3)) ∧ (decode cX12_one 243 = .ok (.return_, 1)) := by decide +kernel
theorem gX12_all_0 : (decode cX12_all 0 = .ok (.aload_n 0, 1)) ∧ (decode cX12_all 1 = .ok (.invokevirtual 255, 3)) ∧ (decode cX12_all 4 = .ok (.aload_n 0, 1)) ∧ (decode cX12_all 5 = .ok (.ldc_w 258, 3)) ∧ (decode cX12_all 8 = .ok (.invokevirtual 248, 3)) ∧ (decode cX12_all 11 = .ok (.ifCond .eq 21, 3)) ∧ (decode cX12_all 14 = .ok (.aload_n 0, 1)) ∧ (decode cX12_all 15 = .ok (.invokevirtual 233, 3)) ∧ (decode cX12_all 18 = .ok (.aload_n 0, 1)) ∧ (decode cX12_all 19 = .ok (.invokevirtual 255, 3)) := by decide +kernel
theorem m_1270 : Cond.code yX12_one cX12_one 5 none ∈ BW := iB_BW67 _ (List.mem_of_getElem? (i := 18) rfl)
theorem m_1268 : Cond.methodLink RX12 255 yX12_one ∈ BW := iB_BW67 _ (List.mem_of_getElem? (i := 16) rfl)
theorem m_1269 : Cond.instanceMethod yX12_one ∈ BW := iB_BW67 _ (List.mem_of_getElem? (i := 17) rfl)
theorem m_85 : Cond.selects RX12 yX12_one yX12_one ∈ BW := iB_BW4 _ (List.mem_of_getElem? (i := 5) rfl)
theorem si_X12_255 : SV RX12 RX12 255 yX12_one cX12_one 5 none 0 := ⟨⟨m_1268, m_1269, m_85, m_115, m_1270⟩, rfl, nK_RX12.1, nK_RX12.2, pd_9⟩
theorem gX12_all_1 : (decode cX12_all 22 = .ok (.aload_n 0, 1)) ∧ (decode cX12_all 23 = .ok (.sipush 30001, 3)) ∧ (decode cX12_all 26 = .ok (.invokevirtual 252, 3)) ∧ (decode cX12_all 29 = .ok (.goto (-25), 3)) ∧ (decode cX12_all 32 = .ok (.return_, 1)) := by decide +kernel
theorem gX12_either_0 : (decode cX12_either 0 = .ok (.aload_n 0, 1)) ∧ (decode cX12_either 1 = .ok (.invokevirtual 243, 3)) ∧ (decode cX12_either 4 = .ok (.aload_n 0, 1)) ∧ (decode cX12_either 5 = .ok (.ldc 246, 2)) ∧ (decode cX12_either 7 = .ok (.invokevirtual 248, 3)) ∧ (decode cX12_either 10 = .ok (.ifCond .eq 21, 3)) ∧ (decode cX12_either 13 = .ok (.aload_n 0, 1)) ∧ (decode cX12_either 14 = .ok (.invokevirtual 233, 3)) ∧ (decode cX12_either 17 = .ok (.aload_n 0, 1)) ∧ (decode cX12_either 18 = .ok (.invokevirtual 243, 3)) := by decide +kernel
theorem m_1267 : Cond.code yX12_all cX12_all 1 none ∈ BW := iB_BW67 _ (List.mem_of_getElem? (i := 15) rfl)
theorem m_1265 : Cond.methodLink RX12 243 yX12_all ∈ BW := iB_BW67 _ (List.mem_of_getElem? (i := 13) rfl)
theorem m_1266 : Cond.instanceMethod yX12_all ∈ BW := iB_BW67 _ (List.mem_of_getElem? (i := 14) rfl)
theorem m_84 : Cond.selects RX12 yX12_all yX12_all ∈ BW := iB_BW4 _ (List.mem_of_getElem? (i := 4) rfl)
theorem si_X12_243 : SV RX12 RX12 243 yX12_all cX12_all 1 none 0 := ⟨⟨m_1265, m_1266, m_84, m_115, m_1267⟩, rfl, nK_RX12.1, nK_RX12.2, pd_9⟩
theorem gX12_either_1 : (decode cX12_either 21 = .ok (.aload_n 0, 1)) ∧ (decode cX12_either 22 = .ok (.sipush 30002, 3)) ∧ (decode cX12_either 25 = .ok (.invokevirtual 252, 3)) ∧ (decode cX12_either 28 = .ok (.goto (-24), 3)) ∧ (decode cX12_either 31 = .ok (.return_, 1)) := by decide +kernel
theorem m_1048 : Cond.fieldLink RX12 265 "InquiryBenchModel" "deep" "I" ∈ BW := iB_BW55 _ (List.mem_of_getElem? (i := 17) rfl)
theorem gf_X12_265 (hC : CX p s m meth c y0 b0 mL0 rt0 args) (hy0 : y0.cls = RX12) (hK : KK G s) (hP : va_P G.1 vwCl ws H) (q0 : Nat) {fs : List Value} {v : Value} (he : ws[q0]? = some (a, .inr (12, fs))) (hv : fs[18]? = some v) (hdg : decode b0 pc = .ok (.getfield 265, 3)) (kk : W p l e R s m args below meth c H locs cells slots Q (F0 m (pc + 3) ls (v :: rest))) : W p l e R s m args below meth c H locs cells slots Q (F0 m pc ls (.ref a :: rest)) := by
  obtain ⟨hx, hb, hr, hml, hB, hown, hlocks, hnm⟩ := hC
  rw [hy0] at hown
  exact va_get (ci := 12) (C := RX12) (T := TX12) (N := 41) hx hb hB in_X12 hown hK.1 hP q0 he rfl 18 (by decide) (hB _ m_1048) (fun _ h => h) hv hdg kk
theorem pf_X12_265 (hC : CX p s m meth c y0 b0 mL0 rt0 args) (hy0 : y0.cls = RX12) (hK : KK G s) (hP : va_P G.1 vwCl ws H) (hD : va_D A ws) (hS : va_S A H0 H locs) (q0 : Nat) {fs : List Value} {v : Value} {ws' : va_W} (he : ws[q0]? = some (a, .inr (12, fs))) (hl : 18 < fs.length) (hws : ws.set q0 (a, .inr (12, fs.set 18 v)) = ws') (hn : narrow .int v = v) (hfit : fits .int v = true) (hdg : decode b0 pc = .ok (.putfield 265, 3)) (kk : ∀ (H1 : Heap) (locs1 : List Loc), va_P G.1 vwCl ws' H1 → va_D A ws' → va_S A H0 H1 locs1 → W p l e R s m args below meth c H1 locs1 cells slots Q (F0 m (pc + 3) ls rest)) : W p l e R s m args below meth c H locs cells slots Q (F0 m pc ls (v :: .ref a :: rest)) := by
  obtain ⟨hx, hb, hr, hml, hB, hown, hlocks, hnm⟩ := hC
  rw [hy0] at hown
  subst hws
  exact va_put (ci := 12) (ty := .int) (C := RX12) (T := TX12) (N := 41) hx hb hB in_X12 tyX12 tyX12_ok nmX12 hown hK.1 hP hD hS q0 he rfl 18 (by decide) (hB _ m_1048) (fun _ h => h) rfl (by decide +kernel) hn hfit hl hdg kk
theorem gX12_one_2 : (decode cX12_one 41 = .ok (.aload_n 0, 1)) ∧ (decode cX12_one 42 = .ok (.aload_n 0, 1)) ∧ (decode cX12_one 43 = .ok (.getfield 265, 3)) ∧ (decode cX12_one 46 = .ok (.iconst 4, 1)) ∧ (decode cX12_one 47 = .ok (.if_icmp .gt 7, 3)) ∧ (decode cX12_one 50 = .ok (.iconst 1, 1)) ∧ (decode cX12_one 51 = .ok (.goto 4, 3)) ∧ (decode cX12_one 54 = .ok (.iconst 0, 1)) ∧ (decode cX12_one 55 = .ok (.invokevirtual 236, 3)) ∧ (decode cX12_one 58 = .ok (.aload_n 0, 1)) := by decide +kernel
theorem gX12_one_3 : (decode cX12_one 59 = .ok (.invokevirtual 268, 3)) ∧ (decode cX12_one 62 = .ok (.aload_n 0, 1)) ∧ (decode cX12_one 63 = .ok (.aload_n 0, 1)) ∧ (decode cX12_one 64 = .ok (.bipush 41, 2)) ∧ (decode cX12_one 66 = .ok (.invokevirtual 262, 3)) ∧ (decode cX12_one 69 = .ok (.invokevirtual 236, 3)) ∧ (decode cX12_one 72 = .ok (.aload_n 0, 1)) ∧ (decode cX12_one 73 = .ok (.dup, 1)) ∧ (decode cX12_one 74 = .ok (.getfield 265, 3)) ∧ (decode cX12_one 77 = .ok (.iconst 1, 1)) := by decide +kernel
theorem m_1264 : Cond.code yX12_either cX12_either 1 none ∈ BW := iB_BW67 _ (List.mem_of_getElem? (i := 12) rfl)
theorem m_1262 : Cond.methodLink RX12 268 yX12_either ∈ BW := iB_BW67 _ (List.mem_of_getElem? (i := 10) rfl)
theorem m_1263 : Cond.instanceMethod yX12_either ∈ BW := iB_BW67 _ (List.mem_of_getElem? (i := 11) rfl)
theorem m_83 : Cond.selects RX12 yX12_either yX12_either ∈ BW := iB_BW4 _ (List.mem_of_getElem? (i := 3) rfl)
theorem si_X12_268 : SV RX12 RX12 268 yX12_either cX12_either 1 none 0 := ⟨⟨m_1262, m_1263, m_83, m_115, m_1264⟩, rfl, nK_RX12.1, nK_RX12.2, pd_9⟩
theorem gX12_lineAt_0 : (decode cX12_lineAt 0 = .ok (.aload_n 0, 1)) ∧ (decode cX12_lineAt 1 = .ok (.ldc_w 274, 3)) ∧ (decode cX12_lineAt 4 = .ok (.invokevirtual 248, 3)) ∧ (decode cX12_lineAt 7 = .ok (.ifCond .eq 7, 3)) ∧ (decode cX12_lineAt 10 = .ok (.iconst 0, 1)) ∧ (decode cX12_lineAt 11 = .ok (.goto 46, 3)) ∧ (decode cX12_lineAt 14 = .ok (.aload_n 0, 1)) ∧ (decode cX12_lineAt 15 = .ok (.ldc_w 276, 3)) ∧ (decode cX12_lineAt 18 = .ok (.invokevirtual 248, 3)) ∧ (decode cX12_lineAt 21 = .ok (.ifCond .eq 7, 3)) := by decide +kernel
theorem gX12_lineAt_2 : (decode cX12_lineAt 46 = .ok (.invokevirtual 248, 3)) ∧ (decode cX12_lineAt 49 = .ok (.ifCond .eq 7, 3)) ∧ (decode cX12_lineAt 52 = .ok (.iconst 3, 1)) ∧ (decode cX12_lineAt 53 = .ok (.goto 4, 3)) ∧ (decode cX12_lineAt 56 = .ok (.iconst (-1), 1)) ∧ (decode cX12_lineAt 57 = .ok (.istore_n 2, 1)) ∧ (decode cX12_lineAt 58 = .ok (.aload_n 0, 1)) ∧ (decode cX12_lineAt 59 = .ok (.iload_n 2, 1)) ∧ (decode cX12_lineAt 60 = .ok (.ifCond .lt 7, 3)) ∧ (decode cX12_lineAt 63 = .ok (.iconst 1, 1)) := by decide +kernel
theorem gX12_lineAt_3 : (decode cX12_lineAt 64 = .ok (.goto 4, 3)) ∧ (decode cX12_lineAt 67 = .ok (.iconst 0, 1)) ∧ (decode cX12_lineAt 68 = .ok (.invokevirtual 236, 3)) ∧ (decode cX12_lineAt 71 = .ok (.aload_n 0, 1)) ∧ (decode cX12_lineAt 72 = .ok (.getfield 32, 3)) ∧ (decode cX12_lineAt 75 = .ok (.iload_n 1, 1)) ∧ (decode cX12_lineAt 76 = .ok (.iload_n 2, 1)) ∧ (decode cX12_lineAt 77 = .ok (.iastore, 1)) ∧ (decode cX12_lineAt 78 = .ok (.aload_n 0, 1)) ∧ (decode cX12_lineAt 79 = .ok (.getfield 32, 3)) := by decide +kernel
theorem m_1051 : Cond.fieldLink RX12 32 "InquiryBenchModel" "line" "[I" ∈ BW := iB_BW56 _ (List.mem_of_getElem? (i := 0) rfl)
theorem gf_X12_32 (hC : CX p s m meth c y0 b0 mL0 rt0 args) (hy0 : y0.cls = RX12) (hK : KK G s) (hP : va_P G.1 vwCl ws H) (q0 : Nat) {fs : List Value} {v : Value} (he : ws[q0]? = some (a, .inr (12, fs))) (hv : fs[21]? = some v) (hdg : decode b0 pc = .ok (.getfield 32, 3)) (kk : W p l e R s m args below meth c H locs cells slots Q (F0 m (pc + 3) ls (v :: rest))) : W p l e R s m args below meth c H locs cells slots Q (F0 m pc ls (.ref a :: rest)) := by
  obtain ⟨hx, hb, hr, hml, hB, hown, hlocks, hnm⟩ := hC
  rw [hy0] at hown
  exact va_get (ci := 12) (C := RX12) (T := TX12) (N := 41) hx hb hB in_X12 hown hK.1 hP q0 he rfl 21 (by decide) (hB _ m_1051) (fun _ h => h) hv hdg kk
theorem gX12_lineAt_4 : (decode cX12_lineAt 82 = .ok (.iload_n 1, 1)) ∧ (decode cX12_lineAt 83 = .ok (.iconst 1, 1)) ∧ (decode cX12_lineAt 84 = .ok (.iadd, 1)) ∧ (decode cX12_lineAt 85 = .ok (.aload_n 0, 1)) ∧ (decode cX12_lineAt 86 = .ok (.iload_n 2, 1)) ∧ (decode cX12_lineAt 87 = .ok (.ifCond .eq 8, 3)) ∧ (decode cX12_lineAt 90 = .ok (.iload_n 2, 1)) ∧ (decode cX12_lineAt 91 = .ok (.iconst 1, 1)) ∧ (decode cX12_lineAt 92 = .ok (.if_icmp .ne 8, 3)) ∧ (decode cX12_lineAt 95 = .ok (.bipush 99, 2)) := by decide +kernel
theorem gX12_lineAt_5 : (decode cX12_lineAt 97 = .ok (.goto 15, 3)) ∧ (decode cX12_lineAt 100 = .ok (.iload_n 2, 1)) ∧ (decode cX12_lineAt 101 = .ok (.iconst 2, 1)) ∧ (decode cX12_lineAt 102 = .ok (.if_icmp .ne 8, 3)) ∧ (decode cX12_lineAt 105 = .ok (.bipush 7, 2)) ∧ (decode cX12_lineAt 107 = .ok (.goto 5, 3)) ∧ (decode cX12_lineAt 110 = .ok (.bipush 9, 2)) ∧ (decode cX12_lineAt 112 = .ok (.invokevirtual 271, 3)) ∧ (decode cX12_lineAt 115 = .ok (.iastore, 1)) ∧ (decode cX12_lineAt 116 = .ok (.aload_n 0, 1)) := by decide +kernel
theorem gX12_lineAt_6 : (decode cX12_lineAt 117 = .ok (.getfield 32, 3)) ∧ (decode cX12_lineAt 120 = .ok (.iload_n 1, 1)) ∧ (decode cX12_lineAt 121 = .ok (.iconst 2, 1)) ∧ (decode cX12_lineAt 122 = .ok (.iadd, 1)) ∧ (decode cX12_lineAt 123 = .ok (.bipush (-9), 2)) ∧ (decode cX12_lineAt 125 = .ok (.iastore, 1)) ∧ (decode cX12_lineAt 126 = .ok (.aload_n 0, 1)) ∧ (decode cX12_lineAt 127 = .ok (.getfield 32, 3)) ∧ (decode cX12_lineAt 130 = .ok (.iload_n 1, 1)) ∧ (decode cX12_lineAt 131 = .ok (.iconst 3, 1)) := by decide +kernel
theorem gX12_lineAt_7 : (decode cX12_lineAt 132 = .ok (.iadd, 1)) ∧ (decode cX12_lineAt 133 = .ok (.bipush (-9), 2)) ∧ (decode cX12_lineAt 135 = .ok (.iastore, 1)) ∧ (decode cX12_lineAt 136 = .ok (.iload_n 2, 1)) ∧ (decode cX12_lineAt 137 = .ok (.ifCond .ne 53, 3)) ∧ (decode cX12_lineAt 140 = .ok (.aload_n 0, 1)) ∧ (decode cX12_lineAt 141 = .ok (.aload_n 0, 1)) ∧ (decode cX12_lineAt 142 = .ok (.ldc_w 282, 3)) ∧ (decode cX12_lineAt 145 = .ok (.invokevirtual 248, 3)) ∧ (decode cX12_lineAt 148 = .ok (.invokevirtual 236, 3)) := by decide +kernel
theorem gX12_lineAt_8 : (decode cX12_lineAt 151 = .ok (.aload_n 0, 1)) ∧ (decode cX12_lineAt 152 = .ok (.getfield 32, 3)) ∧ (decode cX12_lineAt 155 = .ok (.iload_n 1, 1)) ∧ (decode cX12_lineAt 156 = .ok (.iconst 2, 1)) ∧ (decode cX12_lineAt 157 = .ok (.iadd, 1)) ∧ (decode cX12_lineAt 158 = .ok (.aload_n 0, 1)) ∧ (decode cX12_lineAt 159 = .ok (.bipush 7, 2)) ∧ (decode cX12_lineAt 161 = .ok (.invokevirtual 271, 3)) ∧ (decode cX12_lineAt 164 = .ok (.iastore, 1)) ∧ (decode cX12_lineAt 165 = .ok (.aload_n 0, 1)) := by decide +kernel
theorem gX12_lineAt_9 : (decode cX12_lineAt 166 = .ok (.aload_n 0, 1)) ∧ (decode cX12_lineAt 167 = .ok (.ldc_w 284, 3)) ∧ (decode cX12_lineAt 170 = .ok (.invokevirtual 248, 3)) ∧ (decode cX12_lineAt 173 = .ok (.invokevirtual 236, 3)) ∧ (decode cX12_lineAt 176 = .ok (.aload_n 0, 1)) ∧ (decode cX12_lineAt 177 = .ok (.getfield 32, 3)) ∧ (decode cX12_lineAt 180 = .ok (.iload_n 1, 1)) ∧ (decode cX12_lineAt 181 = .ok (.iconst 3, 1)) ∧ (decode cX12_lineAt 182 = .ok (.iadd, 1)) ∧ (decode cX12_lineAt 183 = .ok (.aload_n 0, 1)) := by decide +kernel
theorem gX12_lineAt_10 : (decode cX12_lineAt 184 = .ok (.bipush 7, 2)) ∧ (decode cX12_lineAt 186 = .ok (.invokevirtual 271, 3)) ∧ (decode cX12_lineAt 189 = .ok (.iastore, 1)) ∧ (decode cX12_lineAt 190 = .ok (.iload_n 2, 1)) ∧ (decode cX12_lineAt 191 = .ok (.iconst 2, 1)) ∧ (decode cX12_lineAt 192 = .ok (.if_icmp .ne 29, 3)) ∧ (decode cX12_lineAt 195 = .ok (.aload_n 0, 1)) ∧ (decode cX12_lineAt 196 = .ok (.aload_n 0, 1)) ∧ (decode cX12_lineAt 197 = .ok (.ldc_w 285, 3)) ∧ (decode cX12_lineAt 200 = .ok (.invokevirtual 248, 3)) := by decide +kernel
theorem gX12_lineAt_12 : (decode cX12_lineAt 221 = .ok (.aload_n 0, 1)) ∧ (decode cX12_lineAt 222 = .ok (.getfield 32, 3)) ∧ (decode cX12_lineAt 225 = .ok (.iload_n 1, 1)) ∧ (decode cX12_lineAt 226 = .ok (.iconst 4, 1)) ∧ (decode cX12_lineAt 227 = .ok (.iadd, 1)) ∧ (decode cX12_lineAt 228 = .ok (.aload_n 0, 1)) ∧ (decode cX12_lineAt 229 = .ok (.getfield 240, 3)) ∧ (decode cX12_lineAt 232 = .ok (.iastore, 1)) ∧ (decode cX12_lineAt 233 = .ok (.iload_n 2, 1)) ∧ (decode cX12_lineAt 234 = .ok (.iconst 3, 1)) := by decide +kernel
theorem gX12_lineAt_13 : (decode cX12_lineAt 235 = .ok (.if_icmp .eq 21, 3)) ∧ (decode cX12_lineAt 238 = .ok (.aload_n 0, 1)) ∧ (decode cX12_lineAt 239 = .ok (.ldc_w 287, 3)) ∧ (decode cX12_lineAt 242 = .ok (.invokevirtual 248, 3)) ∧ (decode cX12_lineAt 245 = .ok (.ifCond .eq 11, 3)) ∧ (decode cX12_lineAt 248 = .ok (.aload_n 0, 1)) ∧ (decode cX12_lineAt 249 = .ok (.invokevirtual 233, 3)) ∧ (decode cX12_lineAt 252 = .ok (.aload_n 0, 1)) ∧ (decode cX12_lineAt 253 = .ok (.invokevirtual 268, 3)) ∧ (decode cX12_lineAt 256 = .ok (.aload_n 0, 1)) := by decide +kernel
theorem gX12_lineAt_14 : (decode cX12_lineAt 257 = .ok (.getfield 32, 3)) ∧ (decode cX12_lineAt 260 = .ok (.iload_n 1, 1)) ∧ (decode cX12_lineAt 261 = .ok (.iconst 5, 1)) ∧ (decode cX12_lineAt 262 = .ok (.iadd, 1)) ∧ (decode cX12_lineAt 263 = .ok (.aload_n 0, 1)) ∧ (decode cX12_lineAt 264 = .ok (.getfield 240, 3)) ∧ (decode cX12_lineAt 267 = .ok (.iastore, 1)) ∧ (decode cX12_lineAt 268 = .ok (.aload_n 0, 1)) ∧ (decode cX12_lineAt 269 = .ok (.aload_n 0, 1)) ∧ (decode cX12_lineAt 270 = .ok (.bipush 59, 2)) := by decide +kernel
theorem gX12_lineAt_15 : (decode cX12_lineAt 272 = .ok (.invokevirtual 262, 3)) ∧ (decode cX12_lineAt 275 = .ok (.invokevirtual 236, 3)) ∧ (decode cX12_lineAt 278 = .ok (.return_, 1)) := by decide +kernel
theorem gX12_lineAt_1 : (decode cX12_lineAt 24 = .ok (.iconst 1, 1)) ∧ (decode cX12_lineAt 25 = .ok (.goto 32, 3)) ∧ (decode cX12_lineAt 28 = .ok (.aload_n 0, 1)) ∧ (decode cX12_lineAt 29 = .ok (.ldc_w 278, 3)) ∧ (decode cX12_lineAt 32 = .ok (.invokevirtual 248, 3)) ∧ (decode cX12_lineAt 35 = .ok (.ifCond .eq 7, 3)) ∧ (decode cX12_lineAt 38 = .ok (.iconst 2, 1)) ∧ (decode cX12_lineAt 39 = .ok (.goto 18, 3)) ∧ (decode cX12_lineAt 42 = .ok (.aload_n 0, 1)) ∧ (decode cX12_lineAt 43 = .ok (.ldc_w 280, 3)) := by decide +kernel
theorem gX12_lineAt_11 : (decode cX12_lineAt 203 = .ok (.invokevirtual 236, 3)) ∧ (decode cX12_lineAt 206 = .ok (.aload_n 0, 1)) ∧ (decode cX12_lineAt 207 = .ok (.getfield 32, 3)) ∧ (decode cX12_lineAt 210 = .ok (.iload_n 1, 1)) ∧ (decode cX12_lineAt 211 = .ok (.iconst 2, 1)) ∧ (decode cX12_lineAt 212 = .ok (.iadd, 1)) ∧ (decode cX12_lineAt 213 = .ok (.aload_n 0, 1)) ∧ (decode cX12_lineAt 214 = .ok (.sipush 999, 3)) ∧ (decode cX12_lineAt 217 = .ok (.invokevirtual 271, 3)) ∧ (decode cX12_lineAt 220 = .ok (.iastore, 1)) := by decide +kernel
end WR
/-- beyond the first twelve, the row is as it was outside a region (the seventh told apart) -/
def FRV (g f : Nat → Int32) (lo hi : Nat) : Prop := ∀ j, 12 ≤ j → (j < lo ∨ hi ≤ j) → g j = f j
theorem FRV.rf {f : Nat → Int32} {lo hi : Nat} : FRV f f lo hi := fun _ _ _ => rfl
theorem FRV.set {g f : Nat → Int32} {lo hi k : Nat} {v : Int32} (h : FRV g f lo hi) (hk : k < 12 ∨ (lo ≤ k ∧ k < hi)) : FRV (upd g k v) f lo hi := fun j h1 h2 => (upd_ne (by omega)).trans (h j h1 h2)
theorem CP.FV {f0 w e src : Nat → Int32} {b n lo hi : Nat} (h : CP f0 w b n src) (hb : lo ≤ b) (hn : b + n ≤ hi) (hs : FRV f0 e lo hi) : FRV w e lo hi := fun j h1 h2 => (h.2.1 j (by omega)).trans (hs j h1 h2)
theorem EQT.fv {f0 g f : Nat → Int32} {base n lo hi : Nat} (h : EQT f0 base n f) (hf : FRV g f0 lo hi) (hb : 12 ≤ base) (hr : base + n ≤ lo ∨ hi ≤ base) : EQT g base n f := fun i hi' => (hf (base + i) (by omega) (by omega)).trans (h i hi')
section WR
variable {p : Program} {l : Launch} {e : Env} {R : Room} {s : State} {m : MethodId} {args : Array Value} {below : List Frame} {meth : Method} {c : Code} {H : Heap} {locs : List Loc} {cells slots : Nat} {Q : State → Prop}
variable {pc : Nat} {ls : Array Slot} {rest : List Value} {G : GG} {K : OO} {ws : va_W} {A : Nat → Prop} {y0 : MethodName} {b0 : ByteArray} {mL0 : Nat} {rt0 : Option FieldType} {a : Nat} {H0 : Heap}
end WR
/-- the versions' lines, as the reference holds them -/
def VML (y : Nat → Int32) (kv : Nat) (VL : Nat → List LNT) : Prop := ∀ v, v < kv → (VL v).length ≤ 9 ∧ y (176 + 156 * v + 1) = nI (VL v).length ∧ ∀ i, i < (VL v).length → LRM y (176 + 156 * v + 2 + 6 * i) ((VL v).getD i LN0)
theorem LRM.val {g : Nat → Int32} {b w : Nat} {ln : LNT} (h : LRM g b ln) (hw : w < 4) : g (b + w) = LVAL ln w := by
  rcases (show w = 0 ∨ w = 1 ∨ w = 2 ∨ w = 3 by omega) with rfl | rfl | rfl | rfl
  · exact h.1
  · exact h.2.1
  · exact h.2.2.1
  · exact h.2.2.2.1
theorem LRM.ab {g : Nat → Int32} {b : Nat} {ln : LNT} (h : LRM g b ln) : ln.2.2.2.2.2.2.2.1 ≤ ln.2.2.2.2.2.2.2.2 ∧ ln.2.2.2.2.2.2.2.2 ≤ 100 := by
  obtain ⟨-, -, -, -, -, -, h1, h2, h3, h4⟩ := h
  omega
theorem LRM.c0 {g : Nat → Int32} {b : Nat} {ln : LNT} (h : LRM g b ln) (hb : ln.2.2.2.2.2.2.2.2 ≤ ln.2.2.2.2.2.2.2.1) : (0 : Int32) = LVAL ln 4 := by
  obtain ⟨-, -, -, -, -, -, h1, h2, h3, h4⟩ := h
  have e : ln.2.2.2.2.1 = 0 := by omega
  show (0 : Int32) = nI ln.2.2.2.2.1
  rw [e]
  rfl
theorem LRM.c1 {g : Nat → Int32} {b : Nat} {ln : LNT} (h : LRM g b ln) (hb : ¬ ln.2.2.2.2.2.2.2.2 ≤ ln.2.2.2.2.2.2.2.1) : (1 : Int32) = LVAL ln 4 := by
  obtain ⟨-, -, -, -, -, -, h1, h2, h3, h4⟩ := h
  have e : ln.2.2.2.2.1 = 1 := by omega
  show (1 : Int32) = nI ln.2.2.2.2.1
  rw [e]
  rfl
theorem LRM.mv {f g : Nat → Int32} {a b : Nat} {ln : LNT} (h : LRM f a ln) (e : ∀ j, j < 6 → g (b + j) = f (a + j)) : LRM g b ln :=
  ⟨(e 0 (by omega)).trans h.1, (e 1 (by omega)).trans h.2.1, (e 2 (by omega)).trans h.2.2.1, (e 3 (by omega)).trans h.2.2.2.1, (e 4 (by omega)).trans h.2.2.2.2.1, (e 5 (by omega)).trans h.2.2.2.2.2.1, h.2.2.2.2.2.2⟩
/-- what read does to the reference's row -/
def MRD (bt : Nat → Int32) (n : Nat) (rq : Int32) (k7 : Nat) (f g : Nat → Int32) : Prop :=
  (rq = nI k7 ∧ ∃ ls c q, TXT bt n 9 (SK bt n 0) [] [] [] (1, 0, ls, c, q) ∧ g (176 + 156 * k7 + 1) = nI ls.length ∧ (∀ i, i < ls.length → LRM g (176 + 156 * k7 + 2 + 6 * i) (ls.getD i LN0)) ∧ ∀ j, 176 ≤ j → j < 176 + 156 * k7 → g j = f j) ∨ (¬ rq = nI k7 ∧ g = f)
theorem MRD.y {bt : Nat → Int32} {n k7 vl vc : Nat} {f w x L C : Nat → Int32} {d v : Int32} {ls : List LNT} {c q : List Int32} (hT : TXT bt n 9 (SK bt n 0) [] [] [] (1, 0, ls, c, q)) (hl : LNZ vl L ls) (h9 : vl ≤ 9) (hp : CP (upd (upd f (176 + 156 * k7 + 0) d) (176 + 156 * k7 + 1) (nI vl)) w (176 + 156 * k7 + 2) 54 L) (hq : CP w x (176 + 156 * k7 + 56) vc C) : MRD bt n (nI k7) k7 f (upd x 7 v) := by
  obtain ⟨-, p2, p3⟩ := hp
  obtain ⟨-, q2, -⟩ := hq
  have e1 := hl.1
  refine Or.inl ⟨rfl, ls, c, q, hT, ?_, fun i hi => ?_, fun j h1 h2 => ?_⟩
  · rw [upd_ne (by omega), q2 _ (by omega), p2 _ (by omega), upd_eq rfl, e1]
  · refine LRM.mv (hl.2 i (by omega)) fun j hj => ?_
    rw [upd_ne (by omega), q2 _ (by omega), show 176 + 156 * k7 + 2 + 6 * i + j = 176 + 156 * k7 + 2 + (6 * i + j) by omega]
    exact p3 _ (by omega)
  · rw [upd_ne (by omega), q2 _ (by omega), p2 _ (by omega), upd_ne (by omega), upd_ne (by omega)]
theorem MRD.n {bt : Nat → Int32} {n k7 : Nat} {f : Nat → Int32} {rq : Int32} (h : ¬ rq = nI k7) : MRD bt n rq k7 f f := Or.inr ⟨h, rfl⟩
/-- the versions are held alike -/
def VRE (y fv fl : Nat → Int32) (kv kl ks : Nat) : Prop := kl ≤ 9 * kv ∧ ks ≤ 120 * kv ∧ ∃ VL, VCL fv fl kv kl VL ∧ VML y kv VL
theorem VRE.zero {y fv fl : Nat → Int32} : VRE y fv fl 0 0 0 := ⟨Nat.zero_le _, Nat.zero_le _, fun _ => [], fun v h => absurd h (Nat.not_lt_zero v), fun v h => absurd h (Nat.not_lt_zero v)⟩
theorem VML.ext {y g : Nat → Int32} {kv : Nat} {VL : Nat → List LNT} (h : VML y kv VL) (e : ∀ j, 176 ≤ j → j < 176 + 156 * kv → g j = y j) : VML g kv VL := fun v hv => by
  obtain ⟨h1, h2, h3⟩ := h v hv
  exact ⟨h1, (e _ (by omega) (by omega)).trans h2, fun i hi => (h3 i hi).ext fun j hj => e _ (by omega) (by omega)⟩
theorem LRS.ext {f g : Nat → Int32} {b o : Nat} {ln : LNT} (h : LRS f b o ln) (e : ∀ j, j < 7 → g (b + j) = f (b + j)) : LRS g b o ln :=
  ⟨(e 0 (by omega)).trans h.1, (e 1 (by omega)).trans h.2.1, (e 2 (by omega)).trans h.2.2.1, (e 3 (by omega)).trans h.2.2.2.1, (e 4 (by omega)).trans h.2.2.2.2.1, (e 5 (by omega)).trans h.2.2.2.2.2.1, (e 6 (by omega)).trans h.2.2.2.2.2.2⟩
theorem VCL.ext {fv fl gv gl : Nat → Int32} {kv kl : Nat} {VL : Nat → List LNT} (h : VCL fv fl kv kl VL) (h1 : ∀ j, j < kv * 3 → gv j = fv j) (h2 : ∀ j, j < kl * 7 → gl j = fl j) : VCL gv gl kv kl VL := fun v hv => by
  obtain ⟨a1, lo, so, a2, a3, a4, a5⟩ := h v hv
  exact ⟨a1, lo, so, (h1 _ (by omega)).trans a2, (h1 _ (by omega)).trans a3, a4, fun i hi => (a5 i hi).ext fun j hj => h2 _ (by omega)⟩
theorem VRE.fr {y g fv fl : Nat → Int32} {kv kl ks lo hi : Nat} (h : VRE y fv fl kv kl ks) (hk : kv ≤ 8) (hf : FRO g y lo hi) (hr : hi ≤ 176 ∨ 1424 ≤ lo) : VRE g fv fl kv kl ks := by
  obtain ⟨h1, h2, VL, h3, h4⟩ := h
  exact ⟨h1, h2, VL, h3, h4.ext fun j q1 q2 => hf j (by omega) (by omega)⟩
theorem VRE.cp {y g fv fl gv gl : Nat → Int32} {kv kl ks : Nat} (h : VRE y fv fl kv kl ks) (hk : kv ≤ 8) (hl : kl ≤ 72) (hg : ∀ j, j < 1662 → g j = y j) (e1 : ∀ j, j < 24 → gv j = fv j) (e2 : ∀ j, j < 504 → gl j = fl j) : VRE g gv gl kv kl ks := by
  obtain ⟨h1, h2, VL, h3, h4⟩ := h
  exact ⟨h1, h2, VL, h3.ext (fun j q => e1 j (by omega)) (fun j q => e2 j (by omega)), h4.ext fun j q1 q2 => hg j (by omega)⟩
theorem VRE.read {y g fv fl gv gl bt : Nat → Int32} {kv kl ks kv1 kl1 ks1 n : Nat} {rq td : Int32} (h : VRE y fv fl kv kl ks) (hk : kv ≤ 8) (hk1 : kv1 ≤ 8) (hkv : nI kv1 = ifc (rq = nI kv) (nI kv + 1) (nI kv)) (hc : CRD bt n rq kv kl ks fv fl gv gl kl1 ks1 td) (hm : MRD bt n rq kv y g) : VRE g gv gl kv1 kl1 ks1 := by
  obtain ⟨h1, h2, VL, h3, h4⟩ := h
  rcases hc with ⟨e, ls, c, q, hT, l9, l12, k1, k2, ev, el, er⟩ | ⟨e, rfl, rfl, rfl, rfl⟩
  · rcases hm with ⟨-, ls2, c2, q2, hT2, m1, m2, m3⟩ | ⟨e2, -⟩
    · have u := TXT.uq _ _ _ _ _ _ _ hT hT2
      have u1 : ls = ls2 := congrArg (fun z9 => z9.2.2.1) u
      subst u1
      rw [ifc_t e, nI_1] at hkv
      have ek : kv1 = kv + 1 := (nI_eq (by omega) (by omega)).mp hkv
      subst ek
      refine ⟨by omega, by omega, fun v => if v = kv then ls else VL v, fun v hv => ?_, fun v hv => ?_⟩
      · by_cases cv : v = kv
        · subst cv
          show (if v = v then ls else VL v).length ≤ 9 ∧ ∃ lo so, gv (v * 3 + 1) = nI lo ∧ gv (v * 3 + 2) = nI (if v = v then ls else VL v).length ∧ lo + (if v = v then ls else VL v).length ≤ kl1 ∧ ∀ i, i < (if v = v then ls else VL v).length → LRS gl ((lo + i) * 7) so ((if v = v then ls else VL v).getD i LN0)
          rw [if_pos rfl]
          refine ⟨l9, kl, ks, ?_, ?_, by omega, er⟩
          · rw [ev, upd_ne (by omega), upd_eq rfl]
          · rw [ev, upd_eq rfl]
        · have a := h3 v (by omega)
          show (if v = kv then ls else VL v).length ≤ 9 ∧ ∃ lo so, gv (v * 3 + 1) = nI lo ∧ gv (v * 3 + 2) = nI (if v = kv then ls else VL v).length ∧ lo + (if v = kv then ls else VL v).length ≤ kl1 ∧ ∀ i, i < (if v = kv then ls else VL v).length → LRS gl ((lo + i) * 7) so ((if v = kv then ls else VL v).getD i LN0)
          rw [if_neg cv]
          obtain ⟨a1, lo, so, a2, a3, a4, a5⟩ := a
          refine ⟨a1, lo, so, ?_, ?_, by omega, fun i hi => (a5 i hi).ext fun j hj => el _ (by omega)⟩
          · rw [ev, upd_ne (by omega), upd_ne (by omega), upd_ne (by omega)]; exact a2
          · rw [ev, upd_ne (by omega), upd_ne (by omega), upd_ne (by omega)]; exact a3
      · by_cases cv : v = kv
        · subst cv
          show (if v = v then ls else VL v).length ≤ 9 ∧ g (176 + 156 * v + 1) = nI (if v = v then ls else VL v).length ∧ ∀ i, i < (if v = v then ls else VL v).length → LRM g (176 + 156 * v + 2 + 6 * i) ((if v = v then ls else VL v).getD i LN0)
          rw [if_pos rfl]
          exact ⟨l9, m1, m2⟩
        · obtain ⟨a1, a2, a3⟩ := h4 v (by omega)
          show (if v = kv then ls else VL v).length ≤ 9 ∧ g (176 + 156 * v + 1) = nI (if v = kv then ls else VL v).length ∧ ∀ i, i < (if v = kv then ls else VL v).length → LRM g (176 + 156 * v + 2 + 6 * i) ((if v = kv then ls else VL v).getD i LN0)
          rw [if_neg cv]
          exact ⟨a1, (m3 _ (by omega) (by omega)).trans a2, fun i hi => (a3 i hi).ext fun j hj => m3 _ (by omega) (by omega)⟩
    · exact absurd e e2
  · rcases hm with ⟨e2, -⟩ | ⟨-, rfl⟩
    · exact absurd e2 e
    · rw [ifc_f e] at hkv
      have ek : kv1 = kv := (nI_eq (by omega) (by omega)).mp hkv
      subst ek
      exact ⟨h1, h2, VL, h3, h4⟩
section WR
variable {p : Program} {l : Launch} {e : Env} {R : Room} {s : State} {m : MethodId} {args : Array Value} {below : List Frame} {meth : Method} {c : Code} {H : Heap} {locs : List Loc} {cells slots : Nat} {Q : State → Prop}
variable {pc : Nat} {ls : Array Slot} {rest : List Value} {G : GG} {K : OO} {ws : va_W} {A : Nat → Prop} {y0 : MethodName} {b0 : ByteArray} {mL0 : Nat} {rt0 : Option FieldType} {a : Nat} {H0 : Heap}
theorem gX12_read_0 : (decode cX12_read 0 = .ok (.aload_n 0, 1)) ∧ (decode cX12_read 1 = .ok (.iconst 0, 1)) ∧ (decode cX12_read 2 = .ok (.putfield 211, 3)) ∧ (decode cX12_read 5 = .ok (.aload_n 0, 1)) ∧ (decode cX12_read 6 = .ok (.iconst 0, 1)) ∧ (decode cX12_read 7 = .ok (.putfield 222, 3)) ∧ (decode cX12_read 10 = .ok (.aload_n 0, 1)) ∧ (decode cX12_read 11 = .ok (.iconst 0, 1)) ∧ (decode cX12_read 12 = .ok (.putfield 265, 3)) ∧ (decode cX12_read 15 = .ok (.aload_n 0, 1)) := by decide +kernel
theorem gX12_read_1 : (decode cX12_read 16 = .ok (.iconst 0, 1)) ∧ (decode cX12_read 17 = .ok (.putfield 240, 3)) ∧ (decode cX12_read 20 = .ok (.aload_n 0, 1)) ∧ (decode cX12_read 21 = .ok (.iconst 0, 1)) ∧ (decode cX12_read 22 = .ok (.putfield 289, 3)) ∧ (decode cX12_read 25 = .ok (.aload_n 0, 1)) ∧ (decode cX12_read 26 = .ok (.invokevirtual 233, 3)) ∧ (decode cX12_read 29 = .ok (.aload_n 0, 1)) ∧ (decode cX12_read 30 = .ok (.getfield 222, 3)) ∧ (decode cX12_read 33 = .ok (.ifCond .ne 59, 3)) := by decide +kernel
theorem m_1050 : Cond.fieldLink RX12 289 "InquiryBenchModel" "lines" "I" ∈ BW := iB_BW55 _ (List.mem_of_getElem? (i := 19) rfl)
theorem pf_X12_289 (hC : CX p s m meth c y0 b0 mL0 rt0 args) (hy0 : y0.cls = RX12) (hK : KK G s) (hP : va_P G.1 vwCl ws H) (hD : va_D A ws) (hS : va_S A H0 H locs) (q0 : Nat) {fs : List Value} {v : Value} {ws' : va_W} (he : ws[q0]? = some (a, .inr (12, fs))) (hl : 20 < fs.length) (hws : ws.set q0 (a, .inr (12, fs.set 20 v)) = ws') (hn : narrow .int v = v) (hfit : fits .int v = true) (hdg : decode b0 pc = .ok (.putfield 289, 3)) (kk : ∀ (H1 : Heap) (locs1 : List Loc), va_P G.1 vwCl ws' H1 → va_D A ws' → va_S A H0 H1 locs1 → W p l e R s m args below meth c H1 locs1 cells slots Q (F0 m (pc + 3) ls rest)) : W p l e R s m args below meth c H locs cells slots Q (F0 m pc ls (v :: .ref a :: rest)) := by
  obtain ⟨hx, hb, hr, hml, hB, hown, hlocks, hnm⟩ := hC
  rw [hy0] at hown
  subst hws
  exact va_put (ci := 12) (ty := .int) (C := RX12) (T := TX12) (N := 41) hx hb hB in_X12 tyX12 tyX12_ok nmX12 hown hK.1 hP hD hS q0 he rfl 20 (by decide) (hB _ m_1050) (fun _ h => h) rfl (by decide +kernel) hn hfit hl hdg kk
theorem gX12_read_4 : (decode cX12_read 76 = .ok (.invokevirtual 292, 3)) ∧ (decode cX12_read 79 = .ok (.aload_n 0, 1)) ∧ (decode cX12_read 80 = .ok (.dup, 1)) ∧ (decode cX12_read 81 = .ok (.getfield 289, 3)) ∧ (decode cX12_read 84 = .ok (.iconst 1, 1)) ∧ (decode cX12_read 85 = .ok (.iadd, 1)) ∧ (decode cX12_read 86 = .ok (.putfield 289, 3)) ∧ (decode cX12_read 89 = .ok (.goto (-60), 3)) ∧ (decode cX12_read 92 = .ok (.aload_n 0, 1)) ∧ (decode cX12_read 93 = .ok (.getfield 214, 3)) := by decide +kernel
theorem gX12_read_5 : (decode cX12_read 96 = .ok (.istore_n 1, 1)) ∧ (decode cX12_read 97 = .ok (.aload_n 0, 1)) ∧ (decode cX12_read 98 = .ok (.iconst 0, 1)) ∧ (decode cX12_read 99 = .ok (.putfield 206, 3)) ∧ (decode cX12_read 102 = .ok (.aload_n 0, 1)) ∧ (decode cX12_read 103 = .ok (.getfield 222, 3)) ∧ (decode cX12_read 106 = .ok (.ifCond .eq 8, 3)) ∧ (decode cX12_read 109 = .ok (.bipush (-100), 2)) ∧ (decode cX12_read 111 = .ok (.iload_n 1, 1)) ∧ (decode cX12_read 112 = .ok (.isub, 1)) := by decide +kernel
theorem gX12_read_6 : (decode cX12_read 113 = .ok (.ireturn, 1)) ∧ (decode cX12_read 114 = .ok (.aload_n 0, 1)) ∧ (decode cX12_read 115 = .ok (.getfield 9, 3)) ∧ (decode cX12_read 118 = .ok (.bipush 7, 2)) ∧ (decode cX12_read 120 = .ok (.iaload, 1)) ∧ (decode cX12_read 121 = .ok (.istore_n 2, 1)) ∧ (decode cX12_read 122 = .ok (.iload_n 2, 1)) ∧ (decode cX12_read 123 = .ok (.bipush 8, 2)) ∧ (decode cX12_read 125 = .ok (.if_icmp .ne 6, 3)) ∧ (decode cX12_read 128 = .ok (.bipush (-2), 2)) := by decide +kernel
theorem gX12_read_2 : (decode cX12_read 36 = .ok (.aload_n 0, 1)) ∧ (decode cX12_read 37 = .ok (.getfield 217, 3)) ∧ (decode cX12_read 40 = .ok (.ifCond .eq 52, 3)) ∧ (decode cX12_read 43 = .ok (.aload_n 0, 1)) ∧ (decode cX12_read 44 = .ok (.aload_n 0, 1)) ∧ (decode cX12_read 45 = .ok (.getfield 289, 3)) ∧ (decode cX12_read 48 = .ok (.bipush 9, 2)) ∧ (decode cX12_read 50 = .ok (.if_icmp .ne 7, 3)) ∧ (decode cX12_read 53 = .ok (.iconst 1, 1)) ∧ (decode cX12_read 54 = .ok (.goto 4, 3)) := by decide +kernel
theorem gX12_read_7 : (decode cX12_read 130 = .ok (.ireturn, 1)) ∧ (decode cX12_read 131 = .ok (.sipush 176, 3)) ∧ (decode cX12_read 134 = .ok (.sipush 156, 3)) ∧ (decode cX12_read 137 = .ok (.iload_n 2, 1)) ∧ (decode cX12_read 138 = .ok (.imul, 1)) ∧ (decode cX12_read 139 = .ok (.iadd, 1)) ∧ (decode cX12_read 140 = .ok (.istore_n 3, 1)) ∧ (decode cX12_read 141 = .ok (.aload_n 0, 1)) ∧ (decode cX12_read 142 = .ok (.getfield 9, 3)) ∧ (decode cX12_read 145 = .ok (.iload_n 3, 1)) := by decide +kernel
theorem gX12_read_8 : (decode cX12_read 146 = .ok (.iconst 0, 1)) ∧ (decode cX12_read 147 = .ok (.iadd, 1)) ∧ (decode cX12_read 148 = .ok (.aload_n 0, 1)) ∧ (decode cX12_read 149 = .ok (.getfield 9, 3)) ∧ (decode cX12_read 152 = .ok (.iconst 0, 1)) ∧ (decode cX12_read 153 = .ok (.iaload, 1)) ∧ (decode cX12_read 154 = .ok (.iastore, 1)) ∧ (decode cX12_read 155 = .ok (.aload_n 0, 1)) ∧ (decode cX12_read 156 = .ok (.getfield 9, 3)) ∧ (decode cX12_read 159 = .ok (.iload_n 3, 1)) := by decide +kernel
theorem gX12_read_9 : (decode cX12_read 160 = .ok (.iconst 1, 1)) ∧ (decode cX12_read 161 = .ok (.iadd, 1)) ∧ (decode cX12_read 162 = .ok (.aload_n 0, 1)) ∧ (decode cX12_read 163 = .ok (.getfield 289, 3)) ∧ (decode cX12_read 166 = .ok (.iastore, 1)) ∧ (decode cX12_read 167 = .ok (.iconst 0, 1)) ∧ (decode cX12_read 168 = .ok (.istore 4, 2)) ∧ (decode cX12_read 170 = .ok (.iload 4, 2)) ∧ (decode cX12_read 172 = .ok (.bipush 54, 2)) ∧ (decode cX12_read 174 = .ok (.if_icmp .ge 27, 3)) := by decide +kernel
theorem gf_X12_289 (hC : CX p s m meth c y0 b0 mL0 rt0 args) (hy0 : y0.cls = RX12) (hK : KK G s) (hP : va_P G.1 vwCl ws H) (q0 : Nat) {fs : List Value} {v : Value} (he : ws[q0]? = some (a, .inr (12, fs))) (hv : fs[20]? = some v) (hdg : decode b0 pc = .ok (.getfield 289, 3)) (kk : W p l e R s m args below meth c H locs cells slots Q (F0 m (pc + 3) ls (v :: rest))) : W p l e R s m args below meth c H locs cells slots Q (F0 m pc ls (.ref a :: rest)) := by
  obtain ⟨hx, hb, hr, hml, hB, hown, hlocks, hnm⟩ := hC
  rw [hy0] at hown
  exact va_get (ci := 12) (C := RX12) (T := TX12) (N := 41) hx hb hB in_X12 hown hK.1 hP q0 he rfl 20 (by decide) (hB _ m_1050) (fun _ h => h) hv hdg kk
theorem gX12_read_11 : (decode cX12_read 193 = .ok (.iaload, 1)) ∧ (decode cX12_read 194 = .ok (.iastore, 1)) ∧ (decode cX12_read 195 = .ok (.iinc 4 1, 3)) ∧ (decode cX12_read 198 = .ok (.goto (-28), 3)) ∧ (decode cX12_read 201 = .ok (.iconst 0, 1)) ∧ (decode cX12_read 202 = .ok (.istore 4, 2)) ∧ (decode cX12_read 204 = .ok (.iload 4, 2)) ∧ (decode cX12_read 206 = .ok (.aload_n 0, 1)) ∧ (decode cX12_read 207 = .ok (.getfield 240, 3)) ∧ (decode cX12_read 210 = .ok (.if_icmp .ge 28, 3)) := by decide +kernel
theorem gX12_read_13 : (decode cX12_read 230 = .ok (.iaload, 1)) ∧ (decode cX12_read 231 = .ok (.iastore, 1)) ∧ (decode cX12_read 232 = .ok (.iinc 4 1, 3)) ∧ (decode cX12_read 235 = .ok (.goto (-31), 3)) ∧ (decode cX12_read 238 = .ok (.aload_n 0, 1)) ∧ (decode cX12_read 239 = .ok (.getfield 9, 3)) ∧ (decode cX12_read 242 = .ok (.bipush 7, 2)) ∧ (decode cX12_read 244 = .ok (.dup2, 1)) ∧ (decode cX12_read 245 = .ok (.iaload, 1)) ∧ (decode cX12_read 246 = .ok (.iconst 1, 1)) := by decide +kernel
theorem gX12_read_14 : (decode cX12_read 247 = .ok (.iadd, 1)) ∧ (decode cX12_read 248 = .ok (.iastore, 1)) ∧ (decode cX12_read 249 = .ok (.iload_n 2, 1)) ∧ (decode cX12_read 250 = .ok (.ireturn, 1)) := by decide +kernel
theorem gX12_read_12 : (decode cX12_read 213 = .ok (.aload_n 0, 1)) ∧ (decode cX12_read 214 = .ok (.getfield 9, 3)) ∧ (decode cX12_read 217 = .ok (.iload_n 3, 1)) ∧ (decode cX12_read 218 = .ok (.bipush 56, 2)) ∧ (decode cX12_read 220 = .ok (.iadd, 1)) ∧ (decode cX12_read 221 = .ok (.iload 4, 2)) ∧ (decode cX12_read 223 = .ok (.iadd, 1)) ∧ (decode cX12_read 224 = .ok (.aload_n 0, 1)) ∧ (decode cX12_read 225 = .ok (.getfield 35, 3)) ∧ (decode cX12_read 228 = .ok (.iload 4, 2)) := by decide +kernel
theorem gX12_read_10 : (decode cX12_read 177 = .ok (.aload_n 0, 1)) ∧ (decode cX12_read 178 = .ok (.getfield 9, 3)) ∧ (decode cX12_read 181 = .ok (.iload_n 3, 1)) ∧ (decode cX12_read 182 = .ok (.iconst 2, 1)) ∧ (decode cX12_read 183 = .ok (.iadd, 1)) ∧ (decode cX12_read 184 = .ok (.iload 4, 2)) ∧ (decode cX12_read 186 = .ok (.iadd, 1)) ∧ (decode cX12_read 187 = .ok (.aload_n 0, 1)) ∧ (decode cX12_read 188 = .ok (.getfield 32, 3)) ∧ (decode cX12_read 191 = .ok (.iload 4, 2)) := by decide +kernel
theorem gX12_read_3 : (decode cX12_read 57 = .ok (.iconst 0, 1)) ∧ (decode cX12_read 58 = .ok (.putfield 222, 3)) ∧ (decode cX12_read 61 = .ok (.aload_n 0, 1)) ∧ (decode cX12_read 62 = .ok (.getfield 222, 3)) ∧ (decode cX12_read 65 = .ok (.ifCond .ne (-36), 3)) ∧ (decode cX12_read 68 = .ok (.aload_n 0, 1)) ∧ (decode cX12_read 69 = .ok (.bipush 6, 2)) ∧ (decode cX12_read 71 = .ok (.aload_n 0, 1)) ∧ (decode cX12_read 72 = .ok (.getfield 289, 3)) ∧ (decode cX12_read 75 = .ok (.imul, 1)) := by decide +kernel
theorem m_1250 : Cond.code yX12_lineAt cX12_lineAt 3 none ∈ BW := iB_BW66 _ (List.mem_of_getElem? (i := 18) rfl)
theorem m_1248 : Cond.methodLink RX12 292 yX12_lineAt ∈ BW := iB_BW66 _ (List.mem_of_getElem? (i := 16) rfl)
theorem m_1249 : Cond.instanceMethod yX12_lineAt ∈ BW := iB_BW66 _ (List.mem_of_getElem? (i := 17) rfl)
theorem m_79 : Cond.selects RX12 yX12_lineAt yX12_lineAt ∈ BW := iB_BW3 _ (List.mem_of_getElem? (i := 19) rfl)
theorem si_X12_292 : SV RX12 RX12 292 yX12_lineAt cX12_lineAt 3 none 1 := ⟨⟨m_1248, m_1249, m_79, m_115, m_1250⟩, rfl, nK_RX12.1, nK_RX12.2, pd_18⟩
theorem gX12_line_0 : (decode cX12_line 0 = .ok (.aload_n 0, 1)) ∧ (decode cX12_line 1 = .ok (.iload_n 1, 1)) ∧ (decode cX12_line 2 = .ok (.bipush 7, 2)) ∧ (decode cX12_line 4 = .ok (.invokevirtual 120, 3)) ∧ (decode cX12_line 7 = .ok (.ifCond .eq 27, 3)) ∧ (decode cX12_line 10 = .ok (.iload_n 2, 1)) ∧ (decode cX12_line 11 = .ok (.iconst 0, 1)) ∧ (decode cX12_line 12 = .ok (.aload_n 0, 1)) ∧ (decode cX12_line 13 = .ok (.iload_n 1, 1)) ∧ (decode cX12_line 14 = .ok (.invokevirtual 183, 3)) := by decide +kernel
theorem gX12_line_1 : (decode cX12_line 17 = .ok (.iconst 1, 1)) ∧ (decode cX12_line 18 = .ok (.isub, 1)) ∧ (decode cX12_line 19 = .ok (.invokestatic 84, 3)) ∧ (decode cX12_line 22 = .ok (.ifCond .eq 12, 3)) ∧ (decode cX12_line 25 = .ok (.iload_n 3, 1)) ∧ (decode cX12_line 26 = .ok (.iconst 0, 1)) ∧ (decode cX12_line 27 = .ok (.iconst 4, 1)) ∧ (decode cX12_line 28 = .ok (.invokestatic 84, 3)) ∧ (decode cX12_line 31 = .ok (.ifCond .ne 6, 3)) ∧ (decode cX12_line 34 = .ok (.bipush (-9), 2)) := by decide +kernel
theorem gX12_line_2 : (decode cX12_line 36 = .ok (.ireturn, 1)) ∧ (decode cX12_line 37 = .ok (.iload_n 3, 1)) ∧ (decode cX12_line 38 = .ok (.iconst 4, 1)) ∧ (decode cX12_line 39 = .ok (.if_icmp .ge 13, 3)) ∧ (decode cX12_line 42 = .ok (.aload_n 0, 1)) ∧ (decode cX12_line 43 = .ok (.iload_n 1, 1)) ∧ (decode cX12_line 44 = .ok (.iload_n 2, 1)) ∧ (decode cX12_line 45 = .ok (.iload_n 3, 1)) ∧ (decode cX12_line 46 = .ok (.invokevirtual 193, 3)) ∧ (decode cX12_line 49 = .ok (.goto 25, 3)) := by decide +kernel
theorem gX12_line_3 : (decode cX12_line 52 = .ok (.aload_n 0, 1)) ∧ (decode cX12_line 53 = .ok (.iload_n 1, 1)) ∧ (decode cX12_line 54 = .ok (.iload_n 2, 1)) ∧ (decode cX12_line 55 = .ok (.iconst 5, 1)) ∧ (decode cX12_line 56 = .ok (.invokevirtual 193, 3)) ∧ (decode cX12_line 59 = .ok (.aload_n 0, 1)) ∧ (decode cX12_line 60 = .ok (.iload_n 1, 1)) ∧ (decode cX12_line 61 = .ok (.iload_n 2, 1)) ∧ (decode cX12_line 62 = .ok (.iconst 4, 1)) ∧ (decode cX12_line 63 = .ok (.invokevirtual 193, 3)) := by decide +kernel
theorem gX12_line_4 : (decode cX12_line 66 = .ok (.if_icmp .le 7, 3)) ∧ (decode cX12_line 69 = .ok (.iconst 1, 1)) ∧ (decode cX12_line 70 = .ok (.goto 4, 3)) ∧ (decode cX12_line 73 = .ok (.iconst 0, 1)) ∧ (decode cX12_line 74 = .ok (.ireturn, 1)) := by decide +kernel
end WR
theorem rm_7_4_2 {mc ms : Nat} : 4 + 1 ≤ (RM 7 mc ms).frames ∧ 8 + (2 + 11) + 40 * 4 ≤ (RM 7 mc ms).locals := ⟨by show 4 + 1 ≤ 7; decide, by show 8 + (2 + 11) + 40 * 4 ≤ 40 * 7; decide⟩
theorem dj_1__0 : ∀ i ∈ ([0] : List Nat), i ∉ ([1] : List Nat) := by decide
theorem rm_8_7_5 {mc ms : Nat} : 7 + 1 ≤ (RM 8 mc ms).frames ∧ 8 + (5 + 11) + 40 * 7 ≤ (RM 8 mc ms).locals := ⟨by show 7 + 1 ≤ 8; decide, by show 8 + (5 + 11) + 40 * 7 ≤ 40 * 8; decide⟩
theorem rm_9_8_1 {mc ms : Nat} : 8 + 1 ≤ (RM 9 mc ms).frames ∧ 8 + (1 + 11) + 40 * 8 ≤ (RM 9 mc ms).locals := ⟨by show 8 + 1 ≤ 9; decide, by show 8 + (1 + 11) + 40 * 8 ≤ 40 * 9; decide⟩
theorem rm_9_5_4 {mc ms : Nat} : 5 + 1 ≤ (RM 9 mc ms).frames ∧ 8 + (4 + 11) + 40 * 5 ≤ (RM 9 mc ms).locals := ⟨by show 5 + 1 ≤ 9; decide, by show 8 + (4 + 11) + 40 * 5 ≤ 40 * 9; decide⟩
theorem dj_3__0_1_2 : ∀ i ∈ ([0, 1, 2] : List Nat), i ∉ ([3] : List Nat) := by decide
theorem sm_2_0 {a0 a1 a2 : Nat × va_E} {l : va_W} : ([2, 0] : List Nat).map (fun i => (a0 :: a1 :: a2 :: l : va_W)[i]?) = ([a2, a0] : va_W).map some := rfl
theorem fm_2_0 {a0 a1 a2 : Nat × va_E} {l : va_W} : ([2, 0] : List Nat).filterMap (fun i => (a0 :: a1 :: a2 :: l : va_W)[i]?) = ([a2, a0] : va_W) := rfl
theorem nd_2_0 : va_nd [2, 0] = true := by decide
theorem dj_2_0__1_3 : ∀ i ∈ ([1, 3] : List Nat), i ∉ ([2, 0] : List Nat) := by decide
theorem fm_3_0_2_1 {a0 a1 a2 a3 : Nat × va_E} {l : va_W} : ([3, 0, 2, 1] : List Nat).filterMap (fun i => (a0 :: a1 :: a2 :: a3 :: l : va_W)[i]?) = ([a3, a0, a2, a1] : va_W) := rfl
theorem nd_3_0_2_1 : va_nd [3, 0, 2, 1] = true := by decide
theorem sm_3_0_2_1 {a0 a1 a2 a3 : Nat × va_E} {l : va_W} : ([3, 0, 2, 1] : List Nat).map (fun i => (a0 :: a1 :: a2 :: a3 :: l : va_W)[i]?) = ([a3, a0, a2, a1] : va_W).map some := rfl
theorem dj_0_2__1_3 : ∀ i ∈ ([1, 3] : List Nat), i ∉ ([0, 2] : List Nat) := by decide
theorem fm_2_0_3_1 {a0 a1 a2 a3 : Nat × va_E} {l : va_W} : ([2, 0, 3, 1] : List Nat).filterMap (fun i => (a0 :: a1 :: a2 :: a3 :: l : va_W)[i]?) = ([a2, a0, a3, a1] : va_W) := rfl
theorem nd_2_0_3_1 : va_nd [2, 0, 3, 1] = true := by decide
theorem sm_2_0_3_1 {a0 a1 a2 a3 : Nat × va_E} {l : va_W} : ([2, 0, 3, 1] : List Nat).map (fun i => (a0 :: a1 :: a2 :: a3 :: l : va_W)[i]?) = ([a2, a0, a3, a1] : va_W).map some := rfl
theorem rm_32_5_4 {mc ms : Nat} : 5 + 1 ≤ (RM 32 mc ms).frames ∧ 8 + (4 + 11) + 40 * 5 ≤ (RM 32 mc ms).locals := ⟨by show 5 + 1 ≤ 32; decide, by show 8 + (4 + 11) + 40 * 5 ≤ 40 * 32; decide⟩
theorem rm_32_4_2 {mc ms : Nat} : 4 + 1 ≤ (RM 32 mc ms).frames ∧ 8 + (2 + 11) + 40 * 4 ≤ (RM 32 mc ms).locals := ⟨by show 4 + 1 ≤ 32; decide, by show 8 + (2 + 11) + 40 * 4 ≤ 40 * 32; decide⟩
theorem rm_32_5_5 {mc ms : Nat} : 5 + 1 ≤ (RM 32 mc ms).frames ∧ 8 + (5 + 11) + 40 * 5 ≤ (RM 32 mc ms).locals := ⟨by show 5 + 1 ≤ 32; decide, by show 8 + (5 + 11) + 40 * 5 ≤ 40 * 32; decide⟩
theorem rm_32_3_1 {mc ms : Nat} : 3 + 1 ≤ (RM 32 mc ms).frames ∧ 8 + (1 + 11) + 40 * 3 ≤ (RM 32 mc ms).locals := ⟨by show 3 + 1 ≤ 32; decide, by show 8 + (1 + 11) + 40 * 3 ≤ 40 * 32; decide⟩
theorem sm_3_4_0_2 {a0 a1 a2 a3 a4 : Nat × va_E} {l : va_W} : ([3, 4, 0, 2] : List Nat).map (fun i => (a0 :: a1 :: a2 :: a3 :: a4 :: l : va_W)[i]?) = ([a3, a4, a0, a2] : va_W).map some := rfl
theorem fm_3_4_0_2 {a0 a1 a2 a3 a4 : Nat × va_E} {l : va_W} : ([3, 4, 0, 2] : List Nat).filterMap (fun i => (a0 :: a1 :: a2 :: a3 :: a4 :: l : va_W)[i]?) = ([a3, a4, a0, a2] : va_W) := rfl
theorem nd_3_4_0_2 : va_nd [3, 4, 0, 2] = true := by decide
theorem dj_3_4_0_2__1 : ∀ i ∈ ([1] : List Nat), i ∉ ([3, 4, 0, 2] : List Nat) := by decide
theorem sm_0_3_4 {a0 a1 a2 a3 a4 : Nat × va_E} {l : va_W} : ([0, 3, 4] : List Nat).map (fun i => (a0 :: a1 :: a2 :: a3 :: a4 :: l : va_W)[i]?) = ([a0, a3, a4] : va_W).map some := rfl
theorem nd_0_3_4 : va_nd [0, 3, 4] = true := by decide
theorem dj_1_2__0_3_4 : ∀ i ∈ ([0, 3, 4] : List Nat), i ∉ ([1, 2] : List Nat) := by decide
theorem dj_1__0_2_3_4 : ∀ i ∈ ([0, 2, 3, 4] : List Nat), i ∉ ([1] : List Nat) := by decide
theorem sm_0_1_2_4 {a0 a1 a2 a3 a4 : Nat × va_E} {l : va_W} : ([0, 1, 2, 4] : List Nat).map (fun i => (a0 :: a1 :: a2 :: a3 :: a4 :: l : va_W)[i]?) = ([a0, a1, a2, a4] : va_W).map some := rfl
theorem nd_0_1_2_4 : va_nd [0, 1, 2, 4] = true := by decide
theorem dj_3__0_1_2_4 : ∀ i ∈ ([0, 1, 2, 4] : List Nat), i ∉ ([3] : List Nat) := by decide
theorem dj_4__0_1_2_3 : ∀ i ∈ ([0, 1, 2, 3] : List Nat), i ∉ ([4] : List Nat) := by decide
theorem dj_0__1_2_3_4 : ∀ i ∈ ([1, 2, 3, 4] : List Nat), i ∉ ([0] : List Nat) := by decide
theorem rm_33_3_1 {mc ms : Nat} : 3 + 1 ≤ (RM 33 mc ms).frames ∧ 8 + (1 + 11) + 40 * 3 ≤ (RM 33 mc ms).locals := ⟨by show 3 + 1 ≤ 33; decide, by show 8 + (1 + 11) + 40 * 3 ≤ 40 * 33; decide⟩
theorem sm_1_3_4_5 {a0 a1 a2 a3 a4 a5 : Nat × va_E} {l : va_W} : ([1, 3, 4, 5] : List Nat).map (fun i => (a0 :: a1 :: a2 :: a3 :: a4 :: a5 :: l : va_W)[i]?) = ([a1, a3, a4, a5] : va_W).map some := rfl
theorem nd_1_3_4_5 : va_nd [1, 3, 4, 5] = true := by decide
theorem dj_0_2__1_3_4_5 : ∀ i ∈ ([1, 3, 4, 5] : List Nat), i ∉ ([0, 2] : List Nat) := by decide
theorem rm_33_32_3 {mc ms : Nat} : 32 + 1 ≤ (RM 33 mc ms).frames ∧ 8 + (3 + 11) + 40 * 32 ≤ (RM 33 mc ms).locals := ⟨by show 32 + 1 ≤ 33; decide, by show 8 + (3 + 11) + 40 * 32 ≤ 40 * 33; decide⟩
theorem sm_4_5_1_2_3 {a0 a1 a2 a3 a4 a5 : Nat × va_E} {l : va_W} : ([4, 5, 1, 2, 3] : List Nat).map (fun i => (a0 :: a1 :: a2 :: a3 :: a4 :: a5 :: l : va_W)[i]?) = ([a4, a5, a1, a2, a3] : va_W).map some := rfl
theorem fm_4_5_1_2_3 {a0 a1 a2 a3 a4 a5 : Nat × va_E} {l : va_W} : ([4, 5, 1, 2, 3] : List Nat).filterMap (fun i => (a0 :: a1 :: a2 :: a3 :: a4 :: a5 :: l : va_W)[i]?) = ([a4, a5, a1, a2, a3] : va_W) := rfl
theorem nd_4_5_1_2_3 : va_nd [4, 5, 1, 2, 3] = true := by decide
theorem dj_4_5_1_2_3__0 : ∀ i ∈ ([0] : List Nat), i ∉ ([4, 5, 1, 2, 3] : List Nat) := by decide
theorem fm_0_3_4_5_1_2 {a0 a1 a2 a3 a4 a5 : Nat × va_E} {l : va_W} : ([0, 3, 4, 5, 1, 2] : List Nat).filterMap (fun i => (a0 :: a1 :: a2 :: a3 :: a4 :: a5 :: l : va_W)[i]?) = ([a0, a3, a4, a5, a1, a2] : va_W) := rfl
theorem nd_0_3_4_5_1_2 : va_nd [0, 3, 4, 5, 1, 2] = true := by decide
theorem sm_0_3_4_5_1_2 {a0 a1 a2 a3 a4 a5 : Nat × va_E} {l : va_W} : ([0, 3, 4, 5, 1, 2] : List Nat).map (fun i => (a0 :: a1 :: a2 :: a3 :: a4 :: a5 :: l : va_W)[i]?) = ([a0, a3, a4, a5, a1, a2] : va_W).map some := rfl
def K_w_feed (l : Launch) (G : GG) (h0 : Nat) (ee : Int64) (x2 : Int32) (nw : Nat) (nk : Nat) (mhasKept : Int32) (nt : Nat) (ktp : Nat) (nr : Nat) (mrowMany : Int32) (mroundOf : Int32) (mroundFrom : Int32) (mouts : Int32) (nm : Nat) (mfromHour : Int32) (mtoHour : Int32) (ns : Nat) (mfrom : Int32) (mto : Int32) (msort : Int32) (misFault : Int32) (mdeep : Int32) (mcoded : Int32) (mlines : Int32) (nl : Nat) (nc : Nat) (nF : Nat) (np : Nat) (ntr : Nat) (nb : Nat) (mbestCost : Int32) (nso : Nat) (nsi : Nat) (nit : Nat) (nsh : Nat) (nsf : Nat) (nss : Nat) (nrc : Nat) (mtraced : Int32) (mdealer : Int32) (mnumber : Int32) (mwhose : Int32) (msize : Int32) (misParted : Int32) (fnt : Nat → Int32) : Prop := MI l G yX12_feed cX12_feed 5 (some .int) 2 0 0 [.ref h0, .long ee, .int x2] [(h0, oX12 nw nk mhasKept nt (nI ktp) nr mrowMany mroundOf mroundFrom mouts nm mfromHour mtoHour ns mfrom mto msort misFault mdeep mcoded mlines nl nc nF np ntr nb mbestCost nso nsi nit nsh nsf nss nrc mtraced mdealer mnumber mwhose msize misParted), (nt, iA G 240 fnt)] (fun (r : Int32) (u : Nat × (Nat → Int32)) => (r = ifc (Wi x2 1 8) (ifc (nI ktp + x2 ≤ 240) (nI ktp + x2) (-2)) (-1)) ∧ (u.1 ≤ 240 ∧ nI u.1 = ifc (Wi x2 1 8) (ifc (nI ktp + x2 ≤ 240) (nI ktp + x2) (nI ktp)) (nI ktp) ∧ FDB (BYM ee) ktp u.1 fnt u.2)) (fun u : Nat × (Nat → Int32) => [(h0, oX12 nw nk mhasKept nt (nI u.1) nr mrowMany mroundOf mroundFrom mouts nm mfromHour mtoHour ns mfrom mto msort misFault mdeep mcoded mlines nl nc nF np ntr nb mbestCost nso nsi nit nsh nsf nss nrc mtraced mdealer mnumber mwhose msize misParted), (nt, iA G 240 u.2)])
set_option maxHeartbeats 4000000 in
set_option maxRecDepth 100000 in
theorem w_feed (l : Launch) (G : GG) (h0 : Nat) (ee : Int64) (x2 : Int32) (nw : Nat) (nk : Nat) (mhasKept : Int32) (nt : Nat) (ktp : Nat) (nr : Nat) (mrowMany : Int32) (mroundOf : Int32) (mroundFrom : Int32) (mouts : Int32) (nm : Nat) (mfromHour : Int32) (mtoHour : Int32) (ns : Nat) (mfrom : Int32) (mto : Int32) (msort : Int32) (misFault : Int32) (mdeep : Int32) (mcoded : Int32) (mlines : Int32) (nl : Nat) (nc : Nat) (nF : Nat) (np : Nat) (ntr : Nat) (nb : Nat) (mbestCost : Int32) (nso : Nat) (nsi : Nat) (nit : Nat) (nsh : Nat) (nsf : Nat) (nss : Nat) (nrc : Nat) (mtraced : Int32) (mdealer : Int32) (mnumber : Int32) (mwhose : Int32) (msize : Int32) (misParted : Int32) (fnt : Nat → Int32) (htp : ktp ≤ 240) : K_w_feed l G h0 ee x2 nw nk mhasKept nt ktp nr mrowMany mroundOf mroundFrom mouts nm mfromHour mtoHour ns mfrom mto msort misFault mdeep mcoded mlines nl nc nF np ntr nb mbestCost nso nsi nit nsh nsf nss nrc mtraced mdealer mnumber mwhose msize misParted fnt := by
  refine MI.start (by decide +kernel) (Nat.le_of_ble_eq_true rfl) ?_
  intro p e s m below meth c A ls hC hK hP hD hS hA hl
  refine absQ (fun Q0 hQ0 => ?_)
  have hl : lv_has ls 5 [(0, .ref h0), (1, .long ee), (3, .int x2)] := hl
  refine Kan8 hC (fun hx hb hr hml hB hown hlocks hnm => ?_)
  refine lv_iload_n hx hb gX12_feed_0.1 rfl (lv_at2 hl) ?_
  refine lv_iconst (v := 1) hx hb gX12_feed_0.2.1 (by decide) ?_
  refine lv_bipush (v := 8) hx hb gX12_feed_0.2.2.1 (by decide) ?_
  refine pS hC hK hl (m_within l G x2 1 8) si_X12_84 rfl rfl (Nat.le_of_ble_eq_true rfl) rm_2_1_3 ⟨by first | exact Nat.le_of_ble_eq_true rfl | exact Nat.zero_le _, by first | exact Nat.le_of_ble_eq_true rfl | exact Nat.zero_le _⟩ gX12_feed_0.2.2.2.1 (Kors (Keqa fun a6371 => ?_) (Keqa fun a6371 => ?_))
  · refine lv_if_ne (tgt := 12) hx hb gX12_feed_0.2.2.2.2.1 (by decide) (fun _ => ?_) (fun c9 => absurd c9 (by decide))
    obtain ⟨jn, hjn, rfl⟩ := Wi1_nat (N := 8) (by decide) a6371
    refine lv_aload_n hx hb gX12_feed_0.2.2.2.2.2.2.2.1 rfl (lv_at0 hl) ?_
    refine gf_X12_206 hC rfl hK hP 0 rfl rfl gX12_feed_0.2.2.2.2.2.2.2.2.1 ?_
    refine lv_iload_n hx hb gX12_feed_0.2.2.2.2.2.2.2.2.2 rfl (lv_at2 hl) ?_
    refine lv_iadd hx hb gX12_feed_1.1 ?_
    refine eqi (x1 := nI (ktp + jn)) (nI_add ktp jn) ?_
    refine lv_sipush (v := 240) hx hb gX12_feed_1.2.1 (by decide) ?_
    refine lv_icmp_le (tgt := 27) hx hb gX12_feed_1.2.2.1 (by decide) (fun c_21_6372 => ?_) (fun c_21_6372 => ?_)
    · have hfit9 := (nI_leI (a := ktp + jn) (b := 240) (by omega) (by decide)).mp c_21_6372
      refine lv_iconst (v := 0) hx hb gX12_feed_1.2.2.2.2.2.1 (by decide) ?_
      refine lv_istore (lv' := [(4, .int 0), (0, .ref h0), (1, .long ee), (3, .int (nI jn))]) hx hb gX12_feed_1.2.2.2.2.2.2.1 hl (by decide) rfl (fun ls hl => ?_)
      have keyP : ∀ (nP kP : Nat) (vT : Nat → Int32) (H : Heap) (locs : List Loc) (ls : Array Slot), kP + nP = jn → (FDB (BYM ee) ktp (ktp + kP) fnt vT) → va_PD G A [(h0, oX12 nw nk mhasKept nt (nI (ktp + kP)) nr mrowMany mroundOf mroundFrom mouts nm mfromHour mtoHour ns mfrom mto msort misFault mdeep mcoded mlines nl nc nF np ntr nb mbestCost nso nsi nit nsh nsf nss nrc mtraced mdealer mnumber mwhose msize misParted), (nt, iA G 240 vT)] H → va_S A s.heap H locs → lv_has ls 5 [(4, .int (nI kP)), (0, .ref h0), (1, .long ee), (3, .int (nI jn))] → W p l e (RM 2 0 0) s m ([.ref h0, .long ee, .int (nI jn)] : List Value).toArray below meth c H locs 0 0 Q0 (F0 m 30 ls []) := by
        intro nP
        induction nP with
        | zero =>
          intro kP vT H locs ls hkP hfd hPD hS hl
          refine Kan2 hPD (fun hP hD => ?_)
          obtain rfl : jn = kP := by omega
          refine Kpdr (ws := [(h0, oX12 nw nk mhasKept nt (nI (ktp + jn)) nr mrowMany mroundOf mroundFrom mouts nm mfromHour mtoHour ns mfrom mto msort misFault mdeep mcoded mlines nl nc nF np ntr nb mbestCost nso nsi nit nsh nsf nss nrc mtraced mdealer mnumber mwhose msize misParted), (nt, iA G 240 vT)]) hP hD (fun hP hD => ?_)
          have hl : lv_has ls 5 [(4, .int (nI jn)), (0, .ref h0), (1, .long ee), (3, .int (nI jn))] := hl
          refine lv_iload hx hb gX12_feed_1.2.2.2.2.2.2.2.1 (lv_at0 hl) ?_
          refine lv_iload_n hx hb gX12_feed_1.2.2.2.2.2.2.2.2.1 rfl (lv_at3 hl) ?_
          refine lv_icmp_ge (tgt := 73) hx hb gX12_feed_1.2.2.2.2.2.2.2.2.2 (by decide) (fun _ => ?_) (fun c9 => absurd (Int32.le_refl _) c9)
          refine lv_aload_n hx hb gX12_feed_4.2.1 rfl (lv_at1 hl) ?_
          refine gf_X12_206 hC rfl hK hP 0 rfl rfl gX12_feed_4.2.2.1 ?_
          refine toQ hQ0 ?_
          exact RI (v := nI (ktp + jn)) hC hP hD hS [0, 1] ((ktp + jn), vT) rfl rfl (by decide) (⟨(by first | rfl | (simp only [ifc_t htp, ifc_t a6371, ifc_t (q := nI ktp + nI jn ≤ 240) (nI_add ktp jn ▸ c_21_6372)]; done) | (simp only [ifc_t htp, ifc_t a6371, ifc_t (q := nI ktp + nI jn ≤ 240) (nI_add ktp jn ▸ c_21_6372)]; exact (nI_add _ _).symm) | (dsimp only; simp only [ifc_t htp, ifc_t a6371, ifc_t (q := nI ktp + nI jn ≤ 240) (nI_add ktp jn ▸ c_21_6372)]; done) | (dsimp only; simp only [ifc_t htp, ifc_t a6371, ifc_t (q := nI ktp + nI jn ≤ 240) (nI_add ktp jn ▸ c_21_6372)]; exact (nI_add _ _).symm)), ⟨by omega, (by first | rfl | (simp only [ifc_t htp, ifc_t a6371, ifc_t (q := nI ktp + nI jn ≤ 240) (nI_add ktp jn ▸ c_21_6372)]; done) | (simp only [ifc_t htp, ifc_t a6371, ifc_t (q := nI ktp + nI jn ≤ 240) (nI_add ktp jn ▸ c_21_6372)]; exact (nI_add _ _).symm) | (dsimp only; simp only [ifc_t htp, ifc_t a6371, ifc_t (q := nI ktp + nI jn ≤ 240) (nI_add ktp jn ▸ c_21_6372)]; done) | (dsimp only; simp only [ifc_t htp, ifc_t a6371, ifc_t (q := nI ktp + nI jn ≤ 240) (nI_add ktp jn ▸ c_21_6372)]; exact (nI_add _ _).symm)), hfd⟩⟩) rfl gX12_feed_4.2.2.2
        | succ nP ihP =>
          intro kP vT H locs ls hkP hfd hPD hS hl
          refine Kan2 hPD (fun hP hD => ?_)
          refine lv_iload hx hb gX12_feed_1.2.2.2.2.2.2.2.1 (lv_at0 hl) ?_
          refine lv_iload_n hx hb gX12_feed_1.2.2.2.2.2.2.2.2.1 rfl (lv_at3 hl) ?_
          refine lv_icmp_ge (tgt := 73) hx hb gX12_feed_1.2.2.2.2.2.2.2.2.2 (by decide) (fun c9 => absurd c9 (nI_ge (a := kP) (b := jn) (by omega) (by omega))) (fun _ => ?_)
          refine lv_aload_n hx hb gX12_feed_2.1 rfl (lv_at1 hl) ?_
          refine gf_X12_16 hC rfl hK hP 0 rfl rfl gX12_feed_2.2.1 ?_
          refine lv_aload_n hx hb gX12_feed_2.2.2.1 rfl (lv_at1 hl) ?_
          refine gf_X12_206 hC rfl hK hP 0 rfl rfl gX12_feed_2.2.2.2.1 ?_
          refine lv_lload_n hx hb gX12_feed_2.2.2.2.2.1 rfl (lv_at2 hl) ?_
          refine lv_bipush (v := 8) hx hb gX12_feed_2.2.2.2.2.2.1 (by decide) ?_
          refine lv_iload hx hb gX12_feed_2.2.2.2.2.2.2.1 (lv_at0 hl) ?_
          refine lv_imul hx hb gX12_feed_2.2.2.2.2.2.2.2.1 ?_
          refine eqi (x1 := nI (8 * kP)) (nI_mul 8 kP) ?_
          refine lv_lshr hx hb gX12_feed_2.2.2.2.2.2.2.2.2.1 rfl ?_
          refine lv_ldc2 hx hb hown (hB _ m_1237) gX12_feed_2.2.2.2.2.2.2.2.2.2 ?_
          refine lv_land hx hb gX12_feed_3.1 ?_
          refine lv_l2i hx hb gX12_feed_3.2.1 rfl ?_
          refine astN hC hK hP hD hS 1 (ws' := [(h0, oX12 nw nk mhasKept nt (nI (ktp + kP)) nr mrowMany mroundOf mroundFrom mouts nm mfromHour mtoHour ns mfrom mto msort misFault mdeep mcoded mlines nl nc nF np ntr nb mbestCost nso nsi nit nsh nsf nss nrc mtraced mdealer mnumber mwhose msize misParted), (nt, iA G 240 (upd vT (ktp + kP) (((ee >>> ((nI (8 * kP)).toInt64 &&& 63)) &&& 255).toInt32)))]) rfl (k := (ktp + kP)) (by omega) (Nat.le_of_ble_eq_true rfl) (rfl) gX12_feed_3.2.2.1 (fun H locs hP hD hS => ?_)
          refine lv_aload_n hx hb gX12_feed_3.2.2.2.1 rfl (lv_at1 hl) ?_
          refine lv_dup hx hb gX12_feed_3.2.2.2.2.1 rfl ?_
          refine gf_X12_206 hC rfl hK hP 0 rfl rfl gX12_feed_3.2.2.2.2.2.1 ?_
          refine lv_iconst (v := 1) hx hb gX12_feed_3.2.2.2.2.2.2.1 (by decide) ?_
          refine lv_iadd hx hb gX12_feed_3.2.2.2.2.2.2.2.1 ?_
          refine eqi (x1 := nI (ktp + kP + 1)) (nI_add (ktp + kP) 1) ?_
          refine pf_X12_206 hC rfl hK hP hD hS 0 (ws' := [(h0, oX12 nw nk mhasKept nt (nI (ktp + kP + 1)) nr mrowMany mroundOf mroundFrom mouts nm mfromHour mtoHour ns mfrom mto msort misFault mdeep mcoded mlines nl nc nF np ntr nb mbestCost nso nsi nit nsh nsf nss nrc mtraced mdealer mnumber mwhose msize misParted), (nt, iA G 240 (upd vT (ktp + kP) (((ee >>> ((nI (8 * kP)).toInt64 &&& 63)) &&& 255).toInt32)))]) rfl (Nat.le_of_ble_eq_true rfl) rfl rfl rfl gX12_feed_3.2.2.2.2.2.2.2.2.1 (fun H locs hP hD hS => ?_)
          refine lv_iinc (v := nI (kP + 1)) (lv' := [(4, .int (nI (kP + 1))), (0, .ref h0), (1, .long ee), (3, .int (nI jn))]) hx hb gX12_feed_3.2.2.2.2.2.2.2.2.2 hl (k := 0) rfl (nI_1 _) (by decide) rfl (fun ls hl => ?_)
          refine lv_goto (tgt := 30) hx hb gX12_feed_4.1 (by decide) ?_
          exact ihP (kP + 1) (upd vT (ktp + kP) (((ee >>> ((nI (8 * kP)).toInt64 &&& 63)) &&& 255).toInt32)) _ _ _ (by omega) (by first | assumption | exact Or.inl rfl | exact Or.inr rfl | exact FDB.zero | exact FDB.next hfd (by omega)) (And.intro hP hD) hS (lv_sub hl [0, 1, 2, 3] rfl)
      exact keyP jn 0 fnt _ _ _ (by omega) (by first | assumption | exact Or.inl rfl | exact Or.inr rfl | exact FDB.zero | exact FDB.next hfd (by omega)) (And.intro hP hD) hS (lv_sub hl [0, 1, 2, 3] rfl)
    · refine lv_bipush (v := (-2)) hx hb gX12_feed_1.2.2.2.1 (by decide) ?_
      refine toQ hQ0 ?_
      exact RI (v := (-2)) hC hP hD hS [0, 1] (ktp, fnt) rfl rfl (by decide) (⟨(by first | rfl | (simp only [ifc_t htp, ifc_t a6371, ifc_f (q := nI ktp + nI jn ≤ 240) (fun h9 => c_21_6372 (nI_add ktp jn ▸ h9))]; done) | (simp only [ifc_t htp, ifc_t a6371, ifc_f (q := nI ktp + nI jn ≤ 240) (fun h9 => c_21_6372 (nI_add ktp jn ▸ h9))]; exact (nI_add _ _).symm) | (dsimp only; simp only [ifc_t htp, ifc_t a6371, ifc_f (q := nI ktp + nI jn ≤ 240) (fun h9 => c_21_6372 (nI_add ktp jn ▸ h9))]; done) | (dsimp only; simp only [ifc_t htp, ifc_t a6371, ifc_f (q := nI ktp + nI jn ≤ 240) (fun h9 => c_21_6372 (nI_add ktp jn ▸ h9))]; exact (nI_add _ _).symm)), ⟨by omega, (by first | rfl | (simp only [ifc_t htp, ifc_t a6371, ifc_f (q := nI ktp + nI jn ≤ 240) (fun h9 => c_21_6372 (nI_add ktp jn ▸ h9))]; done) | (simp only [ifc_t htp, ifc_t a6371, ifc_f (q := nI ktp + nI jn ≤ 240) (fun h9 => c_21_6372 (nI_add ktp jn ▸ h9))]; exact (nI_add _ _).symm) | (dsimp only; simp only [ifc_t htp, ifc_t a6371, ifc_f (q := nI ktp + nI jn ≤ 240) (fun h9 => c_21_6372 (nI_add ktp jn ▸ h9))]; done) | (dsimp only; simp only [ifc_t htp, ifc_t a6371, ifc_f (q := nI ktp + nI jn ≤ 240) (fun h9 => c_21_6372 (nI_add ktp jn ▸ h9))]; exact (nI_add _ _).symm)), FDB.same⟩⟩) rfl gX12_feed_1.2.2.2.2.1
  · refine lv_if_ne (tgt := 12) hx hb gX12_feed_0.2.2.2.2.1 (by decide) (fun c9 => absurd (by decide) c9) (fun _ => ?_)
    refine lv_iconst (v := (-1)) hx hb gX12_feed_0.2.2.2.2.2.1 (by decide) ?_
    refine toQ hQ0 ?_
    exact RI (v := (-1)) hC hP hD hS [0, 1] (ktp, fnt) rfl rfl (by decide) (⟨(by first | rfl | (simp only [ifc_t htp, ifc_f a6371]; done) | (simp only [ifc_t htp, ifc_f a6371]; exact (nI_add _ _).symm) | (dsimp only; simp only [ifc_t htp, ifc_f a6371]; done) | (dsimp only; simp only [ifc_t htp, ifc_f a6371]; exact (nI_add _ _).symm)), ⟨by omega, (by first | rfl | (simp only [ifc_t htp, ifc_f a6371]; done) | (simp only [ifc_t htp, ifc_f a6371]; exact (nI_add _ _).symm) | (dsimp only; simp only [ifc_t htp, ifc_f a6371]; done) | (dsimp only; simp only [ifc_t htp, ifc_f a6371]; exact (nI_add _ _).symm)), FDB.same⟩⟩) rfl gX12_feed_0.2.2.2.2.2.2.1
def K_m_isInT (l : Launch) (G : GG) (h0 : Nat) (ja : Nat) (lo : Int32) (hi : Int32) (nw : Nat) (nk : Nat) (mhasKept : Int32) (nt : Nat) (ktp : Nat) (nr : Nat) (mrowMany : Int32) (mroundOf : Int32) (mroundFrom : Int32) (mouts : Int32) (nm : Nat) (mfromHour : Int32) (mtoHour : Int32) (ns : Nat) (mfrom : Int32) (mto : Int32) (msort : Int32) (misFault : Int32) (mdeep : Int32) (mcoded : Int32) (mlines : Int32) (nl : Nat) (nc : Nat) (nF : Nat) (np : Nat) (ntr : Nat) (nb : Nat) (mbestCost : Int32) (nso : Nat) (nsi : Nat) (nit : Nat) (nsh : Nat) (nsf : Nat) (nss : Nat) (nrc : Nat) (mtraced : Int32) (mdealer : Int32) (mnumber : Int32) (mwhose : Int32) (msize : Int32) (misParted : Int32) (fnt : Nat → Int32) : Prop := MP l G yX12_isIn_ cX12_isIn_ 4 (some .boolean) 2 [.ref h0, .int (nI ja), .int lo, .int hi] [(h0, oX12 nw nk mhasKept nt (nI ktp) nr mrowMany mroundOf mroundFrom mouts nm mfromHour mtoHour ns mfrom mto msort misFault mdeep mcoded mlines nl nc nF np ntr nb mbestCost nso nsi nit nsh nsf nss nrc mtraced mdealer mnumber mwhose msize misParted), (nt, iA G 240 fnt)] (fun r : Int32 => (r = 1 ∧ ja < ktp ∧ Wi (fnt ja) lo hi) ∨ r = 0)
set_option maxHeartbeats 4000000 in
set_option maxRecDepth 100000 in
theorem m_isInT (l : Launch) (G : GG) (h0 : Nat) (ja : Nat) (lo : Int32) (hi : Int32) (nw : Nat) (nk : Nat) (mhasKept : Int32) (nt : Nat) (ktp : Nat) (nr : Nat) (mrowMany : Int32) (mroundOf : Int32) (mroundFrom : Int32) (mouts : Int32) (nm : Nat) (mfromHour : Int32) (mtoHour : Int32) (ns : Nat) (mfrom : Int32) (mto : Int32) (msort : Int32) (misFault : Int32) (mdeep : Int32) (mcoded : Int32) (mlines : Int32) (nl : Nat) (nc : Nat) (nF : Nat) (np : Nat) (ntr : Nat) (nb : Nat) (mbestCost : Int32) (nso : Nat) (nsi : Nat) (nit : Nat) (nsh : Nat) (nsf : Nat) (nss : Nat) (nrc : Nat) (mtraced : Int32) (mdealer : Int32) (mnumber : Int32) (mwhose : Int32) (msize : Int32) (misParted : Int32) (fnt : Nat → Int32) (hja : ja < 2 ^ 31) (htp : ktp ≤ 240) : K_m_isInT l G h0 ja lo hi nw nk mhasKept nt ktp nr mrowMany mroundOf mroundFrom mouts nm mfromHour mtoHour ns mfrom mto msort misFault mdeep mcoded mlines nl nc nF np ntr nb mbestCost nso nsi nit nsh nsf nss nrc mtraced mdealer mnumber mwhose msize misParted fnt := by
  refine MP.start (by decide +kernel) (Nat.le_of_ble_eq_true rfl) ?_
  intro p e s m below meth c ls hC hK hP hD hl
  refine absQ (fun Q0 hQ0 => ?_)
  have hl : lv_has ls 4 [(0, .ref h0), (1, .int (nI ja)), (2, .int lo), (3, .int hi)] := hl
  refine Kan8 hC (fun hx hb hr hml hB hown hlocks hnm => ?_)
  refine lv_iload_n hx hb gX12_isIn__0.1 rfl (lv_at1 hl) ?_
  refine lv_aload_n hx hb gX12_isIn__0.2.1 rfl (lv_at0 hl) ?_
  refine gf_X12_206 hC rfl hK hP 0 rfl rfl gX12_isIn__0.2.2.1 ?_
  refine lv_icmp_ge (tgt := 26) hx hb gX12_isIn__0.2.2.2.1 (by decide) (fun c_5_6374 => ?_) (fun c_5_6374 => ?_)
  · refine lv_iconst (v := 0) hx hb gX12_isIn__1.2.2.2.2.1 (by decide) ?_
    refine toQ hQ0 ?_
    exact RP (v := 0) hC (Or.inr rfl) (by decide +kernel) gX12_isIn__1.2.2.2.2.2
  · have hja9 := nge_nat (R := ktp) (k := ja) (by omega) (by omega) c_5_6374
    refine lv_aload_n hx hb gX12_isIn__0.2.2.2.2.1 rfl (lv_at0 hl) ?_
    refine gf_X12_16 hC rfl hK hP 0 rfl rfl gX12_isIn__0.2.2.2.2.2.1 ?_
    refine lv_iload_n hx hb gX12_isIn__0.2.2.2.2.2.2.1 rfl (lv_at1 hl) ?_
    refine aldN hC hK hP 1 rfl (k := ja) (by omega) (Nat.le_of_ble_eq_true rfl) (v := fnt ja) rfl gX12_isIn__0.2.2.2.2.2.2.2.1 ?_
    refine lv_topi (fun x6375 ex6375 => ?_)
    refine lv_iload_n hx hb gX12_isIn__0.2.2.2.2.2.2.2.2.1 rfl (lv_at2 hl) ?_
    refine lv_iload_n hx hb gX12_isIn__0.2.2.2.2.2.2.2.2.2 rfl (lv_at3 hl) ?_
    refine pS hC hK hl (m_within l G x6375 lo hi) si_X12_84 rfl rfl (Nat.le_of_ble_eq_true rfl) rm_2_1_3 ⟨by first | exact Nat.le_of_ble_eq_true rfl | exact Nat.zero_le _, by first | exact Nat.le_of_ble_eq_true rfl | exact Nat.zero_le _⟩ gX12_isIn__1.1 (Kors (Keqa fun a6377 => ?_) (Keqa fun a6377 => ?_))
    · refine lv_if_eq (tgt := 26) hx hb gX12_isIn__1.2.1 (by decide) (fun c9 => absurd c9 (by decide)) (fun _ => ?_)
      refine lv_iconst (v := 1) hx hb gX12_isIn__1.2.2.1 (by decide) ?_
      refine lv_goto (tgt := 27) hx hb gX12_isIn__1.2.2.2.1 (by decide) ?_
      refine toQ hQ0 ?_
      exact RP (v := 1) hC (Or.inl ⟨rfl, hja9, by rw [← ex6375]; exact a6377⟩) (by decide +kernel) gX12_isIn__1.2.2.2.2.2
    · refine lv_if_eq (tgt := 26) hx hb gX12_isIn__1.2.1 (by decide) (fun _ => ?_) (fun c9 => absurd (by decide) c9)
      refine lv_iconst (v := 0) hx hb gX12_isIn__1.2.2.2.2.1 (by decide) ?_
      refine toQ hQ0 ?_
      exact RP (v := 0) hC (Or.inr rfl) (by decide +kernel) gX12_isIn__1.2.2.2.2.2
def K_m_next (l : Launch) (G : GG) (h0 : Nat) (nw : Nat) (nk : Nat) (mhasKept : Int32) (nt : Nat) (ktp : Nat) (nr : Nat) (mrowMany : Int32) (mroundOf : Int32) (mroundFrom : Int32) (mouts : Int32) (nm : Nat) (mfromHour : Int32) (mtoHour : Int32) (ns : Nat) (mfrom : Int32) (kt : Nat) (msort : Int32) (misFault : Int32) (mdeep : Int32) (mcoded : Int32) (mlines : Int32) (nl : Nat) (nc : Nat) (nF : Nat) (np : Nat) (ntr : Nat) (nb : Nat) (mbestCost : Int32) (nso : Nat) (nsi : Nat) (nit : Nat) (nsh : Nat) (nsf : Nat) (nss : Nat) (nrc : Nat) (mtraced : Int32) (mdealer : Int32) (mnumber : Int32) (mwhose : Int32) (msize : Int32) (misParted : Int32) (fnt : Nat → Int32) : Prop := MV l G yX12_next cX12_next 1 3 0 0 [.ref h0] [(h0, oX12 nw nk mhasKept nt (nI ktp) nr mrowMany mroundOf mroundFrom mouts nm mfromHour mtoHour ns mfrom (nI kt) msort misFault mdeep mcoded mlines nl nc nF np ntr nb mbestCost nso nsi nit nsh nsf nss nrc mtraced mdealer mnumber mwhose msize misParted), (nt, iA G 240 fnt)] (fun u : Nat × Nat × Int32 => kt ≤ u.1 ∧ TOK fnt u.2.2 u.1 u.2.1 ktp) (fun u : Nat × Nat × Int32 => [(h0, oX12 nw nk mhasKept nt (nI ktp) nr mrowMany mroundOf mroundFrom mouts nm mfromHour mtoHour ns (nI u.1) (nI u.2.1) u.2.2 misFault mdeep mcoded mlines nl nc nF np ntr nb mbestCost nso nsi nit nsh nsf nss nrc mtraced mdealer mnumber mwhose msize misParted), (nt, iA G 240 fnt)])
set_option maxHeartbeats 4000000 in
set_option maxRecDepth 100000 in
theorem m_next (l : Launch) (G : GG) (h0 : Nat) (nw : Nat) (nk : Nat) (mhasKept : Int32) (nt : Nat) (ktp : Nat) (nr : Nat) (mrowMany : Int32) (mroundOf : Int32) (mroundFrom : Int32) (mouts : Int32) (nm : Nat) (mfromHour : Int32) (mtoHour : Int32) (ns : Nat) (mfrom : Int32) (kt : Nat) (msort : Int32) (misFault : Int32) (mdeep : Int32) (mcoded : Int32) (mlines : Int32) (nl : Nat) (nc : Nat) (nF : Nat) (np : Nat) (ntr : Nat) (nb : Nat) (mbestCost : Int32) (nso : Nat) (nsi : Nat) (nit : Nat) (nsh : Nat) (nsf : Nat) (nss : Nat) (nrc : Nat) (mtraced : Int32) (mdealer : Int32) (mnumber : Int32) (mwhose : Int32) (msize : Int32) (misParted : Int32) (fnt : Nat → Int32) (hkt : kt ≤ ktp) (htp : ktp ≤ 240) : K_m_next l G h0 nw nk mhasKept nt ktp nr mrowMany mroundOf mroundFrom mouts nm mfromHour mtoHour ns mfrom kt msort misFault mdeep mcoded mlines nl nc nF np ntr nb mbestCost nso nsi nit nsh nsf nss nrc mtraced mdealer mnumber mwhose msize misParted fnt := by
  refine MV.start (by decide +kernel) (Nat.le_of_ble_eq_true rfl) ?_
  intro p e s m below meth c A ls hC hK hP hD hS hA hl
  refine absQ (fun Q0 hQ0 => ?_)
  have hl : lv_has ls 1 [(0, .ref h0)] := hl
  refine Kan8 hC (fun hx hb hr hml hB hown hlocks hnm => ?_)
  refine lv_aload_n hx hb gX12_next_0.1 rfl (lv_at0 hl) ?_
  refine lv_aload_n hx hb gX12_next_0.2.1 rfl (lv_at0 hl) ?_
  refine gf_X12_211 hC rfl hK hP 0 rfl rfl gX12_next_0.2.2.1 ?_
  refine pf_X12_214 hC rfl hK hP hD hS 0 (ws' := [(h0, oX12 nw nk mhasKept nt (nI ktp) nr mrowMany mroundOf mroundFrom mouts nm mfromHour mtoHour ns (nI kt) (nI kt) msort misFault mdeep mcoded mlines nl nc nF np ntr nb mbestCost nso nsi nit nsh nsf nss nrc mtraced mdealer mnumber mwhose msize misParted), (nt, iA G 240 fnt)]) rfl (Nat.le_of_ble_eq_true rfl) rfl rfl rfl gX12_next_0.2.2.2.1 (fun H locs hP hD hS => ?_)
  have keyA : ∀ (nA : Nat) (vf : Nat) (H : Heap) (locs : List Loc) (ls : Array Slot), (kt ≤ vf ∧ vf ≤ ktp ∧ ktp < vf + nA) → va_PD G A [(h0, oX12 nw nk mhasKept nt (nI ktp) nr mrowMany mroundOf mroundFrom mouts nm mfromHour mtoHour ns (nI vf) (nI kt) msort misFault mdeep mcoded mlines nl nc nF np ntr nb mbestCost nso nsi nit nsh nsf nss nrc mtraced mdealer mnumber mwhose msize misParted), (nt, iA G 240 fnt)] H → va_S A s.heap H locs → lv_has ls 1 [(0, .ref h0)] → W p l e (RM 3 0 0) s m ([.ref h0] : List Value).toArray below meth c H locs 0 0 Q0 (F0 m 8 ls []) := by
    intro nA
    induction nA with
    | zero =>
      intro vf H locs ls hiA hPD hS hl
      refine Kan2 hPD (fun hP hD => ?_)
      exact (show False by omega).elim
    | succ nA ihA =>
      intro vf H locs ls hiA hPD hS hl
      refine Kan2 hPD (fun hP hD => ?_)
      refine lv_aload_n hx hb gX12_next_0.2.2.2.2.1 rfl (lv_at0 hl) ?_
      refine gf_X12_214 hC rfl hK hP 0 rfl rfl gX12_next_0.2.2.2.2.2.1 ?_
      refine lv_aload_n hx hb gX12_next_0.2.2.2.2.2.2.1 rfl (lv_at0 hl) ?_
      refine gf_X12_206 hC rfl hK hP 0 rfl rfl gX12_next_0.2.2.2.2.2.2.2.1 ?_
      refine lv_icmp_ge (tgt := 46) hx hb gX12_next_0.2.2.2.2.2.2.2.2.1 (by decide) (fun c_16_6378 => ?_) (fun c_16_6378 => ?_)
      · refine lv_aload_n hx hb gX12_next_2.2.2.2.1 rfl (lv_at0 hl) ?_
        refine lv_aload_n hx hb gX12_next_2.2.2.2.2.1 rfl (lv_at0 hl) ?_
        refine gf_X12_214 hC rfl hK hP 0 rfl rfl gX12_next_2.2.2.2.2.2.1 ?_
        refine pf_X12_211 hC rfl hK hP hD hS 0 (ws' := [(h0, oX12 nw nk mhasKept nt (nI ktp) nr mrowMany mroundOf mroundFrom mouts nm mfromHour mtoHour ns (nI vf) (nI vf) msort misFault mdeep mcoded mlines nl nc nF np ntr nb mbestCost nso nsi nit nsh nsf nss nrc mtraced mdealer mnumber mwhose msize misParted), (nt, iA G 240 fnt)]) rfl (Nat.le_of_ble_eq_true rfl) rfl rfl rfl gX12_next_2.2.2.2.2.2.2.1 (fun H locs hP hD hS => ?_)
        refine lv_aload_n hx hb gX12_next_2.2.2.2.2.2.2.2.1 rfl (lv_at0 hl) ?_
        refine gf_X12_214 hC rfl hK hP 0 rfl rfl gX12_next_2.2.2.2.2.2.2.2.2.1 ?_
        refine lv_aload_n hx hb gX12_next_2.2.2.2.2.2.2.2.2.2 rfl (lv_at0 hl) ?_
        refine gf_X12_206 hC rfl hK hP 0 rfl rfl gX12_next_3.1 ?_
        refine lv_icmp_ne (tgt := 71) hx hb gX12_next_3.2.1 (by decide) (fun c_62_6379 => ?_) (fun c_62_6379 => ?_)
        · have hvf8 := nI_neq (a := vf) (b := ktp) (by omega) (by omega) c_62_6379
          refine lv_aload_n hx hb gX12_next_3.2.2.2.2.2.2.1 rfl (lv_at0 hl) ?_
          refine lv_aload_n hx hb gX12_next_3.2.2.2.2.2.2.2.1 rfl (lv_at0 hl) ?_
          refine lv_aload_n hx hb gX12_next_3.2.2.2.2.2.2.2.2.1 rfl (lv_at0 hl) ?_
          refine gf_X12_214 hC rfl hK hP 0 rfl rfl gX12_next_3.2.2.2.2.2.2.2.2.2 ?_
          refine lv_bipush (v := 97) hx hb gX12_next_4.1 (by decide) ?_
          refine lv_bipush (v := 122) hx hb gX12_next_4.2.1 (by decide) ?_
          refine pV hC hK hl hP hD (m_isInT l G h0 vf 97 122 nw nk mhasKept nt ktp nr mrowMany mroundOf mroundFrom mouts nm mfromHour mtoHour ns (nI vf) (nI vf) msort misFault mdeep mcoded mlines nl nc nF np ntr nb mbestCost nso nsi nit nsh nsf nss nrc mtraced mdealer mnumber mwhose msize misParted fnt (by omega) (htp)) si_X12_220 [0, 1] sm_0_1 fm_0_1 nd_0_1 rfl rfl rfl rfl rfl (Nat.le_of_ble_eq_true rfl) rm_3_2_4 ⟨by first | exact Nat.le_of_ble_eq_true rfl | exact Nat.zero_le _, by first | exact Nat.le_of_ble_eq_true rfl | exact Nat.zero_le _⟩ gX12_next_4.2.2.1 (Kors (Keqa fun a6381 => ?_) (Keqr ?_))
          · refine lv_if_eq (tgt := 91) hx hb gX12_next_4.2.2.2.1 (by decide) (fun c9 => absurd c9 (by decide)) (fun _ => ?_)
            refine lv_iconst (v := 1) hx hb gX12_next_4.2.2.2.2.1 (by decide) ?_
            refine lv_goto (tgt := 111) hx hb gX12_next_4.2.2.2.2.2.1 (by decide) ?_
            refine pf_X12_217 hC rfl hK hP hD hS 0 (ws' := [(h0, oX12 nw nk mhasKept nt (nI ktp) nr mrowMany mroundOf mroundFrom mouts nm mfromHour mtoHour ns (nI vf) (nI vf) 1 misFault mdeep mcoded mlines nl nc nF np ntr nb mbestCost nso nsi nit nsh nsf nss nrc mtraced mdealer mnumber mwhose msize misParted), (nt, iA G 240 fnt)]) rfl (Nat.le_of_ble_eq_true rfl) rfl rfl rfl gX12_next_5.2.2.2.2.2.2.1 (fun H locs hP hD hS => ?_)
            refine lv_aload_n hx hb gX12_next_5.2.2.2.2.2.2.2.1 rfl (lv_at0 hl) ?_
            refine lv_dup hx hb gX12_next_5.2.2.2.2.2.2.2.2.1 rfl ?_
            refine gf_X12_211 hC rfl hK hP 0 rfl rfl gX12_next_5.2.2.2.2.2.2.2.2.2 ?_
            refine lv_iconst (v := 1) hx hb gX12_next_6.1 (by decide) ?_
            refine lv_iadd hx hb gX12_next_6.2.1 ?_
            refine eqi (x1 := nI (vf + 1)) (nI_add vf 1) ?_
            refine pf_X12_211 hC rfl hK hP hD hS 0 (ws' := [(h0, oX12 nw nk mhasKept nt (nI ktp) nr mrowMany mroundOf mroundFrom mouts nm mfromHour mtoHour ns (nI vf) (nI (vf + 1)) 1 misFault mdeep mcoded mlines nl nc nF np ntr nb mbestCost nso nsi nit nsh nsf nss nrc mtraced mdealer mnumber mwhose msize misParted), (nt, iA G 240 fnt)]) rfl (Nat.le_of_ble_eq_true rfl) rfl rfl rfl gX12_next_6.2.2.1 (fun H locs hP hD hS => ?_)
            have keyB : ∀ (nB : Nat) (vt : Nat) (H : Heap) (locs : List Loc) (ls : Array Slot), (vf < vt ∧ vt ≤ ktp ∧ ktp < vt + nB) → va_PD G A [(h0, oX12 nw nk mhasKept nt (nI ktp) nr mrowMany mroundOf mroundFrom mouts nm mfromHour mtoHour ns (nI vf) (nI vt) 1 misFault mdeep mcoded mlines nl nc nF np ntr nb mbestCost nso nsi nit nsh nsf nss nrc mtraced mdealer mnumber mwhose msize misParted), (nt, iA G 240 fnt)] H → va_S A s.heap H locs → lv_has ls 1 [(0, .ref h0)] → W p l e (RM 3 0 0) s m ([.ref h0] : List Value).toArray below meth c H locs 0 0 Q0 (F0 m 124 ls []) := by
              intro nB
              induction nB with
              | zero =>
                intro vt H locs ls hiB hPD hS hl
                refine Kan2 hPD (fun hP hD => ?_)
                exact (show False by omega).elim
              | succ nB ihB =>
                intro vt H locs ls hiB hPD hS hl
                refine Kan2 hPD (fun hP hD => ?_)
                refine lv_aload_n hx hb gX12_next_6.2.2.2.1 rfl (lv_at0 hl) ?_
                refine gf_X12_217 hC rfl hK hP 0 rfl rfl gX12_next_6.2.2.2.2.1 ?_
                refine lv_iconst (v := 1) hx hb gX12_next_6.2.2.2.2.2.1 (by decide) ?_
                refine lv_icmp_ne (tgt := 147) hx hb gX12_next_6.2.2.2.2.2.2.1 (by decide) (fun c9 => absurd (by decide) c9) (fun _ => ?_)
                refine lv_aload_n hx hb gX12_next_6.2.2.2.2.2.2.2.1 rfl (lv_at0 hl) ?_
                refine lv_aload_n hx hb gX12_next_6.2.2.2.2.2.2.2.2.1 rfl (lv_at0 hl) ?_
                refine gf_X12_211 hC rfl hK hP 0 rfl rfl gX12_next_6.2.2.2.2.2.2.2.2.2 ?_
                refine lv_bipush (v := 97) hx hb gX12_next_7.1 (by decide) ?_
                refine lv_bipush (v := 122) hx hb gX12_next_7.2.1 (by decide) ?_
                refine pV hC hK hl hP hD (m_isInT l G h0 vt 97 122 nw nk mhasKept nt ktp nr mrowMany mroundOf mroundFrom mouts nm mfromHour mtoHour ns (nI vf) (nI vt) 1 misFault mdeep mcoded mlines nl nc nF np ntr nb mbestCost nso nsi nit nsh nsf nss nrc mtraced mdealer mnumber mwhose msize misParted fnt (by omega) (htp)) si_X12_220 [0, 1] sm_0_1 fm_0_1 nd_0_1 rfl rfl rfl rfl rfl (Nat.le_of_ble_eq_true rfl) rm_3_2_4 ⟨by first | exact Nat.le_of_ble_eq_true rfl | exact Nat.zero_le _, by first | exact Nat.le_of_ble_eq_true rfl | exact Nat.zero_le _⟩ gX12_next_7.2.2.1 (Kors (Keqa fun a6383 => ?_) (Keqr ?_))
                · refine lv_if_ne (tgt := 170) hx hb gX12_next_7.2.2.2.1 (by decide) (fun _ => ?_) (fun c9 => absurd c9 (by decide))
                  refine lv_aload_n hx hb gX12_next_8.2.2.2.2.2.1 rfl (lv_at0 hl) ?_
                  refine lv_dup hx hb gX12_next_8.2.2.2.2.2.2.1 rfl ?_
                  refine gf_X12_211 hC rfl hK hP 0 rfl rfl gX12_next_8.2.2.2.2.2.2.2.1 ?_
                  refine lv_iconst (v := 1) hx hb gX12_next_8.2.2.2.2.2.2.2.2.1 (by decide) ?_
                  refine lv_iadd hx hb gX12_next_8.2.2.2.2.2.2.2.2.2 ?_
                  refine eqi (x1 := nI (vt + 1)) (nI_add vt 1) ?_
                  refine pf_X12_211 hC rfl hK hP hD hS 0 (ws' := [(h0, oX12 nw nk mhasKept nt (nI ktp) nr mrowMany mroundOf mroundFrom mouts nm mfromHour mtoHour ns (nI vf) (nI (vt + 1)) 1 misFault mdeep mcoded mlines nl nc nF np ntr nb mbestCost nso nsi nit nsh nsf nss nrc mtraced mdealer mnumber mwhose msize misParted), (nt, iA G 240 fnt)]) rfl (Nat.le_of_ble_eq_true rfl) rfl rfl rfl gX12_next_9.1 (fun H locs hP hD hS => ?_)
                  refine lv_goto (tgt := 124) hx hb gX12_next_9.2.1 (by decide) ?_
                  exact ihB (vt + 1) _ _ _ (by omega) (And.intro hP hD) hS (lv_sub hl [0] rfl)
                · refine lv_if_ne (tgt := 170) hx hb gX12_next_7.2.2.2.1 (by decide) (fun c9 => absurd (by decide) c9) (fun _ => ?_)
                  refine lv_aload_n hx hb gX12_next_7.2.2.2.2.1 rfl (lv_at0 hl) ?_
                  refine gf_X12_217 hC rfl hK hP 0 rfl rfl gX12_next_7.2.2.2.2.2.1 ?_
                  refine lv_iconst (v := 2) hx hb gX12_next_7.2.2.2.2.2.2.1 (by decide) ?_
                  refine lv_icmp_ne (tgt := 183) hx hb gX12_next_7.2.2.2.2.2.2.2.1 (by decide) (fun _ => ?_) (fun c9 => absurd c9 (by decide))
                  refine toQ hQ0 ?_
                  exact RV hC hP hD hS [0, 1] (vf, vt, 1) rfl rfl (by decide) (⟨by (try dsimp only); omega, TOK.n1 (by (try dsimp only); omega) (by (try dsimp only); omega)⟩) gX12_next_9.2.2
            exact keyB (ktp + 1) (vf + 1) _ _ _ (by omega) (And.intro hP hD) hS (lv_sub hl [0] rfl)
          · refine lv_if_eq (tgt := 91) hx hb gX12_next_4.2.2.2.1 (by decide) (fun _ => ?_) (fun c9 => absurd (by decide) c9)
            refine lv_aload_n hx hb gX12_next_4.2.2.2.2.2.2.1 rfl (lv_at0 hl) ?_
            refine lv_aload_n hx hb gX12_next_4.2.2.2.2.2.2.2.1 rfl (lv_at0 hl) ?_
            refine gf_X12_214 hC rfl hK hP 0 rfl rfl gX12_next_4.2.2.2.2.2.2.2.2.1 ?_
            refine lv_bipush (v := 48) hx hb gX12_next_4.2.2.2.2.2.2.2.2.2 (by decide) ?_
            refine lv_bipush (v := 57) hx hb gX12_next_5.1 (by decide) ?_
            refine pV hC hK hl hP hD (m_isInT l G h0 vf 48 57 nw nk mhasKept nt ktp nr mrowMany mroundOf mroundFrom mouts nm mfromHour mtoHour ns (nI vf) (nI vf) msort misFault mdeep mcoded mlines nl nc nF np ntr nb mbestCost nso nsi nit nsh nsf nss nrc mtraced mdealer mnumber mwhose msize misParted fnt (by omega) (htp)) si_X12_220 [0, 1] sm_0_1 fm_0_1 nd_0_1 rfl rfl rfl rfl rfl (Nat.le_of_ble_eq_true rfl) rm_3_2_4 ⟨by first | exact Nat.le_of_ble_eq_true rfl | exact Nat.zero_le _, by first | exact Nat.le_of_ble_eq_true rfl | exact Nat.zero_le _⟩ gX12_next_5.2.1 (Kors (Keqa fun a6385 => ?_) (Keqr ?_))
            · refine lv_if_eq (tgt := 110) hx hb gX12_next_5.2.2.1 (by decide) (fun c9 => absurd c9 (by decide)) (fun _ => ?_)
              refine lv_iconst (v := 2) hx hb gX12_next_5.2.2.2.1 (by decide) ?_
              refine lv_goto (tgt := 111) hx hb gX12_next_5.2.2.2.2.1 (by decide) ?_
              refine pf_X12_217 hC rfl hK hP hD hS 0 (ws' := [(h0, oX12 nw nk mhasKept nt (nI ktp) nr mrowMany mroundOf mroundFrom mouts nm mfromHour mtoHour ns (nI vf) (nI vf) 2 misFault mdeep mcoded mlines nl nc nF np ntr nb mbestCost nso nsi nit nsh nsf nss nrc mtraced mdealer mnumber mwhose msize misParted), (nt, iA G 240 fnt)]) rfl (Nat.le_of_ble_eq_true rfl) rfl rfl rfl gX12_next_5.2.2.2.2.2.2.1 (fun H locs hP hD hS => ?_)
              refine lv_aload_n hx hb gX12_next_5.2.2.2.2.2.2.2.1 rfl (lv_at0 hl) ?_
              refine lv_dup hx hb gX12_next_5.2.2.2.2.2.2.2.2.1 rfl ?_
              refine gf_X12_211 hC rfl hK hP 0 rfl rfl gX12_next_5.2.2.2.2.2.2.2.2.2 ?_
              refine lv_iconst (v := 1) hx hb gX12_next_6.1 (by decide) ?_
              refine lv_iadd hx hb gX12_next_6.2.1 ?_
              refine eqi (x1 := nI (vf + 1)) (nI_add vf 1) ?_
              refine pf_X12_211 hC rfl hK hP hD hS 0 (ws' := [(h0, oX12 nw nk mhasKept nt (nI ktp) nr mrowMany mroundOf mroundFrom mouts nm mfromHour mtoHour ns (nI vf) (nI (vf + 1)) 2 misFault mdeep mcoded mlines nl nc nF np ntr nb mbestCost nso nsi nit nsh nsf nss nrc mtraced mdealer mnumber mwhose msize misParted), (nt, iA G 240 fnt)]) rfl (Nat.le_of_ble_eq_true rfl) rfl rfl rfl gX12_next_6.2.2.1 (fun H locs hP hD hS => ?_)
              have keyB : ∀ (nB : Nat) (vt : Nat) (H : Heap) (locs : List Loc) (ls : Array Slot), (vf < vt ∧ vt ≤ ktp ∧ ktp < vt + nB) → (DG fnt vf vt) → va_PD G A [(h0, oX12 nw nk mhasKept nt (nI ktp) nr mrowMany mroundOf mroundFrom mouts nm mfromHour mtoHour ns (nI vf) (nI vt) 2 misFault mdeep mcoded mlines nl nc nF np ntr nb mbestCost nso nsi nit nsh nsf nss nrc mtraced mdealer mnumber mwhose msize misParted), (nt, iA G 240 fnt)] H → va_S A s.heap H locs → lv_has ls 1 [(0, .ref h0)] → W p l e (RM 3 0 0) s m ([.ref h0] : List Value).toArray below meth c H locs 0 0 Q0 (F0 m 124 ls []) := by
                intro nB
                induction nB with
                | zero =>
                  intro vt H locs ls hiB hdB hPD hS hl
                  refine Kan2 hPD (fun hP hD => ?_)
                  exact (show False by omega).elim
                | succ nB ihB =>
                  intro vt H locs ls hiB hdB hPD hS hl
                  refine Kan2 hPD (fun hP hD => ?_)
                  refine lv_aload_n hx hb gX12_next_6.2.2.2.1 rfl (lv_at0 hl) ?_
                  refine gf_X12_217 hC rfl hK hP 0 rfl rfl gX12_next_6.2.2.2.2.1 ?_
                  refine lv_iconst (v := 1) hx hb gX12_next_6.2.2.2.2.2.1 (by decide) ?_
                  refine lv_icmp_ne (tgt := 147) hx hb gX12_next_6.2.2.2.2.2.2.1 (by decide) (fun _ => ?_) (fun c9 => absurd c9 (by decide))
                  refine lv_aload_n hx hb gX12_next_7.2.2.2.2.1 rfl (lv_at0 hl) ?_
                  refine gf_X12_217 hC rfl hK hP 0 rfl rfl gX12_next_7.2.2.2.2.2.1 ?_
                  refine lv_iconst (v := 2) hx hb gX12_next_7.2.2.2.2.2.2.1 (by decide) ?_
                  refine lv_icmp_ne (tgt := 183) hx hb gX12_next_7.2.2.2.2.2.2.2.1 (by decide) (fun c9 => absurd (by decide) c9) (fun _ => ?_)
                  refine lv_aload_n hx hb gX12_next_7.2.2.2.2.2.2.2.2.1 rfl (lv_at0 hl) ?_
                  refine lv_aload_n hx hb gX12_next_7.2.2.2.2.2.2.2.2.2 rfl (lv_at0 hl) ?_
                  refine gf_X12_211 hC rfl hK hP 0 rfl rfl gX12_next_8.1 ?_
                  refine lv_bipush (v := 48) hx hb gX12_next_8.2.1 (by decide) ?_
                  refine lv_bipush (v := 57) hx hb gX12_next_8.2.2.1 (by decide) ?_
                  refine pV hC hK hl hP hD (m_isInT l G h0 vt 48 57 nw nk mhasKept nt ktp nr mrowMany mroundOf mroundFrom mouts nm mfromHour mtoHour ns (nI vf) (nI vt) 2 misFault mdeep mcoded mlines nl nc nF np ntr nb mbestCost nso nsi nit nsh nsf nss nrc mtraced mdealer mnumber mwhose msize misParted fnt (by omega) (htp)) si_X12_220 [0, 1] sm_0_1 fm_0_1 nd_0_1 rfl rfl rfl rfl rfl (Nat.le_of_ble_eq_true rfl) rm_3_2_4 ⟨by first | exact Nat.le_of_ble_eq_true rfl | exact Nat.zero_le _, by first | exact Nat.le_of_ble_eq_true rfl | exact Nat.zero_le _⟩ gX12_next_8.2.2.2.1 (Kors (Keqa fun a6389 => ?_) (Keqr ?_))
                  · refine lv_if_eq (tgt := 183) hx hb gX12_next_8.2.2.2.2.1 (by decide) (fun c9 => absurd c9 (by decide)) (fun _ => ?_)
                    refine lv_aload_n hx hb gX12_next_8.2.2.2.2.2.1 rfl (lv_at0 hl) ?_
                    refine lv_dup hx hb gX12_next_8.2.2.2.2.2.2.1 rfl ?_
                    refine gf_X12_211 hC rfl hK hP 0 rfl rfl gX12_next_8.2.2.2.2.2.2.2.1 ?_
                    refine lv_iconst (v := 1) hx hb gX12_next_8.2.2.2.2.2.2.2.2.1 (by decide) ?_
                    refine lv_iadd hx hb gX12_next_8.2.2.2.2.2.2.2.2.2 ?_
                    refine eqi (x1 := nI (vt + 1)) (nI_add vt 1) ?_
                    refine pf_X12_211 hC rfl hK hP hD hS 0 (ws' := [(h0, oX12 nw nk mhasKept nt (nI ktp) nr mrowMany mroundOf mroundFrom mouts nm mfromHour mtoHour ns (nI vf) (nI (vt + 1)) 2 misFault mdeep mcoded mlines nl nc nF np ntr nb mbestCost nso nsi nit nsh nsf nss nrc mtraced mdealer mnumber mwhose msize misParted), (nt, iA G 240 fnt)]) rfl (Nat.le_of_ble_eq_true rfl) rfl rfl rfl gX12_next_9.1 (fun H locs hP hD hS => ?_)
                    refine lv_goto (tgt := 124) hx hb gX12_next_9.2.1 (by decide) ?_
                    exact ihB (vt + 1) _ _ _ (by omega) (hdB.next a6389.2) (And.intro hP hD) hS (lv_sub hl [0] rfl)
                  · refine lv_if_eq (tgt := 183) hx hb gX12_next_8.2.2.2.2.1 (by decide) (fun _ => ?_) (fun c9 => absurd (by decide) c9)
                    refine toQ hQ0 ?_
                    exact RV hC hP hD hS [0, 1] (vf, vt, 2) rfl rfl (by decide) (⟨by (try dsimp only); omega, TOK.n2 (by (try dsimp only); omega) (by (try dsimp only); omega) (by first | assumption)⟩) gX12_next_9.2.2
              exact keyB (ktp + 1) (vf + 1) _ _ _ (by omega) (DG.zero.next a6385.2) (And.intro hP hD) hS (lv_sub hl [0] rfl)
            · refine lv_if_eq (tgt := 110) hx hb gX12_next_5.2.2.1 (by decide) (fun _ => ?_) (fun c9 => absurd (by decide) c9)
              refine lv_iconst (v := 3) hx hb gX12_next_5.2.2.2.2.2.1 (by decide) ?_
              refine pf_X12_217 hC rfl hK hP hD hS 0 (ws' := [(h0, oX12 nw nk mhasKept nt (nI ktp) nr mrowMany mroundOf mroundFrom mouts nm mfromHour mtoHour ns (nI vf) (nI vf) 3 misFault mdeep mcoded mlines nl nc nF np ntr nb mbestCost nso nsi nit nsh nsf nss nrc mtraced mdealer mnumber mwhose msize misParted), (nt, iA G 240 fnt)]) rfl (Nat.le_of_ble_eq_true rfl) rfl rfl rfl gX12_next_5.2.2.2.2.2.2.1 (fun H locs hP hD hS => ?_)
              refine lv_aload_n hx hb gX12_next_5.2.2.2.2.2.2.2.1 rfl (lv_at0 hl) ?_
              refine lv_dup hx hb gX12_next_5.2.2.2.2.2.2.2.2.1 rfl ?_
              refine gf_X12_211 hC rfl hK hP 0 rfl rfl gX12_next_5.2.2.2.2.2.2.2.2.2 ?_
              refine lv_iconst (v := 1) hx hb gX12_next_6.1 (by decide) ?_
              refine lv_iadd hx hb gX12_next_6.2.1 ?_
              refine eqi (x1 := nI (vf + 1)) (nI_add vf 1) ?_
              refine pf_X12_211 hC rfl hK hP hD hS 0 (ws' := [(h0, oX12 nw nk mhasKept nt (nI ktp) nr mrowMany mroundOf mroundFrom mouts nm mfromHour mtoHour ns (nI vf) (nI (vf + 1)) 3 misFault mdeep mcoded mlines nl nc nF np ntr nb mbestCost nso nsi nit nsh nsf nss nrc mtraced mdealer mnumber mwhose msize misParted), (nt, iA G 240 fnt)]) rfl (Nat.le_of_ble_eq_true rfl) rfl rfl rfl gX12_next_6.2.2.1 (fun H locs hP hD hS => ?_)
              refine lv_aload_n hx hb gX12_next_6.2.2.2.1 rfl (lv_at0 hl) ?_
              refine gf_X12_217 hC rfl hK hP 0 rfl rfl gX12_next_6.2.2.2.2.1 ?_
              refine lv_iconst (v := 1) hx hb gX12_next_6.2.2.2.2.2.1 (by decide) ?_
              refine lv_icmp_ne (tgt := 147) hx hb gX12_next_6.2.2.2.2.2.2.1 (by decide) (fun _ => ?_) (fun c9 => absurd c9 (by decide))
              refine lv_aload_n hx hb gX12_next_7.2.2.2.2.1 rfl (lv_at0 hl) ?_
              refine gf_X12_217 hC rfl hK hP 0 rfl rfl gX12_next_7.2.2.2.2.2.1 ?_
              refine lv_iconst (v := 2) hx hb gX12_next_7.2.2.2.2.2.2.1 (by decide) ?_
              refine lv_icmp_ne (tgt := 183) hx hb gX12_next_7.2.2.2.2.2.2.2.1 (by decide) (fun _ => ?_) (fun c9 => absurd c9 (by decide))
              refine toQ hQ0 ?_
              exact RV hC hP hD hS [0, 1] (vf, (vf + 1), 3) rfl rfl (by decide) (⟨by (try dsimp only); omega, TOK.n3 (by (try dsimp only); omega) (by (try dsimp only); omega)⟩) gX12_next_9.2.2
        · refine lv_aload_n hx hb gX12_next_3.2.2.1 rfl (lv_at0 hl) ?_
          refine lv_iconst (v := 0) hx hb gX12_next_3.2.2.2.1 (by decide) ?_
          refine pf_X12_217 hC rfl hK hP hD hS 0 (ws' := [(h0, oX12 nw nk mhasKept nt (nI ktp) nr mrowMany mroundOf mroundFrom mouts nm mfromHour mtoHour ns (nI vf) (nI vf) 0 misFault mdeep mcoded mlines nl nc nF np ntr nb mbestCost nso nsi nit nsh nsf nss nrc mtraced mdealer mnumber mwhose msize misParted), (nt, iA G 240 fnt)]) rfl (Nat.le_of_ble_eq_true rfl) rfl rfl rfl gX12_next_3.2.2.2.2.1 (fun H locs hP hD hS => ?_)
          refine toQ hQ0 ?_
          exact RV hC hP hD hS [0, 1] (vf, vf, 0) rfl rfl (by decide) (⟨by (try dsimp only); omega, TOK.n0 (by (try dsimp only); omega)⟩) gX12_next_3.2.2.2.2.2.1
      · have hvf9 := nge_nat (R := ktp) (k := vf) (by omega) (by omega) c_16_6378
        refine lv_aload_n hx hb gX12_next_0.2.2.2.2.2.2.2.2.2 rfl (lv_at0 hl) ?_
        refine gf_X12_16 hC rfl hK hP 0 rfl rfl gX12_next_1.1 ?_
        refine lv_aload_n hx hb gX12_next_1.2.1 rfl (lv_at0 hl) ?_
        refine gf_X12_214 hC rfl hK hP 0 rfl rfl gX12_next_1.2.2.1 ?_
        refine aldN hC hK hP 1 rfl (k := vf) (by omega) (Nat.le_of_ble_eq_true rfl) (v := fnt vf) rfl gX12_next_1.2.2.2.1 ?_
        refine lv_topi (fun x6390 ex6390 => ?_)
        refine lv_bipush (v := 32) hx hb gX12_next_1.2.2.2.2.1 (by decide) ?_
        refine lv_icmp_ne (tgt := 46) hx hb gX12_next_1.2.2.2.2.2.1 (by decide) (fun c_30_6391 => ?_) (fun c_30_6391 => ?_)
        · refine lv_aload_n hx hb gX12_next_2.2.2.2.1 rfl (lv_at0 hl) ?_
          refine lv_aload_n hx hb gX12_next_2.2.2.2.2.1 rfl (lv_at0 hl) ?_
          refine gf_X12_214 hC rfl hK hP 0 rfl rfl gX12_next_2.2.2.2.2.2.1 ?_
          refine pf_X12_211 hC rfl hK hP hD hS 0 (ws' := [(h0, oX12 nw nk mhasKept nt (nI ktp) nr mrowMany mroundOf mroundFrom mouts nm mfromHour mtoHour ns (nI vf) (nI vf) msort misFault mdeep mcoded mlines nl nc nF np ntr nb mbestCost nso nsi nit nsh nsf nss nrc mtraced mdealer mnumber mwhose msize misParted), (nt, iA G 240 fnt)]) rfl (Nat.le_of_ble_eq_true rfl) rfl rfl rfl gX12_next_2.2.2.2.2.2.2.1 (fun H locs hP hD hS => ?_)
          refine lv_aload_n hx hb gX12_next_2.2.2.2.2.2.2.2.1 rfl (lv_at0 hl) ?_
          refine gf_X12_214 hC rfl hK hP 0 rfl rfl gX12_next_2.2.2.2.2.2.2.2.2.1 ?_
          refine lv_aload_n hx hb gX12_next_2.2.2.2.2.2.2.2.2.2 rfl (lv_at0 hl) ?_
          refine gf_X12_206 hC rfl hK hP 0 rfl rfl gX12_next_3.1 ?_
          refine lv_icmp_ne (tgt := 71) hx hb gX12_next_3.2.1 (by decide) (fun c_62_6392 => ?_) (fun c_62_6392 => ?_)
          · have hvf8 := nI_neq (a := vf) (b := ktp) (by omega) (by omega) c_62_6392
            refine lv_aload_n hx hb gX12_next_3.2.2.2.2.2.2.1 rfl (lv_at0 hl) ?_
            refine lv_aload_n hx hb gX12_next_3.2.2.2.2.2.2.2.1 rfl (lv_at0 hl) ?_
            refine lv_aload_n hx hb gX12_next_3.2.2.2.2.2.2.2.2.1 rfl (lv_at0 hl) ?_
            refine gf_X12_214 hC rfl hK hP 0 rfl rfl gX12_next_3.2.2.2.2.2.2.2.2.2 ?_
            refine lv_bipush (v := 97) hx hb gX12_next_4.1 (by decide) ?_
            refine lv_bipush (v := 122) hx hb gX12_next_4.2.1 (by decide) ?_
            refine pV hC hK hl hP hD (m_isInT l G h0 vf 97 122 nw nk mhasKept nt ktp nr mrowMany mroundOf mroundFrom mouts nm mfromHour mtoHour ns (nI vf) (nI vf) msort misFault mdeep mcoded mlines nl nc nF np ntr nb mbestCost nso nsi nit nsh nsf nss nrc mtraced mdealer mnumber mwhose msize misParted fnt (by omega) (htp)) si_X12_220 [0, 1] sm_0_1 fm_0_1 nd_0_1 rfl rfl rfl rfl rfl (Nat.le_of_ble_eq_true rfl) rm_3_2_4 ⟨by first | exact Nat.le_of_ble_eq_true rfl | exact Nat.zero_le _, by first | exact Nat.le_of_ble_eq_true rfl | exact Nat.zero_le _⟩ gX12_next_4.2.2.1 (Kors (Keqa fun a6394 => ?_) (Keqr ?_))
            · refine lv_if_eq (tgt := 91) hx hb gX12_next_4.2.2.2.1 (by decide) (fun c9 => absurd c9 (by decide)) (fun _ => ?_)
              refine lv_iconst (v := 1) hx hb gX12_next_4.2.2.2.2.1 (by decide) ?_
              refine lv_goto (tgt := 111) hx hb gX12_next_4.2.2.2.2.2.1 (by decide) ?_
              refine pf_X12_217 hC rfl hK hP hD hS 0 (ws' := [(h0, oX12 nw nk mhasKept nt (nI ktp) nr mrowMany mroundOf mroundFrom mouts nm mfromHour mtoHour ns (nI vf) (nI vf) 1 misFault mdeep mcoded mlines nl nc nF np ntr nb mbestCost nso nsi nit nsh nsf nss nrc mtraced mdealer mnumber mwhose msize misParted), (nt, iA G 240 fnt)]) rfl (Nat.le_of_ble_eq_true rfl) rfl rfl rfl gX12_next_5.2.2.2.2.2.2.1 (fun H locs hP hD hS => ?_)
              refine lv_aload_n hx hb gX12_next_5.2.2.2.2.2.2.2.1 rfl (lv_at0 hl) ?_
              refine lv_dup hx hb gX12_next_5.2.2.2.2.2.2.2.2.1 rfl ?_
              refine gf_X12_211 hC rfl hK hP 0 rfl rfl gX12_next_5.2.2.2.2.2.2.2.2.2 ?_
              refine lv_iconst (v := 1) hx hb gX12_next_6.1 (by decide) ?_
              refine lv_iadd hx hb gX12_next_6.2.1 ?_
              refine eqi (x1 := nI (vf + 1)) (nI_add vf 1) ?_
              refine pf_X12_211 hC rfl hK hP hD hS 0 (ws' := [(h0, oX12 nw nk mhasKept nt (nI ktp) nr mrowMany mroundOf mroundFrom mouts nm mfromHour mtoHour ns (nI vf) (nI (vf + 1)) 1 misFault mdeep mcoded mlines nl nc nF np ntr nb mbestCost nso nsi nit nsh nsf nss nrc mtraced mdealer mnumber mwhose msize misParted), (nt, iA G 240 fnt)]) rfl (Nat.le_of_ble_eq_true rfl) rfl rfl rfl gX12_next_6.2.2.1 (fun H locs hP hD hS => ?_)
              have keyB : ∀ (nB : Nat) (vt : Nat) (H : Heap) (locs : List Loc) (ls : Array Slot), (vf < vt ∧ vt ≤ ktp ∧ ktp < vt + nB) → va_PD G A [(h0, oX12 nw nk mhasKept nt (nI ktp) nr mrowMany mroundOf mroundFrom mouts nm mfromHour mtoHour ns (nI vf) (nI vt) 1 misFault mdeep mcoded mlines nl nc nF np ntr nb mbestCost nso nsi nit nsh nsf nss nrc mtraced mdealer mnumber mwhose msize misParted), (nt, iA G 240 fnt)] H → va_S A s.heap H locs → lv_has ls 1 [(0, .ref h0)] → W p l e (RM 3 0 0) s m ([.ref h0] : List Value).toArray below meth c H locs 0 0 Q0 (F0 m 124 ls []) := by
                intro nB
                induction nB with
                | zero =>
                  intro vt H locs ls hiB hPD hS hl
                  refine Kan2 hPD (fun hP hD => ?_)
                  exact (show False by omega).elim
                | succ nB ihB =>
                  intro vt H locs ls hiB hPD hS hl
                  refine Kan2 hPD (fun hP hD => ?_)
                  refine lv_aload_n hx hb gX12_next_6.2.2.2.1 rfl (lv_at0 hl) ?_
                  refine gf_X12_217 hC rfl hK hP 0 rfl rfl gX12_next_6.2.2.2.2.1 ?_
                  refine lv_iconst (v := 1) hx hb gX12_next_6.2.2.2.2.2.1 (by decide) ?_
                  refine lv_icmp_ne (tgt := 147) hx hb gX12_next_6.2.2.2.2.2.2.1 (by decide) (fun c9 => absurd (by decide) c9) (fun _ => ?_)
                  refine lv_aload_n hx hb gX12_next_6.2.2.2.2.2.2.2.1 rfl (lv_at0 hl) ?_
                  refine lv_aload_n hx hb gX12_next_6.2.2.2.2.2.2.2.2.1 rfl (lv_at0 hl) ?_
                  refine gf_X12_211 hC rfl hK hP 0 rfl rfl gX12_next_6.2.2.2.2.2.2.2.2.2 ?_
                  refine lv_bipush (v := 97) hx hb gX12_next_7.1 (by decide) ?_
                  refine lv_bipush (v := 122) hx hb gX12_next_7.2.1 (by decide) ?_
                  refine pV hC hK hl hP hD (m_isInT l G h0 vt 97 122 nw nk mhasKept nt ktp nr mrowMany mroundOf mroundFrom mouts nm mfromHour mtoHour ns (nI vf) (nI vt) 1 misFault mdeep mcoded mlines nl nc nF np ntr nb mbestCost nso nsi nit nsh nsf nss nrc mtraced mdealer mnumber mwhose msize misParted fnt (by omega) (htp)) si_X12_220 [0, 1] sm_0_1 fm_0_1 nd_0_1 rfl rfl rfl rfl rfl (Nat.le_of_ble_eq_true rfl) rm_3_2_4 ⟨by first | exact Nat.le_of_ble_eq_true rfl | exact Nat.zero_le _, by first | exact Nat.le_of_ble_eq_true rfl | exact Nat.zero_le _⟩ gX12_next_7.2.2.1 (Kors (Keqa fun a6396 => ?_) (Keqr ?_))
                  · refine lv_if_ne (tgt := 170) hx hb gX12_next_7.2.2.2.1 (by decide) (fun _ => ?_) (fun c9 => absurd c9 (by decide))
                    refine lv_aload_n hx hb gX12_next_8.2.2.2.2.2.1 rfl (lv_at0 hl) ?_
                    refine lv_dup hx hb gX12_next_8.2.2.2.2.2.2.1 rfl ?_
                    refine gf_X12_211 hC rfl hK hP 0 rfl rfl gX12_next_8.2.2.2.2.2.2.2.1 ?_
                    refine lv_iconst (v := 1) hx hb gX12_next_8.2.2.2.2.2.2.2.2.1 (by decide) ?_
                    refine lv_iadd hx hb gX12_next_8.2.2.2.2.2.2.2.2.2 ?_
                    refine eqi (x1 := nI (vt + 1)) (nI_add vt 1) ?_
                    refine pf_X12_211 hC rfl hK hP hD hS 0 (ws' := [(h0, oX12 nw nk mhasKept nt (nI ktp) nr mrowMany mroundOf mroundFrom mouts nm mfromHour mtoHour ns (nI vf) (nI (vt + 1)) 1 misFault mdeep mcoded mlines nl nc nF np ntr nb mbestCost nso nsi nit nsh nsf nss nrc mtraced mdealer mnumber mwhose msize misParted), (nt, iA G 240 fnt)]) rfl (Nat.le_of_ble_eq_true rfl) rfl rfl rfl gX12_next_9.1 (fun H locs hP hD hS => ?_)
                    refine lv_goto (tgt := 124) hx hb gX12_next_9.2.1 (by decide) ?_
                    exact ihB (vt + 1) _ _ _ (by omega) (And.intro hP hD) hS (lv_sub hl [0] rfl)
                  · refine lv_if_ne (tgt := 170) hx hb gX12_next_7.2.2.2.1 (by decide) (fun c9 => absurd (by decide) c9) (fun _ => ?_)
                    refine lv_aload_n hx hb gX12_next_7.2.2.2.2.1 rfl (lv_at0 hl) ?_
                    refine gf_X12_217 hC rfl hK hP 0 rfl rfl gX12_next_7.2.2.2.2.2.1 ?_
                    refine lv_iconst (v := 2) hx hb gX12_next_7.2.2.2.2.2.2.1 (by decide) ?_
                    refine lv_icmp_ne (tgt := 183) hx hb gX12_next_7.2.2.2.2.2.2.2.1 (by decide) (fun _ => ?_) (fun c9 => absurd c9 (by decide))
                    refine toQ hQ0 ?_
                    exact RV hC hP hD hS [0, 1] (vf, vt, 1) rfl rfl (by decide) (⟨by (try dsimp only); omega, TOK.n1 (by (try dsimp only); omega) (by (try dsimp only); omega)⟩) gX12_next_9.2.2
              exact keyB (ktp + 1) (vf + 1) _ _ _ (by omega) (And.intro hP hD) hS (lv_sub hl [0] rfl)
            · refine lv_if_eq (tgt := 91) hx hb gX12_next_4.2.2.2.1 (by decide) (fun _ => ?_) (fun c9 => absurd (by decide) c9)
              refine lv_aload_n hx hb gX12_next_4.2.2.2.2.2.2.1 rfl (lv_at0 hl) ?_
              refine lv_aload_n hx hb gX12_next_4.2.2.2.2.2.2.2.1 rfl (lv_at0 hl) ?_
              refine gf_X12_214 hC rfl hK hP 0 rfl rfl gX12_next_4.2.2.2.2.2.2.2.2.1 ?_
              refine lv_bipush (v := 48) hx hb gX12_next_4.2.2.2.2.2.2.2.2.2 (by decide) ?_
              refine lv_bipush (v := 57) hx hb gX12_next_5.1 (by decide) ?_
              refine pV hC hK hl hP hD (m_isInT l G h0 vf 48 57 nw nk mhasKept nt ktp nr mrowMany mroundOf mroundFrom mouts nm mfromHour mtoHour ns (nI vf) (nI vf) msort misFault mdeep mcoded mlines nl nc nF np ntr nb mbestCost nso nsi nit nsh nsf nss nrc mtraced mdealer mnumber mwhose msize misParted fnt (by omega) (htp)) si_X12_220 [0, 1] sm_0_1 fm_0_1 nd_0_1 rfl rfl rfl rfl rfl (Nat.le_of_ble_eq_true rfl) rm_3_2_4 ⟨by first | exact Nat.le_of_ble_eq_true rfl | exact Nat.zero_le _, by first | exact Nat.le_of_ble_eq_true rfl | exact Nat.zero_le _⟩ gX12_next_5.2.1 (Kors (Keqa fun a6398 => ?_) (Keqr ?_))
              · refine lv_if_eq (tgt := 110) hx hb gX12_next_5.2.2.1 (by decide) (fun c9 => absurd c9 (by decide)) (fun _ => ?_)
                refine lv_iconst (v := 2) hx hb gX12_next_5.2.2.2.1 (by decide) ?_
                refine lv_goto (tgt := 111) hx hb gX12_next_5.2.2.2.2.1 (by decide) ?_
                refine pf_X12_217 hC rfl hK hP hD hS 0 (ws' := [(h0, oX12 nw nk mhasKept nt (nI ktp) nr mrowMany mroundOf mroundFrom mouts nm mfromHour mtoHour ns (nI vf) (nI vf) 2 misFault mdeep mcoded mlines nl nc nF np ntr nb mbestCost nso nsi nit nsh nsf nss nrc mtraced mdealer mnumber mwhose msize misParted), (nt, iA G 240 fnt)]) rfl (Nat.le_of_ble_eq_true rfl) rfl rfl rfl gX12_next_5.2.2.2.2.2.2.1 (fun H locs hP hD hS => ?_)
                refine lv_aload_n hx hb gX12_next_5.2.2.2.2.2.2.2.1 rfl (lv_at0 hl) ?_
                refine lv_dup hx hb gX12_next_5.2.2.2.2.2.2.2.2.1 rfl ?_
                refine gf_X12_211 hC rfl hK hP 0 rfl rfl gX12_next_5.2.2.2.2.2.2.2.2.2 ?_
                refine lv_iconst (v := 1) hx hb gX12_next_6.1 (by decide) ?_
                refine lv_iadd hx hb gX12_next_6.2.1 ?_
                refine eqi (x1 := nI (vf + 1)) (nI_add vf 1) ?_
                refine pf_X12_211 hC rfl hK hP hD hS 0 (ws' := [(h0, oX12 nw nk mhasKept nt (nI ktp) nr mrowMany mroundOf mroundFrom mouts nm mfromHour mtoHour ns (nI vf) (nI (vf + 1)) 2 misFault mdeep mcoded mlines nl nc nF np ntr nb mbestCost nso nsi nit nsh nsf nss nrc mtraced mdealer mnumber mwhose msize misParted), (nt, iA G 240 fnt)]) rfl (Nat.le_of_ble_eq_true rfl) rfl rfl rfl gX12_next_6.2.2.1 (fun H locs hP hD hS => ?_)
                have keyB : ∀ (nB : Nat) (vt : Nat) (H : Heap) (locs : List Loc) (ls : Array Slot), (vf < vt ∧ vt ≤ ktp ∧ ktp < vt + nB) → (DG fnt vf vt) → va_PD G A [(h0, oX12 nw nk mhasKept nt (nI ktp) nr mrowMany mroundOf mroundFrom mouts nm mfromHour mtoHour ns (nI vf) (nI vt) 2 misFault mdeep mcoded mlines nl nc nF np ntr nb mbestCost nso nsi nit nsh nsf nss nrc mtraced mdealer mnumber mwhose msize misParted), (nt, iA G 240 fnt)] H → va_S A s.heap H locs → lv_has ls 1 [(0, .ref h0)] → W p l e (RM 3 0 0) s m ([.ref h0] : List Value).toArray below meth c H locs 0 0 Q0 (F0 m 124 ls []) := by
                  intro nB
                  induction nB with
                  | zero =>
                    intro vt H locs ls hiB hdB hPD hS hl
                    refine Kan2 hPD (fun hP hD => ?_)
                    exact (show False by omega).elim
                  | succ nB ihB =>
                    intro vt H locs ls hiB hdB hPD hS hl
                    refine Kan2 hPD (fun hP hD => ?_)
                    refine lv_aload_n hx hb gX12_next_6.2.2.2.1 rfl (lv_at0 hl) ?_
                    refine gf_X12_217 hC rfl hK hP 0 rfl rfl gX12_next_6.2.2.2.2.1 ?_
                    refine lv_iconst (v := 1) hx hb gX12_next_6.2.2.2.2.2.1 (by decide) ?_
                    refine lv_icmp_ne (tgt := 147) hx hb gX12_next_6.2.2.2.2.2.2.1 (by decide) (fun _ => ?_) (fun c9 => absurd c9 (by decide))
                    refine lv_aload_n hx hb gX12_next_7.2.2.2.2.1 rfl (lv_at0 hl) ?_
                    refine gf_X12_217 hC rfl hK hP 0 rfl rfl gX12_next_7.2.2.2.2.2.1 ?_
                    refine lv_iconst (v := 2) hx hb gX12_next_7.2.2.2.2.2.2.1 (by decide) ?_
                    refine lv_icmp_ne (tgt := 183) hx hb gX12_next_7.2.2.2.2.2.2.2.1 (by decide) (fun c9 => absurd (by decide) c9) (fun _ => ?_)
                    refine lv_aload_n hx hb gX12_next_7.2.2.2.2.2.2.2.2.1 rfl (lv_at0 hl) ?_
                    refine lv_aload_n hx hb gX12_next_7.2.2.2.2.2.2.2.2.2 rfl (lv_at0 hl) ?_
                    refine gf_X12_211 hC rfl hK hP 0 rfl rfl gX12_next_8.1 ?_
                    refine lv_bipush (v := 48) hx hb gX12_next_8.2.1 (by decide) ?_
                    refine lv_bipush (v := 57) hx hb gX12_next_8.2.2.1 (by decide) ?_
                    refine pV hC hK hl hP hD (m_isInT l G h0 vt 48 57 nw nk mhasKept nt ktp nr mrowMany mroundOf mroundFrom mouts nm mfromHour mtoHour ns (nI vf) (nI vt) 2 misFault mdeep mcoded mlines nl nc nF np ntr nb mbestCost nso nsi nit nsh nsf nss nrc mtraced mdealer mnumber mwhose msize misParted fnt (by omega) (htp)) si_X12_220 [0, 1] sm_0_1 fm_0_1 nd_0_1 rfl rfl rfl rfl rfl (Nat.le_of_ble_eq_true rfl) rm_3_2_4 ⟨by first | exact Nat.le_of_ble_eq_true rfl | exact Nat.zero_le _, by first | exact Nat.le_of_ble_eq_true rfl | exact Nat.zero_le _⟩ gX12_next_8.2.2.2.1 (Kors (Keqa fun a6402 => ?_) (Keqr ?_))
                    · refine lv_if_eq (tgt := 183) hx hb gX12_next_8.2.2.2.2.1 (by decide) (fun c9 => absurd c9 (by decide)) (fun _ => ?_)
                      refine lv_aload_n hx hb gX12_next_8.2.2.2.2.2.1 rfl (lv_at0 hl) ?_
                      refine lv_dup hx hb gX12_next_8.2.2.2.2.2.2.1 rfl ?_
                      refine gf_X12_211 hC rfl hK hP 0 rfl rfl gX12_next_8.2.2.2.2.2.2.2.1 ?_
                      refine lv_iconst (v := 1) hx hb gX12_next_8.2.2.2.2.2.2.2.2.1 (by decide) ?_
                      refine lv_iadd hx hb gX12_next_8.2.2.2.2.2.2.2.2.2 ?_
                      refine eqi (x1 := nI (vt + 1)) (nI_add vt 1) ?_
                      refine pf_X12_211 hC rfl hK hP hD hS 0 (ws' := [(h0, oX12 nw nk mhasKept nt (nI ktp) nr mrowMany mroundOf mroundFrom mouts nm mfromHour mtoHour ns (nI vf) (nI (vt + 1)) 2 misFault mdeep mcoded mlines nl nc nF np ntr nb mbestCost nso nsi nit nsh nsf nss nrc mtraced mdealer mnumber mwhose msize misParted), (nt, iA G 240 fnt)]) rfl (Nat.le_of_ble_eq_true rfl) rfl rfl rfl gX12_next_9.1 (fun H locs hP hD hS => ?_)
                      refine lv_goto (tgt := 124) hx hb gX12_next_9.2.1 (by decide) ?_
                      exact ihB (vt + 1) _ _ _ (by omega) (hdB.next a6402.2) (And.intro hP hD) hS (lv_sub hl [0] rfl)
                    · refine lv_if_eq (tgt := 183) hx hb gX12_next_8.2.2.2.2.1 (by decide) (fun _ => ?_) (fun c9 => absurd (by decide) c9)
                      refine toQ hQ0 ?_
                      exact RV hC hP hD hS [0, 1] (vf, vt, 2) rfl rfl (by decide) (⟨by (try dsimp only); omega, TOK.n2 (by (try dsimp only); omega) (by (try dsimp only); omega) (by first | assumption)⟩) gX12_next_9.2.2
                exact keyB (ktp + 1) (vf + 1) _ _ _ (by omega) (DG.zero.next a6398.2) (And.intro hP hD) hS (lv_sub hl [0] rfl)
              · refine lv_if_eq (tgt := 110) hx hb gX12_next_5.2.2.1 (by decide) (fun _ => ?_) (fun c9 => absurd (by decide) c9)
                refine lv_iconst (v := 3) hx hb gX12_next_5.2.2.2.2.2.1 (by decide) ?_
                refine pf_X12_217 hC rfl hK hP hD hS 0 (ws' := [(h0, oX12 nw nk mhasKept nt (nI ktp) nr mrowMany mroundOf mroundFrom mouts nm mfromHour mtoHour ns (nI vf) (nI vf) 3 misFault mdeep mcoded mlines nl nc nF np ntr nb mbestCost nso nsi nit nsh nsf nss nrc mtraced mdealer mnumber mwhose msize misParted), (nt, iA G 240 fnt)]) rfl (Nat.le_of_ble_eq_true rfl) rfl rfl rfl gX12_next_5.2.2.2.2.2.2.1 (fun H locs hP hD hS => ?_)
                refine lv_aload_n hx hb gX12_next_5.2.2.2.2.2.2.2.1 rfl (lv_at0 hl) ?_
                refine lv_dup hx hb gX12_next_5.2.2.2.2.2.2.2.2.1 rfl ?_
                refine gf_X12_211 hC rfl hK hP 0 rfl rfl gX12_next_5.2.2.2.2.2.2.2.2.2 ?_
                refine lv_iconst (v := 1) hx hb gX12_next_6.1 (by decide) ?_
                refine lv_iadd hx hb gX12_next_6.2.1 ?_
                refine eqi (x1 := nI (vf + 1)) (nI_add vf 1) ?_
                refine pf_X12_211 hC rfl hK hP hD hS 0 (ws' := [(h0, oX12 nw nk mhasKept nt (nI ktp) nr mrowMany mroundOf mroundFrom mouts nm mfromHour mtoHour ns (nI vf) (nI (vf + 1)) 3 misFault mdeep mcoded mlines nl nc nF np ntr nb mbestCost nso nsi nit nsh nsf nss nrc mtraced mdealer mnumber mwhose msize misParted), (nt, iA G 240 fnt)]) rfl (Nat.le_of_ble_eq_true rfl) rfl rfl rfl gX12_next_6.2.2.1 (fun H locs hP hD hS => ?_)
                refine lv_aload_n hx hb gX12_next_6.2.2.2.1 rfl (lv_at0 hl) ?_
                refine gf_X12_217 hC rfl hK hP 0 rfl rfl gX12_next_6.2.2.2.2.1 ?_
                refine lv_iconst (v := 1) hx hb gX12_next_6.2.2.2.2.2.1 (by decide) ?_
                refine lv_icmp_ne (tgt := 147) hx hb gX12_next_6.2.2.2.2.2.2.1 (by decide) (fun _ => ?_) (fun c9 => absurd c9 (by decide))
                refine lv_aload_n hx hb gX12_next_7.2.2.2.2.1 rfl (lv_at0 hl) ?_
                refine gf_X12_217 hC rfl hK hP 0 rfl rfl gX12_next_7.2.2.2.2.2.1 ?_
                refine lv_iconst (v := 2) hx hb gX12_next_7.2.2.2.2.2.2.1 (by decide) ?_
                refine lv_icmp_ne (tgt := 183) hx hb gX12_next_7.2.2.2.2.2.2.2.1 (by decide) (fun _ => ?_) (fun c9 => absurd c9 (by decide))
                refine toQ hQ0 ?_
                exact RV hC hP hD hS [0, 1] (vf, (vf + 1), 3) rfl rfl (by decide) (⟨by (try dsimp only); omega, TOK.n3 (by (try dsimp only); omega) (by (try dsimp only); omega)⟩) gX12_next_9.2.2
          · refine lv_aload_n hx hb gX12_next_3.2.2.1 rfl (lv_at0 hl) ?_
            refine lv_iconst (v := 0) hx hb gX12_next_3.2.2.2.1 (by decide) ?_
            refine pf_X12_217 hC rfl hK hP hD hS 0 (ws' := [(h0, oX12 nw nk mhasKept nt (nI ktp) nr mrowMany mroundOf mroundFrom mouts nm mfromHour mtoHour ns (nI vf) (nI vf) 0 misFault mdeep mcoded mlines nl nc nF np ntr nb mbestCost nso nsi nit nsh nsf nss nrc mtraced mdealer mnumber mwhose msize misParted), (nt, iA G 240 fnt)]) rfl (Nat.le_of_ble_eq_true rfl) rfl rfl rfl gX12_next_3.2.2.2.2.1 (fun H locs hP hD hS => ?_)
            refine toQ hQ0 ?_
            exact RV hC hP hD hS [0, 1] (vf, vf, 0) rfl rfl (by decide) (⟨by (try dsimp only); omega, TOK.n0 (by (try dsimp only); omega)⟩) gX12_next_3.2.2.2.2.2.1
        · refine lv_aload_n hx hb gX12_next_1.2.2.2.2.2.2.1 rfl (lv_at0 hl) ?_
          refine lv_dup hx hb gX12_next_1.2.2.2.2.2.2.2.1 rfl ?_
          refine gf_X12_214 hC rfl hK hP 0 rfl rfl gX12_next_1.2.2.2.2.2.2.2.2.1 ?_
          refine lv_iconst (v := 1) hx hb gX12_next_1.2.2.2.2.2.2.2.2.2 (by decide) ?_
          refine lv_iadd hx hb gX12_next_2.1 ?_
          refine eqi (x1 := nI (vf + 1)) (nI_add vf 1) ?_
          refine pf_X12_214 hC rfl hK hP hD hS 0 (ws' := [(h0, oX12 nw nk mhasKept nt (nI ktp) nr mrowMany mroundOf mroundFrom mouts nm mfromHour mtoHour ns (nI (vf + 1)) (nI kt) msort misFault mdeep mcoded mlines nl nc nF np ntr nb mbestCost nso nsi nit nsh nsf nss nrc mtraced mdealer mnumber mwhose msize misParted), (nt, iA G 240 fnt)]) rfl (Nat.le_of_ble_eq_true rfl) rfl rfl rfl gX12_next_2.2.1 (fun H locs hP hD hS => ?_)
          refine lv_goto (tgt := 8) hx hb gX12_next_2.2.2.1 (by decide) ?_
          exact ihA (vf + 1) _ _ _ (by omega) (And.intro hP hD) hS (lv_sub hl [0] rfl)
  exact keyA (ktp + 1) kt _ _ _ (by omega) (And.intro hP hD) hS (lv_sub hl [0] rfl)
def K_m_isInB (l : Launch) (G : GG) (h0 : Nat) (ja : Nat) (lo : Int32) (hi : Int32) (nw : Nat) (nk : Nat) (mhasKept : Int32) (nt : Nat) (ktp : Nat) (nr : Nat) (mrowMany : Int32) (mroundOf : Int32) (mroundFrom : Int32) (mouts : Int32) (nm : Nat) (mfromHour : Int32) (mtoHour : Int32) (ns : Nat) (mfrom : Int32) (mto : Int32) (msort : Int32) (misFault : Int32) (mdeep : Int32) (mcoded : Int32) (mlines : Int32) (nl : Nat) (nc : Nat) (nF : Nat) (np : Nat) (ntr : Nat) (nb : Nat) (mbestCost : Int32) (nso : Nat) (nsi : Nat) (nit : Nat) (nsh : Nat) (nsf : Nat) (nss : Nat) (nrc : Nat) (mtraced : Int32) (mdealer : Int32) (mnumber : Int32) (mwhose : Int32) (msize : Int32) (misParted : Int32) (fnt : Nat → Int32) (bt : Nat → Int32) : Prop := MP l G yX12_isIn_ cX12_isIn_ 4 (some .boolean) 2 [.ref h0, .int (nI ja), .int lo, .int hi] [(h0, oX12 nw nk mhasKept nt (nI ktp) nr mrowMany mroundOf mroundFrom mouts nm mfromHour mtoHour ns mfrom mto msort misFault mdeep mcoded mlines nl nc nF np ntr nb mbestCost nso nsi nit nsh nsf nss nrc mtraced mdealer mnumber mwhose msize misParted), (nt, iA G 240 fnt)] (fun r : Int32 => (r = 1 ∧ ja < ktp ∧ Wi (bt ja) lo hi) ∨ (r = 0 ∧ ¬ (ja < ktp ∧ Wi (bt ja) lo hi)))
set_option maxHeartbeats 4000000 in
set_option maxRecDepth 100000 in
theorem m_isInB (l : Launch) (G : GG) (h0 : Nat) (ja : Nat) (lo : Int32) (hi : Int32) (nw : Nat) (nk : Nat) (mhasKept : Int32) (nt : Nat) (ktp : Nat) (nr : Nat) (mrowMany : Int32) (mroundOf : Int32) (mroundFrom : Int32) (mouts : Int32) (nm : Nat) (mfromHour : Int32) (mtoHour : Int32) (ns : Nat) (mfrom : Int32) (mto : Int32) (msort : Int32) (misFault : Int32) (mdeep : Int32) (mcoded : Int32) (mlines : Int32) (nl : Nat) (nc : Nat) (nF : Nat) (np : Nat) (ntr : Nat) (nb : Nat) (mbestCost : Int32) (nso : Nat) (nsi : Nat) (nit : Nat) (nsh : Nat) (nsf : Nat) (nss : Nat) (nrc : Nat) (mtraced : Int32) (mdealer : Int32) (mnumber : Int32) (mwhose : Int32) (msize : Int32) (misParted : Int32) (fnt : Nat → Int32) (bt : Nat → Int32) (hja : ja < 2 ^ 31) (htp : ktp ≤ 240) (hFB : FBT fnt bt ktp) : K_m_isInB l G h0 ja lo hi nw nk mhasKept nt ktp nr mrowMany mroundOf mroundFrom mouts nm mfromHour mtoHour ns mfrom mto msort misFault mdeep mcoded mlines nl nc nF np ntr nb mbestCost nso nsi nit nsh nsf nss nrc mtraced mdealer mnumber mwhose msize misParted fnt bt := by
  refine MP.start (by decide +kernel) (Nat.le_of_ble_eq_true rfl) ?_
  intro p e s m below meth c ls hC hK hP hD hl
  refine absQ (fun Q0 hQ0 => ?_)
  have hl : lv_has ls 4 [(0, .ref h0), (1, .int (nI ja)), (2, .int lo), (3, .int hi)] := hl
  refine Kan8 hC (fun hx hb hr hml hB hown hlocks hnm => ?_)
  refine lv_iload_n hx hb gX12_isIn__0.1 rfl (lv_at1 hl) ?_
  refine lv_aload_n hx hb gX12_isIn__0.2.1 rfl (lv_at0 hl) ?_
  refine gf_X12_206 hC rfl hK hP 0 rfl rfl gX12_isIn__0.2.2.1 ?_
  refine lv_icmp_ge (tgt := 26) hx hb gX12_isIn__0.2.2.2.1 (by decide) (fun c_5_6403 => ?_) (fun c_5_6403 => ?_)
  · have nb6404 : ktp ≤ ja := (nI_leI (a := ktp) (b := ja) (by omega) (by omega)).mp c_5_6403
    refine lv_iconst (v := 0) hx hb gX12_isIn__1.2.2.2.2.1 (by decide) ?_
    refine toQ hQ0 ?_
    exact RP (v := 0) hC (Or.inr ⟨rfl, fun h9 => absurd h9.1 (by omega)⟩) (by decide +kernel) gX12_isIn__1.2.2.2.2.2
  · have nb6405 : ¬ ktp ≤ ja := fun h9 => c_5_6403 ((nI_leI (a := ktp) (b := ja) (by omega) (by omega)).mpr h9)
    refine lv_aload_n hx hb gX12_isIn__0.2.2.2.2.1 rfl (lv_at0 hl) ?_
    refine gf_X12_16 hC rfl hK hP 0 rfl rfl gX12_isIn__0.2.2.2.2.2.1 ?_
    refine lv_iload_n hx hb gX12_isIn__0.2.2.2.2.2.2.1 rfl (lv_at1 hl) ?_
    refine aldN hC hK hP 1 rfl (k := ja) (by omega) (Nat.le_of_ble_eq_true rfl) (v := fnt ja) rfl gX12_isIn__0.2.2.2.2.2.2.2.1 ?_
    refine eqi (x1 := bt ja) (hFB _ (by omega)) ?_
    refine lv_iload_n hx hb gX12_isIn__0.2.2.2.2.2.2.2.2.1 rfl (lv_at2 hl) ?_
    refine lv_iload_n hx hb gX12_isIn__0.2.2.2.2.2.2.2.2.2 rfl (lv_at3 hl) ?_
    refine pS hC hK hl (m_within l G (bt ja) lo hi) si_X12_84 rfl rfl (Nat.le_of_ble_eq_true rfl) rm_2_1_3 ⟨by first | exact Nat.le_of_ble_eq_true rfl | exact Nat.zero_le _, by first | exact Nat.le_of_ble_eq_true rfl | exact Nat.zero_le _⟩ gX12_isIn__1.1 (Kors (Keqa fun a6407 => ?_) (Keqa fun a6407 => ?_))
    · refine lv_if_eq (tgt := 26) hx hb gX12_isIn__1.2.1 (by decide) (fun c9 => absurd c9 (by decide)) (fun _ => ?_)
      refine lv_iconst (v := 1) hx hb gX12_isIn__1.2.2.1 (by decide) ?_
      refine lv_goto (tgt := 27) hx hb gX12_isIn__1.2.2.2.1 (by decide) ?_
      refine toQ hQ0 ?_
      exact RP (v := 1) hC (Or.inl ⟨rfl, by omega, a6407⟩) (by decide +kernel) gX12_isIn__1.2.2.2.2.2
    · refine lv_if_eq (tgt := 26) hx hb gX12_isIn__1.2.1 (by decide) (fun _ => ?_) (fun c9 => absurd (by decide) c9)
      refine lv_iconst (v := 0) hx hb gX12_isIn__1.2.2.2.2.1 (by decide) ?_
      refine toQ hQ0 ?_
      exact RP (v := 0) hC (Or.inr ⟨rfl, fun h9 => a6407 h9.2⟩) (by decide +kernel) gX12_isIn__1.2.2.2.2.2
def K_m_nextX (l : Launch) (G : GG) (h0 : Nat) (nw : Nat) (nk : Nat) (mhasKept : Int32) (nt : Nat) (ktp : Nat) (nr : Nat) (mrowMany : Int32) (mroundOf : Int32) (mroundFrom : Int32) (mouts : Int32) (nm : Nat) (mfromHour : Int32) (mtoHour : Int32) (ns : Nat) (mfrom : Int32) (kt : Nat) (msort : Int32) (misFault : Int32) (mdeep : Int32) (mcoded : Int32) (mlines : Int32) (nl : Nat) (nc : Nat) (nF : Nat) (np : Nat) (ntr : Nat) (nb : Nat) (mbestCost : Int32) (nso : Nat) (nsi : Nat) (nit : Nat) (nsh : Nat) (nsf : Nat) (nss : Nat) (nrc : Nat) (mtraced : Int32) (mdealer : Int32) (mnumber : Int32) (mwhose : Int32) (msize : Int32) (misParted : Int32) (fnt : Nat → Int32) (bt : Nat → Int32) : Prop := MV l G yX12_next cX12_next 1 3 0 0 [.ref h0] [(h0, oX12 nw nk mhasKept nt (nI ktp) nr mrowMany mroundOf mroundFrom mouts nm mfromHour mtoHour ns mfrom (nI kt) msort misFault mdeep mcoded mlines nl nc nF np ntr nb mbestCost nso nsi nit nsh nsf nss nrc mtraced mdealer mnumber mwhose msize misParted), (nt, iA G 240 fnt)] (fun u : Unit => True) (fun u : Unit => [(h0, oX12 nw nk mhasKept nt (nI ktp) nr mrowMany mroundOf mroundFrom mouts nm mfromHour mtoHour ns (nI (SK bt ktp kt)) (nI (TKE bt ktp (SK bt ktp kt))) (nI (TKN bt ktp (SK bt ktp kt))) misFault mdeep mcoded mlines nl nc nF np ntr nb mbestCost nso nsi nit nsh nsf nss nrc mtraced mdealer mnumber mwhose msize misParted), (nt, iA G 240 fnt)])
set_option maxHeartbeats 4000000 in
set_option maxRecDepth 100000 in
theorem m_nextX (l : Launch) (G : GG) (h0 : Nat) (nw : Nat) (nk : Nat) (mhasKept : Int32) (nt : Nat) (ktp : Nat) (nr : Nat) (mrowMany : Int32) (mroundOf : Int32) (mroundFrom : Int32) (mouts : Int32) (nm : Nat) (mfromHour : Int32) (mtoHour : Int32) (ns : Nat) (mfrom : Int32) (kt : Nat) (msort : Int32) (misFault : Int32) (mdeep : Int32) (mcoded : Int32) (mlines : Int32) (nl : Nat) (nc : Nat) (nF : Nat) (np : Nat) (ntr : Nat) (nb : Nat) (mbestCost : Int32) (nso : Nat) (nsi : Nat) (nit : Nat) (nsh : Nat) (nsf : Nat) (nss : Nat) (nrc : Nat) (mtraced : Int32) (mdealer : Int32) (mnumber : Int32) (mwhose : Int32) (msize : Int32) (misParted : Int32) (fnt : Nat → Int32) (bt : Nat → Int32) (hkt : kt ≤ ktp) (htp : ktp ≤ 240) (hFB : FBT fnt bt ktp) : K_m_nextX l G h0 nw nk mhasKept nt ktp nr mrowMany mroundOf mroundFrom mouts nm mfromHour mtoHour ns mfrom kt msort misFault mdeep mcoded mlines nl nc nF np ntr nb mbestCost nso nsi nit nsh nsf nss nrc mtraced mdealer mnumber mwhose msize misParted fnt bt := by
  refine MV.start (by decide +kernel) (Nat.le_of_ble_eq_true rfl) ?_
  intro p e s m below meth c A ls hC hK hP hD hS hA hl
  refine absQ (fun Q0 hQ0 => ?_)
  have hl : lv_has ls 1 [(0, .ref h0)] := hl
  refine Kan8 hC (fun hx hb hr hml hB hown hlocks hnm => ?_)
  refine lv_aload_n hx hb gX12_next_0.1 rfl (lv_at0 hl) ?_
  refine lv_aload_n hx hb gX12_next_0.2.1 rfl (lv_at0 hl) ?_
  refine gf_X12_211 hC rfl hK hP 0 rfl rfl gX12_next_0.2.2.1 ?_
  refine pf_X12_214 hC rfl hK hP hD hS 0 (ws' := [(h0, oX12 nw nk mhasKept nt (nI ktp) nr mrowMany mroundOf mroundFrom mouts nm mfromHour mtoHour ns (nI kt) (nI kt) msort misFault mdeep mcoded mlines nl nc nF np ntr nb mbestCost nso nsi nit nsh nsf nss nrc mtraced mdealer mnumber mwhose msize misParted), (nt, iA G 240 fnt)]) rfl (Nat.le_of_ble_eq_true rfl) rfl rfl rfl gX12_next_0.2.2.2.1 (fun H locs hP hD hS => ?_)
  have keyA : ∀ (nA : Nat) (vf : Nat) (H : Heap) (locs : List Loc) (ls : Array Slot), (kt ≤ vf ∧ vf ≤ ktp ∧ ktp < vf + nA) → (RUN bt BLN kt vf) → va_PD G A [(h0, oX12 nw nk mhasKept nt (nI ktp) nr mrowMany mroundOf mroundFrom mouts nm mfromHour mtoHour ns (nI vf) (nI kt) msort misFault mdeep mcoded mlines nl nc nF np ntr nb mbestCost nso nsi nit nsh nsf nss nrc mtraced mdealer mnumber mwhose msize misParted), (nt, iA G 240 fnt)] H → va_S A s.heap H locs → lv_has ls 1 [(0, .ref h0)] → W p l e (RM 3 0 0) s m ([.ref h0] : List Value).toArray below meth c H locs 0 0 Q0 (F0 m 8 ls []) := by
    intro nA
    induction nA with
    | zero =>
      intro vf H locs ls hiA hbA hPD hS hl
      refine Kan2 hPD (fun hP hD => ?_)
      exact (show False by omega).elim
    | succ nA ihA =>
      intro vf H locs ls hiA hbA hPD hS hl
      refine Kan2 hPD (fun hP hD => ?_)
      refine lv_aload_n hx hb gX12_next_0.2.2.2.2.1 rfl (lv_at0 hl) ?_
      refine gf_X12_214 hC rfl hK hP 0 rfl rfl gX12_next_0.2.2.2.2.2.1 ?_
      refine lv_aload_n hx hb gX12_next_0.2.2.2.2.2.2.1 rfl (lv_at0 hl) ?_
      refine gf_X12_206 hC rfl hK hP 0 rfl rfl gX12_next_0.2.2.2.2.2.2.2.1 ?_
      refine lv_icmp_ge (tgt := 46) hx hb gX12_next_0.2.2.2.2.2.2.2.2.1 (by decide) (fun c_16_6408 => ?_) (fun c_16_6408 => ?_)
      · have nb6409 : ktp ≤ vf := (nI_leI (a := ktp) (b := vf) (by omega) (by omega)).mp c_16_6408
        have hsk : SK bt ktp kt = vf := SK.of (by omega) (by omega) hbA (fun h9 => absurd h9 (by omega))
        refine lv_aload_n hx hb gX12_next_2.2.2.2.1 rfl (lv_at0 hl) ?_
        refine lv_aload_n hx hb gX12_next_2.2.2.2.2.1 rfl (lv_at0 hl) ?_
        refine gf_X12_214 hC rfl hK hP 0 rfl rfl gX12_next_2.2.2.2.2.2.1 ?_
        refine pf_X12_211 hC rfl hK hP hD hS 0 (ws' := [(h0, oX12 nw nk mhasKept nt (nI ktp) nr mrowMany mroundOf mroundFrom mouts nm mfromHour mtoHour ns (nI vf) (nI vf) msort misFault mdeep mcoded mlines nl nc nF np ntr nb mbestCost nso nsi nit nsh nsf nss nrc mtraced mdealer mnumber mwhose msize misParted), (nt, iA G 240 fnt)]) rfl (Nat.le_of_ble_eq_true rfl) rfl rfl rfl gX12_next_2.2.2.2.2.2.2.1 (fun H locs hP hD hS => ?_)
        refine lv_aload_n hx hb gX12_next_2.2.2.2.2.2.2.2.1 rfl (lv_at0 hl) ?_
        refine gf_X12_214 hC rfl hK hP 0 rfl rfl gX12_next_2.2.2.2.2.2.2.2.2.1 ?_
        refine lv_aload_n hx hb gX12_next_2.2.2.2.2.2.2.2.2.2 rfl (lv_at0 hl) ?_
        refine gf_X12_206 hC rfl hK hP 0 rfl rfl gX12_next_3.1 ?_
        refine lv_icmp_ne (tgt := 71) hx hb gX12_next_3.2.1 (by decide) (fun c9 => absurd (congrArg nI (by omega)) c9) (fun _ => ?_)
        refine lv_aload_n hx hb gX12_next_3.2.2.1 rfl (lv_at0 hl) ?_
        refine lv_iconst (v := 0) hx hb gX12_next_3.2.2.2.1 (by decide) ?_
        refine pf_X12_217 hC rfl hK hP hD hS 0 (ws' := [(h0, oX12 nw nk mhasKept nt (nI ktp) nr mrowMany mroundOf mroundFrom mouts nm mfromHour mtoHour ns (nI vf) (nI vf) 0 misFault mdeep mcoded mlines nl nc nF np ntr nb mbestCost nso nsi nit nsh nsf nss nrc mtraced mdealer mnumber mwhose msize misParted), (nt, iA G 240 fnt)]) rfl (Nat.le_of_ble_eq_true rfl) rfl rfl rfl gX12_next_3.2.2.2.2.1 (fun H locs hP hD hS => ?_)
        obtain ⟨e2, e3⟩ := (MNX.en (by omega) : TKN bt ktp vf = 0 ∧ TKE bt ktp vf = vf)
        have hP : va_P G.1 vwCl [(h0, oX12 nw nk mhasKept nt (nI ktp) nr mrowMany mroundOf mroundFrom mouts nm mfromHour mtoHour ns (nI (SK bt ktp kt)) (nI (TKE bt ktp (SK bt ktp kt))) (nI (TKN bt ktp (SK bt ktp kt))) misFault mdeep mcoded mlines nl nc nF np ntr nb mbestCost nso nsi nit nsh nsf nss nrc mtraced mdealer mnumber mwhose msize misParted), (nt, iA G 240 fnt)] H := by rw [hsk, e2, e3]; exact hP
        have hD : va_D A [(h0, oX12 nw nk mhasKept nt (nI ktp) nr mrowMany mroundOf mroundFrom mouts nm mfromHour mtoHour ns (nI (SK bt ktp kt)) (nI (TKE bt ktp (SK bt ktp kt))) (nI (TKN bt ktp (SK bt ktp kt))) misFault mdeep mcoded mlines nl nc nF np ntr nb mbestCost nso nsi nit nsh nsf nss nrc mtraced mdealer mnumber mwhose msize misParted), (nt, iA G 240 fnt)] := by rw [hsk, e2, e3]; exact hD
        refine toQ hQ0 ?_
        exact RV hC hP hD hS [0, 1] () rfl rfl (by decide) (trivial) gX12_next_3.2.2.2.2.2.1
      · have nb6410 : ¬ ktp ≤ vf := fun h9 => c_16_6408 ((nI_leI (a := ktp) (b := vf) (by omega) (by omega)).mpr h9)
        refine lv_aload_n hx hb gX12_next_0.2.2.2.2.2.2.2.2.2 rfl (lv_at0 hl) ?_
        refine gf_X12_16 hC rfl hK hP 0 rfl rfl gX12_next_1.1 ?_
        refine lv_aload_n hx hb gX12_next_1.2.1 rfl (lv_at0 hl) ?_
        refine gf_X12_214 hC rfl hK hP 0 rfl rfl gX12_next_1.2.2.1 ?_
        refine aldN hC hK hP 1 rfl (k := vf) (by omega) (Nat.le_of_ble_eq_true rfl) (v := fnt vf) rfl gX12_next_1.2.2.2.1 ?_
        refine eqi (x1 := bt vf) (hFB _ (by omega)) ?_
        refine lv_bipush (v := 32) hx hb gX12_next_1.2.2.2.2.1 (by decide) ?_
        refine lv_icmp_ne (tgt := 46) hx hb gX12_next_1.2.2.2.2.2.1 (by decide) (fun c_30_6411 => ?_) (fun c_30_6411 => ?_)
        · have hsk : SK bt ktp kt = vf := SK.of (by omega) (by omega) hbA (fun _ => c_30_6411)
          refine lv_aload_n hx hb gX12_next_2.2.2.2.1 rfl (lv_at0 hl) ?_
          refine lv_aload_n hx hb gX12_next_2.2.2.2.2.1 rfl (lv_at0 hl) ?_
          refine gf_X12_214 hC rfl hK hP 0 rfl rfl gX12_next_2.2.2.2.2.2.1 ?_
          refine pf_X12_211 hC rfl hK hP hD hS 0 (ws' := [(h0, oX12 nw nk mhasKept nt (nI ktp) nr mrowMany mroundOf mroundFrom mouts nm mfromHour mtoHour ns (nI vf) (nI vf) msort misFault mdeep mcoded mlines nl nc nF np ntr nb mbestCost nso nsi nit nsh nsf nss nrc mtraced mdealer mnumber mwhose msize misParted), (nt, iA G 240 fnt)]) rfl (Nat.le_of_ble_eq_true rfl) rfl rfl rfl gX12_next_2.2.2.2.2.2.2.1 (fun H locs hP hD hS => ?_)
          refine lv_aload_n hx hb gX12_next_2.2.2.2.2.2.2.2.1 rfl (lv_at0 hl) ?_
          refine gf_X12_214 hC rfl hK hP 0 rfl rfl gX12_next_2.2.2.2.2.2.2.2.2.1 ?_
          refine lv_aload_n hx hb gX12_next_2.2.2.2.2.2.2.2.2.2 rfl (lv_at0 hl) ?_
          refine gf_X12_206 hC rfl hK hP 0 rfl rfl gX12_next_3.1 ?_
          refine lv_icmp_ne (tgt := 71) hx hb gX12_next_3.2.1 (by decide) (fun _ => ?_) (fun c9 => absurd c9 (fun h9 => absurd ((nI_eq (a := vf) (b := ktp) (by omega) (by omega)).mp h9) (by omega)))
          refine lv_aload_n hx hb gX12_next_3.2.2.2.2.2.2.1 rfl (lv_at0 hl) ?_
          refine lv_aload_n hx hb gX12_next_3.2.2.2.2.2.2.2.1 rfl (lv_at0 hl) ?_
          refine lv_aload_n hx hb gX12_next_3.2.2.2.2.2.2.2.2.1 rfl (lv_at0 hl) ?_
          refine gf_X12_214 hC rfl hK hP 0 rfl rfl gX12_next_3.2.2.2.2.2.2.2.2.2 ?_
          refine lv_bipush (v := 97) hx hb gX12_next_4.1 (by decide) ?_
          refine lv_bipush (v := 122) hx hb gX12_next_4.2.1 (by decide) ?_
          refine pV hC hK hl hP hD (m_isInB l G h0 vf 97 122 nw nk mhasKept nt ktp nr mrowMany mroundOf mroundFrom mouts nm mfromHour mtoHour ns (nI vf) (nI vf) msort misFault mdeep mcoded mlines nl nc nF np ntr nb mbestCost nso nsi nit nsh nsf nss nrc mtraced mdealer mnumber mwhose msize misParted fnt bt (by omega) (htp) (hFB)) si_X12_220 [0, 1] sm_0_1 fm_0_1 nd_0_1 rfl rfl rfl rfl rfl (Nat.le_of_ble_eq_true rfl) rm_3_2_4 ⟨by first | exact Nat.le_of_ble_eq_true rfl | exact Nat.zero_le _, by first | exact Nat.le_of_ble_eq_true rfl | exact Nat.zero_le _⟩ gX12_next_4.2.2.1 (Kors (Keqa fun a6413 => ?_) (Keqa fun a6413 => ?_))
          · refine lv_if_eq (tgt := 91) hx hb gX12_next_4.2.2.2.1 (by decide) (fun c9 => absurd c9 (by decide)) (fun _ => ?_)
            refine lv_iconst (v := 1) hx hb gX12_next_4.2.2.2.2.1 (by decide) ?_
            refine lv_goto (tgt := 111) hx hb gX12_next_4.2.2.2.2.2.1 (by decide) ?_
            refine pf_X12_217 hC rfl hK hP hD hS 0 (ws' := [(h0, oX12 nw nk mhasKept nt (nI ktp) nr mrowMany mroundOf mroundFrom mouts nm mfromHour mtoHour ns (nI vf) (nI vf) 1 misFault mdeep mcoded mlines nl nc nF np ntr nb mbestCost nso nsi nit nsh nsf nss nrc mtraced mdealer mnumber mwhose msize misParted), (nt, iA G 240 fnt)]) rfl (Nat.le_of_ble_eq_true rfl) rfl rfl rfl gX12_next_5.2.2.2.2.2.2.1 (fun H locs hP hD hS => ?_)
            refine lv_aload_n hx hb gX12_next_5.2.2.2.2.2.2.2.1 rfl (lv_at0 hl) ?_
            refine lv_dup hx hb gX12_next_5.2.2.2.2.2.2.2.2.1 rfl ?_
            refine gf_X12_211 hC rfl hK hP 0 rfl rfl gX12_next_5.2.2.2.2.2.2.2.2.2 ?_
            refine lv_iconst (v := 1) hx hb gX12_next_6.1 (by decide) ?_
            refine lv_iadd hx hb gX12_next_6.2.1 ?_
            refine eqi (x1 := nI (vf + 1)) (nI_add vf 1) ?_
            refine pf_X12_211 hC rfl hK hP hD hS 0 (ws' := [(h0, oX12 nw nk mhasKept nt (nI ktp) nr mrowMany mroundOf mroundFrom mouts nm mfromHour mtoHour ns (nI vf) (nI (vf + 1)) 1 misFault mdeep mcoded mlines nl nc nF np ntr nb mbestCost nso nsi nit nsh nsf nss nrc mtraced mdealer mnumber mwhose msize misParted), (nt, iA G 240 fnt)]) rfl (Nat.le_of_ble_eq_true rfl) rfl rfl rfl gX12_next_6.2.2.1 (fun H locs hP hD hS => ?_)
            have keyB : ∀ (nB : Nat) (vt : Nat) (H : Heap) (locs : List Loc) (ls : Array Slot), (vf < vt ∧ vt ≤ ktp ∧ ktp < vt + nB) → (RUN bt LTR vf vt) → va_PD G A [(h0, oX12 nw nk mhasKept nt (nI ktp) nr mrowMany mroundOf mroundFrom mouts nm mfromHour mtoHour ns (nI vf) (nI vt) 1 misFault mdeep mcoded mlines nl nc nF np ntr nb mbestCost nso nsi nit nsh nsf nss nrc mtraced mdealer mnumber mwhose msize misParted), (nt, iA G 240 fnt)] H → va_S A s.heap H locs → lv_has ls 1 [(0, .ref h0)] → W p l e (RM 3 0 0) s m ([.ref h0] : List Value).toArray below meth c H locs 0 0 Q0 (F0 m 124 ls []) := by
              intro nB
              induction nB with
              | zero =>
                intro vt H locs ls hiB hbB hPD hS hl
                refine Kan2 hPD (fun hP hD => ?_)
                exact (show False by omega).elim
              | succ nB ihB =>
                intro vt H locs ls hiB hbB hPD hS hl
                refine Kan2 hPD (fun hP hD => ?_)
                refine lv_aload_n hx hb gX12_next_6.2.2.2.1 rfl (lv_at0 hl) ?_
                refine gf_X12_217 hC rfl hK hP 0 rfl rfl gX12_next_6.2.2.2.2.1 ?_
                refine lv_iconst (v := 1) hx hb gX12_next_6.2.2.2.2.2.1 (by decide) ?_
                refine lv_icmp_ne (tgt := 147) hx hb gX12_next_6.2.2.2.2.2.2.1 (by decide) (fun c9 => absurd (by decide) c9) (fun _ => ?_)
                refine lv_aload_n hx hb gX12_next_6.2.2.2.2.2.2.2.1 rfl (lv_at0 hl) ?_
                refine lv_aload_n hx hb gX12_next_6.2.2.2.2.2.2.2.2.1 rfl (lv_at0 hl) ?_
                refine gf_X12_211 hC rfl hK hP 0 rfl rfl gX12_next_6.2.2.2.2.2.2.2.2.2 ?_
                refine lv_bipush (v := 97) hx hb gX12_next_7.1 (by decide) ?_
                refine lv_bipush (v := 122) hx hb gX12_next_7.2.1 (by decide) ?_
                refine pV hC hK hl hP hD (m_isInB l G h0 vt 97 122 nw nk mhasKept nt ktp nr mrowMany mroundOf mroundFrom mouts nm mfromHour mtoHour ns (nI vf) (nI vt) 1 misFault mdeep mcoded mlines nl nc nF np ntr nb mbestCost nso nsi nit nsh nsf nss nrc mtraced mdealer mnumber mwhose msize misParted fnt bt (by omega) (htp) (hFB)) si_X12_220 [0, 1] sm_0_1 fm_0_1 nd_0_1 rfl rfl rfl rfl rfl (Nat.le_of_ble_eq_true rfl) rm_3_2_4 ⟨by first | exact Nat.le_of_ble_eq_true rfl | exact Nat.zero_le _, by first | exact Nat.le_of_ble_eq_true rfl | exact Nat.zero_le _⟩ gX12_next_7.2.2.1 (Kors (Keqa fun a6415 => ?_) (Keqa fun a6415 => ?_))
                · refine lv_if_ne (tgt := 170) hx hb gX12_next_7.2.2.2.1 (by decide) (fun _ => ?_) (fun c9 => absurd c9 (by decide))
                  refine lv_aload_n hx hb gX12_next_8.2.2.2.2.2.1 rfl (lv_at0 hl) ?_
                  refine lv_dup hx hb gX12_next_8.2.2.2.2.2.2.1 rfl ?_
                  refine gf_X12_211 hC rfl hK hP 0 rfl rfl gX12_next_8.2.2.2.2.2.2.2.1 ?_
                  refine lv_iconst (v := 1) hx hb gX12_next_8.2.2.2.2.2.2.2.2.1 (by decide) ?_
                  refine lv_iadd hx hb gX12_next_8.2.2.2.2.2.2.2.2.2 ?_
                  refine eqi (x1 := nI (vt + 1)) (nI_add vt 1) ?_
                  refine pf_X12_211 hC rfl hK hP hD hS 0 (ws' := [(h0, oX12 nw nk mhasKept nt (nI ktp) nr mrowMany mroundOf mroundFrom mouts nm mfromHour mtoHour ns (nI vf) (nI (vt + 1)) 1 misFault mdeep mcoded mlines nl nc nF np ntr nb mbestCost nso nsi nit nsh nsf nss nrc mtraced mdealer mnumber mwhose msize misParted), (nt, iA G 240 fnt)]) rfl (Nat.le_of_ble_eq_true rfl) rfl rfl rfl gX12_next_9.1 (fun H locs hP hD hS => ?_)
                  refine lv_goto (tgt := 124) hx hb gX12_next_9.2.1 (by decide) ?_
                  exact ihB (vt + 1) _ _ _ (by omega) (hbB.next a6415.2) (And.intro hP hD) hS (lv_sub hl [0] rfl)
                · refine lv_if_ne (tgt := 170) hx hb gX12_next_7.2.2.2.1 (by decide) (fun c9 => absurd (by decide) c9) (fun _ => ?_)
                  refine lv_aload_n hx hb gX12_next_7.2.2.2.2.1 rfl (lv_at0 hl) ?_
                  refine gf_X12_217 hC rfl hK hP 0 rfl rfl gX12_next_7.2.2.2.2.2.1 ?_
                  refine lv_iconst (v := 2) hx hb gX12_next_7.2.2.2.2.2.2.1 (by decide) ?_
                  refine lv_icmp_ne (tgt := 183) hx hb gX12_next_7.2.2.2.2.2.2.2.1 (by decide) (fun _ => ?_) (fun c9 => absurd c9 (by decide))
                  obtain ⟨e2, e3⟩ := (MNX.nm (by omega) a6413.2 (by omega) (by omega) hbB (fun h8 h9 => a6415 ⟨h8, h9⟩) : TKN bt ktp vf = 1 ∧ TKE bt ktp vf = vt)
                  have hP : va_P G.1 vwCl [(h0, oX12 nw nk mhasKept nt (nI ktp) nr mrowMany mroundOf mroundFrom mouts nm mfromHour mtoHour ns (nI (SK bt ktp kt)) (nI (TKE bt ktp (SK bt ktp kt))) (nI (TKN bt ktp (SK bt ktp kt))) misFault mdeep mcoded mlines nl nc nF np ntr nb mbestCost nso nsi nit nsh nsf nss nrc mtraced mdealer mnumber mwhose msize misParted), (nt, iA G 240 fnt)] H := by rw [hsk, e2, e3]; exact hP
                  have hD : va_D A [(h0, oX12 nw nk mhasKept nt (nI ktp) nr mrowMany mroundOf mroundFrom mouts nm mfromHour mtoHour ns (nI (SK bt ktp kt)) (nI (TKE bt ktp (SK bt ktp kt))) (nI (TKN bt ktp (SK bt ktp kt))) misFault mdeep mcoded mlines nl nc nF np ntr nb mbestCost nso nsi nit nsh nsf nss nrc mtraced mdealer mnumber mwhose msize misParted), (nt, iA G 240 fnt)] := by rw [hsk, e2, e3]; exact hD
                  refine toQ hQ0 ?_
                  exact RV hC hP hD hS [0, 1] () rfl rfl (by decide) (trivial) gX12_next_9.2.2
            exact keyB (ktp + 1) (vf + 1) _ _ _ (by omega) (RUN.zero.next a6413.2) (And.intro hP hD) hS (lv_sub hl [0] rfl)
          · refine lv_if_eq (tgt := 91) hx hb gX12_next_4.2.2.2.1 (by decide) (fun _ => ?_) (fun c9 => absurd (by decide) c9)
            refine lv_aload_n hx hb gX12_next_4.2.2.2.2.2.2.1 rfl (lv_at0 hl) ?_
            refine lv_aload_n hx hb gX12_next_4.2.2.2.2.2.2.2.1 rfl (lv_at0 hl) ?_
            refine gf_X12_214 hC rfl hK hP 0 rfl rfl gX12_next_4.2.2.2.2.2.2.2.2.1 ?_
            refine lv_bipush (v := 48) hx hb gX12_next_4.2.2.2.2.2.2.2.2.2 (by decide) ?_
            refine lv_bipush (v := 57) hx hb gX12_next_5.1 (by decide) ?_
            refine pV hC hK hl hP hD (m_isInB l G h0 vf 48 57 nw nk mhasKept nt ktp nr mrowMany mroundOf mroundFrom mouts nm mfromHour mtoHour ns (nI vf) (nI vf) msort misFault mdeep mcoded mlines nl nc nF np ntr nb mbestCost nso nsi nit nsh nsf nss nrc mtraced mdealer mnumber mwhose msize misParted fnt bt (by omega) (htp) (hFB)) si_X12_220 [0, 1] sm_0_1 fm_0_1 nd_0_1 rfl rfl rfl rfl rfl (Nat.le_of_ble_eq_true rfl) rm_3_2_4 ⟨by first | exact Nat.le_of_ble_eq_true rfl | exact Nat.zero_le _, by first | exact Nat.le_of_ble_eq_true rfl | exact Nat.zero_le _⟩ gX12_next_5.2.1 (Kors (Keqa fun a6417 => ?_) (Keqa fun a6417 => ?_))
            · refine lv_if_eq (tgt := 110) hx hb gX12_next_5.2.2.1 (by decide) (fun c9 => absurd c9 (by decide)) (fun _ => ?_)
              refine lv_iconst (v := 2) hx hb gX12_next_5.2.2.2.1 (by decide) ?_
              refine lv_goto (tgt := 111) hx hb gX12_next_5.2.2.2.2.1 (by decide) ?_
              refine pf_X12_217 hC rfl hK hP hD hS 0 (ws' := [(h0, oX12 nw nk mhasKept nt (nI ktp) nr mrowMany mroundOf mroundFrom mouts nm mfromHour mtoHour ns (nI vf) (nI vf) 2 misFault mdeep mcoded mlines nl nc nF np ntr nb mbestCost nso nsi nit nsh nsf nss nrc mtraced mdealer mnumber mwhose msize misParted), (nt, iA G 240 fnt)]) rfl (Nat.le_of_ble_eq_true rfl) rfl rfl rfl gX12_next_5.2.2.2.2.2.2.1 (fun H locs hP hD hS => ?_)
              refine lv_aload_n hx hb gX12_next_5.2.2.2.2.2.2.2.1 rfl (lv_at0 hl) ?_
              refine lv_dup hx hb gX12_next_5.2.2.2.2.2.2.2.2.1 rfl ?_
              refine gf_X12_211 hC rfl hK hP 0 rfl rfl gX12_next_5.2.2.2.2.2.2.2.2.2 ?_
              refine lv_iconst (v := 1) hx hb gX12_next_6.1 (by decide) ?_
              refine lv_iadd hx hb gX12_next_6.2.1 ?_
              refine eqi (x1 := nI (vf + 1)) (nI_add vf 1) ?_
              refine pf_X12_211 hC rfl hK hP hD hS 0 (ws' := [(h0, oX12 nw nk mhasKept nt (nI ktp) nr mrowMany mroundOf mroundFrom mouts nm mfromHour mtoHour ns (nI vf) (nI (vf + 1)) 2 misFault mdeep mcoded mlines nl nc nF np ntr nb mbestCost nso nsi nit nsh nsf nss nrc mtraced mdealer mnumber mwhose msize misParted), (nt, iA G 240 fnt)]) rfl (Nat.le_of_ble_eq_true rfl) rfl rfl rfl gX12_next_6.2.2.1 (fun H locs hP hD hS => ?_)
              have keyB : ∀ (nB : Nat) (vt : Nat) (H : Heap) (locs : List Loc) (ls : Array Slot), (vf < vt ∧ vt ≤ ktp ∧ ktp < vt + nB) → (RUN bt DGT vf vt) → va_PD G A [(h0, oX12 nw nk mhasKept nt (nI ktp) nr mrowMany mroundOf mroundFrom mouts nm mfromHour mtoHour ns (nI vf) (nI vt) 2 misFault mdeep mcoded mlines nl nc nF np ntr nb mbestCost nso nsi nit nsh nsf nss nrc mtraced mdealer mnumber mwhose msize misParted), (nt, iA G 240 fnt)] H → va_S A s.heap H locs → lv_has ls 1 [(0, .ref h0)] → W p l e (RM 3 0 0) s m ([.ref h0] : List Value).toArray below meth c H locs 0 0 Q0 (F0 m 124 ls []) := by
                intro nB
                induction nB with
                | zero =>
                  intro vt H locs ls hiB hbB hPD hS hl
                  refine Kan2 hPD (fun hP hD => ?_)
                  exact (show False by omega).elim
                | succ nB ihB =>
                  intro vt H locs ls hiB hbB hPD hS hl
                  refine Kan2 hPD (fun hP hD => ?_)
                  refine lv_aload_n hx hb gX12_next_6.2.2.2.1 rfl (lv_at0 hl) ?_
                  refine gf_X12_217 hC rfl hK hP 0 rfl rfl gX12_next_6.2.2.2.2.1 ?_
                  refine lv_iconst (v := 1) hx hb gX12_next_6.2.2.2.2.2.1 (by decide) ?_
                  refine lv_icmp_ne (tgt := 147) hx hb gX12_next_6.2.2.2.2.2.2.1 (by decide) (fun _ => ?_) (fun c9 => absurd c9 (by decide))
                  refine lv_aload_n hx hb gX12_next_7.2.2.2.2.1 rfl (lv_at0 hl) ?_
                  refine gf_X12_217 hC rfl hK hP 0 rfl rfl gX12_next_7.2.2.2.2.2.1 ?_
                  refine lv_iconst (v := 2) hx hb gX12_next_7.2.2.2.2.2.2.1 (by decide) ?_
                  refine lv_icmp_ne (tgt := 183) hx hb gX12_next_7.2.2.2.2.2.2.2.1 (by decide) (fun c9 => absurd (by decide) c9) (fun _ => ?_)
                  refine lv_aload_n hx hb gX12_next_7.2.2.2.2.2.2.2.2.1 rfl (lv_at0 hl) ?_
                  refine lv_aload_n hx hb gX12_next_7.2.2.2.2.2.2.2.2.2 rfl (lv_at0 hl) ?_
                  refine gf_X12_211 hC rfl hK hP 0 rfl rfl gX12_next_8.1 ?_
                  refine lv_bipush (v := 48) hx hb gX12_next_8.2.1 (by decide) ?_
                  refine lv_bipush (v := 57) hx hb gX12_next_8.2.2.1 (by decide) ?_
                  refine pV hC hK hl hP hD (m_isInB l G h0 vt 48 57 nw nk mhasKept nt ktp nr mrowMany mroundOf mroundFrom mouts nm mfromHour mtoHour ns (nI vf) (nI vt) 2 misFault mdeep mcoded mlines nl nc nF np ntr nb mbestCost nso nsi nit nsh nsf nss nrc mtraced mdealer mnumber mwhose msize misParted fnt bt (by omega) (htp) (hFB)) si_X12_220 [0, 1] sm_0_1 fm_0_1 nd_0_1 rfl rfl rfl rfl rfl (Nat.le_of_ble_eq_true rfl) rm_3_2_4 ⟨by first | exact Nat.le_of_ble_eq_true rfl | exact Nat.zero_le _, by first | exact Nat.le_of_ble_eq_true rfl | exact Nat.zero_le _⟩ gX12_next_8.2.2.2.1 (Kors (Keqa fun a6419 => ?_) (Keqa fun a6419 => ?_))
                  · refine lv_if_eq (tgt := 183) hx hb gX12_next_8.2.2.2.2.1 (by decide) (fun c9 => absurd c9 (by decide)) (fun _ => ?_)
                    refine lv_aload_n hx hb gX12_next_8.2.2.2.2.2.1 rfl (lv_at0 hl) ?_
                    refine lv_dup hx hb gX12_next_8.2.2.2.2.2.2.1 rfl ?_
                    refine gf_X12_211 hC rfl hK hP 0 rfl rfl gX12_next_8.2.2.2.2.2.2.2.1 ?_
                    refine lv_iconst (v := 1) hx hb gX12_next_8.2.2.2.2.2.2.2.2.1 (by decide) ?_
                    refine lv_iadd hx hb gX12_next_8.2.2.2.2.2.2.2.2.2 ?_
                    refine eqi (x1 := nI (vt + 1)) (nI_add vt 1) ?_
                    refine pf_X12_211 hC rfl hK hP hD hS 0 (ws' := [(h0, oX12 nw nk mhasKept nt (nI ktp) nr mrowMany mroundOf mroundFrom mouts nm mfromHour mtoHour ns (nI vf) (nI (vt + 1)) 2 misFault mdeep mcoded mlines nl nc nF np ntr nb mbestCost nso nsi nit nsh nsf nss nrc mtraced mdealer mnumber mwhose msize misParted), (nt, iA G 240 fnt)]) rfl (Nat.le_of_ble_eq_true rfl) rfl rfl rfl gX12_next_9.1 (fun H locs hP hD hS => ?_)
                    refine lv_goto (tgt := 124) hx hb gX12_next_9.2.1 (by decide) ?_
                    exact ihB (vt + 1) _ _ _ (by omega) (hbB.next a6419.2) (And.intro hP hD) hS (lv_sub hl [0] rfl)
                  · refine lv_if_eq (tgt := 183) hx hb gX12_next_8.2.2.2.2.1 (by decide) (fun _ => ?_) (fun c9 => absurd (by decide) c9)
                    obtain ⟨e2, e3⟩ := (MNX.nu (by omega) (fun h9 => a6413 ⟨by omega, h9⟩) a6417.2 (by omega) (by omega) hbB (fun h8 h9 => a6419 ⟨h8, h9⟩) : TKN bt ktp vf = 2 ∧ TKE bt ktp vf = vt)
                    have hP : va_P G.1 vwCl [(h0, oX12 nw nk mhasKept nt (nI ktp) nr mrowMany mroundOf mroundFrom mouts nm mfromHour mtoHour ns (nI (SK bt ktp kt)) (nI (TKE bt ktp (SK bt ktp kt))) (nI (TKN bt ktp (SK bt ktp kt))) misFault mdeep mcoded mlines nl nc nF np ntr nb mbestCost nso nsi nit nsh nsf nss nrc mtraced mdealer mnumber mwhose msize misParted), (nt, iA G 240 fnt)] H := by rw [hsk, e2, e3]; exact hP
                    have hD : va_D A [(h0, oX12 nw nk mhasKept nt (nI ktp) nr mrowMany mroundOf mroundFrom mouts nm mfromHour mtoHour ns (nI (SK bt ktp kt)) (nI (TKE bt ktp (SK bt ktp kt))) (nI (TKN bt ktp (SK bt ktp kt))) misFault mdeep mcoded mlines nl nc nF np ntr nb mbestCost nso nsi nit nsh nsf nss nrc mtraced mdealer mnumber mwhose msize misParted), (nt, iA G 240 fnt)] := by rw [hsk, e2, e3]; exact hD
                    refine toQ hQ0 ?_
                    exact RV hC hP hD hS [0, 1] () rfl rfl (by decide) (trivial) gX12_next_9.2.2
              exact keyB (ktp + 1) (vf + 1) _ _ _ (by omega) (RUN.zero.next a6417.2) (And.intro hP hD) hS (lv_sub hl [0] rfl)
            · refine lv_if_eq (tgt := 110) hx hb gX12_next_5.2.2.1 (by decide) (fun _ => ?_) (fun c9 => absurd (by decide) c9)
              refine lv_iconst (v := 3) hx hb gX12_next_5.2.2.2.2.2.1 (by decide) ?_
              refine pf_X12_217 hC rfl hK hP hD hS 0 (ws' := [(h0, oX12 nw nk mhasKept nt (nI ktp) nr mrowMany mroundOf mroundFrom mouts nm mfromHour mtoHour ns (nI vf) (nI vf) 3 misFault mdeep mcoded mlines nl nc nF np ntr nb mbestCost nso nsi nit nsh nsf nss nrc mtraced mdealer mnumber mwhose msize misParted), (nt, iA G 240 fnt)]) rfl (Nat.le_of_ble_eq_true rfl) rfl rfl rfl gX12_next_5.2.2.2.2.2.2.1 (fun H locs hP hD hS => ?_)
              refine lv_aload_n hx hb gX12_next_5.2.2.2.2.2.2.2.1 rfl (lv_at0 hl) ?_
              refine lv_dup hx hb gX12_next_5.2.2.2.2.2.2.2.2.1 rfl ?_
              refine gf_X12_211 hC rfl hK hP 0 rfl rfl gX12_next_5.2.2.2.2.2.2.2.2.2 ?_
              refine lv_iconst (v := 1) hx hb gX12_next_6.1 (by decide) ?_
              refine lv_iadd hx hb gX12_next_6.2.1 ?_
              refine eqi (x1 := nI (vf + 1)) (nI_add vf 1) ?_
              refine pf_X12_211 hC rfl hK hP hD hS 0 (ws' := [(h0, oX12 nw nk mhasKept nt (nI ktp) nr mrowMany mroundOf mroundFrom mouts nm mfromHour mtoHour ns (nI vf) (nI (vf + 1)) 3 misFault mdeep mcoded mlines nl nc nF np ntr nb mbestCost nso nsi nit nsh nsf nss nrc mtraced mdealer mnumber mwhose msize misParted), (nt, iA G 240 fnt)]) rfl (Nat.le_of_ble_eq_true rfl) rfl rfl rfl gX12_next_6.2.2.1 (fun H locs hP hD hS => ?_)
              refine lv_aload_n hx hb gX12_next_6.2.2.2.1 rfl (lv_at0 hl) ?_
              refine gf_X12_217 hC rfl hK hP 0 rfl rfl gX12_next_6.2.2.2.2.1 ?_
              refine lv_iconst (v := 1) hx hb gX12_next_6.2.2.2.2.2.1 (by decide) ?_
              refine lv_icmp_ne (tgt := 147) hx hb gX12_next_6.2.2.2.2.2.2.1 (by decide) (fun _ => ?_) (fun c9 => absurd c9 (by decide))
              refine lv_aload_n hx hb gX12_next_7.2.2.2.2.1 rfl (lv_at0 hl) ?_
              refine gf_X12_217 hC rfl hK hP 0 rfl rfl gX12_next_7.2.2.2.2.2.1 ?_
              refine lv_iconst (v := 2) hx hb gX12_next_7.2.2.2.2.2.2.1 (by decide) ?_
              refine lv_icmp_ne (tgt := 183) hx hb gX12_next_7.2.2.2.2.2.2.2.1 (by decide) (fun _ => ?_) (fun c9 => absurd c9 (by decide))
              obtain ⟨e2, e3⟩ := (MNX.by9 (by omega) (fun h9 => a6413 ⟨by omega, h9⟩) (fun h9 => a6417 ⟨by omega, h9⟩) : TKN bt ktp vf = 3 ∧ TKE bt ktp vf = (vf + 1))
              have hP : va_P G.1 vwCl [(h0, oX12 nw nk mhasKept nt (nI ktp) nr mrowMany mroundOf mroundFrom mouts nm mfromHour mtoHour ns (nI (SK bt ktp kt)) (nI (TKE bt ktp (SK bt ktp kt))) (nI (TKN bt ktp (SK bt ktp kt))) misFault mdeep mcoded mlines nl nc nF np ntr nb mbestCost nso nsi nit nsh nsf nss nrc mtraced mdealer mnumber mwhose msize misParted), (nt, iA G 240 fnt)] H := by rw [hsk, e2, e3]; exact hP
              have hD : va_D A [(h0, oX12 nw nk mhasKept nt (nI ktp) nr mrowMany mroundOf mroundFrom mouts nm mfromHour mtoHour ns (nI (SK bt ktp kt)) (nI (TKE bt ktp (SK bt ktp kt))) (nI (TKN bt ktp (SK bt ktp kt))) misFault mdeep mcoded mlines nl nc nF np ntr nb mbestCost nso nsi nit nsh nsf nss nrc mtraced mdealer mnumber mwhose msize misParted), (nt, iA G 240 fnt)] := by rw [hsk, e2, e3]; exact hD
              refine toQ hQ0 ?_
              exact RV hC hP hD hS [0, 1] () rfl rfl (by decide) (trivial) gX12_next_9.2.2
        · refine lv_aload_n hx hb gX12_next_1.2.2.2.2.2.2.1 rfl (lv_at0 hl) ?_
          refine lv_dup hx hb gX12_next_1.2.2.2.2.2.2.2.1 rfl ?_
          refine gf_X12_214 hC rfl hK hP 0 rfl rfl gX12_next_1.2.2.2.2.2.2.2.2.1 ?_
          refine lv_iconst (v := 1) hx hb gX12_next_1.2.2.2.2.2.2.2.2.2 (by decide) ?_
          refine lv_iadd hx hb gX12_next_2.1 ?_
          refine eqi (x1 := nI (vf + 1)) (nI_add vf 1) ?_
          refine pf_X12_214 hC rfl hK hP hD hS 0 (ws' := [(h0, oX12 nw nk mhasKept nt (nI ktp) nr mrowMany mroundOf mroundFrom mouts nm mfromHour mtoHour ns (nI (vf + 1)) (nI kt) msort misFault mdeep mcoded mlines nl nc nF np ntr nb mbestCost nso nsi nit nsh nsf nss nrc mtraced mdealer mnumber mwhose msize misParted), (nt, iA G 240 fnt)]) rfl (Nat.le_of_ble_eq_true rfl) rfl rfl rfl gX12_next_2.2.1 (fun H locs hP hD hS => ?_)
          refine lv_goto (tgt := 8) hx hb gX12_next_2.2.2.1 (by decide) ?_
          exact ihA (vf + 1) _ _ _ (by omega) (hbA.next c_30_6411) (And.intro hP hD) hS (lv_sub hl [0] rfl)
  exact keyA (ktp + 1) kt _ _ _ (by omega) (RUN.zero) (And.intro hP hD) hS (lv_sub hl [0] rfl)
theorem m_nextT (l : Launch) (G : GG) (h0 : Nat) (nw : Nat) (nk : Nat) (mhasKept : Int32) (nt : Nat) (ktp : Nat) (nr : Nat) (mrowMany : Int32) (mroundOf : Int32) (mroundFrom : Int32) (mouts : Int32) (nm : Nat) (mfromHour : Int32) (mtoHour : Int32) (ns : Nat) (ks : Nat) (misFault : Int32) (mdeep : Int32) (mcoded : Int32) (mlines : Int32) (nl : Nat) (nc : Nat) (nF : Nat) (np : Nat) (ntr : Nat) (nb : Nat) (mbestCost : Int32) (nso : Nat) (nsi : Nat) (nit : Nat) (nsh : Nat) (nsf : Nat) (nss : Nat) (nrc : Nat) (mtraced : Int32) (mdealer : Int32) (mnumber : Int32) (mwhose : Int32) (msize : Int32) (misParted : Int32) (fnt : Nat → Int32) (bt : Nat → Int32) (htp : ktp ≤ 240) (hks : ks ≤ ktp) (hFB : FBT fnt bt ktp) : MV l G yX12_next cX12_next 1 3 0 0 [.ref h0] [(h0, oX12 nw nk mhasKept nt (nI ktp) nr mrowMany mroundOf mroundFrom mouts nm mfromHour mtoHour ns (nI ks) (nI (TKE bt ktp ks)) (nI (TKN bt ktp ks)) misFault mdeep mcoded mlines nl nc nF np ntr nb mbestCost nso nsi nit nsh nsf nss nrc mtraced mdealer mnumber mwhose msize misParted), (nt, iA G 240 fnt)] (fun u : Unit => True) (fun u : Unit => [(h0, oX12 nw nk mhasKept nt (nI ktp) nr mrowMany mroundOf mroundFrom mouts nm mfromHour mtoHour ns (nI (NXT bt ktp ks)) (nI (TKE bt ktp (NXT bt ktp ks))) (nI (TKN bt ktp (NXT bt ktp ks))) misFault mdeep mcoded mlines nl nc nF np ntr nb mbestCost nso nsi nit nsh nsf nss nrc mtraced mdealer mnumber mwhose msize misParted), (nt, iA G 240 fnt)]) := m_nextX l G h0 nw nk mhasKept nt ktp nr mrowMany mroundOf mroundFrom mouts nm mfromHour mtoHour ns (nI ks) (TKE bt ktp ks) (nI (TKN bt ktp ks)) misFault mdeep mcoded mlines nl nc nF np ntr nb mbestCost nso nsi nit nsh nsf nss nrc mtraced mdealer mnumber mwhose msize misParted fnt bt (TKE.ge hks).2.1 htp hFB
def K_m_isNameF (l : Launch) (G : GG) (K : OO) (i9 : Nat) (h0 : Nat) (nw : Nat) (nk : Nat) (mhasKept : Int32) (nt : Nat) (mtaped : Int32) (nr : Nat) (mrowMany : Int32) (mroundOf : Int32) (mroundFrom : Int32) (mouts : Int32) (nm : Nat) (mfromHour : Int32) (mtoHour : Int32) (ns : Nat) (mfrom : Int32) (mto : Int32) (msort : Int32) (mdeep : Int32) (mcoded : Int32) (mlines : Int32) (nl : Nat) (nc : Nat) (nF : Nat) (np : Nat) (ntr : Nat) (nb : Nat) (mbestCost : Int32) (nso : Nat) (nsi : Nat) (nit : Nat) (nsh : Nat) (nsf : Nat) (nss : Nat) (nrc : Nat) (mtraced : Int32) (mdealer : Int32) (mnumber : Int32) (mwhose : Int32) (msize : Int32) (misParted : Int32) : Prop := MPo l G K yX12_isName cX12_isName 4 (some .boolean) 5 [.ref h0, .ref (K.1 i9)] [(h0, oX12 nw nk mhasKept nt mtaped nr mrowMany mroundOf mroundFrom mouts nm mfromHour mtoHour ns mfrom mto msort 1 mdeep mcoded mlines nl nc nF np ntr nb mbestCost nso nsi nit nsh nsf nss nrc mtraced mdealer mnumber mwhose msize misParted)] (fun r : Int32 => r = 0)
set_option maxHeartbeats 4000000 in
set_option maxRecDepth 100000 in
theorem m_isNameF (l : Launch) (G : GG) (K : OO) (i9 : Nat) (h0 : Nat) (nw : Nat) (nk : Nat) (mhasKept : Int32) (nt : Nat) (mtaped : Int32) (nr : Nat) (mrowMany : Int32) (mroundOf : Int32) (mroundFrom : Int32) (mouts : Int32) (nm : Nat) (mfromHour : Int32) (mtoHour : Int32) (ns : Nat) (mfrom : Int32) (mto : Int32) (msort : Int32) (mdeep : Int32) (mcoded : Int32) (mlines : Int32) (nl : Nat) (nc : Nat) (nF : Nat) (np : Nat) (ntr : Nat) (nb : Nat) (mbestCost : Int32) (nso : Nat) (nsi : Nat) (nit : Nat) (nsh : Nat) (nsf : Nat) (nss : Nat) (nrc : Nat) (mtraced : Int32) (mdealer : Int32) (mnumber : Int32) (mwhose : Int32) (msize : Int32) (misParted : Int32) (hi9 : i9 < 16) : K_m_isNameF l G K i9 h0 nw nk mhasKept nt mtaped nr mrowMany mroundOf mroundFrom mouts nm mfromHour mtoHour ns mfrom mto msort mdeep mcoded mlines nl nc nF np ntr nb mbestCost nso nsi nit nsh nsf nss nrc mtraced mdealer mnumber mwhose msize misParted := by
  refine MPo.start (by decide +kernel) (Nat.le_of_ble_eq_true rfl) ?_
  intro p e s m below meth c ls hC hK hP hD hl hO hS
  refine absQ (fun Q0 hQ0 => ?_)
  have hl : lv_has ls 4 [(0, .ref h0), (1, .ref (K.1 i9))] := hl
  refine Kan8 hC (fun hx hb hr hml hB hown hlocks hnm => ?_)
  refine lv_aload_n hx hb gX12_isName_0.1 rfl (lv_at0 hl) ?_
  refine gf_X12_222 hC rfl hK hP 0 rfl rfl gX12_isName_0.2.1 ?_
  refine lv_if_ne (tgt := 35) hx hb gX12_isName_0.2.2.1 (by decide) (fun _ => ?_) (fun c9 => absurd c9 (by decide))
  refine lv_iconst (v := 0) hx hb gX12_isName_1.2.2.2.2.2.2.2.1 (by decide) ?_
  refine lv_istore_n (lv' := [(2, .int 0), (0, .ref h0), (1, .ref (K.1 i9))]) hx hb gX12_isName_1.2.2.2.2.2.2.2.2.1 rfl hl (by decide) rfl (fun ls hl => ?_)
  refine lv_iconst (v := 0) hx hb gX12_isName_1.2.2.2.2.2.2.2.2.2 (by decide) ?_
  refine lv_istore_n (lv' := [(3, .int 0), (2, .int 0), (0, .ref h0), (1, .ref (K.1 i9))]) hx hb gX12_isName_2.1 rfl hl (by decide) rfl (fun ls hl => ?_)
  refine lv_iload_n hx hb gX12_isName_2.2.1 rfl (lv_at1 hl) ?_
  refine lv_if_eq (tgt := 82) hx hb gX12_isName_2.2.2.1 (by decide) (fun _ => ?_) (fun c9 => absurd (by decide) c9)
  refine lv_iload_n hx hb gX12_isName_4.2.2.2.2.1 rfl (lv_at1 hl) ?_
  refine toQ hQ0 ?_
  exact RP (v := 0) hC (rfl) (by decide +kernel) gX12_isName_4.2.2.2.2.2
def K_m_isNameX (l : Launch) (G : GG) (K : OO) (i9 : Nat) (h0 : Nat) (nw : Nat) (nk : Nat) (mhasKept : Int32) (nt : Nat) (ktp : Nat) (nr : Nat) (mrowMany : Int32) (mroundOf : Int32) (mroundFrom : Int32) (mouts : Int32) (nm : Nat) (mfromHour : Int32) (mtoHour : Int32) (ns : Nat) (ks : Nat) (mdeep : Int32) (mcoded : Int32) (mlines : Int32) (nl : Nat) (nc : Nat) (nF : Nat) (np : Nat) (ntr : Nat) (nb : Nat) (mbestCost : Int32) (nso : Nat) (nsi : Nat) (nit : Nat) (nsh : Nat) (nsf : Nat) (nss : Nat) (nrc : Nat) (mtraced : Int32) (mdealer : Int32) (mnumber : Int32) (mwhose : Int32) (msize : Int32) (misParted : Int32) (fnt : Nat → Int32) (bt : Nat → Int32) : Prop := MPo l G K yX12_isName cX12_isName 4 (some .boolean) 5 [.ref h0, .ref (K.1 i9)] [(h0, oX12 nw nk mhasKept nt (nI ktp) nr mrowMany mroundOf mroundFrom mouts nm mfromHour mtoHour ns (nI ks) (nI (TKE bt ktp ks)) (nI (TKN bt ktp ks)) 0 mdeep mcoded mlines nl nc nF np ntr nb mbestCost nso nsi nit nsh nsf nss nrc mtraced mdealer mnumber mwhose msize misParted), (nt, iA G 240 fnt)] (fun r : Int32 => (r = 1 ∧ WRD bt ktp ks i9) ∨ (r = 0 ∧ ¬ WRD bt ktp ks i9))
set_option maxHeartbeats 4000000 in
set_option maxRecDepth 100000 in
theorem m_isNameX (l : Launch) (G : GG) (K : OO) (i9 : Nat) (h0 : Nat) (nw : Nat) (nk : Nat) (mhasKept : Int32) (nt : Nat) (ktp : Nat) (nr : Nat) (mrowMany : Int32) (mroundOf : Int32) (mroundFrom : Int32) (mouts : Int32) (nm : Nat) (mfromHour : Int32) (mtoHour : Int32) (ns : Nat) (ks : Nat) (mdeep : Int32) (mcoded : Int32) (mlines : Int32) (nl : Nat) (nc : Nat) (nF : Nat) (np : Nat) (ntr : Nat) (nb : Nat) (mbestCost : Int32) (nso : Nat) (nsi : Nat) (nit : Nat) (nsh : Nat) (nsf : Nat) (nss : Nat) (nrc : Nat) (mtraced : Int32) (mdealer : Int32) (mnumber : Int32) (mwhose : Int32) (msize : Int32) (misParted : Int32) (fnt : Nat → Int32) (bt : Nat → Int32) (htp : ktp ≤ 240) (hks : ks ≤ ktp) (hFB : FBT fnt bt ktp) (hi9 : i9 < 16) : K_m_isNameX l G K i9 h0 nw nk mhasKept nt ktp nr mrowMany mroundOf mroundFrom mouts nm mfromHour mtoHour ns ks mdeep mcoded mlines nl nc nF np ntr nb mbestCost nso nsi nit nsh nsf nss nrc mtraced mdealer mnumber mwhose msize misParted fnt bt := by
  refine MPo.start (by decide +kernel) (Nat.le_of_ble_eq_true rfl) ?_
  intro p e s m below meth c ls hC hK hP hD hl hO hS
  refine absQ (fun Q0 hQ0 => ?_)
  have hl : lv_has ls 4 [(0, .ref h0), (1, .ref (K.1 i9))] := hl
  refine Kan8 hC (fun hx hb hr hml hB hown hlocks hnm => ?_)
  have tk0 := TKE.ge (bt := bt) (n := ktp) (s := ks) hks
  have tk3 := TKN.le3 bt ktp ks
  have hs6 := slen6 i9 hi9
  refine lv_aload_n hx hb gX12_isName_0.1 rfl (lv_at0 hl) ?_
  refine gf_X12_222 hC rfl hK hP 0 rfl rfl gX12_isName_0.2.1 ?_
  refine lv_if_ne (tgt := 35) hx hb gX12_isName_0.2.2.1 (by decide) (fun c9 => absurd (by decide) c9) (fun _ => ?_)
  refine lv_aload_n hx hb gX12_isName_0.2.2.2.1 rfl (lv_at0 hl) ?_
  refine gf_X12_217 hC rfl hK hP 0 rfl rfl gX12_isName_0.2.2.2.2.1 ?_
  refine lv_iconst (v := 1) hx hb gX12_isName_0.2.2.2.2.2.1 (by decide) ?_
  refine lv_icmp_ne (tgt := 35) hx hb gX12_isName_0.2.2.2.2.2.2.1 (by decide) (fun c_12_6420 => ?_) (fun c_12_6420 => ?_)
  · have nb6421 : ¬ (TKN bt ktp ks) = 1 := fun h9 => c_12_6420 ((nI_eq (a := (TKN bt ktp ks)) (b := 1) (by omega) (by omega)).mpr h9)
    refine lv_iconst (v := 0) hx hb gX12_isName_1.2.2.2.2.2.2.2.1 (by decide) ?_
    refine lv_istore_n (lv' := [(2, .int 0), (0, .ref h0), (1, .ref (K.1 i9))]) hx hb gX12_isName_1.2.2.2.2.2.2.2.2.1 rfl hl (by decide) rfl (fun ls hl => ?_)
    refine lv_iconst (v := 0) hx hb gX12_isName_1.2.2.2.2.2.2.2.2.2 (by decide) ?_
    refine lv_istore_n (lv' := [(3, .int 0), (2, .int 0), (0, .ref h0), (1, .ref (K.1 i9))]) hx hb gX12_isName_2.1 rfl hl (by decide) rfl (fun ls hl => ?_)
    refine lv_iload_n hx hb gX12_isName_2.2.1 rfl (lv_at1 hl) ?_
    refine lv_if_eq (tgt := 82) hx hb gX12_isName_2.2.2.1 (by decide) (fun _ => ?_) (fun c9 => absurd (by decide) c9)
    refine lv_iload_n hx hb gX12_isName_4.2.2.2.2.1 rfl (lv_at1 hl) ?_
    refine toQ hQ0 ?_
    exact RP (v := 0) hC (Or.inr ⟨rfl, fun h9 => absurd h9.1 (by omega)⟩) (by decide +kernel) gX12_isName_4.2.2.2.2.2
  · have nb6422 : (TKN bt ktp ks) = 1 := (nI_eq (a := (TKN bt ktp ks)) (b := 1) (by omega) (by omega)).mp c_12_6420
    refine lv_aload_n hx hb gX12_isName_0.2.2.2.2.2.2.2.1 rfl (lv_at0 hl) ?_
    refine gf_X12_211 hC rfl hK hP 0 rfl rfl gX12_isName_0.2.2.2.2.2.2.2.2.1 ?_
    refine lv_aload_n hx hb gX12_isName_0.2.2.2.2.2.2.2.2.2 rfl (lv_at0 hl) ?_
    refine gf_X12_214 hC rfl hK hP 0 rfl rfl gX12_isName_1.1 ?_
    refine lv_isub hx hb gX12_isName_1.2.1 ?_
    refine eqi (x1 := nI (TKE bt ktp ks - ks)) (nI_subT (by omega)) ?_
    refine lv_aload_n hx hb gX12_isName_1.2.2.1 rfl (lv_at1 hl) ?_
    refine pTo (i := i9) (hi9) hO hS hC hK hl (j_len l G K i9 ((hi9))) si_X12_226 rfl rfl (Nat.le_of_ble_eq_true rfl) rm_5_2_1 ⟨by first | exact Nat.le_of_ble_eq_true rfl | exact Nat.zero_le _, by first | exact Nat.le_of_ble_eq_true rfl | exact Nat.zero_le _⟩ gX12_isName_1.2.2.2.1 (fun r6423 hr6423 => ?_)
    obtain rfl := hr6423
    refine lv_icmp_ne (tgt := 35) hx hb gX12_isName_1.2.2.2.2.1 (by decide) (fun c_28_6425 => ?_) (fun c_28_6425 => ?_)
    · have nb6426 : ¬ (TKE bt ktp ks - ks) = (SLEN.getD i9 0) := fun h9 => c_28_6425 ((nI_eq (a := (TKE bt ktp ks - ks)) (b := (SLEN.getD i9 0)) (by omega) (by omega)).mpr h9)
      refine lv_iconst (v := 0) hx hb gX12_isName_1.2.2.2.2.2.2.2.1 (by decide) ?_
      refine lv_istore_n (lv' := [(2, .int 0), (0, .ref h0), (1, .ref (K.1 i9))]) hx hb gX12_isName_1.2.2.2.2.2.2.2.2.1 rfl hl (by decide) rfl (fun ls hl => ?_)
      refine lv_iconst (v := 0) hx hb gX12_isName_1.2.2.2.2.2.2.2.2.2 (by decide) ?_
      refine lv_istore_n (lv' := [(3, .int 0), (2, .int 0), (0, .ref h0), (1, .ref (K.1 i9))]) hx hb gX12_isName_2.1 rfl hl (by decide) rfl (fun ls hl => ?_)
      refine lv_iload_n hx hb gX12_isName_2.2.1 rfl (lv_at1 hl) ?_
      refine lv_if_eq (tgt := 82) hx hb gX12_isName_2.2.2.1 (by decide) (fun _ => ?_) (fun c9 => absurd (by decide) c9)
      refine lv_iload_n hx hb gX12_isName_4.2.2.2.2.1 rfl (lv_at1 hl) ?_
      refine toQ hQ0 ?_
      exact RP (v := 0) hC (Or.inr ⟨rfl, fun h9 => absurd h9.2.1 (by omega)⟩) (by decide +kernel) gX12_isName_4.2.2.2.2.2
    · have nb6427 : (TKE bt ktp ks - ks) = (SLEN.getD i9 0) := (nI_eq (a := (TKE bt ktp ks - ks)) (b := (SLEN.getD i9 0)) (by omega) (by omega)).mp c_28_6425
      refine lv_iconst (v := 1) hx hb gX12_isName_1.2.2.2.2.2.1 (by decide) ?_
      refine lv_goto (tgt := 36) hx hb gX12_isName_1.2.2.2.2.2.2.1 (by decide) ?_
      refine lv_istore_n (lv' := [(2, .int 1), (0, .ref h0), (1, .ref (K.1 i9))]) hx hb gX12_isName_1.2.2.2.2.2.2.2.2.1 rfl hl (by decide) rfl (fun ls hl => ?_)
      refine lv_iconst (v := 0) hx hb gX12_isName_1.2.2.2.2.2.2.2.2.2 (by decide) ?_
      refine lv_istore_n (lv' := [(3, .int 0), (2, .int 1), (0, .ref h0), (1, .ref (K.1 i9))]) hx hb gX12_isName_2.1 rfl hl (by decide) rfl (fun ls hl => ?_)
      have keyP : ∀ (nP kP : Nat) (is9 : Int32) (ls : Array Slot), kP + nP = (SLEN.getD i9 0) → (ISW bt ks i9 is9 kP) → lv_has ls 4 [(3, .int (nI kP)), (2, .int is9), (0, .ref h0), (1, .ref (K.1 i9))] → W p l e (RM 5 0 0) s m ([.ref h0, .ref (K.1 i9)] : List Value).toArray below meth c s.heap [] 0 0 Q0 (F0 m 39 ls []) := by
        intro nP
        induction nP with
        | zero =>
          intro kP is9 ls hkP his hl
          obtain rfl : (SLEN.getD i9 0) = kP := by omega
          have hl : lv_has ls 4 [(3, .int (nI (SLEN.getD i9 0))), (2, .int is9), (0, .ref h0), (1, .ref (K.1 i9))] := hl
          refine lv_iload_n hx hb gX12_isName_2.2.1 rfl (lv_at1 hl) ?_
          rcases his with ⟨rfl, hwp⟩ | ⟨rfl, hnw⟩
          · refine lv_if_eq (tgt := 82) hx hb gX12_isName_2.2.2.1 (by decide) (fun c9 => absurd c9 (by decide)) (fun _ => ?_)
            refine lv_iload_n hx hb gX12_isName_2.2.2.2.1 rfl (lv_at0 hl) ?_
            refine lv_aload_n hx hb gX12_isName_2.2.2.2.2.1 rfl (lv_at3 hl) ?_
            refine pTo (i := i9) (hi9) hO hS hC hK hl (j_len l G K i9 ((hi9))) si_X12_226 rfl rfl (Nat.le_of_ble_eq_true rfl) rm_5_2_1 ⟨by first | exact Nat.le_of_ble_eq_true rfl | exact Nat.zero_le _, by first | exact Nat.le_of_ble_eq_true rfl | exact Nat.zero_le _⟩ gX12_isName_2.2.2.2.2.2.1 (fun r6428 hr6428 => ?_)
            obtain rfl := hr6428
            refine lv_icmp_ge (tgt := 82) hx hb gX12_isName_2.2.2.2.2.2.2.1 (by decide) (fun _ => ?_) (fun c9 => absurd (Int32.le_refl _) c9)
            refine lv_iload_n hx hb gX12_isName_4.2.2.2.2.1 rfl (lv_at1 hl) ?_
            refine toQ hQ0 ?_
            exact RP (v := 1) hC (Or.inl ⟨rfl, WRD.of (by omega) (by omega) (by omega) hwp⟩) (by decide +kernel) gX12_isName_4.2.2.2.2.2
          · refine lv_if_eq (tgt := 82) hx hb gX12_isName_2.2.2.1 (by decide) (fun _ => ?_) (fun c9 => absurd (by decide) c9)
            refine lv_iload_n hx hb gX12_isName_4.2.2.2.2.1 rfl (lv_at1 hl) ?_
            refine toQ hQ0 ?_
            exact RP (v := 0) hC (Or.inr ⟨rfl, fun h9 => hnw (WDP.le h9.2.2 (by omega))⟩) (by decide +kernel) gX12_isName_4.2.2.2.2.2
        | succ nP ihP =>
          intro kP is9 ls hkP his hl
          refine lv_iload_n hx hb gX12_isName_2.2.1 rfl (lv_at1 hl) ?_
          rcases his with ⟨rfl, hwp⟩ | ⟨rfl, hnw⟩
          · refine lv_if_eq (tgt := 82) hx hb gX12_isName_2.2.2.1 (by decide) (fun c9 => absurd c9 (by decide)) (fun _ => ?_)
            refine lv_iload_n hx hb gX12_isName_2.2.2.2.1 rfl (lv_at0 hl) ?_
            refine lv_aload_n hx hb gX12_isName_2.2.2.2.2.1 rfl (lv_at3 hl) ?_
            refine pTo (i := i9) (hi9) hO hS hC hK hl (j_len l G K i9 ((hi9))) si_X12_226 rfl rfl (Nat.le_of_ble_eq_true rfl) rm_5_2_1 ⟨by first | exact Nat.le_of_ble_eq_true rfl | exact Nat.zero_le _, by first | exact Nat.le_of_ble_eq_true rfl | exact Nat.zero_le _⟩ gX12_isName_2.2.2.2.2.2.1 (fun r6430 hr6430 => ?_)
            obtain rfl := hr6430
            refine lv_icmp_ge (tgt := 82) hx hb gX12_isName_2.2.2.2.2.2.2.1 (by decide) (fun c9 => absurd c9 (nI_ge (a := kP) (b := (SLEN.getD i9 0)) (by omega) (by omega))) (fun _ => ?_)
            refine lv_aload_n hx hb gX12_isName_2.2.2.2.2.2.2.2.1 rfl (lv_at2 hl) ?_
            refine gf_X12_16 hC rfl hK hP 0 rfl rfl gX12_isName_2.2.2.2.2.2.2.2.2.1 ?_
            refine lv_aload_n hx hb gX12_isName_2.2.2.2.2.2.2.2.2.2 rfl (lv_at2 hl) ?_
            refine gf_X12_214 hC rfl hK hP 0 rfl rfl gX12_isName_3.1 ?_
            refine lv_iload_n hx hb gX12_isName_3.2.1 rfl (lv_at0 hl) ?_
            refine lv_iadd hx hb gX12_isName_3.2.2.1 ?_
            refine eqi (x1 := nI (ks + kP)) (nI_add ks kP) ?_
            refine aldN hC hK hP 1 rfl (k := (ks + kP)) (by omega) (Nat.le_of_ble_eq_true rfl) (v := fnt (ks + kP)) rfl gX12_isName_3.2.2.2.1 ?_
            refine eqi (x1 := bt (ks + kP)) (hFB _ (by omega)) ?_
            refine lv_aload_n hx hb gX12_isName_3.2.2.2.2.1 rfl (lv_at3 hl) ?_
            refine lv_iload_n hx hb gX12_isName_3.2.2.2.2.2.1 rfl (lv_at0 hl) ?_
            refine pTo (i := i9) (hi9) hO hS hC hK hl (j_chr l G K i9 kP ((hi9)) (by omega)) si_X12_229 rfl rfl (Nat.le_of_ble_eq_true rfl) rm_5_4_2 ⟨by first | exact Nat.le_of_ble_eq_true rfl | exact Nat.zero_le _, by first | exact Nat.le_of_ble_eq_true rfl | exact Nat.zero_le _⟩ gX12_isName_3.2.2.2.2.2.2.1 (fun r6432 hr6432 => ?_)
            obtain rfl := hr6432
            refine lv_icmp_ne (tgt := 74) hx hb gX12_isName_3.2.2.2.2.2.2.2.1 (by decide) (fun c_67_6434 => ?_) (fun c_67_6434 => ?_)
            · refine lv_iconst (v := 0) hx hb gX12_isName_4.1 (by decide) ?_
              refine lv_istore_n (lv' := [(2, .int 0), (3, .int (nI kP)), (0, .ref h0), (1, .ref (K.1 i9))]) hx hb gX12_isName_4.2.1 rfl hl (by decide) rfl (fun ls hl => ?_)
              refine lv_iinc (v := nI (kP + 1)) (lv' := [(3, .int (nI (kP + 1))), (2, .int 0), (0, .ref h0), (1, .ref (K.1 i9))]) hx hb gX12_isName_4.2.2.1 hl (k := 1) rfl (nI_1 _) (by decide) rfl (fun ls hl => ?_)
              refine lv_goto (tgt := 39) hx hb gX12_isName_4.2.2.2.1 (by decide) ?_
              exact ihP (kP + 1) 0 _ (by omega) (by first | assumption | exact Or.inl rfl | exact Or.inr rfl | exact Or.inl ⟨rfl, WDP.zero⟩ | exact Or.inl ⟨rfl, hwp.next (by assumption)⟩ | exact Or.inr ⟨rfl, WDP.nn (by assumption)⟩) (lv_sub hl [0, 1, 2, 3] rfl)
            · refine lv_iconst (v := 1) hx hb gX12_isName_3.2.2.2.2.2.2.2.2.1 (by decide) ?_
              refine lv_goto (tgt := 75) hx hb gX12_isName_3.2.2.2.2.2.2.2.2.2 (by decide) ?_
              refine lv_istore_n (lv' := [(2, .int 1), (3, .int (nI kP)), (0, .ref h0), (1, .ref (K.1 i9))]) hx hb gX12_isName_4.2.1 rfl hl (by decide) rfl (fun ls hl => ?_)
              refine lv_iinc (v := nI (kP + 1)) (lv' := [(3, .int (nI (kP + 1))), (2, .int 1), (0, .ref h0), (1, .ref (K.1 i9))]) hx hb gX12_isName_4.2.2.1 hl (k := 1) rfl (nI_1 _) (by decide) rfl (fun ls hl => ?_)
              refine lv_goto (tgt := 39) hx hb gX12_isName_4.2.2.2.1 (by decide) ?_
              exact ihP (kP + 1) 1 _ (by omega) (by first | assumption | exact Or.inl rfl | exact Or.inr rfl | exact Or.inl ⟨rfl, WDP.zero⟩ | exact Or.inl ⟨rfl, hwp.next (by assumption)⟩ | exact Or.inr ⟨rfl, WDP.nn (by assumption)⟩) (lv_sub hl [0, 1, 2, 3] rfl)
          · refine lv_if_eq (tgt := 82) hx hb gX12_isName_2.2.2.1 (by decide) (fun _ => ?_) (fun c9 => absurd (by decide) c9)
            refine lv_iload_n hx hb gX12_isName_4.2.2.2.2.1 rfl (lv_at1 hl) ?_
            refine toQ hQ0 ?_
            exact RP (v := 0) hC (Or.inr ⟨rfl, fun h9 => hnw (WDP.le h9.2.2 (by omega))⟩) (by decide +kernel) gX12_isName_4.2.2.2.2.2
      exact keyP (SLEN.getD i9 0) 0 1 _ (by omega) (by first | assumption | exact Or.inl rfl | exact Or.inr rfl | exact Or.inl ⟨rfl, WDP.zero⟩ | exact Or.inl ⟨rfl, hwp.next (by assumption)⟩ | exact Or.inr ⟨rfl, WDP.nn (by assumption)⟩) (lv_sub hl [0, 1, 2, 3] rfl)
def K_m_isSignF (l : Launch) (G : GG) (h0 : Nat) (cc : Int32) (nw : Nat) (nk : Nat) (mhasKept : Int32) (nt : Nat) (mtaped : Int32) (nr : Nat) (mrowMany : Int32) (mroundOf : Int32) (mroundFrom : Int32) (mouts : Int32) (nm : Nat) (mfromHour : Int32) (mtoHour : Int32) (ns : Nat) (mfrom : Int32) (mto : Int32) (msort : Int32) (mdeep : Int32) (mcoded : Int32) (mlines : Int32) (nl : Nat) (nc : Nat) (nF : Nat) (np : Nat) (ntr : Nat) (nb : Nat) (mbestCost : Int32) (nso : Nat) (nsi : Nat) (nit : Nat) (nsh : Nat) (nsf : Nat) (nss : Nat) (nrc : Nat) (mtraced : Int32) (mdealer : Int32) (mnumber : Int32) (mwhose : Int32) (msize : Int32) (misParted : Int32) : Prop := MP l G yX12_isSign cX12_isSign 2 (some .boolean) 1 [.ref h0, .int cc] [(h0, oX12 nw nk mhasKept nt mtaped nr mrowMany mroundOf mroundFrom mouts nm mfromHour mtoHour ns mfrom mto msort 1 mdeep mcoded mlines nl nc nF np ntr nb mbestCost nso nsi nit nsh nsf nss nrc mtraced mdealer mnumber mwhose msize misParted)] (fun r : Int32 => r = 0)
set_option maxHeartbeats 4000000 in
set_option maxRecDepth 100000 in
theorem m_isSignF (l : Launch) (G : GG) (h0 : Nat) (cc : Int32) (nw : Nat) (nk : Nat) (mhasKept : Int32) (nt : Nat) (mtaped : Int32) (nr : Nat) (mrowMany : Int32) (mroundOf : Int32) (mroundFrom : Int32) (mouts : Int32) (nm : Nat) (mfromHour : Int32) (mtoHour : Int32) (ns : Nat) (mfrom : Int32) (mto : Int32) (msort : Int32) (mdeep : Int32) (mcoded : Int32) (mlines : Int32) (nl : Nat) (nc : Nat) (nF : Nat) (np : Nat) (ntr : Nat) (nb : Nat) (mbestCost : Int32) (nso : Nat) (nsi : Nat) (nit : Nat) (nsh : Nat) (nsf : Nat) (nss : Nat) (nrc : Nat) (mtraced : Int32) (mdealer : Int32) (mnumber : Int32) (mwhose : Int32) (msize : Int32) (misParted : Int32) : K_m_isSignF l G h0 cc nw nk mhasKept nt mtaped nr mrowMany mroundOf mroundFrom mouts nm mfromHour mtoHour ns mfrom mto msort mdeep mcoded mlines nl nc nF np ntr nb mbestCost nso nsi nit nsh nsf nss nrc mtraced mdealer mnumber mwhose msize misParted := by
  refine MP.start (by decide +kernel) (Nat.le_of_ble_eq_true rfl) ?_
  intro p e s m below meth c ls hC hK hP hD hl
  refine absQ (fun Q0 hQ0 => ?_)
  have hl : lv_has ls 2 [(0, .ref h0), (1, .int cc)] := hl
  refine Kan8 hC (fun hx hb hr hml hB hown hlocks hnm => ?_)
  refine lv_aload_n hx hb gX12_isSign_0.1 rfl (lv_at0 hl) ?_
  refine gf_X12_222 hC rfl hK hP 0 rfl rfl gX12_isSign_0.2.1 ?_
  refine lv_if_ne (tgt := 32) hx hb gX12_isSign_0.2.2.1 (by decide) (fun _ => ?_) (fun c9 => absurd c9 (by decide))
  refine lv_iconst (v := 0) hx hb gX12_isSign_1.2.2.2.2.2.2.1 (by decide) ?_
  refine toQ hQ0 ?_
  exact RP (v := 0) hC (rfl) (by decide +kernel) gX12_isSign_1.2.2.2.2.2.2.2
def K_m_isSignX (l : Launch) (G : GG) (h0 : Nat) (cc : Int32) (nw : Nat) (nk : Nat) (mhasKept : Int32) (nt : Nat) (ktp : Nat) (nr : Nat) (mrowMany : Int32) (mroundOf : Int32) (mroundFrom : Int32) (mouts : Int32) (nm : Nat) (mfromHour : Int32) (mtoHour : Int32) (ns : Nat) (ks : Nat) (mdeep : Int32) (mcoded : Int32) (mlines : Int32) (nl : Nat) (nc : Nat) (nF : Nat) (np : Nat) (ntr : Nat) (nb : Nat) (mbestCost : Int32) (nso : Nat) (nsi : Nat) (nit : Nat) (nsh : Nat) (nsf : Nat) (nss : Nat) (nrc : Nat) (mtraced : Int32) (mdealer : Int32) (mnumber : Int32) (mwhose : Int32) (msize : Int32) (misParted : Int32) (fnt : Nat → Int32) (bt : Nat → Int32) : Prop := MP l G yX12_isSign cX12_isSign 2 (some .boolean) 1 [.ref h0, .int cc] [(h0, oX12 nw nk mhasKept nt (nI ktp) nr mrowMany mroundOf mroundFrom mouts nm mfromHour mtoHour ns (nI ks) (nI (TKE bt ktp ks)) (nI (TKN bt ktp ks)) 0 mdeep mcoded mlines nl nc nF np ntr nb mbestCost nso nsi nit nsh nsf nss nrc mtraced mdealer mnumber mwhose msize misParted), (nt, iA G 240 fnt)] (fun r : Int32 => (r = 1 ∧ SGN bt ktp ks cc) ∨ (r = 0 ∧ ¬ SGN bt ktp ks cc))
set_option maxHeartbeats 4000000 in
set_option maxRecDepth 100000 in
theorem m_isSignX (l : Launch) (G : GG) (h0 : Nat) (cc : Int32) (nw : Nat) (nk : Nat) (mhasKept : Int32) (nt : Nat) (ktp : Nat) (nr : Nat) (mrowMany : Int32) (mroundOf : Int32) (mroundFrom : Int32) (mouts : Int32) (nm : Nat) (mfromHour : Int32) (mtoHour : Int32) (ns : Nat) (ks : Nat) (mdeep : Int32) (mcoded : Int32) (mlines : Int32) (nl : Nat) (nc : Nat) (nF : Nat) (np : Nat) (ntr : Nat) (nb : Nat) (mbestCost : Int32) (nso : Nat) (nsi : Nat) (nit : Nat) (nsh : Nat) (nsf : Nat) (nss : Nat) (nrc : Nat) (mtraced : Int32) (mdealer : Int32) (mnumber : Int32) (mwhose : Int32) (msize : Int32) (misParted : Int32) (fnt : Nat → Int32) (bt : Nat → Int32) (htp : ktp ≤ 240) (hks : ks ≤ ktp) (hFB : FBT fnt bt ktp) : K_m_isSignX l G h0 cc nw nk mhasKept nt ktp nr mrowMany mroundOf mroundFrom mouts nm mfromHour mtoHour ns ks mdeep mcoded mlines nl nc nF np ntr nb mbestCost nso nsi nit nsh nsf nss nrc mtraced mdealer mnumber mwhose msize misParted fnt bt := by
  refine MP.start (by decide +kernel) (Nat.le_of_ble_eq_true rfl) ?_
  intro p e s m below meth c ls hC hK hP hD hl
  refine absQ (fun Q0 hQ0 => ?_)
  have hl : lv_has ls 2 [(0, .ref h0), (1, .int cc)] := hl
  refine Kan8 hC (fun hx hb hr hml hB hown hlocks hnm => ?_)
  have tk3 := TKN.le3 bt ktp ks
  refine lv_aload_n hx hb gX12_isSign_0.1 rfl (lv_at0 hl) ?_
  refine gf_X12_222 hC rfl hK hP 0 rfl rfl gX12_isSign_0.2.1 ?_
  refine lv_if_ne (tgt := 32) hx hb gX12_isSign_0.2.2.1 (by decide) (fun c9 => absurd (by decide) c9) (fun _ => ?_)
  refine lv_aload_n hx hb gX12_isSign_0.2.2.2.1 rfl (lv_at0 hl) ?_
  refine gf_X12_217 hC rfl hK hP 0 rfl rfl gX12_isSign_0.2.2.2.2.1 ?_
  refine lv_iconst (v := 3) hx hb gX12_isSign_0.2.2.2.2.2.1 (by decide) ?_
  refine lv_icmp_ne (tgt := 32) hx hb gX12_isSign_0.2.2.2.2.2.2.1 (by decide) (fun c_12_6435 => ?_) (fun c_12_6435 => ?_)
  · have nb6436 : ¬ (TKN bt ktp ks) = 3 := fun h9 => c_12_6435 ((nI_eq (a := (TKN bt ktp ks)) (b := 3) (by omega) (by omega)).mpr h9)
    refine lv_iconst (v := 0) hx hb gX12_isSign_1.2.2.2.2.2.2.1 (by decide) ?_
    refine toQ hQ0 ?_
    exact RP (v := 0) hC (Or.inr ⟨rfl, fun h9 => absurd h9.1 (by omega)⟩) (by decide +kernel) gX12_isSign_1.2.2.2.2.2.2.2
  · have nb6437 : (TKN bt ktp ks) = 3 := (nI_eq (a := (TKN bt ktp ks)) (b := 3) (by omega) (by omega)).mp c_12_6435
    have hlt9 : ks < ktp := TKN.lt (bt := bt) (n := ktp) (s := ks) (by omega)
    refine lv_aload_n hx hb gX12_isSign_0.2.2.2.2.2.2.2.1 rfl (lv_at0 hl) ?_
    refine gf_X12_16 hC rfl hK hP 0 rfl rfl gX12_isSign_0.2.2.2.2.2.2.2.2.1 ?_
    refine lv_aload_n hx hb gX12_isSign_0.2.2.2.2.2.2.2.2.2 rfl (lv_at0 hl) ?_
    refine gf_X12_214 hC rfl hK hP 0 rfl rfl gX12_isSign_1.1 ?_
    refine aldN hC hK hP 1 rfl (k := ks) (by omega) (Nat.le_of_ble_eq_true rfl) (v := fnt ks) rfl gX12_isSign_1.2.1 ?_
    refine eqi (x1 := bt ks) (hFB _ (by omega)) ?_
    refine lv_iload_n hx hb gX12_isSign_1.2.2.1 rfl (lv_at1 hl) ?_
    refine lv_icmp_ne (tgt := 32) hx hb gX12_isSign_1.2.2.2.1 (by decide) (fun c_25_6438 => ?_) (fun c_25_6438 => ?_)
    · refine lv_iconst (v := 0) hx hb gX12_isSign_1.2.2.2.2.2.2.1 (by decide) ?_
      refine toQ hQ0 ?_
      exact RP (v := 0) hC (Or.inr ⟨rfl, fun h9 => c_25_6438 h9.2⟩) (by decide +kernel) gX12_isSign_1.2.2.2.2.2.2.2
    · refine lv_iconst (v := 1) hx hb gX12_isSign_1.2.2.2.2.1 (by decide) ?_
      refine lv_goto (tgt := 33) hx hb gX12_isSign_1.2.2.2.2.2.1 (by decide) ?_
      refine toQ hQ0 ?_
      exact RP (v := 1) hC (Or.inl ⟨rfl, by omega, c_25_6438⟩) (by decide +kernel) gX12_isSign_1.2.2.2.2.2.2.2
def K_m_needF (l : Launch) (G : GG) (h0 : Nat) (is9 : Int32) (nw : Nat) (nk : Nat) (mhasKept : Int32) (nt : Nat) (mtaped : Int32) (nr : Nat) (mrowMany : Int32) (mroundOf : Int32) (mroundFrom : Int32) (mouts : Int32) (nm : Nat) (mfromHour : Int32) (mtoHour : Int32) (ns : Nat) (mfrom : Int32) (mto : Int32) (msort : Int32) (mdeep : Int32) (mcoded : Int32) (mlines : Int32) (nl : Nat) (nc : Nat) (nF : Nat) (np : Nat) (ntr : Nat) (nb : Nat) (mbestCost : Int32) (nso : Nat) (nsi : Nat) (nit : Nat) (nsh : Nat) (nsf : Nat) (nss : Nat) (nrc : Nat) (mtraced : Int32) (mdealer : Int32) (mnumber : Int32) (mwhose : Int32) (msize : Int32) (misParted : Int32) : Prop := MV l G yX12_need cX12_need 2 4 0 0 [.ref h0, .int is9] [(h0, oX12 nw nk mhasKept nt mtaped nr mrowMany mroundOf mroundFrom mouts nm mfromHour mtoHour ns mfrom mto msort 1 mdeep mcoded mlines nl nc nF np ntr nb mbestCost nso nsi nit nsh nsf nss nrc mtraced mdealer mnumber mwhose msize misParted)] (fun u : Unit => True) (fun u : Unit => [(h0, oX12 nw nk mhasKept nt mtaped nr mrowMany mroundOf mroundFrom mouts nm mfromHour mtoHour ns mfrom mto msort 1 mdeep mcoded mlines nl nc nF np ntr nb mbestCost nso nsi nit nsh nsf nss nrc mtraced mdealer mnumber mwhose msize misParted)])
set_option maxHeartbeats 4000000 in
set_option maxRecDepth 100000 in
theorem m_needF (l : Launch) (G : GG) (h0 : Nat) (is9 : Int32) (nw : Nat) (nk : Nat) (mhasKept : Int32) (nt : Nat) (mtaped : Int32) (nr : Nat) (mrowMany : Int32) (mroundOf : Int32) (mroundFrom : Int32) (mouts : Int32) (nm : Nat) (mfromHour : Int32) (mtoHour : Int32) (ns : Nat) (mfrom : Int32) (mto : Int32) (msort : Int32) (mdeep : Int32) (mcoded : Int32) (mlines : Int32) (nl : Nat) (nc : Nat) (nF : Nat) (np : Nat) (ntr : Nat) (nb : Nat) (mbestCost : Int32) (nso : Nat) (nsi : Nat) (nit : Nat) (nsh : Nat) (nsf : Nat) (nss : Nat) (nrc : Nat) (mtraced : Int32) (mdealer : Int32) (mnumber : Int32) (mwhose : Int32) (msize : Int32) (misParted : Int32) : K_m_needF l G h0 is9 nw nk mhasKept nt mtaped nr mrowMany mroundOf mroundFrom mouts nm mfromHour mtoHour ns mfrom mto msort mdeep mcoded mlines nl nc nF np ntr nb mbestCost nso nsi nit nsh nsf nss nrc mtraced mdealer mnumber mwhose msize misParted := by
  refine MV.start (by decide +kernel) (Nat.le_of_ble_eq_true rfl) ?_
  intro p e s m below meth c A ls hC hK hP hD hS hA hl
  refine absQ (fun Q0 hQ0 => ?_)
  have hl : lv_has ls 2 [(0, .ref h0), (1, .int is9)] := hl
  refine Kan8 hC (fun hx hb hr hml hB hown hlocks hnm => ?_)
  refine lv_aload_n hx hb gX12_need_0.1 rfl (lv_at0 hl) ?_
  refine lv_aload_n hx hb gX12_need_0.2.1 rfl (lv_at0 hl) ?_
  refine gf_X12_222 hC rfl hK hP 0 rfl rfl gX12_need_0.2.2.1 ?_
  refine lv_if_ne (tgt := 12) hx hb gX12_need_0.2.2.2.1 (by decide) (fun _ => ?_) (fun c9 => absurd c9 (by decide))
  refine lv_iconst (v := 1) hx hb gX12_need_0.2.2.2.2.2.2.1 (by decide) ?_
  refine lv_goto (tgt := 17) hx hb gX12_need_0.2.2.2.2.2.2.2.1 (by decide) ?_
  refine pf_X12_222 hC rfl hK hP hD hS 0 (ws' := [(h0, oX12 nw nk mhasKept nt mtaped nr mrowMany mroundOf mroundFrom mouts nm mfromHour mtoHour ns mfrom mto msort 1 mdeep mcoded mlines nl nc nF np ntr nb mbestCost nso nsi nit nsh nsf nss nrc mtraced mdealer mnumber mwhose msize misParted)]) rfl (Nat.le_of_ble_eq_true rfl) rfl (by decide +kernel) (by decide +kernel) gX12_need_0.2.2.2.2.2.2.2.2.2 (fun H locs hP hD hS => ?_)
  refine lv_aload_n hx hb gX12_need_1.1 rfl (lv_at0 hl) ?_
  refine gf_X12_222 hC rfl hK hP 0 rfl rfl gX12_need_1.2.1 ?_
  refine lv_if_ne (tgt := 31) hx hb gX12_need_1.2.2.1 (by decide) (fun _ => ?_) (fun c9 => absurd c9 (by decide))
  refine toQ hQ0 ?_
  exact RV hC hP hD hS [0] () rfl rfl (by decide) (trivial) gX12_need_1.2.2.2.2.2
def K_m_need0 (l : Launch) (G : GG) (h0 : Nat) (nw : Nat) (nk : Nat) (mhasKept : Int32) (nt : Nat) (mtaped : Int32) (nr : Nat) (mrowMany : Int32) (mroundOf : Int32) (mroundFrom : Int32) (mouts : Int32) (nm : Nat) (mfromHour : Int32) (mtoHour : Int32) (ns : Nat) (mfrom : Int32) (mto : Int32) (msort : Int32) (mdeep : Int32) (mcoded : Int32) (mlines : Int32) (nl : Nat) (nc : Nat) (nF : Nat) (np : Nat) (ntr : Nat) (nb : Nat) (mbestCost : Int32) (nso : Nat) (nsi : Nat) (nit : Nat) (nsh : Nat) (nsf : Nat) (nss : Nat) (nrc : Nat) (mtraced : Int32) (mdealer : Int32) (mnumber : Int32) (mwhose : Int32) (msize : Int32) (misParted : Int32) : Prop := MV l G yX12_need cX12_need 2 4 0 0 [.ref h0, .int 0] [(h0, oX12 nw nk mhasKept nt mtaped nr mrowMany mroundOf mroundFrom mouts nm mfromHour mtoHour ns mfrom mto msort 0 mdeep mcoded mlines nl nc nF np ntr nb mbestCost nso nsi nit nsh nsf nss nrc mtraced mdealer mnumber mwhose msize misParted)] (fun u : Unit => True) (fun u : Unit => [(h0, oX12 nw nk mhasKept nt mtaped nr mrowMany mroundOf mroundFrom mouts nm mfromHour mtoHour ns mfrom mto msort 1 mdeep mcoded mlines nl nc nF np ntr nb mbestCost nso nsi nit nsh nsf nss nrc mtraced mdealer mnumber mwhose msize misParted)])
set_option maxHeartbeats 4000000 in
set_option maxRecDepth 100000 in
theorem m_need0 (l : Launch) (G : GG) (h0 : Nat) (nw : Nat) (nk : Nat) (mhasKept : Int32) (nt : Nat) (mtaped : Int32) (nr : Nat) (mrowMany : Int32) (mroundOf : Int32) (mroundFrom : Int32) (mouts : Int32) (nm : Nat) (mfromHour : Int32) (mtoHour : Int32) (ns : Nat) (mfrom : Int32) (mto : Int32) (msort : Int32) (mdeep : Int32) (mcoded : Int32) (mlines : Int32) (nl : Nat) (nc : Nat) (nF : Nat) (np : Nat) (ntr : Nat) (nb : Nat) (mbestCost : Int32) (nso : Nat) (nsi : Nat) (nit : Nat) (nsh : Nat) (nsf : Nat) (nss : Nat) (nrc : Nat) (mtraced : Int32) (mdealer : Int32) (mnumber : Int32) (mwhose : Int32) (msize : Int32) (misParted : Int32) : K_m_need0 l G h0 nw nk mhasKept nt mtaped nr mrowMany mroundOf mroundFrom mouts nm mfromHour mtoHour ns mfrom mto msort mdeep mcoded mlines nl nc nF np ntr nb mbestCost nso nsi nit nsh nsf nss nrc mtraced mdealer mnumber mwhose msize misParted := by
  refine MV.start (by decide +kernel) (Nat.le_of_ble_eq_true rfl) ?_
  intro p e s m below meth c A ls hC hK hP hD hS hA hl
  refine absQ (fun Q0 hQ0 => ?_)
  have hl : lv_has ls 2 [(0, .ref h0), (1, .int 0)] := hl
  refine Kan8 hC (fun hx hb hr hml hB hown hlocks hnm => ?_)
  refine lv_aload_n hx hb gX12_need_0.1 rfl (lv_at0 hl) ?_
  refine lv_aload_n hx hb gX12_need_0.2.1 rfl (lv_at0 hl) ?_
  refine gf_X12_222 hC rfl hK hP 0 rfl rfl gX12_need_0.2.2.1 ?_
  refine lv_if_ne (tgt := 12) hx hb gX12_need_0.2.2.2.1 (by decide) (fun c9 => absurd (by decide) c9) (fun _ => ?_)
  refine lv_iload_n hx hb gX12_need_0.2.2.2.2.1 rfl (lv_at1 hl) ?_
  refine lv_if_ne (tgt := 16) hx hb gX12_need_0.2.2.2.2.2.1 (by decide) (fun c9 => absurd (by decide) c9) (fun _ => ?_)
  refine lv_iconst (v := 1) hx hb gX12_need_0.2.2.2.2.2.2.1 (by decide) ?_
  refine lv_goto (tgt := 17) hx hb gX12_need_0.2.2.2.2.2.2.2.1 (by decide) ?_
  refine pf_X12_222 hC rfl hK hP hD hS 0 (ws' := [(h0, oX12 nw nk mhasKept nt mtaped nr mrowMany mroundOf mroundFrom mouts nm mfromHour mtoHour ns mfrom mto msort 1 mdeep mcoded mlines nl nc nF np ntr nb mbestCost nso nsi nit nsh nsf nss nrc mtraced mdealer mnumber mwhose msize misParted)]) rfl (Nat.le_of_ble_eq_true rfl) rfl (by decide +kernel) (by decide +kernel) gX12_need_0.2.2.2.2.2.2.2.2.2 (fun H locs hP hD hS => ?_)
  refine lv_aload_n hx hb gX12_need_1.1 rfl (lv_at0 hl) ?_
  refine gf_X12_222 hC rfl hK hP 0 rfl rfl gX12_need_1.2.1 ?_
  refine lv_if_ne (tgt := 31) hx hb gX12_need_1.2.2.1 (by decide) (fun _ => ?_) (fun c9 => absurd c9 (by decide))
  refine toQ hQ0 ?_
  exact RV hC hP hD hS [0] () rfl rfl (by decide) (trivial) gX12_need_1.2.2.2.2.2
def K_m_need1X (l : Launch) (G : GG) (h0 : Nat) (nw : Nat) (nk : Nat) (mhasKept : Int32) (nt : Nat) (ktp : Nat) (nr : Nat) (mrowMany : Int32) (mroundOf : Int32) (mroundFrom : Int32) (mouts : Int32) (nm : Nat) (mfromHour : Int32) (mtoHour : Int32) (ns : Nat) (ks : Nat) (mdeep : Int32) (mcoded : Int32) (mlines : Int32) (nl : Nat) (nc : Nat) (nF : Nat) (np : Nat) (ntr : Nat) (nb : Nat) (mbestCost : Int32) (nso : Nat) (nsi : Nat) (nit : Nat) (nsh : Nat) (nsf : Nat) (nss : Nat) (nrc : Nat) (mtraced : Int32) (mdealer : Int32) (mnumber : Int32) (mwhose : Int32) (msize : Int32) (misParted : Int32) (fnt : Nat → Int32) (bt : Nat → Int32) : Prop := MV l G yX12_need cX12_need 2 4 0 0 [.ref h0, .int 1] [(h0, oX12 nw nk mhasKept nt (nI ktp) nr mrowMany mroundOf mroundFrom mouts nm mfromHour mtoHour ns (nI ks) (nI (TKE bt ktp ks)) (nI (TKN bt ktp ks)) 0 mdeep mcoded mlines nl nc nF np ntr nb mbestCost nso nsi nit nsh nsf nss nrc mtraced mdealer mnumber mwhose msize misParted), (nt, iA G 240 fnt)] (fun u : Unit => True) (fun u : Unit => [(h0, oX12 nw nk mhasKept nt (nI ktp) nr mrowMany mroundOf mroundFrom mouts nm mfromHour mtoHour ns (nI (NXT bt ktp ks)) (nI (TKE bt ktp (NXT bt ktp ks))) (nI (TKN bt ktp (NXT bt ktp ks))) 0 mdeep mcoded mlines nl nc nF np ntr nb mbestCost nso nsi nit nsh nsf nss nrc mtraced mdealer mnumber mwhose msize misParted), (nt, iA G 240 fnt)])
set_option maxHeartbeats 4000000 in
set_option maxRecDepth 100000 in
theorem m_need1X (l : Launch) (G : GG) (h0 : Nat) (nw : Nat) (nk : Nat) (mhasKept : Int32) (nt : Nat) (ktp : Nat) (nr : Nat) (mrowMany : Int32) (mroundOf : Int32) (mroundFrom : Int32) (mouts : Int32) (nm : Nat) (mfromHour : Int32) (mtoHour : Int32) (ns : Nat) (ks : Nat) (mdeep : Int32) (mcoded : Int32) (mlines : Int32) (nl : Nat) (nc : Nat) (nF : Nat) (np : Nat) (ntr : Nat) (nb : Nat) (mbestCost : Int32) (nso : Nat) (nsi : Nat) (nit : Nat) (nsh : Nat) (nsf : Nat) (nss : Nat) (nrc : Nat) (mtraced : Int32) (mdealer : Int32) (mnumber : Int32) (mwhose : Int32) (msize : Int32) (misParted : Int32) (fnt : Nat → Int32) (bt : Nat → Int32) (htp : ktp ≤ 240) (hks : ks ≤ ktp) (hFB : FBT fnt bt ktp) : K_m_need1X l G h0 nw nk mhasKept nt ktp nr mrowMany mroundOf mroundFrom mouts nm mfromHour mtoHour ns ks mdeep mcoded mlines nl nc nF np ntr nb mbestCost nso nsi nit nsh nsf nss nrc mtraced mdealer mnumber mwhose msize misParted fnt bt := by
  refine MV.start (by decide +kernel) (Nat.le_of_ble_eq_true rfl) ?_
  intro p e s m below meth c A ls hC hK hP hD hS hA hl
  refine absQ (fun Q0 hQ0 => ?_)
  have hl : lv_has ls 2 [(0, .ref h0), (1, .int 1)] := hl
  refine Kan8 hC (fun hx hb hr hml hB hown hlocks hnm => ?_)
  refine lv_aload_n hx hb gX12_need_0.1 rfl (lv_at0 hl) ?_
  refine lv_aload_n hx hb gX12_need_0.2.1 rfl (lv_at0 hl) ?_
  refine gf_X12_222 hC rfl hK hP 0 rfl rfl gX12_need_0.2.2.1 ?_
  refine lv_if_ne (tgt := 12) hx hb gX12_need_0.2.2.2.1 (by decide) (fun c9 => absurd (by decide) c9) (fun _ => ?_)
  refine lv_iload_n hx hb gX12_need_0.2.2.2.2.1 rfl (lv_at1 hl) ?_
  refine lv_if_ne (tgt := 16) hx hb gX12_need_0.2.2.2.2.2.1 (by decide) (fun _ => ?_) (fun c9 => absurd c9 (by decide))
  refine lv_iconst (v := 0) hx hb gX12_need_0.2.2.2.2.2.2.2.2.1 (by decide) ?_
  refine pf_X12_222 hC rfl hK hP hD hS 0 (ws' := [(h0, oX12 nw nk mhasKept nt (nI ktp) nr mrowMany mroundOf mroundFrom mouts nm mfromHour mtoHour ns (nI ks) (nI (TKE bt ktp ks)) (nI (TKN bt ktp ks)) 0 mdeep mcoded mlines nl nc nF np ntr nb mbestCost nso nsi nit nsh nsf nss nrc mtraced mdealer mnumber mwhose msize misParted), (nt, iA G 240 fnt)]) rfl (Nat.le_of_ble_eq_true rfl) rfl (by decide +kernel) (by decide +kernel) gX12_need_0.2.2.2.2.2.2.2.2.2 (fun H locs hP hD hS => ?_)
  refine lv_aload_n hx hb gX12_need_1.1 rfl (lv_at0 hl) ?_
  refine gf_X12_222 hC rfl hK hP 0 rfl rfl gX12_need_1.2.1 ?_
  refine lv_if_ne (tgt := 31) hx hb gX12_need_1.2.2.1 (by decide) (fun c9 => absurd (by decide) c9) (fun _ => ?_)
  refine lv_aload_n hx hb gX12_need_1.2.2.2.1 rfl (lv_at0 hl) ?_
  refine vV (wr := []) hC hK hl hP hD hS hA (m_nextT l G h0 nw nk mhasKept nt ktp nr mrowMany mroundOf mroundFrom mouts nm mfromHour mtoHour ns ks 0 mdeep mcoded mlines nl nc nF np ntr nb mbestCost nso nsi nit nsh nsf nss nrc mtraced mdealer mnumber mwhose msize misParted fnt bt (htp) (hks) (hFB)) si_X12_233 [0, 1] [] sm_0_1 fm_0_1 nd_0_1 rfl rfl (by decide) rfl rfl rfl rfl rfl (Nat.le_of_ble_eq_true rfl) rm_4_3_1 ⟨Nat.le_of_ble_eq_true rfl, Nat.le_of_ble_eq_true rfl⟩ gX12_need_1.2.2.2.2.1 (fun u6440 H locs hr6439 hP hD hS => ?_)
  refine Kpdr (ws := [(h0, oX12 nw nk mhasKept nt (nI ktp) nr mrowMany mroundOf mroundFrom mouts nm mfromHour mtoHour ns (nI (NXT bt ktp ks)) (nI (TKE bt ktp (NXT bt ktp ks))) (nI (TKN bt ktp (NXT bt ktp ks))) 0 mdeep mcoded mlines nl nc nF np ntr nb mbestCost nso nsi nit nsh nsf nss nrc mtraced mdealer mnumber mwhose msize misParted), (nt, iA G 240 fnt)]) hP hD (fun hP hD => ?_)
  have xn6441 := NXT.ge (bt := bt) (n := ktp) (s := ks) (by omega)
  refine toQ hQ0 ?_
  exact RV hC hP hD hS [0, 1] () rfl rfl (by decide) (trivial) gX12_need_1.2.2.2.2.2
def K_m_numberF (l : Launch) (G : GG) (h0 : Nat) (mo9 : Int32) (nw : Nat) (nk : Nat) (mhasKept : Int32) (nt : Nat) (mtaped : Int32) (nr : Nat) (mrowMany : Int32) (mroundOf : Int32) (mroundFrom : Int32) (mouts : Int32) (nm : Nat) (mfromHour : Int32) (mtoHour : Int32) (ns : Nat) (mfrom : Int32) (mto : Int32) (msort : Int32) (mdeep : Int32) (mcoded : Int32) (mlines : Int32) (nl : Nat) (nc : Nat) (nF : Nat) (np : Nat) (ntr : Nat) (nb : Nat) (mbestCost : Int32) (nso : Nat) (nsi : Nat) (nit : Nat) (nsh : Nat) (nsf : Nat) (nss : Nat) (nrc : Nat) (mtraced : Int32) (mdealer : Int32) (mnumber : Int32) (mwhose : Int32) (msize : Int32) (misParted : Int32) : Prop := MI l G yX12_number cX12_number 5 (some .int) 5 0 0 [.ref h0, .int mo9] [(h0, oX12 nw nk mhasKept nt mtaped nr mrowMany mroundOf mroundFrom mouts nm mfromHour mtoHour ns mfrom mto msort 1 mdeep mcoded mlines nl nc nF np ntr nb mbestCost nso nsi nit nsh nsf nss nrc mtraced mdealer mnumber mwhose msize misParted)] (fun (r : Int32) (u : Unit) => (r = 0)) (fun u : Unit => [(h0, oX12 nw nk mhasKept nt mtaped nr mrowMany mroundOf mroundFrom mouts nm mfromHour mtoHour ns mfrom mto msort 1 mdeep mcoded mlines nl nc nF np ntr nb mbestCost nso nsi nit nsh nsf nss nrc mtraced mdealer mnumber mwhose msize misParted)])
set_option maxHeartbeats 4000000 in
set_option maxRecDepth 100000 in
theorem m_numberF (l : Launch) (G : GG) (h0 : Nat) (mo9 : Int32) (nw : Nat) (nk : Nat) (mhasKept : Int32) (nt : Nat) (mtaped : Int32) (nr : Nat) (mrowMany : Int32) (mroundOf : Int32) (mroundFrom : Int32) (mouts : Int32) (nm : Nat) (mfromHour : Int32) (mtoHour : Int32) (ns : Nat) (mfrom : Int32) (mto : Int32) (msort : Int32) (mdeep : Int32) (mcoded : Int32) (mlines : Int32) (nl : Nat) (nc : Nat) (nF : Nat) (np : Nat) (ntr : Nat) (nb : Nat) (mbestCost : Int32) (nso : Nat) (nsi : Nat) (nit : Nat) (nsh : Nat) (nsf : Nat) (nss : Nat) (nrc : Nat) (mtraced : Int32) (mdealer : Int32) (mnumber : Int32) (mwhose : Int32) (msize : Int32) (misParted : Int32) : K_m_numberF l G h0 mo9 nw nk mhasKept nt mtaped nr mrowMany mroundOf mroundFrom mouts nm mfromHour mtoHour ns mfrom mto msort mdeep mcoded mlines nl nc nF np ntr nb mbestCost nso nsi nit nsh nsf nss nrc mtraced mdealer mnumber mwhose msize misParted := by
  refine MI.start (by decide +kernel) (Nat.le_of_ble_eq_true rfl) ?_
  intro p e s m below meth c A ls hC hK hP hD hS hA hl
  refine absQ (fun Q0 hQ0 => ?_)
  have hl : lv_has ls 5 [(0, .ref h0), (1, .int mo9)] := hl
  refine Kan8 hC (fun hx hb hr hml hB hown hlocks hnm => ?_)
  refine lv_iconst (v := 0) hx hb gX12_number_0.1 (by decide) ?_
  refine lv_istore_n (lv' := [(2, .int 0), (0, .ref h0), (1, .int mo9)]) hx hb gX12_number_0.2.1 rfl hl (by decide) rfl (fun ls hl => ?_)
  refine lv_aload_n hx hb gX12_number_0.2.2.1 rfl (lv_at1 hl) ?_
  refine gf_X12_222 hC rfl hK hP 0 rfl rfl gX12_number_0.2.2.2.1 ?_
  refine lv_if_ne (tgt := 34) hx hb gX12_number_0.2.2.2.2.1 (by decide) (fun _ => ?_) (fun c9 => absurd c9 (by decide))
  refine lv_iconst (v := 0) hx hb gX12_number_1.2.2.2.2.2.2.2.2.1 (by decide) ?_
  refine lv_istore_n (lv' := [(3, .int 0), (2, .int 0), (0, .ref h0), (1, .int mo9)]) hx hb gX12_number_1.2.2.2.2.2.2.2.2.2 rfl hl (by decide) rfl (fun ls hl => ?_)
  refine lv_aload_n hx hb gX12_number_2.1 rfl (lv_at2 hl) ?_
  refine gf_X12_214 hC rfl hK hP 0 rfl rfl gX12_number_2.2.1 ?_
  refine lv_istore (lv' := [(4, .int mfrom), (3, .int 0), (2, .int 0), (0, .ref h0), (1, .int mo9)]) hx hb gX12_number_2.2.2.1 hl (by decide) rfl (fun ls hl => ?_)
  refine lv_iload_n hx hb gX12_number_2.2.2.2.1 rfl (lv_at1 hl) ?_
  refine lv_if_eq (tgt := 77) hx hb gX12_number_2.2.2.2.2.1 (by decide) (fun _ => ?_) (fun c9 => absurd (by decide) c9)
  refine lv_aload_n hx hb gX12_number_4.2.2.1 rfl (lv_at3 hl) ?_
  refine lv_iload_n hx hb gX12_number_4.2.2.2.1 rfl (lv_at1 hl) ?_
  refine lv_if_eq (tgt := 91) hx hb gX12_number_4.2.2.2.2.1 (by decide) (fun _ => ?_) (fun c9 => absurd (by decide) c9)
  refine lv_iconst (v := 0) hx hb gX12_number_5.1 (by decide) ?_
  refine vV (wr := []) hC hK hl hP hD hS hA (m_needF l G h0 0 nw nk mhasKept nt mtaped nr mrowMany mroundOf mroundFrom mouts nm mfromHour mtoHour ns mfrom mto msort mdeep mcoded mlines nl nc nF np ntr nb mbestCost nso nsi nit nsh nsf nss nrc mtraced mdealer mnumber mwhose msize misParted) si_X12_236 [0] [] sm_0 fm_0 nd_0 rfl rfl (by decide) rfl rfl rfl rfl rfl (Nat.le_of_ble_eq_true rfl) rm_5_4_2 ⟨Nat.le_of_ble_eq_true rfl, Nat.le_of_ble_eq_true rfl⟩ gX12_number_5.2.1 (fun u6443 H locs hr6442 hP hD hS => ?_)
  refine Kpdr (ws := [(h0, oX12 nw nk mhasKept nt mtaped nr mrowMany mroundOf mroundFrom mouts nm mfromHour mtoHour ns mfrom mto msort 1 mdeep mcoded mlines nl nc nF np ntr nb mbestCost nso nsi nit nsh nsf nss nrc mtraced mdealer mnumber mwhose msize misParted)]) hP hD (fun hP hD => ?_)
  refine lv_iload_n hx hb gX12_number_5.2.2.1 rfl (lv_at2 hl) ?_
  refine toQ hQ0 ?_
  exact RI (v := 0) hC hP hD hS [0] () rfl rfl (by decide) (rfl) rfl gX12_number_5.2.2.2
def K_m_numberX (l : Launch) (G : GG) (h0 : Nat) (mq : Nat) (nw : Nat) (nk : Nat) (mhasKept : Int32) (nt : Nat) (ktp : Nat) (nr : Nat) (mrowMany : Int32) (mroundOf : Int32) (mroundFrom : Int32) (mouts : Int32) (nm : Nat) (mfromHour : Int32) (mtoHour : Int32) (ns : Nat) (ks : Nat) (mdeep : Int32) (mcoded : Int32) (mlines : Int32) (nl : Nat) (nc : Nat) (nF : Nat) (np : Nat) (ntr : Nat) (nb : Nat) (mbestCost : Int32) (nso : Nat) (nsi : Nat) (nit : Nat) (nsh : Nat) (nsf : Nat) (nss : Nat) (nrc : Nat) (mtraced : Int32) (mdealer : Int32) (mnumber : Int32) (mwhose : Int32) (msize : Int32) (misParted : Int32) (fnt : Nat → Int32) (bt : Nat → Int32) : Prop := MI l G yX12_number cX12_number 5 (some .int) 5 0 0 [.ref h0, .int (nI mq)] [(h0, oX12 nw nk mhasKept nt (nI ktp) nr mrowMany mroundOf mroundFrom mouts nm mfromHour mtoHour ns (nI ks) (nI (TKE bt ktp ks)) (nI (TKN bt ktp ks)) 0 mdeep mcoded mlines nl nc nF np ntr nb mbestCost nso nsi nit nsh nsf nss nrc mtraced mdealer mnumber mwhose msize misParted), (nt, iA G 240 fnt)] (fun (r : Int32) (u : Int32 × Nat) => (True) ∧ ((0 = u.1 ∧ NXT bt ktp ks = u.2 ∧ nI (NVL bt ktp ks) = r ∧ NML bt ktp mq ks = some (NVL bt ktp ks)) ∨ (1 = u.1 ∧ ks = u.2 ∧ NML bt ktp mq ks = none))) (fun u : Int32 × Nat => [(h0, oX12 nw nk mhasKept nt (nI ktp) nr mrowMany mroundOf mroundFrom mouts nm mfromHour mtoHour ns (nI u.2) (nI (TKE bt ktp u.2)) (nI (TKN bt ktp u.2)) u.1 mdeep mcoded mlines nl nc nF np ntr nb mbestCost nso nsi nit nsh nsf nss nrc mtraced mdealer mnumber mwhose msize misParted), (nt, iA G 240 fnt)])
set_option maxHeartbeats 4000000 in
set_option maxRecDepth 100000 in
theorem m_numberX (l : Launch) (G : GG) (h0 : Nat) (mq : Nat) (nw : Nat) (nk : Nat) (mhasKept : Int32) (nt : Nat) (ktp : Nat) (nr : Nat) (mrowMany : Int32) (mroundOf : Int32) (mroundFrom : Int32) (mouts : Int32) (nm : Nat) (mfromHour : Int32) (mtoHour : Int32) (ns : Nat) (ks : Nat) (mdeep : Int32) (mcoded : Int32) (mlines : Int32) (nl : Nat) (nc : Nat) (nF : Nat) (np : Nat) (ntr : Nat) (nb : Nat) (mbestCost : Int32) (nso : Nat) (nsi : Nat) (nit : Nat) (nsh : Nat) (nsf : Nat) (nss : Nat) (nrc : Nat) (mtraced : Int32) (mdealer : Int32) (mnumber : Int32) (mwhose : Int32) (msize : Int32) (misParted : Int32) (fnt : Nat → Int32) (bt : Nat → Int32) (htp : ktp ≤ 240) (hks : ks ≤ ktp) (hFB : FBT fnt bt ktp) (hmq : mq ≤ 999) : K_m_numberX l G h0 mq nw nk mhasKept nt ktp nr mrowMany mroundOf mroundFrom mouts nm mfromHour mtoHour ns ks mdeep mcoded mlines nl nc nF np ntr nb mbestCost nso nsi nit nsh nsf nss nrc mtraced mdealer mnumber mwhose msize misParted fnt bt := by
  refine MI.start (by decide +kernel) (Nat.le_of_ble_eq_true rfl) ?_
  intro p e s m below meth c A ls hC hK hP hD hS hA hl
  refine absQ (fun Q0 hQ0 => ?_)
  have hl : lv_has ls 5 [(0, .ref h0), (1, .int (nI mq))] := hl
  refine Kan8 hC (fun hx hb hr hml hB hown hlocks hnm => ?_)
  have tk0 := TKE.ge (bt := bt) (n := ktp) (s := ks) hks
  have tk3 := TKN.le3 bt ktp ks
  refine lv_iconst (v := 0) hx hb gX12_number_0.1 (by decide) ?_
  refine lv_istore_n (lv' := [(2, .int 0), (0, .ref h0), (1, .int (nI mq))]) hx hb gX12_number_0.2.1 rfl hl (by decide) rfl (fun ls hl => ?_)
  refine lv_aload_n hx hb gX12_number_0.2.2.1 rfl (lv_at1 hl) ?_
  refine gf_X12_222 hC rfl hK hP 0 rfl rfl gX12_number_0.2.2.2.1 ?_
  refine lv_if_ne (tgt := 34) hx hb gX12_number_0.2.2.2.2.1 (by decide) (fun c9 => absurd (by decide) c9) (fun _ => ?_)
  refine lv_aload_n hx hb gX12_number_0.2.2.2.2.2.1 rfl (lv_at1 hl) ?_
  refine gf_X12_217 hC rfl hK hP 0 rfl rfl gX12_number_0.2.2.2.2.2.2.1 ?_
  refine lv_iconst (v := 2) hx hb gX12_number_0.2.2.2.2.2.2.2.1 (by decide) ?_
  refine lv_icmp_ne (tgt := 34) hx hb gX12_number_0.2.2.2.2.2.2.2.2.1 (by decide) (fun c_14_6444 => ?_) (fun c_14_6444 => ?_)
  · have nb6445 : ¬ (TKN bt ktp ks) = 2 := fun h9 => c_14_6444 ((nI_eq (a := (TKN bt ktp ks)) (b := 2) (by omega) (by omega)).mpr h9)
    refine lv_iconst (v := 0) hx hb gX12_number_1.2.2.2.2.2.2.2.2.1 (by decide) ?_
    refine lv_istore_n (lv' := [(3, .int 0), (2, .int 0), (0, .ref h0), (1, .int (nI mq))]) hx hb gX12_number_1.2.2.2.2.2.2.2.2.2 rfl hl (by decide) rfl (fun ls hl => ?_)
    refine lv_aload_n hx hb gX12_number_2.1 rfl (lv_at2 hl) ?_
    refine gf_X12_214 hC rfl hK hP 0 rfl rfl gX12_number_2.2.1 ?_
    refine lv_istore (lv' := [(4, .int (nI ks)), (3, .int 0), (2, .int 0), (0, .ref h0), (1, .int (nI mq))]) hx hb gX12_number_2.2.2.1 hl (by decide) rfl (fun ls hl => ?_)
    refine lv_iload_n hx hb gX12_number_2.2.2.2.1 rfl (lv_at1 hl) ?_
    refine lv_if_eq (tgt := 77) hx hb gX12_number_2.2.2.2.2.1 (by decide) (fun _ => ?_) (fun c9 => absurd (by decide) c9)
    refine lv_aload_n hx hb gX12_number_4.2.2.1 rfl (lv_at3 hl) ?_
    refine lv_iload_n hx hb gX12_number_4.2.2.2.1 rfl (lv_at1 hl) ?_
    refine lv_if_eq (tgt := 91) hx hb gX12_number_4.2.2.2.2.1 (by decide) (fun _ => ?_) (fun c9 => absurd (by decide) c9)
    refine lv_iconst (v := 0) hx hb gX12_number_5.1 (by decide) ?_
    refine vV (wr := [(nt, iA G 240 fnt)]) hC hK hl hP hD hS hA (m_need0 l G h0 nw nk mhasKept nt (nI ktp) nr mrowMany mroundOf mroundFrom mouts nm mfromHour mtoHour ns (nI ks) (nI (TKE bt ktp ks)) (nI (TKN bt ktp ks)) mdeep mcoded mlines nl nc nF np ntr nb mbestCost nso nsi nit nsh nsf nss nrc mtraced mdealer mnumber mwhose msize misParted) si_X12_236 [0] [1] sm_0 fm_0 nd_0 sm_1 nd_1 dj_0__1 rfl rfl rfl rfl rfl (Nat.le_of_ble_eq_true rfl) rm_5_4_2 ⟨Nat.le_of_ble_eq_true rfl, Nat.le_of_ble_eq_true rfl⟩ gX12_number_5.2.1 (fun u6448 H locs hr6447 hP hD hS => ?_)
    refine Kpdr (ws := [(nt, iA G 240 fnt), (h0, oX12 nw nk mhasKept nt (nI ktp) nr mrowMany mroundOf mroundFrom mouts nm mfromHour mtoHour ns (nI ks) (nI (TKE bt ktp ks)) (nI (TKN bt ktp ks)) 1 mdeep mcoded mlines nl nc nF np ntr nb mbestCost nso nsi nit nsh nsf nss nrc mtraced mdealer mnumber mwhose msize misParted)]) hP hD (fun hP hD => ?_)
    refine lv_iload_n hx hb gX12_number_5.2.2.1 rfl (lv_at2 hl) ?_
    refine toQ hQ0 ?_
    exact RI (v := 0) hC hP hD hS [1, 0] (1, ks) rfl rfl (by decide) (⟨trivial, Or.inr ⟨rfl, rfl, NML.n (NMO.n (fun h9 => absurd h9 (by omega)))⟩⟩) rfl gX12_number_5.2.2.2
  · have nb6446 : (TKN bt ktp ks) = 2 := (nI_eq (a := (TKN bt ktp ks)) (b := 2) (by omega) (by omega)).mp c_14_6444
    refine lv_aload_n hx hb gX12_number_0.2.2.2.2.2.2.2.2.2 rfl (lv_at1 hl) ?_
    refine gf_X12_211 hC rfl hK hP 0 rfl rfl gX12_number_1.1 ?_
    refine lv_aload_n hx hb gX12_number_1.2.1 rfl (lv_at1 hl) ?_
    refine gf_X12_214 hC rfl hK hP 0 rfl rfl gX12_number_1.2.2.1 ?_
    refine lv_isub hx hb gX12_number_1.2.2.2.1 ?_
    refine eqi (x1 := nI (TKE bt ktp ks - ks)) (nI_subT (by omega)) ?_
    refine lv_iconst (v := 3) hx hb gX12_number_1.2.2.2.2.1 (by decide) ?_
    refine lv_icmp_gt (tgt := 34) hx hb gX12_number_1.2.2.2.2.2.1 (by decide) (fun c_27_6449 => ?_) (fun c_27_6449 => ?_)
    · have nb6450 : 3 < (TKE bt ktp ks - ks) := (nI_ltI (a := 3) (b := (TKE bt ktp ks - ks)) (by omega) (by omega)).mp c_27_6449
      refine lv_iconst (v := 0) hx hb gX12_number_1.2.2.2.2.2.2.2.2.1 (by decide) ?_
      refine lv_istore_n (lv' := [(3, .int 0), (2, .int 0), (0, .ref h0), (1, .int (nI mq))]) hx hb gX12_number_1.2.2.2.2.2.2.2.2.2 rfl hl (by decide) rfl (fun ls hl => ?_)
      refine lv_aload_n hx hb gX12_number_2.1 rfl (lv_at2 hl) ?_
      refine gf_X12_214 hC rfl hK hP 0 rfl rfl gX12_number_2.2.1 ?_
      refine lv_istore (lv' := [(4, .int (nI ks)), (3, .int 0), (2, .int 0), (0, .ref h0), (1, .int (nI mq))]) hx hb gX12_number_2.2.2.1 hl (by decide) rfl (fun ls hl => ?_)
      refine lv_iload_n hx hb gX12_number_2.2.2.2.1 rfl (lv_at1 hl) ?_
      refine lv_if_eq (tgt := 77) hx hb gX12_number_2.2.2.2.2.1 (by decide) (fun _ => ?_) (fun c9 => absurd (by decide) c9)
      refine lv_aload_n hx hb gX12_number_4.2.2.1 rfl (lv_at3 hl) ?_
      refine lv_iload_n hx hb gX12_number_4.2.2.2.1 rfl (lv_at1 hl) ?_
      refine lv_if_eq (tgt := 91) hx hb gX12_number_4.2.2.2.2.1 (by decide) (fun _ => ?_) (fun c9 => absurd (by decide) c9)
      refine lv_iconst (v := 0) hx hb gX12_number_5.1 (by decide) ?_
      refine vV (wr := [(nt, iA G 240 fnt)]) hC hK hl hP hD hS hA (m_need0 l G h0 nw nk mhasKept nt (nI ktp) nr mrowMany mroundOf mroundFrom mouts nm mfromHour mtoHour ns (nI ks) (nI (TKE bt ktp ks)) (nI (TKN bt ktp ks)) mdeep mcoded mlines nl nc nF np ntr nb mbestCost nso nsi nit nsh nsf nss nrc mtraced mdealer mnumber mwhose msize misParted) si_X12_236 [0] [1] sm_0 fm_0 nd_0 sm_1 nd_1 dj_0__1 rfl rfl rfl rfl rfl (Nat.le_of_ble_eq_true rfl) rm_5_4_2 ⟨Nat.le_of_ble_eq_true rfl, Nat.le_of_ble_eq_true rfl⟩ gX12_number_5.2.1 (fun u6453 H locs hr6452 hP hD hS => ?_)
      refine Kpdr (ws := [(nt, iA G 240 fnt), (h0, oX12 nw nk mhasKept nt (nI ktp) nr mrowMany mroundOf mroundFrom mouts nm mfromHour mtoHour ns (nI ks) (nI (TKE bt ktp ks)) (nI (TKN bt ktp ks)) 1 mdeep mcoded mlines nl nc nF np ntr nb mbestCost nso nsi nit nsh nsf nss nrc mtraced mdealer mnumber mwhose msize misParted)]) hP hD (fun hP hD => ?_)
      refine lv_iload_n hx hb gX12_number_5.2.2.1 rfl (lv_at2 hl) ?_
      refine toQ hQ0 ?_
      exact RI (v := 0) hC hP hD hS [1, 0] (1, ks) rfl rfl (by decide) (⟨trivial, Or.inr ⟨rfl, rfl, NML.n (NMO.n (fun h9 => absurd h9 (by omega)))⟩⟩) rfl gX12_number_5.2.2.2
    · have nb6451 : ¬ 3 < (TKE bt ktp ks - ks) := fun h9 => c_27_6449 ((nI_ltI (a := 3) (b := (TKE bt ktp ks - ks)) (by omega) (by omega)).mpr h9)
      refine lv_iconst (v := 1) hx hb gX12_number_1.2.2.2.2.2.2.1 (by decide) ?_
      refine lv_goto (tgt := 35) hx hb gX12_number_1.2.2.2.2.2.2.2.1 (by decide) ?_
      refine lv_istore_n (lv' := [(3, .int 1), (2, .int 0), (0, .ref h0), (1, .int (nI mq))]) hx hb gX12_number_1.2.2.2.2.2.2.2.2.2 rfl hl (by decide) rfl (fun ls hl => ?_)
      refine lv_aload_n hx hb gX12_number_2.1 rfl (lv_at2 hl) ?_
      refine gf_X12_214 hC rfl hK hP 0 rfl rfl gX12_number_2.2.1 ?_
      refine lv_istore (lv' := [(4, .int (nI ks)), (3, .int 1), (2, .int 0), (0, .ref h0), (1, .int (nI mq))]) hx hb gX12_number_2.2.2.1 hl (by decide) rfl (fun ls hl => ?_)
      have hT2 : TKN bt ktp ks = 2 := by omega
      have keyP : ∀ (nP kP : Nat) (vv : Nat) (H : Heap) (locs : List Loc) (ls : Array Slot), kP + nP = (TKE bt ktp ks) → (VLF bt ks (kP - ks) = vv) → ((kP = ks ∧ vv = 0) ∨ (kP = ks + 1 ∧ vv ≤ 9) ∨ (kP = ks + 2 ∧ vv ≤ 99) ∨ (kP = ks + 3 ∧ vv ≤ 999)) → va_PD G A [(h0, oX12 nw nk mhasKept nt (nI ktp) nr mrowMany mroundOf mroundFrom mouts nm mfromHour mtoHour ns (nI ks) (nI (TKE bt ktp ks)) (nI (TKN bt ktp ks)) 0 mdeep mcoded mlines nl nc nF np ntr nb mbestCost nso nsi nit nsh nsf nss nrc mtraced mdealer mnumber mwhose msize misParted), (nt, iA G 240 fnt)] H → va_S A s.heap H locs → lv_has ls 5 [(4, .int (nI kP)), (3, .int 1), (2, .int (nI vv)), (0, .ref h0), (1, .int (nI mq))] → W p l e (RM 5 0 0) s m ([.ref h0, .int (nI mq)] : List Value).toArray below meth c H locs 0 0 Q0 (F0 m 42 ls []) := by
        intro nP
        induction nP with
        | zero =>
          intro kP vv H locs ls hkP hvv hvb hPD hS hl
          refine Kan2 hPD (fun hP hD => ?_)
          obtain rfl : (TKE bt ktp ks) = kP := by omega
          have hl : lv_has ls 5 [(4, .int (nI (TKE bt ktp ks))), (3, .int 1), (2, .int (nI vv)), (0, .ref h0), (1, .int (nI mq))] := hl
          refine lv_iload_n hx hb gX12_number_2.2.2.2.1 rfl (lv_at1 hl) ?_
          refine lv_if_eq (tgt := 77) hx hb gX12_number_2.2.2.2.2.1 (by decide) (fun c9 => absurd c9 (by decide)) (fun _ => ?_)
          refine lv_iload hx hb gX12_number_2.2.2.2.2.2.1 (lv_at0 hl) ?_
          refine lv_aload_n hx hb gX12_number_2.2.2.2.2.2.2.1 rfl (lv_at3 hl) ?_
          refine gf_X12_211 hC rfl hK hP 0 rfl rfl gX12_number_2.2.2.2.2.2.2.2.1 ?_
          refine lv_icmp_ge (tgt := 77) hx hb gX12_number_2.2.2.2.2.2.2.2.2.1 (by decide) (fun _ => ?_) (fun c9 => absurd (Int32.le_refl _) c9)
          refine lv_aload_n hx hb gX12_number_4.2.2.1 rfl (lv_at3 hl) ?_
          refine lv_iload_n hx hb gX12_number_4.2.2.2.1 rfl (lv_at1 hl) ?_
          refine lv_if_eq (tgt := 91) hx hb gX12_number_4.2.2.2.2.1 (by decide) (fun c9 => absurd c9 (by decide)) (fun _ => ?_)
          refine lv_iload_n hx hb gX12_number_4.2.2.2.2.2.1 rfl (lv_at2 hl) ?_
          refine lv_iload_n hx hb gX12_number_4.2.2.2.2.2.2.1 rfl (lv_at4 hl) ?_
          refine lv_icmp_gt (tgt := 91) hx hb gX12_number_4.2.2.2.2.2.2.2.1 (by decide) (fun c_84_6454 => ?_) (fun c_84_6454 => ?_)
          · have nb6455 : mq < vv := (nI_ltI (a := mq) (b := vv) (by omega) (by omega)).mp c_84_6454
            refine lv_iconst (v := 0) hx hb gX12_number_5.1 (by decide) ?_
            refine vV (wr := [(nt, iA G 240 fnt)]) hC hK hl hP hD hS hA (m_need0 l G h0 nw nk mhasKept nt (nI ktp) nr mrowMany mroundOf mroundFrom mouts nm mfromHour mtoHour ns (nI ks) (nI (TKE bt ktp ks)) (nI (TKN bt ktp ks)) mdeep mcoded mlines nl nc nF np ntr nb mbestCost nso nsi nit nsh nsf nss nrc mtraced mdealer mnumber mwhose msize misParted) si_X12_236 [0] [1] sm_0 fm_0 nd_0 sm_1 nd_1 dj_0__1 rfl rfl rfl rfl rfl (Nat.le_of_ble_eq_true rfl) rm_5_4_2 ⟨Nat.le_of_ble_eq_true rfl, Nat.le_of_ble_eq_true rfl⟩ gX12_number_5.2.1 (fun u6458 H locs hr6457 hP hD hS => ?_)
            refine Kpdr (ws := [(nt, iA G 240 fnt), (h0, oX12 nw nk mhasKept nt (nI ktp) nr mrowMany mroundOf mroundFrom mouts nm mfromHour mtoHour ns (nI ks) (nI (TKE bt ktp ks)) (nI (TKN bt ktp ks)) 1 mdeep mcoded mlines nl nc nF np ntr nb mbestCost nso nsi nit nsh nsf nss nrc mtraced mdealer mnumber mwhose msize misParted)]) hP hD (fun hP hD => ?_)
            refine lv_iload_n hx hb gX12_number_5.2.2.1 rfl (lv_at2 hl) ?_
            refine toQ hQ0 ?_
            exact RI (v := nI vv) hC hP hD hS [1, 0] (1, ks) rfl rfl (by decide) (⟨trivial, Or.inr ⟨rfl, rfl, NML.b (NMO.y hT2 (by omega)) (show ¬ VLF bt ks (TKE bt ktp ks - ks) ≤ mq from by rw [hvv]; omega)⟩⟩) rfl gX12_number_5.2.2.2
          · have nb6456 : ¬ mq < vv := fun h9 => c_84_6454 ((nI_ltI (a := mq) (b := vv) (by omega) (by omega)).mpr h9)
            refine lv_iconst (v := 1) hx hb gX12_number_4.2.2.2.2.2.2.2.2.1 (by decide) ?_
            refine lv_goto (tgt := 92) hx hb gX12_number_4.2.2.2.2.2.2.2.2.2 (by decide) ?_
            refine vV (wr := []) hC hK hl hP hD hS hA (m_need1X l G h0 nw nk mhasKept nt ktp nr mrowMany mroundOf mroundFrom mouts nm mfromHour mtoHour ns ks mdeep mcoded mlines nl nc nF np ntr nb mbestCost nso nsi nit nsh nsf nss nrc mtraced mdealer mnumber mwhose msize misParted fnt bt (htp) (hks) (hFB)) si_X12_236 [0, 1] [] sm_0_1 fm_0_1 nd_0_1 rfl rfl (by decide) rfl rfl rfl rfl rfl (Nat.le_of_ble_eq_true rfl) rm_5_4_2 ⟨Nat.le_of_ble_eq_true rfl, Nat.le_of_ble_eq_true rfl⟩ gX12_number_5.2.1 (fun u6460 H locs hr6459 hP hD hS => ?_)
            refine Kpdr (ws := [(h0, oX12 nw nk mhasKept nt (nI ktp) nr mrowMany mroundOf mroundFrom mouts nm mfromHour mtoHour ns (nI (NXT bt ktp ks)) (nI (TKE bt ktp (NXT bt ktp ks))) (nI (TKN bt ktp (NXT bt ktp ks))) 0 mdeep mcoded mlines nl nc nF np ntr nb mbestCost nso nsi nit nsh nsf nss nrc mtraced mdealer mnumber mwhose msize misParted), (nt, iA G 240 fnt)]) hP hD (fun hP hD => ?_)
            have xn6461 := NXT.ge (bt := bt) (n := ktp) (s := ks) (by omega)
            refine lv_iload_n hx hb gX12_number_5.2.2.1 rfl (lv_at2 hl) ?_
            refine toQ hQ0 ?_
            exact RI (v := nI vv) hC hP hD hS [0, 1] (0, (NXT bt ktp ks)) rfl rfl (by decide) (⟨trivial, Or.inl ⟨rfl, rfl, congrArg nI hvv, NML.y (NMO.y hT2 (by omega)) (show VLF bt ks (TKE bt ktp ks - ks) ≤ mq from by rw [hvv]; omega)⟩⟩) rfl gX12_number_5.2.2.2
        | succ nP ihP =>
          intro kP vv H locs ls hkP hvv hvb hPD hS hl
          refine Kan2 hPD (fun hP hD => ?_)
          refine lv_iload_n hx hb gX12_number_2.2.2.2.1 rfl (lv_at1 hl) ?_
          refine lv_if_eq (tgt := 77) hx hb gX12_number_2.2.2.2.2.1 (by decide) (fun c9 => absurd c9 (by decide)) (fun _ => ?_)
          refine lv_iload hx hb gX12_number_2.2.2.2.2.2.1 (lv_at0 hl) ?_
          refine lv_aload_n hx hb gX12_number_2.2.2.2.2.2.2.1 rfl (lv_at3 hl) ?_
          refine gf_X12_211 hC rfl hK hP 0 rfl rfl gX12_number_2.2.2.2.2.2.2.2.1 ?_
          refine lv_icmp_ge (tgt := 77) hx hb gX12_number_2.2.2.2.2.2.2.2.2.1 (by decide) (fun c9 => absurd c9 (nI_ge (a := kP) (b := (TKE bt ktp ks)) (by omega) (by omega))) (fun _ => ?_)
          refine lv_bipush (v := 10) hx hb gX12_number_2.2.2.2.2.2.2.2.2.2 (by decide) ?_
          refine lv_iload_n hx hb gX12_number_3.1 rfl (lv_at2 hl) ?_
          refine lv_imul hx hb gX12_number_3.2.1 ?_
          refine eqi (x1 := nI (10 * vv)) (nI_mul 10 vv) ?_
          refine lv_aload_n hx hb gX12_number_3.2.2.1 rfl (lv_at3 hl) ?_
          refine gf_X12_16 hC rfl hK hP 0 rfl rfl gX12_number_3.2.2.2.1 ?_
          refine lv_iload hx hb gX12_number_3.2.2.2.2.1 (lv_at0 hl) ?_
          refine aldN hC hK hP 1 rfl (k := kP) (by omega) (Nat.le_of_ble_eq_true rfl) (v := fnt kP) rfl gX12_number_3.2.2.2.2.2.1 ?_
          obtain ⟨dd, hdd, edd⟩ := DGS.at hks hT2 (k := kP) (by omega) (by omega)
          refine eqi (x1 := nI (48 + dd)) ((hFB _ (by omega)).trans edd) ?_
          refine lv_iadd hx hb gX12_number_3.2.2.2.2.2.2.1 ?_
          refine eqi (x1 := nI (10 * vv + (48 + dd))) (nI_add (10 * vv) (48 + dd)) ?_
          refine lv_bipush (v := 48) hx hb gX12_number_3.2.2.2.2.2.2.2.1 (by decide) ?_
          refine lv_isub hx hb gX12_number_3.2.2.2.2.2.2.2.2.1 ?_
          refine eqi (x1 := nI (10 * vv + dd)) ((nI_subT (b := 48) (by omega)).trans (congrArg nI (by omega))) ?_
          refine lv_istore_n (lv' := [(2, .int (nI (10 * vv + dd))), (4, .int (nI kP)), (3, .int 1), (0, .ref h0), (1, .int (nI mq))]) hx hb gX12_number_3.2.2.2.2.2.2.2.2.2 rfl hl (by decide) rfl (fun ls hl => ?_)
          refine lv_iinc (v := nI (kP + 1)) (lv' := [(4, .int (nI (kP + 1))), (2, .int (nI (10 * vv + dd))), (3, .int 1), (0, .ref h0), (1, .int (nI mq))]) hx hb gX12_number_4.1 hl (k := 1) rfl (nI_1 _) (by decide) rfl (fun ls hl => ?_)
          refine lv_goto (tgt := 42) hx hb gX12_number_4.2.1 (by decide) ?_
          exact ihP (kP + 1) (10 * vv + dd) _ _ _ (by omega) (by first | assumption | exact Or.inl rfl | exact Or.inr rfl | omega | exact VLF.zz | exact VLF.nx2 hvv (by omega) hdd edd) (by first | assumption | exact Or.inl rfl | exact Or.inr rfl | omega | exact VLF.zz | exact VLF.nx2 hvv (by omega) hdd edd) (And.intro hP hD) hS (lv_sub hl [0, 2, 1, 3, 4] rfl)
      exact keyP ((TKE bt ktp ks) - ks) ks 0 _ _ _ (by omega) (by first | assumption | exact Or.inl rfl | exact Or.inr rfl | omega | exact VLF.zz | exact VLF.nx2 hvv (by omega) hdd edd) (by first | assumption | exact Or.inl rfl | exact Or.inr rfl | omega | exact VLF.zz | exact VLF.nx2 hvv (by omega) hdd edd) (And.intro hP hD) hS (lv_sub hl [0, 1, 2, 3, 4] rfl)
def K_m_codesF (l : Launch) (G : GG) (h0 : Nat) (vv : Int32) (nw : Nat) (nk : Nat) (mhasKept : Int32) (nt : Nat) (mtaped : Int32) (nr : Nat) (mrowMany : Int32) (mroundOf : Int32) (mroundFrom : Int32) (mouts : Int32) (nm : Nat) (mfromHour : Int32) (mtoHour : Int32) (ns : Nat) (mfrom : Int32) (mto : Int32) (msort : Int32) (mdeep : Int32) (mcoded : Int32) (mlines : Int32) (nl : Nat) (nc : Nat) (nF : Nat) (np : Nat) (ntr : Nat) (nb : Nat) (mbestCost : Int32) (nso : Nat) (nsi : Nat) (nit : Nat) (nsh : Nat) (nsf : Nat) (nss : Nat) (nrc : Nat) (mtraced : Int32) (mdealer : Int32) (mnumber : Int32) (mwhose : Int32) (msize : Int32) (misParted : Int32) : Prop := MV l G yX12_codes cX12_codes 2 1 0 0 [.ref h0, .int vv] [(h0, oX12 nw nk mhasKept nt mtaped nr mrowMany mroundOf mroundFrom mouts nm mfromHour mtoHour ns mfrom mto msort 1 mdeep mcoded mlines nl nc nF np ntr nb mbestCost nso nsi nit nsh nsf nss nrc mtraced mdealer mnumber mwhose msize misParted)] (fun u : Unit => True) (fun u : Unit => [(h0, oX12 nw nk mhasKept nt mtaped nr mrowMany mroundOf mroundFrom mouts nm mfromHour mtoHour ns mfrom mto msort 1 mdeep mcoded mlines nl nc nF np ntr nb mbestCost nso nsi nit nsh nsf nss nrc mtraced mdealer mnumber mwhose msize misParted)])
set_option maxHeartbeats 4000000 in
set_option maxRecDepth 100000 in
theorem m_codesF (l : Launch) (G : GG) (h0 : Nat) (vv : Int32) (nw : Nat) (nk : Nat) (mhasKept : Int32) (nt : Nat) (mtaped : Int32) (nr : Nat) (mrowMany : Int32) (mroundOf : Int32) (mroundFrom : Int32) (mouts : Int32) (nm : Nat) (mfromHour : Int32) (mtoHour : Int32) (ns : Nat) (mfrom : Int32) (mto : Int32) (msort : Int32) (mdeep : Int32) (mcoded : Int32) (mlines : Int32) (nl : Nat) (nc : Nat) (nF : Nat) (np : Nat) (ntr : Nat) (nb : Nat) (mbestCost : Int32) (nso : Nat) (nsi : Nat) (nit : Nat) (nsh : Nat) (nsf : Nat) (nss : Nat) (nrc : Nat) (mtraced : Int32) (mdealer : Int32) (mnumber : Int32) (mwhose : Int32) (msize : Int32) (misParted : Int32) : K_m_codesF l G h0 vv nw nk mhasKept nt mtaped nr mrowMany mroundOf mroundFrom mouts nm mfromHour mtoHour ns mfrom mto msort mdeep mcoded mlines nl nc nF np ntr nb mbestCost nso nsi nit nsh nsf nss nrc mtraced mdealer mnumber mwhose msize misParted := by
  refine MV.start (by decide +kernel) (Nat.le_of_ble_eq_true rfl) ?_
  intro p e s m below meth c A ls hC hK hP hD hS hA hl
  refine absQ (fun Q0 hQ0 => ?_)
  have hl : lv_has ls 2 [(0, .ref h0), (1, .int vv)] := hl
  refine Kan8 hC (fun hx hb hr hml hB hown hlocks hnm => ?_)
  refine lv_aload_n hx hb gX12_codes_0.1 rfl (lv_at0 hl) ?_
  refine gf_X12_222 hC rfl hK hP 0 rfl rfl gX12_codes_0.2.1 ?_
  refine lv_if_ne (tgt := 27) hx hb gX12_codes_0.2.2.1 (by decide) (fun _ => ?_) (fun c9 => absurd c9 (by decide))
  refine toQ hQ0 ?_
  exact RV hC hP hD hS [0] () rfl rfl (by decide) (trivial) gX12_codes_1.2.2.2.2.2
def K_m_codes0 (l : Launch) (G : GG) (h0 : Nat) (vv : Int32) (nw : Nat) (nk : Nat) (mhasKept : Int32) (nt : Nat) (mtaped : Int32) (nr : Nat) (mrowMany : Int32) (mroundOf : Int32) (mroundFrom : Int32) (mouts : Int32) (nm : Nat) (mfromHour : Int32) (mtoHour : Int32) (ns : Nat) (mfrom : Int32) (mto : Int32) (msort : Int32) (mdeep : Int32) (kc : Nat) (mlines : Int32) (nl : Nat) (nc : Nat) (nF : Nat) (np : Nat) (ntr : Nat) (nb : Nat) (mbestCost : Int32) (nso : Nat) (nsi : Nat) (nit : Nat) (nsh : Nat) (nsf : Nat) (nss : Nat) (nrc : Nat) (mtraced : Int32) (mdealer : Int32) (mnumber : Int32) (mwhose : Int32) (msize : Int32) (misParted : Int32) (fnc : Nat → Int32) : Prop := MV l G yX12_codes cX12_codes 2 1 0 0 [.ref h0, .int vv] [(h0, oX12 nw nk mhasKept nt mtaped nr mrowMany mroundOf mroundFrom mouts nm mfromHour mtoHour ns mfrom mto msort 0 mdeep (nI kc) mlines nl nc nF np ntr nb mbestCost nso nsi nit nsh nsf nss nrc mtraced mdealer mnumber mwhose msize misParted), (nc, iA G 100 fnc)] (fun u : Unit => True) (fun u : Unit => [(h0, oX12 nw nk mhasKept nt mtaped nr mrowMany mroundOf mroundFrom mouts nm mfromHour mtoHour ns mfrom mto msort 0 mdeep (nI (kc + 1)) mlines nl nc nF np ntr nb mbestCost nso nsi nit nsh nsf nss nrc mtraced mdealer mnumber mwhose msize misParted), (nc, iA G 100 (upd fnc kc vv))])
set_option maxHeartbeats 4000000 in
set_option maxRecDepth 100000 in
theorem m_codes0 (l : Launch) (G : GG) (h0 : Nat) (vv : Int32) (nw : Nat) (nk : Nat) (mhasKept : Int32) (nt : Nat) (mtaped : Int32) (nr : Nat) (mrowMany : Int32) (mroundOf : Int32) (mroundFrom : Int32) (mouts : Int32) (nm : Nat) (mfromHour : Int32) (mtoHour : Int32) (ns : Nat) (mfrom : Int32) (mto : Int32) (msort : Int32) (mdeep : Int32) (kc : Nat) (mlines : Int32) (nl : Nat) (nc : Nat) (nF : Nat) (np : Nat) (ntr : Nat) (nb : Nat) (mbestCost : Int32) (nso : Nat) (nsi : Nat) (nit : Nat) (nsh : Nat) (nsf : Nat) (nss : Nat) (nrc : Nat) (mtraced : Int32) (mdealer : Int32) (mnumber : Int32) (mwhose : Int32) (msize : Int32) (misParted : Int32) (fnc : Nat → Int32) (hkc : kc < 100) : K_m_codes0 l G h0 vv nw nk mhasKept nt mtaped nr mrowMany mroundOf mroundFrom mouts nm mfromHour mtoHour ns mfrom mto msort mdeep kc mlines nl nc nF np ntr nb mbestCost nso nsi nit nsh nsf nss nrc mtraced mdealer mnumber mwhose msize misParted fnc := by
  refine MV.start (by decide +kernel) (Nat.le_of_ble_eq_true rfl) ?_
  intro p e s m below meth c A ls hC hK hP hD hS hA hl
  refine absQ (fun Q0 hQ0 => ?_)
  have hl : lv_has ls 2 [(0, .ref h0), (1, .int vv)] := hl
  refine Kan8 hC (fun hx hb hr hml hB hown hlocks hnm => ?_)
  refine lv_aload_n hx hb gX12_codes_0.1 rfl (lv_at0 hl) ?_
  refine gf_X12_222 hC rfl hK hP 0 rfl rfl gX12_codes_0.2.1 ?_
  refine lv_if_ne (tgt := 27) hx hb gX12_codes_0.2.2.1 (by decide) (fun c9 => absurd (by decide) c9) (fun _ => ?_)
  refine lv_aload_n hx hb gX12_codes_0.2.2.2.1 rfl (lv_at0 hl) ?_
  refine gf_X12_35 hC rfl hK hP 0 rfl rfl gX12_codes_0.2.2.2.2.1 ?_
  refine lv_aload_n hx hb gX12_codes_0.2.2.2.2.2.1 rfl (lv_at0 hl) ?_
  refine gf_X12_240 hC rfl hK hP 0 rfl rfl gX12_codes_0.2.2.2.2.2.2.1 ?_
  refine lv_iload_n hx hb gX12_codes_0.2.2.2.2.2.2.2.1 rfl (lv_at1 hl) ?_
  refine astN hC hK hP hD hS 1 (ws' := [(h0, oX12 nw nk mhasKept nt mtaped nr mrowMany mroundOf mroundFrom mouts nm mfromHour mtoHour ns mfrom mto msort 0 mdeep (nI kc) mlines nl nc nF np ntr nb mbestCost nso nsi nit nsh nsf nss nrc mtraced mdealer mnumber mwhose msize misParted), (nc, iA G 100 (upd fnc kc vv))]) rfl (k := kc) (by omega) (Nat.le_of_ble_eq_true rfl) (rfl) gX12_codes_0.2.2.2.2.2.2.2.2.1 (fun H locs hP hD hS => ?_)
  refine lv_aload_n hx hb gX12_codes_0.2.2.2.2.2.2.2.2.2 rfl (lv_at0 hl) ?_
  refine lv_dup hx hb gX12_codes_1.1 rfl ?_
  refine gf_X12_240 hC rfl hK hP 0 rfl rfl gX12_codes_1.2.1 ?_
  refine lv_iconst (v := 1) hx hb gX12_codes_1.2.2.1 (by decide) ?_
  refine lv_iadd hx hb gX12_codes_1.2.2.2.1 ?_
  refine eqi (x1 := nI (kc + 1)) (nI_add kc 1) ?_
  refine pf_X12_240 hC rfl hK hP hD hS 0 (ws' := [(h0, oX12 nw nk mhasKept nt mtaped nr mrowMany mroundOf mroundFrom mouts nm mfromHour mtoHour ns mfrom mto msort 0 mdeep (nI (kc + 1)) mlines nl nc nF np ntr nb mbestCost nso nsi nit nsh nsf nss nrc mtraced mdealer mnumber mwhose msize misParted), (nc, iA G 100 (upd fnc kc vv))]) rfl (Nat.le_of_ble_eq_true rfl) rfl rfl rfl gX12_codes_1.2.2.2.2.1 (fun H locs hP hD hS => ?_)
  refine toQ hQ0 ?_
  exact RV hC hP hD hS [0, 1] () rfl rfl (by decide) (trivial) gX12_codes_1.2.2.2.2.2
def K_m_oneF (l : Launch) (G : GG) (K : OO) (h0 : Nat) (nw : Nat) (nk : Nat) (mhasKept : Int32) (nt : Nat) (mtaped : Int32) (nr : Nat) (mrowMany : Int32) (mroundOf : Int32) (mroundFrom : Int32) (mouts : Int32) (nm : Nat) (mfromHour : Int32) (mtoHour : Int32) (ns : Nat) (mfrom : Int32) (mto : Int32) (msort : Int32) (mdeep : Int32) (mcoded : Int32) (mlines : Int32) (nl : Nat) (nc : Nat) (nF : Nat) (np : Nat) (ntr : Nat) (nb : Nat) (mbestCost : Int32) (nso : Nat) (nsi : Nat) (nit : Nat) (nsh : Nat) (nsf : Nat) (nss : Nat) (nrc : Nat) (mtraced : Int32) (mdealer : Int32) (mnumber : Int32) (mwhose : Int32) (msize : Int32) (misParted : Int32) : Prop := MVo l G K yX12_one cX12_one 5 7 0 0 [.ref h0] [(h0, oX12 nw nk mhasKept nt mtaped nr mrowMany mroundOf mroundFrom mouts nm mfromHour mtoHour ns mfrom mto msort 1 mdeep mcoded mlines nl nc nF np ntr nb mbestCost nso nsi nit nsh nsf nss nrc mtraced mdealer mnumber mwhose msize misParted), (nF, sA G 5 (FCT K))] (fun u : Unit => True) (fun u : Unit => [(h0, oX12 nw nk mhasKept nt mtaped nr mrowMany mroundOf mroundFrom mouts nm mfromHour mtoHour ns mfrom mto msort 1 mdeep mcoded mlines nl nc nF np ntr nb mbestCost nso nsi nit nsh nsf nss nrc mtraced mdealer mnumber mwhose msize misParted), (nF, sA G 5 (FCT K))])
set_option maxHeartbeats 4000000 in
set_option maxRecDepth 100000 in
theorem m_oneF (l : Launch) (G : GG) (K : OO) (h0 : Nat) (nw : Nat) (nk : Nat) (mhasKept : Int32) (nt : Nat) (mtaped : Int32) (nr : Nat) (mrowMany : Int32) (mroundOf : Int32) (mroundFrom : Int32) (mouts : Int32) (nm : Nat) (mfromHour : Int32) (mtoHour : Int32) (ns : Nat) (mfrom : Int32) (mto : Int32) (msort : Int32) (mdeep : Int32) (mcoded : Int32) (mlines : Int32) (nl : Nat) (nc : Nat) (nF : Nat) (np : Nat) (ntr : Nat) (nb : Nat) (mbestCost : Int32) (nso : Nat) (nsi : Nat) (nit : Nat) (nsh : Nat) (nsf : Nat) (nss : Nat) (nrc : Nat) (mtraced : Int32) (mdealer : Int32) (mnumber : Int32) (mwhose : Int32) (msize : Int32) (misParted : Int32) : K_m_oneF l G K h0 nw nk mhasKept nt mtaped nr mrowMany mroundOf mroundFrom mouts nm mfromHour mtoHour ns mfrom mto msort mdeep mcoded mlines nl nc nF np ntr nb mbestCost nso nsi nit nsh nsf nss nrc mtraced mdealer mnumber mwhose msize misParted := by
  refine MVo.start (by decide +kernel) (Nat.le_of_ble_eq_true rfl) ?_
  intro p e s m below meth c A ls hC hK hP hD hS hA hl hO
  refine absQ (fun Q0 hQ0 => ?_)
  have hl : lv_has ls 5 [(0, .ref h0)] := hl
  refine Kan8 hC (fun hx hb hr hml hB hown hlocks hnm => ?_)
  refine lv_iconst (v := 0) hx hb gX12_one_0.1 (by decide) ?_
  refine lv_istore_n (lv' := [(1, .int 0), (0, .ref h0)]) hx hb gX12_one_0.2.1 rfl hl (by decide) rfl (fun ls hl => ?_)
  refine lv_aload_n hx hb gX12_one_0.2.2.1 rfl (lv_at1 hl) ?_
  refine va_ldcSw (index := 260) (tx := "not") hx hb hown (hO.2.2 10 (by decide)) gX12_one_0.2.2.2.1 ?_
  refine pVo hO hS hC hK hl hP hD (m_isNameF l G K 10 h0 nw nk mhasKept nt mtaped nr mrowMany mroundOf mroundFrom mouts nm mfromHour mtoHour ns mfrom mto msort mdeep mcoded mlines nl nc nF np ntr nb mbestCost nso nsi nit nsh nsf nss nrc mtraced mdealer mnumber mwhose msize misParted ((by decide))) si_X12_248 [0] sm_0 fm_0 nd_0 rfl rfl rfl rfl rfl (Nat.le_of_ble_eq_true rfl) rm_7_5_4 ⟨by first | exact Nat.le_of_ble_eq_true rfl | exact Nat.zero_le _, by first | exact Nat.le_of_ble_eq_true rfl | exact Nat.zero_le _⟩ gX12_one_0.2.2.2.2.1 (Keqr ?_)
  refine lv_if_eq (tgt := 22) hx hb gX12_one_0.2.2.2.2.2.1 (by decide) (fun _ => ?_) (fun c9 => absurd (by decide) c9)
  refine lv_aload_n hx hb gX12_one_1.1 rfl (lv_at1 hl) ?_
  refine lv_bipush (v := 40) hx hb gX12_one_1.2.1 (by decide) ?_
  refine pV hC hK hl hP hD (m_isSignF l G h0 40 nw nk mhasKept nt mtaped nr mrowMany mroundOf mroundFrom mouts nm mfromHour mtoHour ns mfrom mto msort mdeep mcoded mlines nl nc nF np ntr nb mbestCost nso nsi nit nsh nsf nss nrc mtraced mdealer mnumber mwhose msize misParted) si_X12_262 [0] sm_0 fm_0 nd_0 rfl rfl rfl rfl rfl (Nat.le_of_ble_eq_true rfl) rm_7_1_2 ⟨by first | exact Nat.le_of_ble_eq_true rfl | exact Nat.zero_le _, by first | exact Nat.le_of_ble_eq_true rfl | exact Nat.zero_le _⟩ gX12_one_1.2.2.1 (Keqr ?_)
  refine lv_if_eq (tgt := 85) hx hb gX12_one_1.2.2.2.1 (by decide) (fun _ => ?_) (fun c9 => absurd (by decide) c9)
  refine lv_iconst (v := (-1)) hx hb gX12_one_4.2.2.2.1 (by decide) ?_
  refine lv_istore_n (lv' := [(2, .int (-1)), (1, .int 0), (0, .ref h0)]) hx hb gX12_one_4.2.2.2.2.1 rfl hl (by decide) rfl (fun ls hl => ?_)
  refine lv_iconst (v := 0) hx hb gX12_one_4.2.2.2.2.2.1 (by decide) ?_
  refine lv_istore_n (lv' := [(3, .int 0), (2, .int (-1)), (1, .int 0), (0, .ref h0)]) hx hb gX12_one_4.2.2.2.2.2.2.1 rfl hl (by decide) rfl (fun ls hl => ?_)
  refine lv_iload_n hx hb gX12_one_4.2.2.2.2.2.2.2.1 rfl (lv_at0 hl) ?_
  refine lv_iconst (v := 5) hx hb gX12_one_4.2.2.2.2.2.2.2.2.1 (by decide) ?_
  refine lv_icmp_ge (tgt := 119) hx hb gX12_one_4.2.2.2.2.2.2.2.2.2 (by decide) (fun c9 => absurd c9 (by decide)) (fun _ => ?_)
  refine lv_aload_n hx hb gX12_one_5.1 rfl (lv_at3 hl) ?_
  refine lv_aload_n hx hb gX12_one_5.2.1 rfl (lv_at3 hl) ?_
  refine gf_X12_50 hC rfl hK hP 0 rfl rfl gX12_one_5.2.2.1 ?_
  refine lv_iload_n hx hb gX12_one_5.2.2.2.1 rfl (lv_at0 hl) ?_
  refine aldS hC hK hP 1 rfl (vin (by decide +kernel)) (k := 0) (by decide +kernel) (v := (K.1 11)) (rfl) gX12_one_5.2.2.2.2.1 ?_
  refine pVo hO hS hC hK hl hP hD (m_isNameF l G K 11 h0 nw nk mhasKept nt mtaped nr mrowMany mroundOf mroundFrom mouts nm mfromHour mtoHour ns mfrom mto msort mdeep mcoded mlines nl nc nF np ntr nb mbestCost nso nsi nit nsh nsf nss nrc mtraced mdealer mnumber mwhose msize misParted ((by decide))) si_X12_248 [0] sm_0 fm_0 nd_0 rfl rfl rfl rfl rfl (Nat.le_of_ble_eq_true rfl) rm_7_5_4 ⟨by first | exact Nat.le_of_ble_eq_true rfl | exact Nat.zero_le _, by first | exact Nat.le_of_ble_eq_true rfl | exact Nat.zero_le _⟩ gX12_one_5.2.2.2.2.2.1 (Keqr ?_)
  refine lv_if_eq (tgt := 111) hx hb gX12_one_5.2.2.2.2.2.2.1 (by decide) (fun _ => ?_) (fun c9 => absurd (by decide) c9)
  refine lv_iload_n hx hb gX12_one_5.2.2.2.2.2.2.2.2.2 rfl (lv_at1 hl) ?_
  refine lv_istore_n (lv' := [(2, .int (-1)), (3, .int 0), (1, .int 0), (0, .ref h0)]) hx hb gX12_one_6.1 rfl hl (by decide) rfl (fun ls hl => ?_)
  refine lv_iinc (v := 1) (lv' := [(3, .int 1), (2, .int (-1)), (1, .int 0), (0, .ref h0)]) hx hb gX12_one_6.2.1 hl (k := 1) rfl (by decide) (by decide) rfl (fun ls hl => ?_)
  refine lv_goto (tgt := 89) hx hb gX12_one_6.2.2.1 (by decide) ?_
  refine lv_iload_n hx hb gX12_one_4.2.2.2.2.2.2.2.1 rfl (lv_at0 hl) ?_
  refine lv_iconst (v := 5) hx hb gX12_one_4.2.2.2.2.2.2.2.2.1 (by decide) ?_
  refine lv_icmp_ge (tgt := 119) hx hb gX12_one_4.2.2.2.2.2.2.2.2.2 (by decide) (fun c9 => absurd c9 (by decide)) (fun _ => ?_)
  refine lv_aload_n hx hb gX12_one_5.1 rfl (lv_at3 hl) ?_
  refine lv_aload_n hx hb gX12_one_5.2.1 rfl (lv_at3 hl) ?_
  refine gf_X12_50 hC rfl hK hP 0 rfl rfl gX12_one_5.2.2.1 ?_
  refine lv_iload_n hx hb gX12_one_5.2.2.2.1 rfl (lv_at0 hl) ?_
  refine aldS hC hK hP 1 rfl (vin (by decide +kernel)) (k := 1) (by decide +kernel) (v := (K.1 12)) (rfl) gX12_one_5.2.2.2.2.1 ?_
  refine pVo hO hS hC hK hl hP hD (m_isNameF l G K 12 h0 nw nk mhasKept nt mtaped nr mrowMany mroundOf mroundFrom mouts nm mfromHour mtoHour ns mfrom mto msort mdeep mcoded mlines nl nc nF np ntr nb mbestCost nso nsi nit nsh nsf nss nrc mtraced mdealer mnumber mwhose msize misParted ((by decide))) si_X12_248 [0] sm_0 fm_0 nd_0 rfl rfl rfl rfl rfl (Nat.le_of_ble_eq_true rfl) rm_7_5_4 ⟨by first | exact Nat.le_of_ble_eq_true rfl | exact Nat.zero_le _, by first | exact Nat.le_of_ble_eq_true rfl | exact Nat.zero_le _⟩ gX12_one_5.2.2.2.2.2.1 (Keqr ?_)
  refine lv_if_eq (tgt := 111) hx hb gX12_one_5.2.2.2.2.2.2.1 (by decide) (fun _ => ?_) (fun c9 => absurd (by decide) c9)
  refine lv_iload_n hx hb gX12_one_5.2.2.2.2.2.2.2.2.2 rfl (lv_at1 hl) ?_
  refine lv_istore_n (lv' := [(2, .int (-1)), (3, .int 1), (1, .int 0), (0, .ref h0)]) hx hb gX12_one_6.1 rfl hl (by decide) rfl (fun ls hl => ?_)
  refine lv_iinc (v := 2) (lv' := [(3, .int 2), (2, .int (-1)), (1, .int 0), (0, .ref h0)]) hx hb gX12_one_6.2.1 hl (k := 1) rfl (by decide) (by decide) rfl (fun ls hl => ?_)
  refine lv_goto (tgt := 89) hx hb gX12_one_6.2.2.1 (by decide) ?_
  refine lv_iload_n hx hb gX12_one_4.2.2.2.2.2.2.2.1 rfl (lv_at0 hl) ?_
  refine lv_iconst (v := 5) hx hb gX12_one_4.2.2.2.2.2.2.2.2.1 (by decide) ?_
  refine lv_icmp_ge (tgt := 119) hx hb gX12_one_4.2.2.2.2.2.2.2.2.2 (by decide) (fun c9 => absurd c9 (by decide)) (fun _ => ?_)
  refine lv_aload_n hx hb gX12_one_5.1 rfl (lv_at3 hl) ?_
  refine lv_aload_n hx hb gX12_one_5.2.1 rfl (lv_at3 hl) ?_
  refine gf_X12_50 hC rfl hK hP 0 rfl rfl gX12_one_5.2.2.1 ?_
  refine lv_iload_n hx hb gX12_one_5.2.2.2.1 rfl (lv_at0 hl) ?_
  refine aldS hC hK hP 1 rfl (vin (by decide +kernel)) (k := 2) (by decide +kernel) (v := (K.1 13)) (rfl) gX12_one_5.2.2.2.2.1 ?_
  refine pVo hO hS hC hK hl hP hD (m_isNameF l G K 13 h0 nw nk mhasKept nt mtaped nr mrowMany mroundOf mroundFrom mouts nm mfromHour mtoHour ns mfrom mto msort mdeep mcoded mlines nl nc nF np ntr nb mbestCost nso nsi nit nsh nsf nss nrc mtraced mdealer mnumber mwhose msize misParted ((by decide))) si_X12_248 [0] sm_0 fm_0 nd_0 rfl rfl rfl rfl rfl (Nat.le_of_ble_eq_true rfl) rm_7_5_4 ⟨by first | exact Nat.le_of_ble_eq_true rfl | exact Nat.zero_le _, by first | exact Nat.le_of_ble_eq_true rfl | exact Nat.zero_le _⟩ gX12_one_5.2.2.2.2.2.1 (Keqr ?_)
  refine lv_if_eq (tgt := 111) hx hb gX12_one_5.2.2.2.2.2.2.1 (by decide) (fun _ => ?_) (fun c9 => absurd (by decide) c9)
  refine lv_iload_n hx hb gX12_one_5.2.2.2.2.2.2.2.2.2 rfl (lv_at1 hl) ?_
  refine lv_istore_n (lv' := [(2, .int (-1)), (3, .int 2), (1, .int 0), (0, .ref h0)]) hx hb gX12_one_6.1 rfl hl (by decide) rfl (fun ls hl => ?_)
  refine lv_iinc (v := 3) (lv' := [(3, .int 3), (2, .int (-1)), (1, .int 0), (0, .ref h0)]) hx hb gX12_one_6.2.1 hl (k := 1) rfl (by decide) (by decide) rfl (fun ls hl => ?_)
  refine lv_goto (tgt := 89) hx hb gX12_one_6.2.2.1 (by decide) ?_
  refine lv_iload_n hx hb gX12_one_4.2.2.2.2.2.2.2.1 rfl (lv_at0 hl) ?_
  refine lv_iconst (v := 5) hx hb gX12_one_4.2.2.2.2.2.2.2.2.1 (by decide) ?_
  refine lv_icmp_ge (tgt := 119) hx hb gX12_one_4.2.2.2.2.2.2.2.2.2 (by decide) (fun c9 => absurd c9 (by decide)) (fun _ => ?_)
  refine lv_aload_n hx hb gX12_one_5.1 rfl (lv_at3 hl) ?_
  refine lv_aload_n hx hb gX12_one_5.2.1 rfl (lv_at3 hl) ?_
  refine gf_X12_50 hC rfl hK hP 0 rfl rfl gX12_one_5.2.2.1 ?_
  refine lv_iload_n hx hb gX12_one_5.2.2.2.1 rfl (lv_at0 hl) ?_
  refine aldS hC hK hP 1 rfl (vin (by decide +kernel)) (k := 3) (by decide +kernel) (v := (K.1 14)) (rfl) gX12_one_5.2.2.2.2.1 ?_
  refine pVo hO hS hC hK hl hP hD (m_isNameF l G K 14 h0 nw nk mhasKept nt mtaped nr mrowMany mroundOf mroundFrom mouts nm mfromHour mtoHour ns mfrom mto msort mdeep mcoded mlines nl nc nF np ntr nb mbestCost nso nsi nit nsh nsf nss nrc mtraced mdealer mnumber mwhose msize misParted ((by decide))) si_X12_248 [0] sm_0 fm_0 nd_0 rfl rfl rfl rfl rfl (Nat.le_of_ble_eq_true rfl) rm_7_5_4 ⟨by first | exact Nat.le_of_ble_eq_true rfl | exact Nat.zero_le _, by first | exact Nat.le_of_ble_eq_true rfl | exact Nat.zero_le _⟩ gX12_one_5.2.2.2.2.2.1 (Keqr ?_)
  refine lv_if_eq (tgt := 111) hx hb gX12_one_5.2.2.2.2.2.2.1 (by decide) (fun _ => ?_) (fun c9 => absurd (by decide) c9)
  refine lv_iload_n hx hb gX12_one_5.2.2.2.2.2.2.2.2.2 rfl (lv_at1 hl) ?_
  refine lv_istore_n (lv' := [(2, .int (-1)), (3, .int 3), (1, .int 0), (0, .ref h0)]) hx hb gX12_one_6.1 rfl hl (by decide) rfl (fun ls hl => ?_)
  refine lv_iinc (v := 4) (lv' := [(3, .int 4), (2, .int (-1)), (1, .int 0), (0, .ref h0)]) hx hb gX12_one_6.2.1 hl (k := 1) rfl (by decide) (by decide) rfl (fun ls hl => ?_)
  refine lv_goto (tgt := 89) hx hb gX12_one_6.2.2.1 (by decide) ?_
  refine lv_iload_n hx hb gX12_one_4.2.2.2.2.2.2.2.1 rfl (lv_at0 hl) ?_
  refine lv_iconst (v := 5) hx hb gX12_one_4.2.2.2.2.2.2.2.2.1 (by decide) ?_
  refine lv_icmp_ge (tgt := 119) hx hb gX12_one_4.2.2.2.2.2.2.2.2.2 (by decide) (fun c9 => absurd c9 (by decide)) (fun _ => ?_)
  refine lv_aload_n hx hb gX12_one_5.1 rfl (lv_at3 hl) ?_
  refine lv_aload_n hx hb gX12_one_5.2.1 rfl (lv_at3 hl) ?_
  refine gf_X12_50 hC rfl hK hP 0 rfl rfl gX12_one_5.2.2.1 ?_
  refine lv_iload_n hx hb gX12_one_5.2.2.2.1 rfl (lv_at0 hl) ?_
  refine aldS hC hK hP 1 rfl (vin (by decide +kernel)) (k := 4) (by decide +kernel) (v := (K.1 15)) (rfl) gX12_one_5.2.2.2.2.1 ?_
  refine pVo hO hS hC hK hl hP hD (m_isNameF l G K 15 h0 nw nk mhasKept nt mtaped nr mrowMany mroundOf mroundFrom mouts nm mfromHour mtoHour ns mfrom mto msort mdeep mcoded mlines nl nc nF np ntr nb mbestCost nso nsi nit nsh nsf nss nrc mtraced mdealer mnumber mwhose msize misParted ((by decide))) si_X12_248 [0] sm_0 fm_0 nd_0 rfl rfl rfl rfl rfl (Nat.le_of_ble_eq_true rfl) rm_7_5_4 ⟨by first | exact Nat.le_of_ble_eq_true rfl | exact Nat.zero_le _, by first | exact Nat.le_of_ble_eq_true rfl | exact Nat.zero_le _⟩ gX12_one_5.2.2.2.2.2.1 (Keqr ?_)
  refine lv_if_eq (tgt := 111) hx hb gX12_one_5.2.2.2.2.2.2.1 (by decide) (fun _ => ?_) (fun c9 => absurd (by decide) c9)
  refine lv_iload_n hx hb gX12_one_5.2.2.2.2.2.2.2.2.2 rfl (lv_at1 hl) ?_
  refine lv_istore_n (lv' := [(2, .int (-1)), (3, .int 4), (1, .int 0), (0, .ref h0)]) hx hb gX12_one_6.1 rfl hl (by decide) rfl (fun ls hl => ?_)
  refine lv_iinc (v := 5) (lv' := [(3, .int 5), (2, .int (-1)), (1, .int 0), (0, .ref h0)]) hx hb gX12_one_6.2.1 hl (k := 1) rfl (by decide) (by decide) rfl (fun ls hl => ?_)
  refine lv_goto (tgt := 89) hx hb gX12_one_6.2.2.1 (by decide) ?_
  refine lv_iload_n hx hb gX12_one_4.2.2.2.2.2.2.2.1 rfl (lv_at0 hl) ?_
  refine lv_iconst (v := 5) hx hb gX12_one_4.2.2.2.2.2.2.2.2.1 (by decide) ?_
  refine lv_icmp_ge (tgt := 119) hx hb gX12_one_4.2.2.2.2.2.2.2.2.2 (by decide) (fun _ => ?_) (fun c9 => absurd (by decide) c9)
  refine lv_aload_n hx hb gX12_one_6.2.2.2.1 rfl (lv_at3 hl) ?_
  refine lv_iload_n hx hb gX12_one_6.2.2.2.2.1 rfl (lv_at1 hl) ?_
  refine lv_if_lt (tgt := 128) hx hb gX12_one_6.2.2.2.2.2.1 (by decide) (fun _ => ?_) (fun c9 => absurd (by decide) c9)
  refine lv_iconst (v := 0) hx hb gX12_one_6.2.2.2.2.2.2.2.2.1 (by decide) ?_
  refine vV (wr := [(nF, sA G 5 (FCT K))]) hC hK hl hP hD hS hA (m_needF l G h0 0 nw nk mhasKept nt mtaped nr mrowMany mroundOf mroundFrom mouts nm mfromHour mtoHour ns mfrom mto msort mdeep mcoded mlines nl nc nF np ntr nb mbestCost nso nsi nit nsh nsf nss nrc mtraced mdealer mnumber mwhose msize misParted) si_X12_236 [0] [1] sm_0 fm_0 nd_0 sm_1 nd_1 dj_0__1 rfl rfl rfl rfl rfl (Nat.le_of_ble_eq_true rfl) rm_7_4_2 ⟨Nat.le_of_ble_eq_true rfl, Nat.le_of_ble_eq_true rfl⟩ gX12_one_6.2.2.2.2.2.2.2.2.2 (fun u6477 H locs hr6476 hP hD hS => ?_)
  refine Kpdr (ws := [(nF, sA G 5 (FCT K)), (h0, oX12 nw nk mhasKept nt mtaped nr mrowMany mroundOf mroundFrom mouts nm mfromHour mtoHour ns mfrom mto msort 1 mdeep mcoded mlines nl nc nF np ntr nb mbestCost nso nsi nit nsh nsf nss nrc mtraced mdealer mnumber mwhose msize misParted)]) hP hD (fun hP hD => ?_)
  refine lv_aload_n hx hb gX12_one_7.1 rfl (lv_at3 hl) ?_
  refine lv_bipush (v := 60) hx hb gX12_one_7.2.1 (by decide) ?_
  refine pV hC hK hl hP hD (m_isSignF l G h0 60 nw nk mhasKept nt mtaped nr mrowMany mroundOf mroundFrom mouts nm mfromHour mtoHour ns mfrom mto msort mdeep mcoded mlines nl nc nF np ntr nb mbestCost nso nsi nit nsh nsf nss nrc mtraced mdealer mnumber mwhose msize misParted) si_X12_262 [1] sm_1 fm_1 nd_1 rfl rfl rfl rfl rfl (Nat.le_of_ble_eq_true rfl) rm_7_1_2 ⟨by first | exact Nat.le_of_ble_eq_true rfl | exact Nat.zero_le _, by first | exact Nat.le_of_ble_eq_true rfl | exact Nat.zero_le _⟩ gX12_one_7.2.2.1 (Keqr ?_)
  refine lv_if_eq (tgt := 145) hx hb gX12_one_7.2.2.2.1 (by decide) (fun _ => ?_) (fun c9 => absurd (by decide) c9)
  refine lv_aload_n hx hb gX12_one_7.2.2.2.2.2.2.1 rfl (lv_at3 hl) ?_
  refine lv_bipush (v := 61) hx hb gX12_one_7.2.2.2.2.2.2.2.1 (by decide) ?_
  refine pV hC hK hl hP hD (m_isSignF l G h0 61 nw nk mhasKept nt mtaped nr mrowMany mroundOf mroundFrom mouts nm mfromHour mtoHour ns mfrom mto msort mdeep mcoded mlines nl nc nF np ntr nb mbestCost nso nsi nit nsh nsf nss nrc mtraced mdealer mnumber mwhose msize misParted) si_X12_262 [1] sm_1 fm_1 nd_1 rfl rfl rfl rfl rfl (Nat.le_of_ble_eq_true rfl) rm_7_1_2 ⟨by first | exact Nat.le_of_ble_eq_true rfl | exact Nat.zero_le _, by first | exact Nat.le_of_ble_eq_true rfl | exact Nat.zero_le _⟩ gX12_one_7.2.2.2.2.2.2.2.2.1 (Keqr ?_)
  refine lv_if_eq (tgt := 158) hx hb gX12_one_7.2.2.2.2.2.2.2.2.2 (by decide) (fun _ => ?_) (fun c9 => absurd (by decide) c9)
  refine lv_iconst (v := 2) hx hb gX12_one_8.2.2.1 (by decide) ?_
  refine lv_istore_n (lv' := [(3, .int 2), (2, .int (-1)), (1, .int 0), (0, .ref h0)]) hx hb gX12_one_8.2.2.2.1 rfl hl (by decide) rfl (fun ls hl => ?_)
  refine lv_aload_n hx hb gX12_one_8.2.2.2.2.1 rfl (lv_at3 hl) ?_
  refine lv_aload_n hx hb gX12_one_8.2.2.2.2.2.1 rfl (lv_at3 hl) ?_
  refine lv_bipush (v := 60) hx hb gX12_one_8.2.2.2.2.2.2.1 (by decide) ?_
  refine pV hC hK hl hP hD (m_isSignF l G h0 60 nw nk mhasKept nt mtaped nr mrowMany mroundOf mroundFrom mouts nm mfromHour mtoHour ns mfrom mto msort mdeep mcoded mlines nl nc nF np ntr nb mbestCost nso nsi nit nsh nsf nss nrc mtraced mdealer mnumber mwhose msize misParted) si_X12_262 [1] sm_1 fm_1 nd_1 rfl rfl rfl rfl rfl (Nat.le_of_ble_eq_true rfl) rm_7_1_2 ⟨by first | exact Nat.le_of_ble_eq_true rfl | exact Nat.zero_le _, by first | exact Nat.le_of_ble_eq_true rfl | exact Nat.zero_le _⟩ gX12_one_8.2.2.2.2.2.2.2.1 (Keqr ?_)
  refine lv_if_ne (tgt := 188) hx hb gX12_one_8.2.2.2.2.2.2.2.2.1 (by decide) (fun c9 => absurd (by decide) c9) (fun _ => ?_)
  refine lv_aload_n hx hb gX12_one_8.2.2.2.2.2.2.2.2.2 rfl (lv_at3 hl) ?_
  refine lv_bipush (v := 61) hx hb gX12_one_9.1 (by decide) ?_
  refine pV hC hK hl hP hD (m_isSignF l G h0 61 nw nk mhasKept nt mtaped nr mrowMany mroundOf mroundFrom mouts nm mfromHour mtoHour ns mfrom mto msort mdeep mcoded mlines nl nc nF np ntr nb mbestCost nso nsi nit nsh nsf nss nrc mtraced mdealer mnumber mwhose msize misParted) si_X12_262 [1] sm_1 fm_1 nd_1 rfl rfl rfl rfl rfl (Nat.le_of_ble_eq_true rfl) rm_7_1_2 ⟨by first | exact Nat.le_of_ble_eq_true rfl | exact Nat.zero_le _, by first | exact Nat.le_of_ble_eq_true rfl | exact Nat.zero_le _⟩ gX12_one_9.2.1 (Keqr ?_)
  refine lv_if_ne (tgt := 188) hx hb gX12_one_9.2.2.1 (by decide) (fun c9 => absurd (by decide) c9) (fun _ => ?_)
  refine lv_aload_n hx hb gX12_one_9.2.2.2.1 rfl (lv_at3 hl) ?_
  refine lv_bipush (v := 62) hx hb gX12_one_9.2.2.2.2.1 (by decide) ?_
  refine pV hC hK hl hP hD (m_isSignF l G h0 62 nw nk mhasKept nt mtaped nr mrowMany mroundOf mroundFrom mouts nm mfromHour mtoHour ns mfrom mto msort mdeep mcoded mlines nl nc nF np ntr nb mbestCost nso nsi nit nsh nsf nss nrc mtraced mdealer mnumber mwhose msize misParted) si_X12_262 [1] sm_1 fm_1 nd_1 rfl rfl rfl rfl rfl (Nat.le_of_ble_eq_true rfl) rm_7_1_2 ⟨by first | exact Nat.le_of_ble_eq_true rfl | exact Nat.zero_le _, by first | exact Nat.le_of_ble_eq_true rfl | exact Nat.zero_le _⟩ gX12_one_9.2.2.2.2.2.1 (Keqr ?_)
  refine lv_if_eq (tgt := 192) hx hb gX12_one_9.2.2.2.2.2.2.1 (by decide) (fun _ => ?_) (fun c9 => absurd (by decide) c9)
  refine lv_iconst (v := 0) hx hb gX12_one_9.2.2.2.2.2.2.2.2.2 (by decide) ?_
  refine vV (wr := [(nF, sA G 5 (FCT K))]) hC hK hl hP hD hS hA (m_needF l G h0 0 nw nk mhasKept nt mtaped nr mrowMany mroundOf mroundFrom mouts nm mfromHour mtoHour ns mfrom mto msort mdeep mcoded mlines nl nc nF np ntr nb mbestCost nso nsi nit nsh nsf nss nrc mtraced mdealer mnumber mwhose msize misParted) si_X12_236 [1] [0] sm_1 fm_1 nd_1 sm_0 nd_0 dj_1__0 rfl rfl rfl rfl rfl (Nat.le_of_ble_eq_true rfl) rm_7_4_2 ⟨Nat.le_of_ble_eq_true rfl, Nat.le_of_ble_eq_true rfl⟩ gX12_one_10.1 (fun u6489 H locs hr6488 hP hD hS => ?_)
  refine Kpdr (ws := [(nF, sA G 5 (FCT K)), (h0, oX12 nw nk mhasKept nt mtaped nr mrowMany mroundOf mroundFrom mouts nm mfromHour mtoHour ns mfrom mto msort 1 mdeep mcoded mlines nl nc nF np ntr nb mbestCost nso nsi nit nsh nsf nss nrc mtraced mdealer mnumber mwhose msize misParted)]) hP hD (fun hP hD => ?_)
  refine lv_aload_n hx hb gX12_one_10.2.1 rfl (lv_at3 hl) ?_
  refine lv_sipush (v := 999) hx hb gX12_one_10.2.2.1 (by decide) ?_
  refine iV (wr := [(nF, sA G 5 (FCT K))]) hC hK hl hP hD hS hA (m_numberF l G h0 999 nw nk mhasKept nt mtaped nr mrowMany mroundOf mroundFrom mouts nm mfromHour mtoHour ns mfrom mto msort mdeep mcoded mlines nl nc nF np ntr nb mbestCost nso nsi nit nsh nsf nss nrc mtraced mdealer mnumber mwhose msize misParted) si_X12_271 [1] [0] sm_1 fm_1 nd_1 sm_0 nd_0 dj_1__0 rfl rfl rfl rfl rfl (Nat.le_of_ble_eq_true rfl) rm_7_5_5 ⟨Nat.le_of_ble_eq_true rfl, Nat.le_of_ble_eq_true rfl⟩ gX12_one_10.2.2.2.1 (fun r6490 u6491 H locs hr6490 hP hD hS => ?_)
  refine Kpdr (ws := [(nF, sA G 5 (FCT K)), (h0, oX12 nw nk mhasKept nt mtaped nr mrowMany mroundOf mroundFrom mouts nm mfromHour mtoHour ns mfrom mto msort 1 mdeep mcoded mlines nl nc nF np ntr nb mbestCost nso nsi nit nsh nsf nss nrc mtraced mdealer mnumber mwhose msize misParted)]) hP hD (fun hP hD => ?_)
  obtain rfl := hr6490
  refine lv_istore (lv' := [(4, .int 0), (3, .int 2), (2, .int (-1)), (1, .int 0), (0, .ref h0)]) hx hb gX12_one_10.2.2.2.2.1 hl (by decide) rfl (fun ls hl => ?_)
  refine lv_aload_n hx hb gX12_one_10.2.2.2.2.2.1 rfl (lv_at4 hl) ?_
  refine lv_sipush (v := 3000) hx hb gX12_one_10.2.2.2.2.2.2.1 (by decide) ?_
  refine lv_iload_n hx hb gX12_one_10.2.2.2.2.2.2.2.1 rfl (lv_at2 hl) ?_
  refine lv_imul hx hb gX12_one_10.2.2.2.2.2.2.2.2.1 ?_
  refine eqi (x1 := (-3000)) (by decide) ?_
  refine lv_sipush (v := 1000) hx hb gX12_one_10.2.2.2.2.2.2.2.2.2 (by decide) ?_
  refine lv_iload_n hx hb gX12_one_11.1 rfl (lv_at1 hl) ?_
  refine lv_imul hx hb gX12_one_11.2.1 ?_
  refine eqi (x1 := 2000) (by decide) ?_
  refine lv_iadd hx hb gX12_one_11.2.2.1 ?_
  refine eqi (x1 := (-1000)) (by decide) ?_
  refine lv_iload hx hb gX12_one_11.2.2.2.1 (lv_at0 hl) ?_
  refine lv_iadd hx hb gX12_one_11.2.2.2.2.1 ?_
  refine eqi (x1 := (-1000)) (by decide) ?_
  refine vV (wr := [(nF, sA G 5 (FCT K))]) hC hK hl hP hD hS hA (m_codesF l G h0 (-1000) nw nk mhasKept nt mtaped nr mrowMany mroundOf mroundFrom mouts nm mfromHour mtoHour ns mfrom mto msort mdeep mcoded mlines nl nc nF np ntr nb mbestCost nso nsi nit nsh nsf nss nrc mtraced mdealer mnumber mwhose msize misParted) si_X12_252 [1] [0] sm_1 fm_1 nd_1 sm_0 nd_0 dj_1__0 rfl rfl rfl rfl rfl (Nat.le_of_ble_eq_true rfl) rm_7_1_2 ⟨Nat.le_of_ble_eq_true rfl, Nat.le_of_ble_eq_true rfl⟩ gX12_one_11.2.2.2.2.2.1 (fun u6494 H locs hr6493 hP hD hS => ?_)
  refine Kpdr (ws := [(nF, sA G 5 (FCT K)), (h0, oX12 nw nk mhasKept nt mtaped nr mrowMany mroundOf mroundFrom mouts nm mfromHour mtoHour ns mfrom mto msort 1 mdeep mcoded mlines nl nc nF np ntr nb mbestCost nso nsi nit nsh nsf nss nrc mtraced mdealer mnumber mwhose msize misParted)]) hP hD (fun hP hD => ?_)
  refine lv_iconst (v := 0) hx hb gX12_one_11.2.2.2.2.2.2.1 (by decide) ?_
  refine lv_istore_n (lv' := [(2, .int 0), (4, .int 0), (3, .int 2), (1, .int 0), (0, .ref h0)]) hx hb gX12_one_11.2.2.2.2.2.2.2.1 rfl hl (by decide) rfl (fun ls hl => ?_)
  refine lv_iload_n hx hb gX12_one_11.2.2.2.2.2.2.2.2.1 rfl (lv_at0 hl) ?_
  refine lv_iload_n hx hb gX12_one_11.2.2.2.2.2.2.2.2.2 rfl (lv_at3 hl) ?_
  refine lv_icmp_ge (tgt := 243) hx hb gX12_one_12.1 (by decide) (fun _ => ?_) (fun c9 => absurd (by decide) c9)
  refine toQ hQ0 ?_
  exact RV hC hP hD hS [1, 0] () rfl rfl (by decide) (trivial) gX12_one_12.2.2.2.2.2.2
def K_m_allF (l : Launch) (G : GG) (K : OO) (h0 : Nat) (nw : Nat) (nk : Nat) (mhasKept : Int32) (nt : Nat) (mtaped : Int32) (nr : Nat) (mrowMany : Int32) (mroundOf : Int32) (mroundFrom : Int32) (mouts : Int32) (nm : Nat) (mfromHour : Int32) (mtoHour : Int32) (ns : Nat) (mfrom : Int32) (mto : Int32) (msort : Int32) (mdeep : Int32) (mcoded : Int32) (mlines : Int32) (nl : Nat) (nc : Nat) (nF : Nat) (np : Nat) (ntr : Nat) (nb : Nat) (mbestCost : Int32) (nso : Nat) (nsi : Nat) (nit : Nat) (nsh : Nat) (nsf : Nat) (nss : Nat) (nrc : Nat) (mtraced : Int32) (mdealer : Int32) (mnumber : Int32) (mwhose : Int32) (msize : Int32) (misParted : Int32) : Prop := MVo l G K yX12_all cX12_all 1 8 0 0 [.ref h0] [(h0, oX12 nw nk mhasKept nt mtaped nr mrowMany mroundOf mroundFrom mouts nm mfromHour mtoHour ns mfrom mto msort 1 mdeep mcoded mlines nl nc nF np ntr nb mbestCost nso nsi nit nsh nsf nss nrc mtraced mdealer mnumber mwhose msize misParted), (nF, sA G 5 (FCT K))] (fun u : Unit => True) (fun u : Unit => [(h0, oX12 nw nk mhasKept nt mtaped nr mrowMany mroundOf mroundFrom mouts nm mfromHour mtoHour ns mfrom mto msort 1 mdeep mcoded mlines nl nc nF np ntr nb mbestCost nso nsi nit nsh nsf nss nrc mtraced mdealer mnumber mwhose msize misParted), (nF, sA G 5 (FCT K))])
set_option maxHeartbeats 4000000 in
set_option maxRecDepth 100000 in
theorem m_allF (l : Launch) (G : GG) (K : OO) (h0 : Nat) (nw : Nat) (nk : Nat) (mhasKept : Int32) (nt : Nat) (mtaped : Int32) (nr : Nat) (mrowMany : Int32) (mroundOf : Int32) (mroundFrom : Int32) (mouts : Int32) (nm : Nat) (mfromHour : Int32) (mtoHour : Int32) (ns : Nat) (mfrom : Int32) (mto : Int32) (msort : Int32) (mdeep : Int32) (mcoded : Int32) (mlines : Int32) (nl : Nat) (nc : Nat) (nF : Nat) (np : Nat) (ntr : Nat) (nb : Nat) (mbestCost : Int32) (nso : Nat) (nsi : Nat) (nit : Nat) (nsh : Nat) (nsf : Nat) (nss : Nat) (nrc : Nat) (mtraced : Int32) (mdealer : Int32) (mnumber : Int32) (mwhose : Int32) (msize : Int32) (misParted : Int32) : K_m_allF l G K h0 nw nk mhasKept nt mtaped nr mrowMany mroundOf mroundFrom mouts nm mfromHour mtoHour ns mfrom mto msort mdeep mcoded mlines nl nc nF np ntr nb mbestCost nso nsi nit nsh nsf nss nrc mtraced mdealer mnumber mwhose msize misParted := by
  refine MVo.start (by decide +kernel) (Nat.le_of_ble_eq_true rfl) ?_
  intro p e s m below meth c A ls hC hK hP hD hS hA hl hO
  refine absQ (fun Q0 hQ0 => ?_)
  have hl : lv_has ls 1 [(0, .ref h0)] := hl
  refine Kan8 hC (fun hx hb hr hml hB hown hlocks hnm => ?_)
  refine lv_aload_n hx hb gX12_all_0.1 rfl (lv_at0 hl) ?_
  refine vVo (wr := []) hO hC hK hl hP hD hS hA (m_oneF l G K h0 nw nk mhasKept nt mtaped nr mrowMany mroundOf mroundFrom mouts nm mfromHour mtoHour ns mfrom mto msort mdeep mcoded mlines nl nc nF np ntr nb mbestCost nso nsi nit nsh nsf nss nrc mtraced mdealer mnumber mwhose msize misParted) si_X12_255 [0, 1] [] sm_0_1 fm_0_1 nd_0_1 rfl rfl (by decide) rfl rfl rfl rfl rfl (Nat.le_of_ble_eq_true rfl) rm_8_7_5 ⟨Nat.le_of_ble_eq_true rfl, Nat.le_of_ble_eq_true rfl⟩ gX12_all_0.2.1 (fun u6496 H locs hr6495 hP hD hS => ?_)
  refine Kpdr (ws := [(h0, oX12 nw nk mhasKept nt mtaped nr mrowMany mroundOf mroundFrom mouts nm mfromHour mtoHour ns mfrom mto msort 1 mdeep mcoded mlines nl nc nF np ntr nb mbestCost nso nsi nit nsh nsf nss nrc mtraced mdealer mnumber mwhose msize misParted), (nF, sA G 5 (FCT K))]) hP hD (fun hP hD => ?_)
  refine lv_aload_n hx hb gX12_all_0.2.2.1 rfl (lv_at0 hl) ?_
  refine va_ldcSw (index := 258) (tx := "and") hx hb hown (hO.2.2 9 (by decide)) gX12_all_0.2.2.2.1 ?_
  refine pVo hO hS hC hK hl hP hD (m_isNameF l G K 9 h0 nw nk mhasKept nt mtaped nr mrowMany mroundOf mroundFrom mouts nm mfromHour mtoHour ns mfrom mto msort mdeep mcoded mlines nl nc nF np ntr nb mbestCost nso nsi nit nsh nsf nss nrc mtraced mdealer mnumber mwhose msize misParted ((by decide))) si_X12_248 [0] sm_0 fm_0 nd_0 rfl rfl rfl rfl rfl (Nat.le_of_ble_eq_true rfl) rm_8_5_4 ⟨by first | exact Nat.le_of_ble_eq_true rfl | exact Nat.zero_le _, by first | exact Nat.le_of_ble_eq_true rfl | exact Nat.zero_le _⟩ gX12_all_0.2.2.2.2.1 (Keqr ?_)
  refine lv_if_eq (tgt := 32) hx hb gX12_all_0.2.2.2.2.2.1 (by decide) (fun _ => ?_) (fun c9 => absurd (by decide) c9)
  refine toQ hQ0 ?_
  exact RV hC hP hD hS [0, 1] () rfl rfl (by decide) (trivial) gX12_all_1.2.2.2.2
def K_m_eitherF (l : Launch) (G : GG) (K : OO) (h0 : Nat) (nw : Nat) (nk : Nat) (mhasKept : Int32) (nt : Nat) (mtaped : Int32) (nr : Nat) (mrowMany : Int32) (mroundOf : Int32) (mroundFrom : Int32) (mouts : Int32) (nm : Nat) (mfromHour : Int32) (mtoHour : Int32) (ns : Nat) (mfrom : Int32) (mto : Int32) (msort : Int32) (mdeep : Int32) (mcoded : Int32) (mlines : Int32) (nl : Nat) (nc : Nat) (nF : Nat) (np : Nat) (ntr : Nat) (nb : Nat) (mbestCost : Int32) (nso : Nat) (nsi : Nat) (nit : Nat) (nsh : Nat) (nsf : Nat) (nss : Nat) (nrc : Nat) (mtraced : Int32) (mdealer : Int32) (mnumber : Int32) (mwhose : Int32) (msize : Int32) (misParted : Int32) : Prop := MVo l G K yX12_either cX12_either 1 9 0 0 [.ref h0] [(h0, oX12 nw nk mhasKept nt mtaped nr mrowMany mroundOf mroundFrom mouts nm mfromHour mtoHour ns mfrom mto msort 1 mdeep mcoded mlines nl nc nF np ntr nb mbestCost nso nsi nit nsh nsf nss nrc mtraced mdealer mnumber mwhose msize misParted), (nF, sA G 5 (FCT K))] (fun u : Unit => True) (fun u : Unit => [(h0, oX12 nw nk mhasKept nt mtaped nr mrowMany mroundOf mroundFrom mouts nm mfromHour mtoHour ns mfrom mto msort 1 mdeep mcoded mlines nl nc nF np ntr nb mbestCost nso nsi nit nsh nsf nss nrc mtraced mdealer mnumber mwhose msize misParted), (nF, sA G 5 (FCT K))])
set_option maxHeartbeats 4000000 in
set_option maxRecDepth 100000 in
theorem m_eitherF (l : Launch) (G : GG) (K : OO) (h0 : Nat) (nw : Nat) (nk : Nat) (mhasKept : Int32) (nt : Nat) (mtaped : Int32) (nr : Nat) (mrowMany : Int32) (mroundOf : Int32) (mroundFrom : Int32) (mouts : Int32) (nm : Nat) (mfromHour : Int32) (mtoHour : Int32) (ns : Nat) (mfrom : Int32) (mto : Int32) (msort : Int32) (mdeep : Int32) (mcoded : Int32) (mlines : Int32) (nl : Nat) (nc : Nat) (nF : Nat) (np : Nat) (ntr : Nat) (nb : Nat) (mbestCost : Int32) (nso : Nat) (nsi : Nat) (nit : Nat) (nsh : Nat) (nsf : Nat) (nss : Nat) (nrc : Nat) (mtraced : Int32) (mdealer : Int32) (mnumber : Int32) (mwhose : Int32) (msize : Int32) (misParted : Int32) : K_m_eitherF l G K h0 nw nk mhasKept nt mtaped nr mrowMany mroundOf mroundFrom mouts nm mfromHour mtoHour ns mfrom mto msort mdeep mcoded mlines nl nc nF np ntr nb mbestCost nso nsi nit nsh nsf nss nrc mtraced mdealer mnumber mwhose msize misParted := by
  refine MVo.start (by decide +kernel) (Nat.le_of_ble_eq_true rfl) ?_
  intro p e s m below meth c A ls hC hK hP hD hS hA hl hO
  refine absQ (fun Q0 hQ0 => ?_)
  have hl : lv_has ls 1 [(0, .ref h0)] := hl
  refine Kan8 hC (fun hx hb hr hml hB hown hlocks hnm => ?_)
  refine lv_aload_n hx hb gX12_either_0.1 rfl (lv_at0 hl) ?_
  refine vVo (wr := []) hO hC hK hl hP hD hS hA (m_allF l G K h0 nw nk mhasKept nt mtaped nr mrowMany mroundOf mroundFrom mouts nm mfromHour mtoHour ns mfrom mto msort mdeep mcoded mlines nl nc nF np ntr nb mbestCost nso nsi nit nsh nsf nss nrc mtraced mdealer mnumber mwhose msize misParted) si_X12_243 [0, 1] [] sm_0_1 fm_0_1 nd_0_1 rfl rfl (by decide) rfl rfl rfl rfl rfl (Nat.le_of_ble_eq_true rfl) rm_9_8_1 ⟨Nat.le_of_ble_eq_true rfl, Nat.le_of_ble_eq_true rfl⟩ gX12_either_0.2.1 (fun u6500 H locs hr6499 hP hD hS => ?_)
  refine Kpdr (ws := [(h0, oX12 nw nk mhasKept nt mtaped nr mrowMany mroundOf mroundFrom mouts nm mfromHour mtoHour ns mfrom mto msort 1 mdeep mcoded mlines nl nc nF np ntr nb mbestCost nso nsi nit nsh nsf nss nrc mtraced mdealer mnumber mwhose msize misParted), (nF, sA G 5 (FCT K))]) hP hD (fun hP hD => ?_)
  refine lv_aload_n hx hb gX12_either_0.2.2.1 rfl (lv_at0 hl) ?_
  refine va_ldcS (index := 246) (tx := "o\x72") hx hb hown (hO.2.2 8 (by decide)) gX12_either_0.2.2.2.1 ?_
  refine pVo hO hS hC hK hl hP hD (m_isNameF l G K 8 h0 nw nk mhasKept nt mtaped nr mrowMany mroundOf mroundFrom mouts nm mfromHour mtoHour ns mfrom mto msort mdeep mcoded mlines nl nc nF np ntr nb mbestCost nso nsi nit nsh nsf nss nrc mtraced mdealer mnumber mwhose msize misParted ((by decide))) si_X12_248 [0] sm_0 fm_0 nd_0 rfl rfl rfl rfl rfl (Nat.le_of_ble_eq_true rfl) rm_9_5_4 ⟨by first | exact Nat.le_of_ble_eq_true rfl | exact Nat.zero_le _, by first | exact Nat.le_of_ble_eq_true rfl | exact Nat.zero_le _⟩ gX12_either_0.2.2.2.2.1 (Keqr ?_)
  refine lv_if_eq (tgt := 31) hx hb gX12_either_0.2.2.2.2.2.1 (by decide) (fun _ => ?_) (fun c9 => absurd (by decide) c9)
  refine toQ hQ0 ?_
  exact RV hC hP hD hS [0, 1] () rfl rfl (by decide) (trivial) gX12_either_1.2.2.2.2
def K_m_one (l : Launch) (G : GG) (K : OO) (mn : Nat) (h0 : Nat) (nw : Nat) (nk : Nat) (mhasKept : Int32) (nt : Nat) (ktp : Nat) (nr : Nat) (mrowMany : Int32) (mroundOf : Int32) (mroundFrom : Int32) (mouts : Int32) (nm : Nat) (mfromHour : Int32) (mtoHour : Int32) (ns : Nat) (ks : Nat) (jd : Nat) (kc : Nat) (mlines : Int32) (nl : Nat) (nc : Nat) (nF : Nat) (np : Nat) (ntr : Nat) (nb : Nat) (mbestCost : Int32) (nso : Nat) (nsi : Nat) (nit : Nat) (nsh : Nat) (nsf : Nat) (nss : Nat) (nrc : Nat) (mtraced : Int32) (mdealer : Int32) (mnumber : Int32) (mwhose : Int32) (msize : Int32) (misParted : Int32) (fnt : Nat → Int32) (fnc : Nat → Int32) (bt : Nat → Int32) (cs : List Int32) (rs : List Int32) : Prop := MVo l G K yX12_one cX12_one 5 (10 + 4 * mn) 0 0 [.ref h0] [(h0, oX12 nw nk mhasKept nt (nI ktp) nr mrowMany mroundOf mroundFrom mouts nm mfromHour mtoHour ns (nI ks) (nI (TKE bt ktp ks)) (nI (TKN bt ktp ks)) 0 (nI jd) (nI kc) mlines nl nc nF np ntr nb mbestCost nso nsi nit nsh nsf nss nrc mtraced mdealer mnumber mwhose msize misParted), (nt, iA G 240 fnt), (nc, iA G 100 fnc), (nF, sA G 5 (FCT K))] (fun u : Int32 × Nat × Nat × (Nat → Int32) × (List Int32) × (List Int32) => (0 = u.1 ∧ RT bt ktp 0 jd 0 ks cs rs (1, u.2.1, u.2.2.2.2.1, u.2.2.2.2.2) ∧ STP u.2.2.1 u.2.2.2.1 u.2.2.2.2.2) ∨ (1 = u.1 ∧ RT bt ktp 0 jd 0 ks cs rs (0, u.2.1, [], []) ∧ u.2.1 ≤ ktp)) (fun u : Int32 × Nat × Nat × (Nat → Int32) × (List Int32) × (List Int32) => [(h0, oX12 nw nk mhasKept nt (nI ktp) nr mrowMany mroundOf mroundFrom mouts nm mfromHour mtoHour ns (nI u.2.1) (nI (TKE bt ktp u.2.1)) (nI (TKN bt ktp u.2.1)) u.1 (nI jd) (nI u.2.2.1) mlines nl nc nF np ntr nb mbestCost nso nsi nit nsh nsf nss nrc mtraced mdealer mnumber mwhose msize misParted), (nt, iA G 240 fnt), (nc, iA G 100 u.2.2.2.1), (nF, sA G 5 (FCT K))])
set_option maxHeartbeats 4000000 in
set_option maxRecDepth 100000 in
theorem m_one (l : Launch) (G : GG) (K : OO) (mn : Nat) (h0 : Nat) (nw : Nat) (nk : Nat) (mhasKept : Int32) (nt : Nat) (ktp : Nat) (nr : Nat) (mrowMany : Int32) (mroundOf : Int32) (mroundFrom : Int32) (mouts : Int32) (nm : Nat) (mfromHour : Int32) (mtoHour : Int32) (ns : Nat) (ks : Nat) (jd : Nat) (kc : Nat) (mlines : Int32) (nl : Nat) (nc : Nat) (nF : Nat) (np : Nat) (ntr : Nat) (nb : Nat) (mbestCost : Int32) (nso : Nat) (nsi : Nat) (nit : Nat) (nsh : Nat) (nsf : Nat) (nss : Nat) (nrc : Nat) (mtraced : Int32) (mdealer : Int32) (mnumber : Int32) (mwhose : Int32) (msize : Int32) (misParted : Int32) (fnt : Nat → Int32) (fnc : Nat → Int32) (bt : Nat → Int32) (cs : List Int32) (rs : List Int32) (htp : ktp ≤ 240) (hks : ks ≤ ktp) (hFB : FBT fnt bt ktp) (hST : STP kc fnc rs) (h3s : 3 * kc ≤ ks) (hjm : jd + mn = 4) (ihE : ∀ m9, m9 < mn → ∀ (h0 : Nat) (nw : Nat) (nk : Nat) (mhasKept : Int32) (nt : Nat) (ktp : Nat) (nr : Nat) (mrowMany : Int32) (mroundOf : Int32) (mroundFrom : Int32) (mouts : Int32) (nm : Nat) (mfromHour : Int32) (mtoHour : Int32) (ns : Nat) (ks : Nat) (jd : Nat) (kc : Nat) (mlines : Int32) (nl : Nat) (nc : Nat) (nF : Nat) (np : Nat) (ntr : Nat) (nb : Nat) (mbestCost : Int32) (nso : Nat) (nsi : Nat) (nit : Nat) (nsh : Nat) (nsf : Nat) (nss : Nat) (nrc : Nat) (mtraced : Int32) (mdealer : Int32) (mnumber : Int32) (mwhose : Int32) (msize : Int32) (misParted : Int32) (fnt : Nat → Int32) (fnc : Nat → Int32) (bt : Nat → Int32) (cs : List Int32) (rs : List Int32) (htp : ktp ≤ 240) (hks : ks ≤ ktp) (hFB : FBT fnt bt ktp) (hST : STP kc fnc rs) (h3s : 3 * kc ≤ ks) (hjm : jd + m9 = 4), MVo l G K yX12_either cX12_either 1 (12 + 4 * m9) 0 0 [.ref h0] [(h0, oX12 nw nk mhasKept nt (nI ktp) nr mrowMany mroundOf mroundFrom mouts nm mfromHour mtoHour ns (nI ks) (nI (TKE bt ktp ks)) (nI (TKN bt ktp ks)) 0 (nI jd) (nI kc) mlines nl nc nF np ntr nb mbestCost nso nsi nit nsh nsf nss nrc mtraced mdealer mnumber mwhose msize misParted), (nt, iA G 240 fnt), (nc, iA G 100 fnc), (nF, sA G 5 (FCT K))] (fun u : Int32 × Nat × Nat × (Nat → Int32) × (List Int32) × (List Int32) => (0 = u.1 ∧ RT bt ktp 2 jd 0 ks cs rs (1, u.2.1, u.2.2.2.2.1, u.2.2.2.2.2) ∧ STP u.2.2.1 u.2.2.2.1 u.2.2.2.2.2) ∨ (1 = u.1 ∧ RT bt ktp 2 jd 0 ks cs rs (0, u.2.1, [], []) ∧ u.2.1 ≤ ktp)) (fun u : Int32 × Nat × Nat × (Nat → Int32) × (List Int32) × (List Int32) => [(h0, oX12 nw nk mhasKept nt (nI ktp) nr mrowMany mroundOf mroundFrom mouts nm mfromHour mtoHour ns (nI u.2.1) (nI (TKE bt ktp u.2.1)) (nI (TKN bt ktp u.2.1)) u.1 (nI jd) (nI u.2.2.1) mlines nl nc nF np ntr nb mbestCost nso nsi nit nsh nsf nss nrc mtraced mdealer mnumber mwhose msize misParted), (nt, iA G 240 fnt), (nc, iA G 100 u.2.2.2.1), (nF, sA G 5 (FCT K))])) : K_m_one l G K mn h0 nw nk mhasKept nt ktp nr mrowMany mroundOf mroundFrom mouts nm mfromHour mtoHour ns ks jd kc mlines nl nc nF np ntr nb mbestCost nso nsi nit nsh nsf nss nrc mtraced mdealer mnumber mwhose msize misParted fnt fnc bt cs rs := by
  refine MVo.start (by decide +kernel) (Nat.le_of_ble_eq_true rfl) ?_
  intro p e s m below meth c A ls hC hK hP hD hS hA hl hO
  refine absQ (fun Q0 hQ0 => ?_)
  have hl : lv_has ls 5 [(0, .ref h0)] := hl
  refine Kan8 hC (fun hx hb hr hml hB hown hlocks hnm => ?_)
  have tk0 := TKE.ge (bt := bt) (n := ktp) (s := ks) hks
  have hs1 := hST.1
  refine lv_iconst (v := 0) hx hb gX12_one_0.1 (by decide) ?_
  refine lv_istore_n (lv' := [(1, .int 0), (0, .ref h0)]) hx hb gX12_one_0.2.1 rfl hl (by decide) rfl (fun ls hl => ?_)
  have keyT : ∀ (nT : Nat) (vks : Nat) (vn : Nat) (H : Heap) (locs : List Loc) (ls : Array Slot), (ks + 3 * vn ≤ vks ∧ vks ≤ ktp ∧ 241 ≤ vks + nT) → (∀ r, RT bt ktp 0 jd vn vks cs rs r → RT bt ktp 0 jd 0 ks cs rs r) → va_PD G A [(h0, oX12 nw nk mhasKept nt (nI ktp) nr mrowMany mroundOf mroundFrom mouts nm mfromHour mtoHour ns (nI vks) (nI (TKE bt ktp vks)) (nI (TKN bt ktp vks)) 0 (nI jd) (nI kc) mlines nl nc nF np ntr nb mbestCost nso nsi nit nsh nsf nss nrc mtraced mdealer mnumber mwhose msize misParted), (nt, iA G 240 fnt), (nc, iA G 100 fnc), (nF, sA G 5 (FCT K))] H → va_S A s.heap H locs → lv_has ls 5 [(1, .int (nI vn)), (0, .ref h0)] → W p l e (RM (10 + 4 * mn) 0 0) s m ([.ref h0] : List Value).toArray below meth c H locs 0 0 Q0 (F0 m 2 ls []) := by
    intro nT
    induction nT with
    | zero =>
      intro vks vn H locs ls hiT hco hPD hS hl
      refine Kan2 hPD (fun hP hD => ?_)
      exact (show False by omega).elim
    | succ nT ihT =>
      intro vks vn H locs ls hiT hco hPD hS hl
      refine Kan2 hPD (fun hP hD => ?_)
      have tkv := TKE.ge (bt := bt) (n := ktp) (s := vks) (by omega)
      refine lv_aload_n hx hb gX12_one_0.2.2.1 rfl (lv_at1 hl) ?_
      refine va_ldcSw (index := 260) (tx := "not") hx hb hown (hO.2.2 10 (by decide)) gX12_one_0.2.2.2.1 ?_
      refine pVo hO hS hC hK hl hP hD (m_isNameX l G K 10 h0 nw nk mhasKept nt ktp nr mrowMany mroundOf mroundFrom mouts nm mfromHour mtoHour ns vks (nI jd) (nI kc) mlines nl nc nF np ntr nb mbestCost nso nsi nit nsh nsf nss nrc mtraced mdealer mnumber mwhose msize misParted fnt bt (htp) (by omega) (hFB) ((by decide))) si_X12_248 [0, 1] sm_0_1 fm_0_1 nd_0_1 rfl rfl rfl rfl rfl (Nat.le_of_ble_eq_true rfl) (rmT (Nat.le_of_ble_eq_true rfl) (Nat.le_of_ble_eq_true rfl)) ⟨by first | exact Nat.le_of_ble_eq_true rfl | exact Nat.zero_le _, by first | exact Nat.le_of_ble_eq_true rfl | exact Nat.zero_le _⟩ gX12_one_0.2.2.2.2.1 (Kors (Keqa fun a6504 => ?_) (Keqa fun a6504 => ?_))
      · have hq6505 := a6504
        have xl6506 : vks + 3 ≤ NXT bt ktp vks ∧ NXT bt ktp vks ≤ ktp := WRD.len hq6505 (by omega)
        refine lv_if_eq (tgt := 22) hx hb gX12_one_0.2.2.2.2.2.1 (by decide) (fun c9 => absurd c9 (by decide)) (fun _ => ?_)
        refine lv_aload_n hx hb gX12_one_0.2.2.2.2.2.2.1 rfl (lv_at1 hl) ?_
        refine vV (wr := [(nc, iA G 100 fnc), (nF, sA G 5 (FCT K))]) hC hK hl hP hD hS hA (m_nextT l G h0 nw nk mhasKept nt ktp nr mrowMany mroundOf mroundFrom mouts nm mfromHour mtoHour ns vks 0 (nI jd) (nI kc) mlines nl nc nF np ntr nb mbestCost nso nsi nit nsh nsf nss nrc mtraced mdealer mnumber mwhose msize misParted fnt bt (htp) (by omega) (hFB)) si_X12_233 [0, 1] [2, 3] sm_0_1 fm_0_1 nd_0_1 sm_2_3 nd_2_3 dj_0_1__2_3 rfl rfl rfl rfl rfl (Nat.le_of_ble_eq_true rfl) (rmT (Nat.le_of_ble_eq_true rfl) (Nat.le_of_ble_eq_true rfl)) ⟨Nat.le_of_ble_eq_true rfl, Nat.le_of_ble_eq_true rfl⟩ gX12_one_0.2.2.2.2.2.2.2.1 (fun u6508 H locs hr6507 hP hD hS => ?_)
        refine Kpdr (ws := [(nc, iA G 100 fnc), (nF, sA G 5 (FCT K)), (h0, oX12 nw nk mhasKept nt (nI ktp) nr mrowMany mroundOf mroundFrom mouts nm mfromHour mtoHour ns (nI (NXT bt ktp vks)) (nI (TKE bt ktp (NXT bt ktp vks))) (nI (TKN bt ktp (NXT bt ktp vks))) 0 (nI jd) (nI kc) mlines nl nc nF np ntr nb mbestCost nso nsi nit nsh nsf nss nrc mtraced mdealer mnumber mwhose msize misParted), (nt, iA G 240 fnt)]) hP hD (fun hP hD => ?_)
        have xn6509 := NXT.ge (bt := bt) (n := ktp) (s := vks) (by omega)
        refine lv_iinc (v := nI (vn + 1)) (lv' := [(1, .int (nI (vn + 1))), (0, .ref h0)]) hx hb gX12_one_0.2.2.2.2.2.2.2.2.1 hl (k := 0) rfl (nI_1 _) (by decide) rfl (fun ls hl => ?_)
        refine lv_goto (tgt := 2) hx hb gX12_one_0.2.2.2.2.2.2.2.2.2 (by decide) ?_
        refine Kpds (ws' := [(h0, oX12 nw nk mhasKept nt (nI ktp) nr mrowMany mroundOf mroundFrom mouts nm mfromHour mtoHour ns (nI (NXT bt ktp vks)) (nI (TKE bt ktp (NXT bt ktp vks))) (nI (TKN bt ktp (NXT bt ktp vks))) 0 (nI jd) (nI kc) mlines nl nc nF np ntr nb mbestCost nso nsi nit nsh nsf nss nrc mtraced mdealer mnumber mwhose msize misParted), (nt, iA G 240 fnt), (nc, iA G 100 fnc), (nF, sA G 5 (FCT K))]) hP hD [2, 3, 0, 1] fm_2_3_0_1 nd_2_3_0_1 sm_2_3_0_1 (fun hP hD => ?_)
        exact ihT (NXT bt ktp vks) (vn + 1) _ _ _ (by omega) (fun r h9 => hco r (RT.not hq6505 h9)) (And.intro hP hD) hS (lv_sub hl [0, 1] rfl)
      · have hq6510 := a6504
        refine lv_if_eq (tgt := 22) hx hb gX12_one_0.2.2.2.2.2.1 (by decide) (fun _ => ?_) (fun c9 => absurd (by decide) c9)
        refine lv_aload_n hx hb gX12_one_1.1 rfl (lv_at1 hl) ?_
        refine lv_bipush (v := 40) hx hb gX12_one_1.2.1 (by decide) ?_
        refine pV hC hK hl hP hD (m_isSignX l G h0 40 nw nk mhasKept nt ktp nr mrowMany mroundOf mroundFrom mouts nm mfromHour mtoHour ns vks (nI jd) (nI kc) mlines nl nc nF np ntr nb mbestCost nso nsi nit nsh nsf nss nrc mtraced mdealer mnumber mwhose msize misParted fnt bt (htp) (by omega) (hFB)) si_X12_262 [0, 1] sm_0_1 fm_0_1 nd_0_1 rfl rfl rfl rfl rfl (Nat.le_of_ble_eq_true rfl) (rmT (Nat.le_of_ble_eq_true rfl) (Nat.le_of_ble_eq_true rfl)) ⟨by first | exact Nat.le_of_ble_eq_true rfl | exact Nat.zero_le _, by first | exact Nat.le_of_ble_eq_true rfl | exact Nat.zero_le _⟩ gX12_one_1.2.2.1 (Kors (Keqa fun a6512 => ?_) (Keqa fun a6512 => ?_))
        · have hq6513 := a6512
          have xl6514 := SGN.len hq6513 (by omega)
          refine lv_if_eq (tgt := 85) hx hb gX12_one_1.2.2.2.1 (by decide) (fun c9 => absurd c9 (by decide)) (fun _ => ?_)
          refine lv_aload_n hx hb gX12_one_1.2.2.2.2.1 rfl (lv_at1 hl) ?_
          refine lv_dup hx hb gX12_one_1.2.2.2.2.2.1 rfl ?_
          refine gf_X12_265 hC rfl hK hP 0 rfl rfl gX12_one_1.2.2.2.2.2.2.1 ?_
          refine lv_iconst (v := 1) hx hb gX12_one_1.2.2.2.2.2.2.2.1 (by decide) ?_
          refine lv_iadd hx hb gX12_one_1.2.2.2.2.2.2.2.2.1 ?_
          refine eqi (x1 := nI (jd + 1)) (nI_add jd 1) ?_
          refine pf_X12_265 hC rfl hK hP hD hS 0 (ws' := [(h0, oX12 nw nk mhasKept nt (nI ktp) nr mrowMany mroundOf mroundFrom mouts nm mfromHour mtoHour ns (nI vks) (nI (TKE bt ktp vks)) (nI (TKN bt ktp vks)) 0 (nI (jd + 1)) (nI kc) mlines nl nc nF np ntr nb mbestCost nso nsi nit nsh nsf nss nrc mtraced mdealer mnumber mwhose msize misParted), (nt, iA G 240 fnt), (nc, iA G 100 fnc), (nF, sA G 5 (FCT K))]) rfl (Nat.le_of_ble_eq_true rfl) rfl rfl rfl gX12_one_1.2.2.2.2.2.2.2.2.2 (fun H locs hP hD hS => ?_)
          refine lv_aload_n hx hb gX12_one_2.1 rfl (lv_at1 hl) ?_
          refine lv_aload_n hx hb gX12_one_2.2.1 rfl (lv_at1 hl) ?_
          refine gf_X12_265 hC rfl hK hP 0 rfl rfl gX12_one_2.2.2.1 ?_
          refine lv_iconst (v := 4) hx hb gX12_one_2.2.2.2.1 (by decide) ?_
          refine lv_icmp_gt (tgt := 54) hx hb gX12_one_2.2.2.2.2.1 (by decide) (fun c_47_6515 => ?_) (fun c_47_6515 => ?_)
          · have nb6516 : 4 < (jd + 1) := (nI_ltI (a := 4) (b := (jd + 1)) (by omega) (by omega)).mp c_47_6515
            refine lv_iconst (v := 0) hx hb gX12_one_2.2.2.2.2.2.2.2.1 (by decide) ?_
            refine vV (wr := [(nt, iA G 240 fnt), (nc, iA G 100 fnc), (nF, sA G 5 (FCT K))]) hC hK hl hP hD hS hA (m_need0 l G h0 nw nk mhasKept nt (nI ktp) nr mrowMany mroundOf mroundFrom mouts nm mfromHour mtoHour ns (nI vks) (nI (TKE bt ktp vks)) (nI (TKN bt ktp vks)) (nI (jd + 1)) (nI kc) mlines nl nc nF np ntr nb mbestCost nso nsi nit nsh nsf nss nrc mtraced mdealer mnumber mwhose msize misParted) si_X12_236 [0] [1, 2, 3] sm_0 fm_0 nd_0 sm_1_2_3 nd_1_2_3 dj_0__1_2_3 rfl rfl rfl rfl rfl (Nat.le_of_ble_eq_true rfl) (rmT (Nat.le_of_ble_eq_true rfl) (Nat.le_of_ble_eq_true rfl)) ⟨Nat.le_of_ble_eq_true rfl, Nat.le_of_ble_eq_true rfl⟩ gX12_one_2.2.2.2.2.2.2.2.2.1 (fun u6519 H locs hr6518 hP hD hS => ?_)
            refine Kpdr (ws := [(nt, iA G 240 fnt), (nc, iA G 100 fnc), (nF, sA G 5 (FCT K)), (h0, oX12 nw nk mhasKept nt (nI ktp) nr mrowMany mroundOf mroundFrom mouts nm mfromHour mtoHour ns (nI vks) (nI (TKE bt ktp vks)) (nI (TKN bt ktp vks)) 1 (nI (jd + 1)) (nI kc) mlines nl nc nF np ntr nb mbestCost nso nsi nit nsh nsf nss nrc mtraced mdealer mnumber mwhose msize misParted)]) hP hD (fun hP hD => ?_)
            refine lv_aload_n hx hb gX12_one_2.2.2.2.2.2.2.2.2.2 rfl (lv_at1 hl) ?_
            refine vVo (wr := [(nt, iA G 240 fnt), (nc, iA G 100 fnc)]) hO hC hK hl hP hD hS hA (m_eitherF l G K h0 nw nk mhasKept nt (nI ktp) nr mrowMany mroundOf mroundFrom mouts nm mfromHour mtoHour ns (nI vks) (nI (TKE bt ktp vks)) (nI (TKN bt ktp vks)) (nI (jd + 1)) (nI kc) mlines nl nc nF np ntr nb mbestCost nso nsi nit nsh nsf nss nrc mtraced mdealer mnumber mwhose msize misParted) si_X12_268 [3, 2] [0, 1] sm_3_2 fm_3_2 nd_3_2 sm_0_1 nd_0_1 dj_3_2__0_1 rfl rfl rfl rfl rfl (Nat.le_of_ble_eq_true rfl) (rmT (Nat.le_of_ble_eq_true rfl) (Nat.le_of_ble_eq_true rfl)) ⟨Nat.le_of_ble_eq_true rfl, Nat.le_of_ble_eq_true rfl⟩ gX12_one_3.1 (fun u6521 H locs hr6520 hP hD hS => ?_)
            refine Kpdr (ws := [(nt, iA G 240 fnt), (nc, iA G 100 fnc), (h0, oX12 nw nk mhasKept nt (nI ktp) nr mrowMany mroundOf mroundFrom mouts nm mfromHour mtoHour ns (nI vks) (nI (TKE bt ktp vks)) (nI (TKN bt ktp vks)) 1 (nI (jd + 1)) (nI kc) mlines nl nc nF np ntr nb mbestCost nso nsi nit nsh nsf nss nrc mtraced mdealer mnumber mwhose msize misParted), (nF, sA G 5 (FCT K))]) hP hD (fun hP hD => ?_)
            refine lv_aload_n hx hb gX12_one_3.2.1 rfl (lv_at1 hl) ?_
            refine lv_aload_n hx hb gX12_one_3.2.2.1 rfl (lv_at1 hl) ?_
            refine lv_bipush (v := 41) hx hb gX12_one_3.2.2.2.1 (by decide) ?_
            refine pV hC hK hl hP hD (m_isSignF l G h0 41 nw nk mhasKept nt (nI ktp) nr mrowMany mroundOf mroundFrom mouts nm mfromHour mtoHour ns (nI vks) (nI (TKE bt ktp vks)) (nI (TKN bt ktp vks)) (nI (jd + 1)) (nI kc) mlines nl nc nF np ntr nb mbestCost nso nsi nit nsh nsf nss nrc mtraced mdealer mnumber mwhose msize misParted) si_X12_262 [2] sm_2 fm_2 nd_2 rfl rfl rfl rfl rfl (Nat.le_of_ble_eq_true rfl) (rmT (Nat.le_of_ble_eq_true rfl) (Nat.le_of_ble_eq_true rfl)) ⟨by first | exact Nat.le_of_ble_eq_true rfl | exact Nat.zero_le _, by first | exact Nat.le_of_ble_eq_true rfl | exact Nat.zero_le _⟩ gX12_one_3.2.2.2.2.1 (Keqr ?_)
            refine vV (wr := [(nt, iA G 240 fnt), (nc, iA G 100 fnc), (nF, sA G 5 (FCT K))]) hC hK hl hP hD hS hA (m_needF l G h0 0 nw nk mhasKept nt (nI ktp) nr mrowMany mroundOf mroundFrom mouts nm mfromHour mtoHour ns (nI vks) (nI (TKE bt ktp vks)) (nI (TKN bt ktp vks)) (nI (jd + 1)) (nI kc) mlines nl nc nF np ntr nb mbestCost nso nsi nit nsh nsf nss nrc mtraced mdealer mnumber mwhose msize misParted) si_X12_236 [2] [0, 1, 3] sm_2 fm_2 nd_2 sm_0_1_3 nd_0_1_3 dj_2__0_1_3 rfl rfl rfl rfl rfl (Nat.le_of_ble_eq_true rfl) (rmT (Nat.le_of_ble_eq_true rfl) (Nat.le_of_ble_eq_true rfl)) ⟨Nat.le_of_ble_eq_true rfl, Nat.le_of_ble_eq_true rfl⟩ gX12_one_3.2.2.2.2.2.1 (fun u6525 H locs hr6524 hP hD hS => ?_)
            refine Kpdr (ws := [(nt, iA G 240 fnt), (nc, iA G 100 fnc), (nF, sA G 5 (FCT K)), (h0, oX12 nw nk mhasKept nt (nI ktp) nr mrowMany mroundOf mroundFrom mouts nm mfromHour mtoHour ns (nI vks) (nI (TKE bt ktp vks)) (nI (TKN bt ktp vks)) 1 (nI (jd + 1)) (nI kc) mlines nl nc nF np ntr nb mbestCost nso nsi nit nsh nsf nss nrc mtraced mdealer mnumber mwhose msize misParted)]) hP hD (fun hP hD => ?_)
            refine lv_aload_n hx hb gX12_one_3.2.2.2.2.2.2.1 rfl (lv_at1 hl) ?_
            refine lv_dup hx hb gX12_one_3.2.2.2.2.2.2.2.1 rfl ?_
            refine gf_X12_265 hC rfl hK hP 3 rfl rfl gX12_one_3.2.2.2.2.2.2.2.2.1 ?_
            refine lv_iconst (v := 1) hx hb gX12_one_3.2.2.2.2.2.2.2.2.2 (by decide) ?_
            refine lv_isub hx hb gX12_one_4.1 ?_
            refine eqi (x1 := nI jd) (nI_sub1 jd) ?_
            refine pf_X12_265 hC rfl hK hP hD hS 3 (ws' := [(nt, iA G 240 fnt), (nc, iA G 100 fnc), (nF, sA G 5 (FCT K)), (h0, oX12 nw nk mhasKept nt (nI ktp) nr mrowMany mroundOf mroundFrom mouts nm mfromHour mtoHour ns (nI vks) (nI (TKE bt ktp vks)) (nI (TKN bt ktp vks)) 1 (nI jd) (nI kc) mlines nl nc nF np ntr nb mbestCost nso nsi nit nsh nsf nss nrc mtraced mdealer mnumber mwhose msize misParted)]) rfl (Nat.le_of_ble_eq_true rfl) rfl rfl rfl gX12_one_4.2.1 (fun H locs hP hD hS => ?_)
            refine lv_goto (tgt := 223) hx hb gX12_one_4.2.2.1 (by decide) ?_
            refine lv_iconst (v := 0) hx hb gX12_one_11.2.2.2.2.2.2.1 (by decide) ?_
            refine lv_istore_n (lv' := [(2, .int 0), (1, .int (nI vn)), (0, .ref h0)]) hx hb gX12_one_11.2.2.2.2.2.2.2.1 rfl hl (by decide) rfl (fun ls hl => ?_)
            have keyN : ∀ (nN kN : Nat) (H : Heap) (locs : List Loc) (ls : Array Slot), kN + nN = vn → va_PD G A [(nt, iA G 240 fnt), (nc, iA G 100 fnc), (nF, sA G 5 (FCT K)), (h0, oX12 nw nk mhasKept nt (nI ktp) nr mrowMany mroundOf mroundFrom mouts nm mfromHour mtoHour ns (nI vks) (nI (TKE bt ktp vks)) (nI (TKN bt ktp vks)) 1 (nI jd) (nI kc) mlines nl nc nF np ntr nb mbestCost nso nsi nit nsh nsf nss nrc mtraced mdealer mnumber mwhose msize misParted)] H → va_S A s.heap H locs → lv_has ls 5 [(2, .int (nI kN)), (1, .int (nI vn)), (0, .ref h0)] → W p l e (RM (10 + 4 * mn) 0 0) s m ([.ref h0] : List Value).toArray below meth c H locs 0 0 Q0 (F0 m 225 ls []) := by
              intro nN
              induction nN with
              | zero =>
                intro kN H locs ls hkN hPD hS hl
                refine Kan2 hPD (fun hP hD => ?_)
                obtain rfl : vn = kN := by omega
                have hl : lv_has ls 5 [(2, .int (nI vn)), (1, .int (nI vn)), (0, .ref h0)] := hl
                refine lv_iload_n hx hb gX12_one_11.2.2.2.2.2.2.2.2.1 rfl (lv_at0 hl) ?_
                refine lv_iload_n hx hb gX12_one_11.2.2.2.2.2.2.2.2.2 rfl (lv_at1 hl) ?_
                refine lv_icmp_ge (tgt := 243) hx hb gX12_one_12.1 (by decide) (fun _ => ?_) (fun c9 => absurd (Int32.le_refl _) c9)
                refine toQ hQ0 ?_
                exact RV hC hP hD hS [3, 0, 1, 2] (1, vks, kc, fnc, [], []) rfl rfl (by decide) (Or.inr ⟨rfl, hco _ (RT.deep hq6513 (by omega)), by (try dsimp only); omega⟩) gX12_one_12.2.2.2.2.2.2
              | succ nN ihN =>
                intro kN H locs ls hkN hPD hS hl
                refine Kan2 hPD (fun hP hD => ?_)
                refine lv_iload_n hx hb gX12_one_11.2.2.2.2.2.2.2.2.1 rfl (lv_at0 hl) ?_
                refine lv_iload_n hx hb gX12_one_11.2.2.2.2.2.2.2.2.2 rfl (lv_at1 hl) ?_
                refine lv_icmp_ge (tgt := 243) hx hb gX12_one_12.1 (by decide) (fun c9 => absurd c9 (nI_ge (a := kN) (b := vn) (by omega) (by omega))) (fun _ => ?_)
                refine lv_aload_n hx hb gX12_one_12.2.1 rfl (lv_at2 hl) ?_
                refine lv_sipush (v := 30000) hx hb gX12_one_12.2.2.1 (by decide) ?_
                refine vV (wr := [(nt, iA G 240 fnt), (nc, iA G 100 fnc), (nF, sA G 5 (FCT K))]) hC hK hl hP hD hS hA (m_codesF l G h0 30000 nw nk mhasKept nt (nI ktp) nr mrowMany mroundOf mroundFrom mouts nm mfromHour mtoHour ns (nI vks) (nI (TKE bt ktp vks)) (nI (TKN bt ktp vks)) (nI jd) (nI kc) mlines nl nc nF np ntr nb mbestCost nso nsi nit nsh nsf nss nrc mtraced mdealer mnumber mwhose msize misParted) si_X12_252 [3] [0, 1, 2] sm_3 fm_3 nd_3 sm_0_1_2 nd_0_1_2 dj_3__0_1_2 rfl rfl rfl rfl rfl (Nat.le_of_ble_eq_true rfl) (rmT (Nat.le_of_ble_eq_true rfl) (Nat.le_of_ble_eq_true rfl)) ⟨Nat.le_of_ble_eq_true rfl, Nat.le_of_ble_eq_true rfl⟩ gX12_one_12.2.2.2.1 (fun u6527 H locs hr6526 hP hD hS => ?_)
                refine Kpdr (ws := [(nt, iA G 240 fnt), (nc, iA G 100 fnc), (nF, sA G 5 (FCT K)), (h0, oX12 nw nk mhasKept nt (nI ktp) nr mrowMany mroundOf mroundFrom mouts nm mfromHour mtoHour ns (nI vks) (nI (TKE bt ktp vks)) (nI (TKN bt ktp vks)) 1 (nI jd) (nI kc) mlines nl nc nF np ntr nb mbestCost nso nsi nit nsh nsf nss nrc mtraced mdealer mnumber mwhose msize misParted)]) hP hD (fun hP hD => ?_)
                refine lv_iinc (v := nI (kN + 1)) (lv' := [(2, .int (nI (kN + 1))), (1, .int (nI vn)), (0, .ref h0)]) hx hb gX12_one_12.2.2.2.2.1 hl (k := 0) rfl (nI_1 _) (by decide) rfl (fun ls hl => ?_)
                refine lv_goto (tgt := 225) hx hb gX12_one_12.2.2.2.2.2.1 (by decide) ?_
                exact ihN (kN + 1) _ _ _ (by omega) (And.intro hP hD) hS (lv_sub hl [0, 1, 2] rfl)
            exact keyN vn 0 _ _ _ (by omega) (And.intro hP hD) hS (lv_sub hl [0, 1, 2] rfl)
          · have nb6517 : ¬ 4 < (jd + 1) := fun h9 => c_47_6515 ((nI_ltI (a := 4) (b := (jd + 1)) (by omega) (by omega)).mpr h9)
            refine lv_iconst (v := 1) hx hb gX12_one_2.2.2.2.2.2.1 (by decide) ?_
            refine lv_goto (tgt := 55) hx hb gX12_one_2.2.2.2.2.2.2.1 (by decide) ?_
            refine vV (wr := [(nc, iA G 100 fnc), (nF, sA G 5 (FCT K))]) hC hK hl hP hD hS hA (m_need1X l G h0 nw nk mhasKept nt ktp nr mrowMany mroundOf mroundFrom mouts nm mfromHour mtoHour ns vks (nI (jd + 1)) (nI kc) mlines nl nc nF np ntr nb mbestCost nso nsi nit nsh nsf nss nrc mtraced mdealer mnumber mwhose msize misParted fnt bt (htp) (by omega) (hFB)) si_X12_236 [0, 1] [2, 3] sm_0_1 fm_0_1 nd_0_1 sm_2_3 nd_2_3 dj_0_1__2_3 rfl rfl rfl rfl rfl (Nat.le_of_ble_eq_true rfl) (rmT (Nat.le_of_ble_eq_true rfl) (Nat.le_of_ble_eq_true rfl)) ⟨Nat.le_of_ble_eq_true rfl, Nat.le_of_ble_eq_true rfl⟩ gX12_one_2.2.2.2.2.2.2.2.2.1 (fun u6529 H locs hr6528 hP hD hS => ?_)
            refine Kpdr (ws := [(nc, iA G 100 fnc), (nF, sA G 5 (FCT K)), (h0, oX12 nw nk mhasKept nt (nI ktp) nr mrowMany mroundOf mroundFrom mouts nm mfromHour mtoHour ns (nI (NXT bt ktp vks)) (nI (TKE bt ktp (NXT bt ktp vks))) (nI (TKN bt ktp (NXT bt ktp vks))) 0 (nI (jd + 1)) (nI kc) mlines nl nc nF np ntr nb mbestCost nso nsi nit nsh nsf nss nrc mtraced mdealer mnumber mwhose msize misParted), (nt, iA G 240 fnt)]) hP hD (fun hP hD => ?_)
            have xn6530 := NXT.ge (bt := bt) (n := ktp) (s := vks) (by omega)
            refine lv_aload_n hx hb gX12_one_2.2.2.2.2.2.2.2.2.2 rfl (lv_at1 hl) ?_
            refine vVo (wr := []) hO hC hK hl hP hD hS hA (ihE (mn - 1) (by omega) h0 nw nk mhasKept nt ktp nr mrowMany mroundOf mroundFrom mouts nm mfromHour mtoHour ns (NXT bt ktp vks) (jd + 1) kc mlines nl nc nF np ntr nb mbestCost nso nsi nit nsh nsf nss nrc mtraced mdealer mnumber mwhose msize misParted fnt fnc bt cs rs (by omega) (by omega) (hFB) (hST) (by omega) (by omega)) si_X12_268 [2, 3, 0, 1] [] sm_2_3_0_1 fm_2_3_0_1 nd_2_3_0_1 rfl rfl (by decide) rfl rfl rfl rfl rfl (Nat.le_of_ble_eq_true rfl) ⟨by simp only [RM]; omega, by simp only [RM]; omega⟩ ⟨Nat.le_of_ble_eq_true rfl, Nat.le_of_ble_eq_true rfl⟩ gX12_one_3.1 (Ktu6 fun ff16533 ks16534 kc16535 gnc6536 c16537 r16538 => ?_)
            intro H locs hr6531 hP hD hS
            try dsimp only at hr6531
            refine Kpdr (ws := [(h0, oX12 nw nk mhasKept nt (nI ktp) nr mrowMany mroundOf mroundFrom mouts nm mfromHour mtoHour ns (nI ks16534) (nI (TKE bt ktp ks16534)) (nI (TKN bt ktp ks16534)) ff16533 (nI (jd + 1)) (nI kc16535) mlines nl nc nF np ntr nb mbestCost nso nsi nit nsh nsf nss nrc mtraced mdealer mnumber mwhose msize misParted), (nt, iA G 240 fnt), (nc, iA G 100 gnc6536), (nF, sA G 5 (FCT K))]) hP hD (fun hP hD => ?_)
            have w6539 := hr6531
            rcases w6539 with v6540 | v6541
            · obtain ⟨rfl, hq6542, hq6543⟩ := v6540
              have xl6544 := RT.lem hq6542 (by decide) (by omega)
              have xl6545 := hq6543.1
              refine lv_aload_n hx hb gX12_one_3.2.1 rfl (lv_at1 hl) ?_
              refine lv_aload_n hx hb gX12_one_3.2.2.1 rfl (lv_at1 hl) ?_
              refine lv_bipush (v := 41) hx hb gX12_one_3.2.2.2.1 (by decide) ?_
              refine pV hC hK hl hP hD (m_isSignX l G h0 41 nw nk mhasKept nt ktp nr mrowMany mroundOf mroundFrom mouts nm mfromHour mtoHour ns ks16534 (nI (jd + 1)) (nI kc16535) mlines nl nc nF np ntr nb mbestCost nso nsi nit nsh nsf nss nrc mtraced mdealer mnumber mwhose msize misParted fnt bt (htp) (by omega) (hFB)) si_X12_262 [0, 1] sm_0_1 fm_0_1 nd_0_1 rfl rfl rfl rfl rfl (Nat.le_of_ble_eq_true rfl) (rmT (Nat.le_of_ble_eq_true rfl) (Nat.le_of_ble_eq_true rfl)) ⟨by first | exact Nat.le_of_ble_eq_true rfl | exact Nat.zero_le _, by first | exact Nat.le_of_ble_eq_true rfl | exact Nat.zero_le _⟩ gX12_one_3.2.2.2.2.1 (Kors (Keqa fun a6547 => ?_) (Keqa fun a6547 => ?_))
              · have hq6548 := a6547
                have xl6549 := SGN.len hq6548 (by omega)
                refine vV (wr := [(nc, iA G 100 gnc6536), (nF, sA G 5 (FCT K))]) hC hK hl hP hD hS hA (m_need1X l G h0 nw nk mhasKept nt ktp nr mrowMany mroundOf mroundFrom mouts nm mfromHour mtoHour ns ks16534 (nI (jd + 1)) (nI kc16535) mlines nl nc nF np ntr nb mbestCost nso nsi nit nsh nsf nss nrc mtraced mdealer mnumber mwhose msize misParted fnt bt (htp) (by omega) (hFB)) si_X12_236 [0, 1] [2, 3] sm_0_1 fm_0_1 nd_0_1 sm_2_3 nd_2_3 dj_0_1__2_3 rfl rfl rfl rfl rfl (Nat.le_of_ble_eq_true rfl) (rmT (Nat.le_of_ble_eq_true rfl) (Nat.le_of_ble_eq_true rfl)) ⟨Nat.le_of_ble_eq_true rfl, Nat.le_of_ble_eq_true rfl⟩ gX12_one_3.2.2.2.2.2.1 (fun u6551 H locs hr6550 hP hD hS => ?_)
                refine Kpdr (ws := [(nc, iA G 100 gnc6536), (nF, sA G 5 (FCT K)), (h0, oX12 nw nk mhasKept nt (nI ktp) nr mrowMany mroundOf mroundFrom mouts nm mfromHour mtoHour ns (nI (NXT bt ktp ks16534)) (nI (TKE bt ktp (NXT bt ktp ks16534))) (nI (TKN bt ktp (NXT bt ktp ks16534))) 0 (nI (jd + 1)) (nI kc16535) mlines nl nc nF np ntr nb mbestCost nso nsi nit nsh nsf nss nrc mtraced mdealer mnumber mwhose msize misParted), (nt, iA G 240 fnt)]) hP hD (fun hP hD => ?_)
                have xn6552 := NXT.ge (bt := bt) (n := ktp) (s := ks16534) (by omega)
                refine lv_aload_n hx hb gX12_one_3.2.2.2.2.2.2.1 rfl (lv_at1 hl) ?_
                refine lv_dup hx hb gX12_one_3.2.2.2.2.2.2.2.1 rfl ?_
                refine gf_X12_265 hC rfl hK hP 2 rfl rfl gX12_one_3.2.2.2.2.2.2.2.2.1 ?_
                refine lv_iconst (v := 1) hx hb gX12_one_3.2.2.2.2.2.2.2.2.2 (by decide) ?_
                refine lv_isub hx hb gX12_one_4.1 ?_
                refine eqi (x1 := nI jd) (nI_sub1 jd) ?_
                refine pf_X12_265 hC rfl hK hP hD hS 2 (ws' := [(nc, iA G 100 gnc6536), (nF, sA G 5 (FCT K)), (h0, oX12 nw nk mhasKept nt (nI ktp) nr mrowMany mroundOf mroundFrom mouts nm mfromHour mtoHour ns (nI (NXT bt ktp ks16534)) (nI (TKE bt ktp (NXT bt ktp ks16534))) (nI (TKN bt ktp (NXT bt ktp ks16534))) 0 (nI jd) (nI kc16535) mlines nl nc nF np ntr nb mbestCost nso nsi nit nsh nsf nss nrc mtraced mdealer mnumber mwhose msize misParted), (nt, iA G 240 fnt)]) rfl (Nat.le_of_ble_eq_true rfl) rfl rfl rfl gX12_one_4.2.1 (fun H locs hP hD hS => ?_)
                refine lv_goto (tgt := 223) hx hb gX12_one_4.2.2.1 (by decide) ?_
                refine lv_iconst (v := 0) hx hb gX12_one_11.2.2.2.2.2.2.1 (by decide) ?_
                refine lv_istore_n (lv' := [(2, .int 0), (1, .int (nI vn)), (0, .ref h0)]) hx hb gX12_one_11.2.2.2.2.2.2.2.1 rfl hl (by decide) rfl (fun ls hl => ?_)
                have keyN : ∀ (nN kN : Nat) (vC : Nat → Int32) (H : Heap) (locs : List Loc) (ls : Array Slot), kN + nN = vn → (STP (kc16535 + kN) vC (r16538 ++ List.replicate kN 30000)) → va_PD G A [(nc, iA G 100 vC), (nF, sA G 5 (FCT K)), (h0, oX12 nw nk mhasKept nt (nI ktp) nr mrowMany mroundOf mroundFrom mouts nm mfromHour mtoHour ns (nI (NXT bt ktp ks16534)) (nI (TKE bt ktp (NXT bt ktp ks16534))) (nI (TKN bt ktp (NXT bt ktp ks16534))) 0 (nI jd) (nI (kc16535 + kN)) mlines nl nc nF np ntr nb mbestCost nso nsi nit nsh nsf nss nrc mtraced mdealer mnumber mwhose msize misParted), (nt, iA G 240 fnt)] H → va_S A s.heap H locs → lv_has ls 5 [(2, .int (nI kN)), (1, .int (nI vn)), (0, .ref h0)] → W p l e (RM (10 + 4 * mn) 0 0) s m ([.ref h0] : List Value).toArray below meth c H locs 0 0 Q0 (F0 m 225 ls []) := by
                  intro nN
                  induction nN with
                  | zero =>
                    intro kN vC H locs ls hkN hEx hPD hS hl
                    refine Kan2 hPD (fun hP hD => ?_)
                    obtain rfl : vn = kN := by omega
                    refine Kpdr (ws := [(nc, iA G 100 vC), (nF, sA G 5 (FCT K)), (h0, oX12 nw nk mhasKept nt (nI ktp) nr mrowMany mroundOf mroundFrom mouts nm mfromHour mtoHour ns (nI (NXT bt ktp ks16534)) (nI (TKE bt ktp (NXT bt ktp ks16534))) (nI (TKN bt ktp (NXT bt ktp ks16534))) 0 (nI jd) (nI (kc16535 + vn)) mlines nl nc nF np ntr nb mbestCost nso nsi nit nsh nsf nss nrc mtraced mdealer mnumber mwhose msize misParted), (nt, iA G 240 fnt)]) hP hD (fun hP hD => ?_)
                    have hl : lv_has ls 5 [(2, .int (nI vn)), (1, .int (nI vn)), (0, .ref h0)] := hl
                    refine lv_iload_n hx hb gX12_one_11.2.2.2.2.2.2.2.2.1 rfl (lv_at0 hl) ?_
                    refine lv_iload_n hx hb gX12_one_11.2.2.2.2.2.2.2.2.2 rfl (lv_at1 hl) ?_
                    refine lv_icmp_ge (tgt := 243) hx hb gX12_one_12.1 (by decide) (fun _ => ?_) (fun c9 => absurd (Int32.le_refl _) c9)
                    refine toQ hQ0 ?_
                    exact RV hC hP hD hS [2, 3, 0, 1] (0, (NXT bt ktp ks16534), (kc16535 + vn), vC, (c16537 ++ NOC vn), (r16538 ++ NTR vn)) rfl rfl (by decide) (Or.inl ⟨rfl, hco _ (RT.inO hq6513 (by omega) hq6542 hq6548), hEx⟩) gX12_one_12.2.2.2.2.2.2
                  | succ nN ihN =>
                    intro kN vC H locs ls hkN hEx hPD hS hl
                    refine Kan2 hPD (fun hP hD => ?_)
                    refine lv_iload_n hx hb gX12_one_11.2.2.2.2.2.2.2.2.1 rfl (lv_at0 hl) ?_
                    refine lv_iload_n hx hb gX12_one_11.2.2.2.2.2.2.2.2.2 rfl (lv_at1 hl) ?_
                    refine lv_icmp_ge (tgt := 243) hx hb gX12_one_12.1 (by decide) (fun c9 => absurd c9 (nI_ge (a := kN) (b := vn) (by omega) (by omega))) (fun _ => ?_)
                    refine lv_aload_n hx hb gX12_one_12.2.1 rfl (lv_at2 hl) ?_
                    refine lv_sipush (v := 30000) hx hb gX12_one_12.2.2.1 (by decide) ?_
                    refine vV (wr := [(nF, sA G 5 (FCT K)), (nt, iA G 240 fnt)]) hC hK hl hP hD hS hA (m_codes0 l G h0 30000 nw nk mhasKept nt (nI ktp) nr mrowMany mroundOf mroundFrom mouts nm mfromHour mtoHour ns (nI (NXT bt ktp ks16534)) (nI (TKE bt ktp (NXT bt ktp ks16534))) (nI (TKN bt ktp (NXT bt ktp ks16534))) (nI jd) (kc16535 + kN) mlines nl nc nF np ntr nb mbestCost nso nsi nit nsh nsf nss nrc mtraced mdealer mnumber mwhose msize misParted vC (by omega)) si_X12_252 [2, 0] [1, 3] sm_2_0 fm_2_0 nd_2_0 sm_1_3 nd_1_3 dj_2_0__1_3 rfl rfl rfl rfl rfl (Nat.le_of_ble_eq_true rfl) (rmT (Nat.le_of_ble_eq_true rfl) (Nat.le_of_ble_eq_true rfl)) ⟨Nat.le_of_ble_eq_true rfl, Nat.le_of_ble_eq_true rfl⟩ gX12_one_12.2.2.2.1 (fun u6554 H locs hr6553 hP hD hS => ?_)
                    refine Kpdr (ws := [(nF, sA G 5 (FCT K)), (nt, iA G 240 fnt), (h0, oX12 nw nk mhasKept nt (nI ktp) nr mrowMany mroundOf mroundFrom mouts nm mfromHour mtoHour ns (nI (NXT bt ktp ks16534)) (nI (TKE bt ktp (NXT bt ktp ks16534))) (nI (TKN bt ktp (NXT bt ktp ks16534))) 0 (nI jd) (nI ((kc16535 + kN) + 1)) mlines nl nc nF np ntr nb mbestCost nso nsi nit nsh nsf nss nrc mtraced mdealer mnumber mwhose msize misParted), (nc, iA G 100 (upd vC (kc16535 + kN) 30000))]) hP hD (fun hP hD => ?_)
                    refine lv_iinc (v := nI (kN + 1)) (lv' := [(2, .int (nI (kN + 1))), (1, .int (nI vn)), (0, .ref h0)]) hx hb gX12_one_12.2.2.2.2.1 hl (k := 0) rfl (nI_1 _) (by decide) rfl (fun ls hl => ?_)
                    refine lv_goto (tgt := 225) hx hb gX12_one_12.2.2.2.2.2.1 (by decide) ?_
                    refine Kpds (ws' := [(nc, iA G 100 (upd vC (kc16535 + kN) 30000)), (nF, sA G 5 (FCT K)), (h0, oX12 nw nk mhasKept nt (nI ktp) nr mrowMany mroundOf mroundFrom mouts nm mfromHour mtoHour ns (nI (NXT bt ktp ks16534)) (nI (TKE bt ktp (NXT bt ktp ks16534))) (nI (TKN bt ktp (NXT bt ktp ks16534))) 0 (nI jd) (nI ((kc16535 + kN) + 1)) mlines nl nc nF np ntr nb mbestCost nso nsi nit nsh nsf nss nrc mtraced mdealer mnumber mwhose msize misParted), (nt, iA G 240 fnt)]) hP hD [3, 0, 2, 1] fm_3_0_2_1 nd_3_0_2_1 sm_3_0_2_1 (fun hP hD => ?_)
                    exact ihN (kN + 1) (upd vC (kc16535 + kN) 30000) _ _ _ (by omega) (by first | assumption | exact Or.inl rfl | exact Or.inr rfl | exact STP.r0 hq6543 | exact STP.rep hEx) (And.intro hP hD) hS (lv_sub hl [0, 1, 2] rfl)
                exact keyN vn 0 gnc6536 _ _ _ (by omega) (by first | assumption | exact Or.inl rfl | exact Or.inr rfl | exact STP.r0 hq6543 | exact STP.rep hEx) (And.intro hP hD) hS (lv_sub hl [0, 1, 2] rfl)
              · have hq6555 := a6547
                refine vV (wr := [(nt, iA G 240 fnt), (nc, iA G 100 gnc6536), (nF, sA G 5 (FCT K))]) hC hK hl hP hD hS hA (m_need0 l G h0 nw nk mhasKept nt (nI ktp) nr mrowMany mroundOf mroundFrom mouts nm mfromHour mtoHour ns (nI ks16534) (nI (TKE bt ktp ks16534)) (nI (TKN bt ktp ks16534)) (nI (jd + 1)) (nI kc16535) mlines nl nc nF np ntr nb mbestCost nso nsi nit nsh nsf nss nrc mtraced mdealer mnumber mwhose msize misParted) si_X12_236 [0] [1, 2, 3] sm_0 fm_0 nd_0 sm_1_2_3 nd_1_2_3 dj_0__1_2_3 rfl rfl rfl rfl rfl (Nat.le_of_ble_eq_true rfl) (rmT (Nat.le_of_ble_eq_true rfl) (Nat.le_of_ble_eq_true rfl)) ⟨Nat.le_of_ble_eq_true rfl, Nat.le_of_ble_eq_true rfl⟩ gX12_one_3.2.2.2.2.2.1 (fun u6557 H locs hr6556 hP hD hS => ?_)
                refine Kpdr (ws := [(nt, iA G 240 fnt), (nc, iA G 100 gnc6536), (nF, sA G 5 (FCT K)), (h0, oX12 nw nk mhasKept nt (nI ktp) nr mrowMany mroundOf mroundFrom mouts nm mfromHour mtoHour ns (nI ks16534) (nI (TKE bt ktp ks16534)) (nI (TKN bt ktp ks16534)) 1 (nI (jd + 1)) (nI kc16535) mlines nl nc nF np ntr nb mbestCost nso nsi nit nsh nsf nss nrc mtraced mdealer mnumber mwhose msize misParted)]) hP hD (fun hP hD => ?_)
                refine lv_aload_n hx hb gX12_one_3.2.2.2.2.2.2.1 rfl (lv_at1 hl) ?_
                refine lv_dup hx hb gX12_one_3.2.2.2.2.2.2.2.1 rfl ?_
                refine gf_X12_265 hC rfl hK hP 3 rfl rfl gX12_one_3.2.2.2.2.2.2.2.2.1 ?_
                refine lv_iconst (v := 1) hx hb gX12_one_3.2.2.2.2.2.2.2.2.2 (by decide) ?_
                refine lv_isub hx hb gX12_one_4.1 ?_
                refine eqi (x1 := nI jd) (nI_sub1 jd) ?_
                refine pf_X12_265 hC rfl hK hP hD hS 3 (ws' := [(nt, iA G 240 fnt), (nc, iA G 100 gnc6536), (nF, sA G 5 (FCT K)), (h0, oX12 nw nk mhasKept nt (nI ktp) nr mrowMany mroundOf mroundFrom mouts nm mfromHour mtoHour ns (nI ks16534) (nI (TKE bt ktp ks16534)) (nI (TKN bt ktp ks16534)) 1 (nI jd) (nI kc16535) mlines nl nc nF np ntr nb mbestCost nso nsi nit nsh nsf nss nrc mtraced mdealer mnumber mwhose msize misParted)]) rfl (Nat.le_of_ble_eq_true rfl) rfl rfl rfl gX12_one_4.2.1 (fun H locs hP hD hS => ?_)
                refine lv_goto (tgt := 223) hx hb gX12_one_4.2.2.1 (by decide) ?_
                refine lv_iconst (v := 0) hx hb gX12_one_11.2.2.2.2.2.2.1 (by decide) ?_
                refine lv_istore_n (lv' := [(2, .int 0), (1, .int (nI vn)), (0, .ref h0)]) hx hb gX12_one_11.2.2.2.2.2.2.2.1 rfl hl (by decide) rfl (fun ls hl => ?_)
                have keyN : ∀ (nN kN : Nat) (H : Heap) (locs : List Loc) (ls : Array Slot), kN + nN = vn → va_PD G A [(nt, iA G 240 fnt), (nc, iA G 100 gnc6536), (nF, sA G 5 (FCT K)), (h0, oX12 nw nk mhasKept nt (nI ktp) nr mrowMany mroundOf mroundFrom mouts nm mfromHour mtoHour ns (nI ks16534) (nI (TKE bt ktp ks16534)) (nI (TKN bt ktp ks16534)) 1 (nI jd) (nI kc16535) mlines nl nc nF np ntr nb mbestCost nso nsi nit nsh nsf nss nrc mtraced mdealer mnumber mwhose msize misParted)] H → va_S A s.heap H locs → lv_has ls 5 [(2, .int (nI kN)), (1, .int (nI vn)), (0, .ref h0)] → W p l e (RM (10 + 4 * mn) 0 0) s m ([.ref h0] : List Value).toArray below meth c H locs 0 0 Q0 (F0 m 225 ls []) := by
                  intro nN
                  induction nN with
                  | zero =>
                    intro kN H locs ls hkN hPD hS hl
                    refine Kan2 hPD (fun hP hD => ?_)
                    obtain rfl : vn = kN := by omega
                    have hl : lv_has ls 5 [(2, .int (nI vn)), (1, .int (nI vn)), (0, .ref h0)] := hl
                    refine lv_iload_n hx hb gX12_one_11.2.2.2.2.2.2.2.2.1 rfl (lv_at0 hl) ?_
                    refine lv_iload_n hx hb gX12_one_11.2.2.2.2.2.2.2.2.2 rfl (lv_at1 hl) ?_
                    refine lv_icmp_ge (tgt := 243) hx hb gX12_one_12.1 (by decide) (fun _ => ?_) (fun c9 => absurd (Int32.le_refl _) c9)
                    refine toQ hQ0 ?_
                    exact RV hC hP hD hS [3, 0, 1, 2] (1, ks16534, kc16535, gnc6536, [], []) rfl rfl (by decide) (Or.inr ⟨rfl, hco _ (RT.inU hq6513 (by omega) hq6542 hq6555), by (try dsimp only); omega⟩) gX12_one_12.2.2.2.2.2.2
                  | succ nN ihN =>
                    intro kN H locs ls hkN hPD hS hl
                    refine Kan2 hPD (fun hP hD => ?_)
                    refine lv_iload_n hx hb gX12_one_11.2.2.2.2.2.2.2.2.1 rfl (lv_at0 hl) ?_
                    refine lv_iload_n hx hb gX12_one_11.2.2.2.2.2.2.2.2.2 rfl (lv_at1 hl) ?_
                    refine lv_icmp_ge (tgt := 243) hx hb gX12_one_12.1 (by decide) (fun c9 => absurd c9 (nI_ge (a := kN) (b := vn) (by omega) (by omega))) (fun _ => ?_)
                    refine lv_aload_n hx hb gX12_one_12.2.1 rfl (lv_at2 hl) ?_
                    refine lv_sipush (v := 30000) hx hb gX12_one_12.2.2.1 (by decide) ?_
                    refine vV (wr := [(nt, iA G 240 fnt), (nc, iA G 100 gnc6536), (nF, sA G 5 (FCT K))]) hC hK hl hP hD hS hA (m_codesF l G h0 30000 nw nk mhasKept nt (nI ktp) nr mrowMany mroundOf mroundFrom mouts nm mfromHour mtoHour ns (nI ks16534) (nI (TKE bt ktp ks16534)) (nI (TKN bt ktp ks16534)) (nI jd) (nI kc16535) mlines nl nc nF np ntr nb mbestCost nso nsi nit nsh nsf nss nrc mtraced mdealer mnumber mwhose msize misParted) si_X12_252 [3] [0, 1, 2] sm_3 fm_3 nd_3 sm_0_1_2 nd_0_1_2 dj_3__0_1_2 rfl rfl rfl rfl rfl (Nat.le_of_ble_eq_true rfl) (rmT (Nat.le_of_ble_eq_true rfl) (Nat.le_of_ble_eq_true rfl)) ⟨Nat.le_of_ble_eq_true rfl, Nat.le_of_ble_eq_true rfl⟩ gX12_one_12.2.2.2.1 (fun u6559 H locs hr6558 hP hD hS => ?_)
                    refine Kpdr (ws := [(nt, iA G 240 fnt), (nc, iA G 100 gnc6536), (nF, sA G 5 (FCT K)), (h0, oX12 nw nk mhasKept nt (nI ktp) nr mrowMany mroundOf mroundFrom mouts nm mfromHour mtoHour ns (nI ks16534) (nI (TKE bt ktp ks16534)) (nI (TKN bt ktp ks16534)) 1 (nI jd) (nI kc16535) mlines nl nc nF np ntr nb mbestCost nso nsi nit nsh nsf nss nrc mtraced mdealer mnumber mwhose msize misParted)]) hP hD (fun hP hD => ?_)
                    refine lv_iinc (v := nI (kN + 1)) (lv' := [(2, .int (nI (kN + 1))), (1, .int (nI vn)), (0, .ref h0)]) hx hb gX12_one_12.2.2.2.2.1 hl (k := 0) rfl (nI_1 _) (by decide) rfl (fun ls hl => ?_)
                    refine lv_goto (tgt := 225) hx hb gX12_one_12.2.2.2.2.2.1 (by decide) ?_
                    exact ihN (kN + 1) _ _ _ (by omega) (And.intro hP hD) hS (lv_sub hl [0, 1, 2] rfl)
                exact keyN vn 0 _ _ _ (by omega) (And.intro hP hD) hS (lv_sub hl [0, 1, 2] rfl)
            · obtain ⟨rfl, hq6560, hq6561⟩ := v6541
              refine lv_aload_n hx hb gX12_one_3.2.1 rfl (lv_at1 hl) ?_
              refine lv_aload_n hx hb gX12_one_3.2.2.1 rfl (lv_at1 hl) ?_
              refine lv_bipush (v := 41) hx hb gX12_one_3.2.2.2.1 (by decide) ?_
              refine pV hC hK hl hP hD (m_isSignF l G h0 41 nw nk mhasKept nt (nI ktp) nr mrowMany mroundOf mroundFrom mouts nm mfromHour mtoHour ns (nI ks16534) (nI (TKE bt ktp ks16534)) (nI (TKN bt ktp ks16534)) (nI (jd + 1)) (nI kc16535) mlines nl nc nF np ntr nb mbestCost nso nsi nit nsh nsf nss nrc mtraced mdealer mnumber mwhose msize misParted) si_X12_262 [0] sm_0 fm_0 nd_0 rfl rfl rfl rfl rfl (Nat.le_of_ble_eq_true rfl) (rmT (Nat.le_of_ble_eq_true rfl) (Nat.le_of_ble_eq_true rfl)) ⟨by first | exact Nat.le_of_ble_eq_true rfl | exact Nat.zero_le _, by first | exact Nat.le_of_ble_eq_true rfl | exact Nat.zero_le _⟩ gX12_one_3.2.2.2.2.1 (Keqr ?_)
              refine vV (wr := [(nt, iA G 240 fnt), (nc, iA G 100 gnc6536), (nF, sA G 5 (FCT K))]) hC hK hl hP hD hS hA (m_needF l G h0 0 nw nk mhasKept nt (nI ktp) nr mrowMany mroundOf mroundFrom mouts nm mfromHour mtoHour ns (nI ks16534) (nI (TKE bt ktp ks16534)) (nI (TKN bt ktp ks16534)) (nI (jd + 1)) (nI kc16535) mlines nl nc nF np ntr nb mbestCost nso nsi nit nsh nsf nss nrc mtraced mdealer mnumber mwhose msize misParted) si_X12_236 [0] [1, 2, 3] sm_0 fm_0 nd_0 sm_1_2_3 nd_1_2_3 dj_0__1_2_3 rfl rfl rfl rfl rfl (Nat.le_of_ble_eq_true rfl) (rmT (Nat.le_of_ble_eq_true rfl) (Nat.le_of_ble_eq_true rfl)) ⟨Nat.le_of_ble_eq_true rfl, Nat.le_of_ble_eq_true rfl⟩ gX12_one_3.2.2.2.2.2.1 (fun u6565 H locs hr6564 hP hD hS => ?_)
              refine Kpdr (ws := [(nt, iA G 240 fnt), (nc, iA G 100 gnc6536), (nF, sA G 5 (FCT K)), (h0, oX12 nw nk mhasKept nt (nI ktp) nr mrowMany mroundOf mroundFrom mouts nm mfromHour mtoHour ns (nI ks16534) (nI (TKE bt ktp ks16534)) (nI (TKN bt ktp ks16534)) 1 (nI (jd + 1)) (nI kc16535) mlines nl nc nF np ntr nb mbestCost nso nsi nit nsh nsf nss nrc mtraced mdealer mnumber mwhose msize misParted)]) hP hD (fun hP hD => ?_)
              refine lv_aload_n hx hb gX12_one_3.2.2.2.2.2.2.1 rfl (lv_at1 hl) ?_
              refine lv_dup hx hb gX12_one_3.2.2.2.2.2.2.2.1 rfl ?_
              refine gf_X12_265 hC rfl hK hP 3 rfl rfl gX12_one_3.2.2.2.2.2.2.2.2.1 ?_
              refine lv_iconst (v := 1) hx hb gX12_one_3.2.2.2.2.2.2.2.2.2 (by decide) ?_
              refine lv_isub hx hb gX12_one_4.1 ?_
              refine eqi (x1 := nI jd) (nI_sub1 jd) ?_
              refine pf_X12_265 hC rfl hK hP hD hS 3 (ws' := [(nt, iA G 240 fnt), (nc, iA G 100 gnc6536), (nF, sA G 5 (FCT K)), (h0, oX12 nw nk mhasKept nt (nI ktp) nr mrowMany mroundOf mroundFrom mouts nm mfromHour mtoHour ns (nI ks16534) (nI (TKE bt ktp ks16534)) (nI (TKN bt ktp ks16534)) 1 (nI jd) (nI kc16535) mlines nl nc nF np ntr nb mbestCost nso nsi nit nsh nsf nss nrc mtraced mdealer mnumber mwhose msize misParted)]) rfl (Nat.le_of_ble_eq_true rfl) rfl rfl rfl gX12_one_4.2.1 (fun H locs hP hD hS => ?_)
              refine lv_goto (tgt := 223) hx hb gX12_one_4.2.2.1 (by decide) ?_
              refine lv_iconst (v := 0) hx hb gX12_one_11.2.2.2.2.2.2.1 (by decide) ?_
              refine lv_istore_n (lv' := [(2, .int 0), (1, .int (nI vn)), (0, .ref h0)]) hx hb gX12_one_11.2.2.2.2.2.2.2.1 rfl hl (by decide) rfl (fun ls hl => ?_)
              have keyN : ∀ (nN kN : Nat) (H : Heap) (locs : List Loc) (ls : Array Slot), kN + nN = vn → va_PD G A [(nt, iA G 240 fnt), (nc, iA G 100 gnc6536), (nF, sA G 5 (FCT K)), (h0, oX12 nw nk mhasKept nt (nI ktp) nr mrowMany mroundOf mroundFrom mouts nm mfromHour mtoHour ns (nI ks16534) (nI (TKE bt ktp ks16534)) (nI (TKN bt ktp ks16534)) 1 (nI jd) (nI kc16535) mlines nl nc nF np ntr nb mbestCost nso nsi nit nsh nsf nss nrc mtraced mdealer mnumber mwhose msize misParted)] H → va_S A s.heap H locs → lv_has ls 5 [(2, .int (nI kN)), (1, .int (nI vn)), (0, .ref h0)] → W p l e (RM (10 + 4 * mn) 0 0) s m ([.ref h0] : List Value).toArray below meth c H locs 0 0 Q0 (F0 m 225 ls []) := by
                intro nN
                induction nN with
                | zero =>
                  intro kN H locs ls hkN hPD hS hl
                  refine Kan2 hPD (fun hP hD => ?_)
                  obtain rfl : vn = kN := by omega
                  have hl : lv_has ls 5 [(2, .int (nI vn)), (1, .int (nI vn)), (0, .ref h0)] := hl
                  refine lv_iload_n hx hb gX12_one_11.2.2.2.2.2.2.2.2.1 rfl (lv_at0 hl) ?_
                  refine lv_iload_n hx hb gX12_one_11.2.2.2.2.2.2.2.2.2 rfl (lv_at1 hl) ?_
                  refine lv_icmp_ge (tgt := 243) hx hb gX12_one_12.1 (by decide) (fun _ => ?_) (fun c9 => absurd (Int32.le_refl _) c9)
                  refine toQ hQ0 ?_
                  exact RV hC hP hD hS [3, 0, 1, 2] (1, ks16534, kc16535, gnc6536, [], []) rfl rfl (by decide) (Or.inr ⟨rfl, hco _ (RT.inF hq6513 (by omega) hq6560 rfl), by (try dsimp only); omega⟩) gX12_one_12.2.2.2.2.2.2
                | succ nN ihN =>
                  intro kN H locs ls hkN hPD hS hl
                  refine Kan2 hPD (fun hP hD => ?_)
                  refine lv_iload_n hx hb gX12_one_11.2.2.2.2.2.2.2.2.1 rfl (lv_at0 hl) ?_
                  refine lv_iload_n hx hb gX12_one_11.2.2.2.2.2.2.2.2.2 rfl (lv_at1 hl) ?_
                  refine lv_icmp_ge (tgt := 243) hx hb gX12_one_12.1 (by decide) (fun c9 => absurd c9 (nI_ge (a := kN) (b := vn) (by omega) (by omega))) (fun _ => ?_)
                  refine lv_aload_n hx hb gX12_one_12.2.1 rfl (lv_at2 hl) ?_
                  refine lv_sipush (v := 30000) hx hb gX12_one_12.2.2.1 (by decide) ?_
                  refine vV (wr := [(nt, iA G 240 fnt), (nc, iA G 100 gnc6536), (nF, sA G 5 (FCT K))]) hC hK hl hP hD hS hA (m_codesF l G h0 30000 nw nk mhasKept nt (nI ktp) nr mrowMany mroundOf mroundFrom mouts nm mfromHour mtoHour ns (nI ks16534) (nI (TKE bt ktp ks16534)) (nI (TKN bt ktp ks16534)) (nI jd) (nI kc16535) mlines nl nc nF np ntr nb mbestCost nso nsi nit nsh nsf nss nrc mtraced mdealer mnumber mwhose msize misParted) si_X12_252 [3] [0, 1, 2] sm_3 fm_3 nd_3 sm_0_1_2 nd_0_1_2 dj_3__0_1_2 rfl rfl rfl rfl rfl (Nat.le_of_ble_eq_true rfl) (rmT (Nat.le_of_ble_eq_true rfl) (Nat.le_of_ble_eq_true rfl)) ⟨Nat.le_of_ble_eq_true rfl, Nat.le_of_ble_eq_true rfl⟩ gX12_one_12.2.2.2.1 (fun u6567 H locs hr6566 hP hD hS => ?_)
                  refine Kpdr (ws := [(nt, iA G 240 fnt), (nc, iA G 100 gnc6536), (nF, sA G 5 (FCT K)), (h0, oX12 nw nk mhasKept nt (nI ktp) nr mrowMany mroundOf mroundFrom mouts nm mfromHour mtoHour ns (nI ks16534) (nI (TKE bt ktp ks16534)) (nI (TKN bt ktp ks16534)) 1 (nI jd) (nI kc16535) mlines nl nc nF np ntr nb mbestCost nso nsi nit nsh nsf nss nrc mtraced mdealer mnumber mwhose msize misParted)]) hP hD (fun hP hD => ?_)
                  refine lv_iinc (v := nI (kN + 1)) (lv' := [(2, .int (nI (kN + 1))), (1, .int (nI vn)), (0, .ref h0)]) hx hb gX12_one_12.2.2.2.2.1 hl (k := 0) rfl (nI_1 _) (by decide) rfl (fun ls hl => ?_)
                  refine lv_goto (tgt := 225) hx hb gX12_one_12.2.2.2.2.2.1 (by decide) ?_
                  exact ihN (kN + 1) _ _ _ (by omega) (And.intro hP hD) hS (lv_sub hl [0, 1, 2] rfl)
              exact keyN vn 0 _ _ _ (by omega) (And.intro hP hD) hS (lv_sub hl [0, 1, 2] rfl)
        · have hq6568 := a6512
          refine lv_if_eq (tgt := 85) hx hb gX12_one_1.2.2.2.1 (by decide) (fun _ => ?_) (fun c9 => absurd (by decide) c9)
          refine lv_iconst (v := (-1)) hx hb gX12_one_4.2.2.2.1 (by decide) ?_
          refine lv_istore_n (lv' := [(2, .int (-1)), (1, .int (nI vn)), (0, .ref h0)]) hx hb gX12_one_4.2.2.2.2.1 rfl hl (by decide) rfl (fun ls hl => ?_)
          refine lv_iconst (v := 0) hx hb gX12_one_4.2.2.2.2.2.1 (by decide) ?_
          refine lv_istore_n (lv' := [(3, .int 0), (2, .int (-1)), (1, .int (nI vn)), (0, .ref h0)]) hx hb gX12_one_4.2.2.2.2.2.2.1 rfl hl (by decide) rfl (fun ls hl => ?_)
          have keyE : ∀ (nE : Nat) (vq : Nat) (fa9 : Int32) (H : Heap) (locs : List Loc) (ls : Array Slot), (vq ≤ 5 ∧ 5 < vq + nE) → (FCI bt ktp vks fa9 vq) → va_PD G A [(h0, oX12 nw nk mhasKept nt (nI ktp) nr mrowMany mroundOf mroundFrom mouts nm mfromHour mtoHour ns (nI vks) (nI (TKE bt ktp vks)) (nI (TKN bt ktp vks)) 0 (nI jd) (nI kc) mlines nl nc nF np ntr nb mbestCost nso nsi nit nsh nsf nss nrc mtraced mdealer mnumber mwhose msize misParted), (nt, iA G 240 fnt), (nc, iA G 100 fnc), (nF, sA G 5 (FCT K))] H → va_S A s.heap H locs → lv_has ls 5 [(3, .int (nI vq)), (2, .int fa9), (1, .int (nI vn)), (0, .ref h0)] → W p l e (RM (10 + 4 * mn) 0 0) s m ([.ref h0] : List Value).toArray below meth c H locs 0 0 Q0 (F0 m 89 ls []) := by
            intro nE
            induction nE with
            | zero =>
              intro vq fa9 H locs ls hiF hfa hPD hS hl
              refine Kan2 hPD (fun hP hD => ?_)
              exact (show False by omega).elim
            | succ nE ihE =>
              intro vq fa9 H locs ls hiF hfa hPD hS hl
              refine Kan2 hPD (fun hP hD => ?_)
              refine lv_iload_n hx hb gX12_one_4.2.2.2.2.2.2.2.1 rfl (lv_at0 hl) ?_
              refine lv_iconst (v := 5) hx hb gX12_one_4.2.2.2.2.2.2.2.2.1 (by decide) ?_
              refine lv_icmp_ge (tgt := 119) hx hb gX12_one_4.2.2.2.2.2.2.2.2.2 (by decide) (fun c_91_6569 => ?_) (fun c_91_6569 => ?_)
              · have nb6570 : 5 ≤ vq := (nI_leI (a := 5) (b := vq) (by omega) (by omega)).mp c_91_6569
                have hfa5 : FCI bt ktp vks fa9 5 := (show vq = 5 by omega) ▸ hfa
                rcases FCI.end hfa5 with ⟨rfl, hfn⟩ | ⟨rfl, hfs, hf5⟩
                · refine lv_aload_n hx hb gX12_one_6.2.2.2.1 rfl (lv_at3 hl) ?_
                  refine lv_iload_n hx hb gX12_one_6.2.2.2.2.1 rfl (lv_at1 hl) ?_
                  refine lv_if_lt (tgt := 128) hx hb gX12_one_6.2.2.2.2.2.1 (by decide) (fun _ => ?_) (fun c9 => absurd (by decide) c9)
                  refine lv_iconst (v := 0) hx hb gX12_one_6.2.2.2.2.2.2.2.2.1 (by decide) ?_
                  refine vV (wr := [(nt, iA G 240 fnt), (nc, iA G 100 fnc), (nF, sA G 5 (FCT K))]) hC hK hl hP hD hS hA (m_need0 l G h0 nw nk mhasKept nt (nI ktp) nr mrowMany mroundOf mroundFrom mouts nm mfromHour mtoHour ns (nI vks) (nI (TKE bt ktp vks)) (nI (TKN bt ktp vks)) (nI jd) (nI kc) mlines nl nc nF np ntr nb mbestCost nso nsi nit nsh nsf nss nrc mtraced mdealer mnumber mwhose msize misParted) si_X12_236 [0] [1, 2, 3] sm_0 fm_0 nd_0 sm_1_2_3 nd_1_2_3 dj_0__1_2_3 rfl rfl rfl rfl rfl (Nat.le_of_ble_eq_true rfl) (rmT (Nat.le_of_ble_eq_true rfl) (Nat.le_of_ble_eq_true rfl)) ⟨Nat.le_of_ble_eq_true rfl, Nat.le_of_ble_eq_true rfl⟩ gX12_one_6.2.2.2.2.2.2.2.2.2 (fun u6573 H locs hr6572 hP hD hS => ?_)
                  refine Kpdr (ws := [(nt, iA G 240 fnt), (nc, iA G 100 fnc), (nF, sA G 5 (FCT K)), (h0, oX12 nw nk mhasKept nt (nI ktp) nr mrowMany mroundOf mroundFrom mouts nm mfromHour mtoHour ns (nI vks) (nI (TKE bt ktp vks)) (nI (TKN bt ktp vks)) 1 (nI jd) (nI kc) mlines nl nc nF np ntr nb mbestCost nso nsi nit nsh nsf nss nrc mtraced mdealer mnumber mwhose msize misParted)]) hP hD (fun hP hD => ?_)
                  refine lv_aload_n hx hb gX12_one_7.1 rfl (lv_at3 hl) ?_
                  refine lv_bipush (v := 60) hx hb gX12_one_7.2.1 (by decide) ?_
                  refine pV hC hK hl hP hD (m_isSignF l G h0 60 nw nk mhasKept nt (nI ktp) nr mrowMany mroundOf mroundFrom mouts nm mfromHour mtoHour ns (nI vks) (nI (TKE bt ktp vks)) (nI (TKN bt ktp vks)) (nI jd) (nI kc) mlines nl nc nF np ntr nb mbestCost nso nsi nit nsh nsf nss nrc mtraced mdealer mnumber mwhose msize misParted) si_X12_262 [3] sm_3 fm_3 nd_3 rfl rfl rfl rfl rfl (Nat.le_of_ble_eq_true rfl) (rmT (Nat.le_of_ble_eq_true rfl) (Nat.le_of_ble_eq_true rfl)) ⟨by first | exact Nat.le_of_ble_eq_true rfl | exact Nat.zero_le _, by first | exact Nat.le_of_ble_eq_true rfl | exact Nat.zero_le _⟩ gX12_one_7.2.2.1 (Keqr ?_)
                  refine lv_if_eq (tgt := 145) hx hb gX12_one_7.2.2.2.1 (by decide) (fun _ => ?_) (fun c9 => absurd (by decide) c9)
                  refine lv_aload_n hx hb gX12_one_7.2.2.2.2.2.2.1 rfl (lv_at3 hl) ?_
                  refine lv_bipush (v := 61) hx hb gX12_one_7.2.2.2.2.2.2.2.1 (by decide) ?_
                  refine pV hC hK hl hP hD (m_isSignF l G h0 61 nw nk mhasKept nt (nI ktp) nr mrowMany mroundOf mroundFrom mouts nm mfromHour mtoHour ns (nI vks) (nI (TKE bt ktp vks)) (nI (TKN bt ktp vks)) (nI jd) (nI kc) mlines nl nc nF np ntr nb mbestCost nso nsi nit nsh nsf nss nrc mtraced mdealer mnumber mwhose msize misParted) si_X12_262 [3] sm_3 fm_3 nd_3 rfl rfl rfl rfl rfl (Nat.le_of_ble_eq_true rfl) (rmT (Nat.le_of_ble_eq_true rfl) (Nat.le_of_ble_eq_true rfl)) ⟨by first | exact Nat.le_of_ble_eq_true rfl | exact Nat.zero_le _, by first | exact Nat.le_of_ble_eq_true rfl | exact Nat.zero_le _⟩ gX12_one_7.2.2.2.2.2.2.2.2.1 (Keqr ?_)
                  refine lv_if_eq (tgt := 158) hx hb gX12_one_7.2.2.2.2.2.2.2.2.2 (by decide) (fun _ => ?_) (fun c9 => absurd (by decide) c9)
                  refine lv_iconst (v := 2) hx hb gX12_one_8.2.2.1 (by decide) ?_
                  refine lv_istore_n (lv' := [(3, .int 2), (2, .int (-1)), (1, .int (nI vn)), (0, .ref h0)]) hx hb gX12_one_8.2.2.2.1 rfl hl (by decide) rfl (fun ls hl => ?_)
                  refine lv_aload_n hx hb gX12_one_8.2.2.2.2.1 rfl (lv_at3 hl) ?_
                  refine lv_aload_n hx hb gX12_one_8.2.2.2.2.2.1 rfl (lv_at3 hl) ?_
                  refine lv_bipush (v := 60) hx hb gX12_one_8.2.2.2.2.2.2.1 (by decide) ?_
                  refine pV hC hK hl hP hD (m_isSignF l G h0 60 nw nk mhasKept nt (nI ktp) nr mrowMany mroundOf mroundFrom mouts nm mfromHour mtoHour ns (nI vks) (nI (TKE bt ktp vks)) (nI (TKN bt ktp vks)) (nI jd) (nI kc) mlines nl nc nF np ntr nb mbestCost nso nsi nit nsh nsf nss nrc mtraced mdealer mnumber mwhose msize misParted) si_X12_262 [3] sm_3 fm_3 nd_3 rfl rfl rfl rfl rfl (Nat.le_of_ble_eq_true rfl) (rmT (Nat.le_of_ble_eq_true rfl) (Nat.le_of_ble_eq_true rfl)) ⟨by first | exact Nat.le_of_ble_eq_true rfl | exact Nat.zero_le _, by first | exact Nat.le_of_ble_eq_true rfl | exact Nat.zero_le _⟩ gX12_one_8.2.2.2.2.2.2.2.1 (Keqr ?_)
                  refine lv_if_ne (tgt := 188) hx hb gX12_one_8.2.2.2.2.2.2.2.2.1 (by decide) (fun c9 => absurd (by decide) c9) (fun _ => ?_)
                  refine lv_aload_n hx hb gX12_one_8.2.2.2.2.2.2.2.2.2 rfl (lv_at3 hl) ?_
                  refine lv_bipush (v := 61) hx hb gX12_one_9.1 (by decide) ?_
                  refine pV hC hK hl hP hD (m_isSignF l G h0 61 nw nk mhasKept nt (nI ktp) nr mrowMany mroundOf mroundFrom mouts nm mfromHour mtoHour ns (nI vks) (nI (TKE bt ktp vks)) (nI (TKN bt ktp vks)) (nI jd) (nI kc) mlines nl nc nF np ntr nb mbestCost nso nsi nit nsh nsf nss nrc mtraced mdealer mnumber mwhose msize misParted) si_X12_262 [3] sm_3 fm_3 nd_3 rfl rfl rfl rfl rfl (Nat.le_of_ble_eq_true rfl) (rmT (Nat.le_of_ble_eq_true rfl) (Nat.le_of_ble_eq_true rfl)) ⟨by first | exact Nat.le_of_ble_eq_true rfl | exact Nat.zero_le _, by first | exact Nat.le_of_ble_eq_true rfl | exact Nat.zero_le _⟩ gX12_one_9.2.1 (Keqr ?_)
                  refine lv_if_ne (tgt := 188) hx hb gX12_one_9.2.2.1 (by decide) (fun c9 => absurd (by decide) c9) (fun _ => ?_)
                  refine lv_aload_n hx hb gX12_one_9.2.2.2.1 rfl (lv_at3 hl) ?_
                  refine lv_bipush (v := 62) hx hb gX12_one_9.2.2.2.2.1 (by decide) ?_
                  refine pV hC hK hl hP hD (m_isSignF l G h0 62 nw nk mhasKept nt (nI ktp) nr mrowMany mroundOf mroundFrom mouts nm mfromHour mtoHour ns (nI vks) (nI (TKE bt ktp vks)) (nI (TKN bt ktp vks)) (nI jd) (nI kc) mlines nl nc nF np ntr nb mbestCost nso nsi nit nsh nsf nss nrc mtraced mdealer mnumber mwhose msize misParted) si_X12_262 [3] sm_3 fm_3 nd_3 rfl rfl rfl rfl rfl (Nat.le_of_ble_eq_true rfl) (rmT (Nat.le_of_ble_eq_true rfl) (Nat.le_of_ble_eq_true rfl)) ⟨by first | exact Nat.le_of_ble_eq_true rfl | exact Nat.zero_le _, by first | exact Nat.le_of_ble_eq_true rfl | exact Nat.zero_le _⟩ gX12_one_9.2.2.2.2.2.1 (Keqr ?_)
                  refine lv_if_eq (tgt := 192) hx hb gX12_one_9.2.2.2.2.2.2.1 (by decide) (fun _ => ?_) (fun c9 => absurd (by decide) c9)
                  refine lv_iconst (v := 0) hx hb gX12_one_9.2.2.2.2.2.2.2.2.2 (by decide) ?_
                  refine vV (wr := [(nt, iA G 240 fnt), (nc, iA G 100 fnc), (nF, sA G 5 (FCT K))]) hC hK hl hP hD hS hA (m_needF l G h0 0 nw nk mhasKept nt (nI ktp) nr mrowMany mroundOf mroundFrom mouts nm mfromHour mtoHour ns (nI vks) (nI (TKE bt ktp vks)) (nI (TKN bt ktp vks)) (nI jd) (nI kc) mlines nl nc nF np ntr nb mbestCost nso nsi nit nsh nsf nss nrc mtraced mdealer mnumber mwhose msize misParted) si_X12_236 [3] [0, 1, 2] sm_3 fm_3 nd_3 sm_0_1_2 nd_0_1_2 dj_3__0_1_2 rfl rfl rfl rfl rfl (Nat.le_of_ble_eq_true rfl) (rmT (Nat.le_of_ble_eq_true rfl) (Nat.le_of_ble_eq_true rfl)) ⟨Nat.le_of_ble_eq_true rfl, Nat.le_of_ble_eq_true rfl⟩ gX12_one_10.1 (fun u6585 H locs hr6584 hP hD hS => ?_)
                  refine Kpdr (ws := [(nt, iA G 240 fnt), (nc, iA G 100 fnc), (nF, sA G 5 (FCT K)), (h0, oX12 nw nk mhasKept nt (nI ktp) nr mrowMany mroundOf mroundFrom mouts nm mfromHour mtoHour ns (nI vks) (nI (TKE bt ktp vks)) (nI (TKN bt ktp vks)) 1 (nI jd) (nI kc) mlines nl nc nF np ntr nb mbestCost nso nsi nit nsh nsf nss nrc mtraced mdealer mnumber mwhose msize misParted)]) hP hD (fun hP hD => ?_)
                  refine lv_aload_n hx hb gX12_one_10.2.1 rfl (lv_at3 hl) ?_
                  refine lv_sipush (v := 999) hx hb gX12_one_10.2.2.1 (by decide) ?_
                  refine iV (wr := [(nt, iA G 240 fnt), (nc, iA G 100 fnc), (nF, sA G 5 (FCT K))]) hC hK hl hP hD hS hA (m_numberF l G h0 999 nw nk mhasKept nt (nI ktp) nr mrowMany mroundOf mroundFrom mouts nm mfromHour mtoHour ns (nI vks) (nI (TKE bt ktp vks)) (nI (TKN bt ktp vks)) (nI jd) (nI kc) mlines nl nc nF np ntr nb mbestCost nso nsi nit nsh nsf nss nrc mtraced mdealer mnumber mwhose msize misParted) si_X12_271 [3] [0, 1, 2] sm_3 fm_3 nd_3 sm_0_1_2 nd_0_1_2 dj_3__0_1_2 rfl rfl rfl rfl rfl (Nat.le_of_ble_eq_true rfl) (rmT (Nat.le_of_ble_eq_true rfl) (Nat.le_of_ble_eq_true rfl)) ⟨Nat.le_of_ble_eq_true rfl, Nat.le_of_ble_eq_true rfl⟩ gX12_one_10.2.2.2.1 (fun r6586 u6587 H locs hr6586 hP hD hS => ?_)
                  refine Kpdr (ws := [(nt, iA G 240 fnt), (nc, iA G 100 fnc), (nF, sA G 5 (FCT K)), (h0, oX12 nw nk mhasKept nt (nI ktp) nr mrowMany mroundOf mroundFrom mouts nm mfromHour mtoHour ns (nI vks) (nI (TKE bt ktp vks)) (nI (TKN bt ktp vks)) 1 (nI jd) (nI kc) mlines nl nc nF np ntr nb mbestCost nso nsi nit nsh nsf nss nrc mtraced mdealer mnumber mwhose msize misParted)]) hP hD (fun hP hD => ?_)
                  obtain rfl := hr6586
                  refine lv_istore (lv' := [(4, .int 0), (3, .int 2), (2, .int (-1)), (1, .int (nI vn)), (0, .ref h0)]) hx hb gX12_one_10.2.2.2.2.1 hl (by decide) rfl (fun ls hl => ?_)
                  refine lv_aload_n hx hb gX12_one_10.2.2.2.2.2.1 rfl (lv_at4 hl) ?_
                  refine lv_sipush (v := 3000) hx hb gX12_one_10.2.2.2.2.2.2.1 (by decide) ?_
                  refine lv_iload_n hx hb gX12_one_10.2.2.2.2.2.2.2.1 rfl (lv_at2 hl) ?_
                  refine lv_imul hx hb gX12_one_10.2.2.2.2.2.2.2.2.1 ?_
                  refine eqi (x1 := (-3000)) (by decide) ?_
                  refine lv_sipush (v := 1000) hx hb gX12_one_10.2.2.2.2.2.2.2.2.2 (by decide) ?_
                  refine lv_iload_n hx hb gX12_one_11.1 rfl (lv_at1 hl) ?_
                  refine lv_imul hx hb gX12_one_11.2.1 ?_
                  refine eqi (x1 := 2000) (by decide) ?_
                  refine lv_iadd hx hb gX12_one_11.2.2.1 ?_
                  refine eqi (x1 := (-1000)) (by decide) ?_
                  refine lv_iload hx hb gX12_one_11.2.2.2.1 (lv_at0 hl) ?_
                  refine lv_iadd hx hb gX12_one_11.2.2.2.2.1 ?_
                  refine eqi (x1 := (-1000)) (by decide) ?_
                  refine vV (wr := [(nt, iA G 240 fnt), (nc, iA G 100 fnc), (nF, sA G 5 (FCT K))]) hC hK hl hP hD hS hA (m_codesF l G h0 (-1000) nw nk mhasKept nt (nI ktp) nr mrowMany mroundOf mroundFrom mouts nm mfromHour mtoHour ns (nI vks) (nI (TKE bt ktp vks)) (nI (TKN bt ktp vks)) (nI jd) (nI kc) mlines nl nc nF np ntr nb mbestCost nso nsi nit nsh nsf nss nrc mtraced mdealer mnumber mwhose msize misParted) si_X12_252 [3] [0, 1, 2] sm_3 fm_3 nd_3 sm_0_1_2 nd_0_1_2 dj_3__0_1_2 rfl rfl rfl rfl rfl (Nat.le_of_ble_eq_true rfl) (rmT (Nat.le_of_ble_eq_true rfl) (Nat.le_of_ble_eq_true rfl)) ⟨Nat.le_of_ble_eq_true rfl, Nat.le_of_ble_eq_true rfl⟩ gX12_one_11.2.2.2.2.2.1 (fun u6590 H locs hr6589 hP hD hS => ?_)
                  refine Kpdr (ws := [(nt, iA G 240 fnt), (nc, iA G 100 fnc), (nF, sA G 5 (FCT K)), (h0, oX12 nw nk mhasKept nt (nI ktp) nr mrowMany mroundOf mroundFrom mouts nm mfromHour mtoHour ns (nI vks) (nI (TKE bt ktp vks)) (nI (TKN bt ktp vks)) 1 (nI jd) (nI kc) mlines nl nc nF np ntr nb mbestCost nso nsi nit nsh nsf nss nrc mtraced mdealer mnumber mwhose msize misParted)]) hP hD (fun hP hD => ?_)
                  refine lv_iconst (v := 0) hx hb gX12_one_11.2.2.2.2.2.2.1 (by decide) ?_
                  refine lv_istore_n (lv' := [(2, .int 0), (4, .int 0), (3, .int 2), (1, .int (nI vn)), (0, .ref h0)]) hx hb gX12_one_11.2.2.2.2.2.2.2.1 rfl hl (by decide) rfl (fun ls hl => ?_)
                  have keyN : ∀ (nN kN : Nat) (H : Heap) (locs : List Loc) (ls : Array Slot), kN + nN = vn → va_PD G A [(nt, iA G 240 fnt), (nc, iA G 100 fnc), (nF, sA G 5 (FCT K)), (h0, oX12 nw nk mhasKept nt (nI ktp) nr mrowMany mroundOf mroundFrom mouts nm mfromHour mtoHour ns (nI vks) (nI (TKE bt ktp vks)) (nI (TKN bt ktp vks)) 1 (nI jd) (nI kc) mlines nl nc nF np ntr nb mbestCost nso nsi nit nsh nsf nss nrc mtraced mdealer mnumber mwhose msize misParted)] H → va_S A s.heap H locs → lv_has ls 5 [(2, .int (nI kN)), (4, .int 0), (3, .int 2), (1, .int (nI vn)), (0, .ref h0)] → W p l e (RM (10 + 4 * mn) 0 0) s m ([.ref h0] : List Value).toArray below meth c H locs 0 0 Q0 (F0 m 225 ls []) := by
                    intro nN
                    induction nN with
                    | zero =>
                      intro kN H locs ls hkN hPD hS hl
                      refine Kan2 hPD (fun hP hD => ?_)
                      obtain rfl : vn = kN := by omega
                      have hl : lv_has ls 5 [(2, .int (nI vn)), (4, .int 0), (3, .int 2), (1, .int (nI vn)), (0, .ref h0)] := hl
                      refine lv_iload_n hx hb gX12_one_11.2.2.2.2.2.2.2.2.1 rfl (lv_at0 hl) ?_
                      refine lv_iload_n hx hb gX12_one_11.2.2.2.2.2.2.2.2.2 rfl (lv_at3 hl) ?_
                      refine lv_icmp_ge (tgt := 243) hx hb gX12_one_12.1 (by decide) (fun _ => ?_) (fun c9 => absurd (Int32.le_refl _) c9)
                      refine toQ hQ0 ?_
                      exact RV hC hP hD hS [3, 0, 1, 2] (1, vks, kc, fnc, [], []) rfl rfl (by decide) (Or.inr ⟨rfl, hco _ (RT.cmpF hq6510 hq6568 (CMP.f1 hfn)), by (try dsimp only); omega⟩) gX12_one_12.2.2.2.2.2.2
                    | succ nN ihN =>
                      intro kN H locs ls hkN hPD hS hl
                      refine Kan2 hPD (fun hP hD => ?_)
                      refine lv_iload_n hx hb gX12_one_11.2.2.2.2.2.2.2.2.1 rfl (lv_at0 hl) ?_
                      refine lv_iload_n hx hb gX12_one_11.2.2.2.2.2.2.2.2.2 rfl (lv_at3 hl) ?_
                      refine lv_icmp_ge (tgt := 243) hx hb gX12_one_12.1 (by decide) (fun c9 => absurd c9 (nI_ge (a := kN) (b := vn) (by omega) (by omega))) (fun _ => ?_)
                      refine lv_aload_n hx hb gX12_one_12.2.1 rfl (lv_at4 hl) ?_
                      refine lv_sipush (v := 30000) hx hb gX12_one_12.2.2.1 (by decide) ?_
                      refine vV (wr := [(nt, iA G 240 fnt), (nc, iA G 100 fnc), (nF, sA G 5 (FCT K))]) hC hK hl hP hD hS hA (m_codesF l G h0 30000 nw nk mhasKept nt (nI ktp) nr mrowMany mroundOf mroundFrom mouts nm mfromHour mtoHour ns (nI vks) (nI (TKE bt ktp vks)) (nI (TKN bt ktp vks)) (nI jd) (nI kc) mlines nl nc nF np ntr nb mbestCost nso nsi nit nsh nsf nss nrc mtraced mdealer mnumber mwhose msize misParted) si_X12_252 [3] [0, 1, 2] sm_3 fm_3 nd_3 sm_0_1_2 nd_0_1_2 dj_3__0_1_2 rfl rfl rfl rfl rfl (Nat.le_of_ble_eq_true rfl) (rmT (Nat.le_of_ble_eq_true rfl) (Nat.le_of_ble_eq_true rfl)) ⟨Nat.le_of_ble_eq_true rfl, Nat.le_of_ble_eq_true rfl⟩ gX12_one_12.2.2.2.1 (fun u6592 H locs hr6591 hP hD hS => ?_)
                      refine Kpdr (ws := [(nt, iA G 240 fnt), (nc, iA G 100 fnc), (nF, sA G 5 (FCT K)), (h0, oX12 nw nk mhasKept nt (nI ktp) nr mrowMany mroundOf mroundFrom mouts nm mfromHour mtoHour ns (nI vks) (nI (TKE bt ktp vks)) (nI (TKN bt ktp vks)) 1 (nI jd) (nI kc) mlines nl nc nF np ntr nb mbestCost nso nsi nit nsh nsf nss nrc mtraced mdealer mnumber mwhose msize misParted)]) hP hD (fun hP hD => ?_)
                      refine lv_iinc (v := nI (kN + 1)) (lv' := [(2, .int (nI (kN + 1))), (4, .int 0), (3, .int 2), (1, .int (nI vn)), (0, .ref h0)]) hx hb gX12_one_12.2.2.2.2.1 hl (k := 0) rfl (nI_1 _) (by decide) rfl (fun ls hl => ?_)
                      refine lv_goto (tgt := 225) hx hb gX12_one_12.2.2.2.2.2.1 (by decide) ?_
                      exact ihN (kN + 1) _ _ _ (by omega) (And.intro hP hD) hS (lv_sub hl [0, 1, 2, 3, 4] rfl)
                  exact keyN vn 0 _ _ _ (by omega) (And.intro hP hD) hS (lv_sub hl [0, 1, 2, 3, 4] rfl)
                · refine lv_aload_n hx hb gX12_one_6.2.2.2.1 rfl (lv_at3 hl) ?_
                  refine lv_iload_n hx hb gX12_one_6.2.2.2.2.1 rfl (lv_at1 hl) ?_
                  refine lv_if_lt (tgt := 128) hx hb gX12_one_6.2.2.2.2.2.1 (by decide) (fun c9 => absurd c9 (nI_pos (by omega))) (fun _ => ?_)
                  refine lv_iconst (v := 1) hx hb gX12_one_6.2.2.2.2.2.2.1 (by decide) ?_
                  refine lv_goto (tgt := 129) hx hb gX12_one_6.2.2.2.2.2.2.2.1 (by decide) ?_
                  refine vV (wr := [(nc, iA G 100 fnc), (nF, sA G 5 (FCT K))]) hC hK hl hP hD hS hA (m_need1X l G h0 nw nk mhasKept nt ktp nr mrowMany mroundOf mroundFrom mouts nm mfromHour mtoHour ns vks (nI jd) (nI kc) mlines nl nc nF np ntr nb mbestCost nso nsi nit nsh nsf nss nrc mtraced mdealer mnumber mwhose msize misParted fnt bt (htp) (by omega) (hFB)) si_X12_236 [0, 1] [2, 3] sm_0_1 fm_0_1 nd_0_1 sm_2_3 nd_2_3 dj_0_1__2_3 rfl rfl rfl rfl rfl (Nat.le_of_ble_eq_true rfl) (rmT (Nat.le_of_ble_eq_true rfl) (Nat.le_of_ble_eq_true rfl)) ⟨Nat.le_of_ble_eq_true rfl, Nat.le_of_ble_eq_true rfl⟩ gX12_one_6.2.2.2.2.2.2.2.2.2 (fun u6594 H locs hr6593 hP hD hS => ?_)
                  refine Kpdr (ws := [(nc, iA G 100 fnc), (nF, sA G 5 (FCT K)), (h0, oX12 nw nk mhasKept nt (nI ktp) nr mrowMany mroundOf mroundFrom mouts nm mfromHour mtoHour ns (nI (NXT bt ktp vks)) (nI (TKE bt ktp (NXT bt ktp vks))) (nI (TKN bt ktp (NXT bt ktp vks))) 0 (nI jd) (nI kc) mlines nl nc nF np ntr nb mbestCost nso nsi nit nsh nsf nss nrc mtraced mdealer mnumber mwhose msize misParted), (nt, iA G 240 fnt)]) hP hD (fun hP hD => ?_)
                  have xn6595 := NXT.ge (bt := bt) (n := ktp) (s := vks) (by omega)
                  refine lv_aload_n hx hb gX12_one_7.1 rfl (lv_at3 hl) ?_
                  refine lv_bipush (v := 60) hx hb gX12_one_7.2.1 (by decide) ?_
                  refine pV hC hK hl hP hD (m_isSignX l G h0 60 nw nk mhasKept nt ktp nr mrowMany mroundOf mroundFrom mouts nm mfromHour mtoHour ns (NXT bt ktp vks) (nI jd) (nI kc) mlines nl nc nF np ntr nb mbestCost nso nsi nit nsh nsf nss nrc mtraced mdealer mnumber mwhose msize misParted fnt bt (htp) (by omega) (hFB)) si_X12_262 [2, 3] sm_2_3 fm_2_3 nd_2_3 rfl rfl rfl rfl rfl (Nat.le_of_ble_eq_true rfl) (rmT (Nat.le_of_ble_eq_true rfl) (Nat.le_of_ble_eq_true rfl)) ⟨by first | exact Nat.le_of_ble_eq_true rfl | exact Nat.zero_le _, by first | exact Nat.le_of_ble_eq_true rfl | exact Nat.zero_le _⟩ gX12_one_7.2.2.1 (Kors (Keqa fun a6597 => ?_) (Keqa fun a6597 => ?_))
                  · have hq6598 := a6597
                    have xl6599 := SGN.len hq6598 (by omega)
                    refine lv_if_eq (tgt := 145) hx hb gX12_one_7.2.2.2.1 (by decide) (fun c9 => absurd c9 (by decide)) (fun _ => ?_)
                    refine lv_iconst (v := 0) hx hb gX12_one_7.2.2.2.2.1 (by decide) ?_
                    refine lv_goto (tgt := 159) hx hb gX12_one_7.2.2.2.2.2.1 (by decide) ?_
                    refine lv_istore_n (lv' := [(3, .int 0), (2, .int (nI (FAV bt ktp vks))), (1, .int (nI vn)), (0, .ref h0)]) hx hb gX12_one_8.2.2.2.1 rfl hl (by decide) rfl (fun ls hl => ?_)
                    refine lv_aload_n hx hb gX12_one_8.2.2.2.2.1 rfl (lv_at3 hl) ?_
                    refine lv_aload_n hx hb gX12_one_8.2.2.2.2.2.1 rfl (lv_at3 hl) ?_
                    refine lv_bipush (v := 60) hx hb gX12_one_8.2.2.2.2.2.2.1 (by decide) ?_
                    refine pV hC hK hl hP hD (m_isSignX l G h0 60 nw nk mhasKept nt ktp nr mrowMany mroundOf mroundFrom mouts nm mfromHour mtoHour ns (NXT bt ktp vks) (nI jd) (nI kc) mlines nl nc nF np ntr nb mbestCost nso nsi nit nsh nsf nss nrc mtraced mdealer mnumber mwhose msize misParted fnt bt (htp) (by omega) (hFB)) si_X12_262 [2, 3] sm_2_3 fm_2_3 nd_2_3 rfl rfl rfl rfl rfl (Nat.le_of_ble_eq_true rfl) (rmT (Nat.le_of_ble_eq_true rfl) (Nat.le_of_ble_eq_true rfl)) ⟨by first | exact Nat.le_of_ble_eq_true rfl | exact Nat.zero_le _, by first | exact Nat.le_of_ble_eq_true rfl | exact Nat.zero_le _⟩ gX12_one_8.2.2.2.2.2.2.2.1 (Kors (Keqa fun a6601 => ?_) (Keqa fun a6601 => ?_))
                    · have hq6602 := a6601
                      have xl6603 := SGN.len hq6602 (by omega)
                      refine lv_if_ne (tgt := 188) hx hb gX12_one_8.2.2.2.2.2.2.2.2.1 (by decide) (fun _ => ?_) (fun c9 => absurd c9 (by decide))
                      refine lv_iconst (v := 1) hx hb gX12_one_9.2.2.2.2.2.2.2.1 (by decide) ?_
                      refine lv_goto (tgt := 193) hx hb gX12_one_9.2.2.2.2.2.2.2.2.1 (by decide) ?_
                      have hsg : SIG bt ktp (NXT bt ktp vks) = some 0 := SIG.e0 hq6602
                      refine vV (wr := [(nc, iA G 100 fnc), (nF, sA G 5 (FCT K))]) hC hK hl hP hD hS hA (m_need1X l G h0 nw nk mhasKept nt ktp nr mrowMany mroundOf mroundFrom mouts nm mfromHour mtoHour ns (NXT bt ktp vks) (nI jd) (nI kc) mlines nl nc nF np ntr nb mbestCost nso nsi nit nsh nsf nss nrc mtraced mdealer mnumber mwhose msize misParted fnt bt (htp) (by omega) (hFB)) si_X12_236 [2, 3] [0, 1] sm_2_3 fm_2_3 nd_2_3 sm_0_1 nd_0_1 dj_2_3__0_1 rfl rfl rfl rfl rfl (Nat.le_of_ble_eq_true rfl) (rmT (Nat.le_of_ble_eq_true rfl) (Nat.le_of_ble_eq_true rfl)) ⟨Nat.le_of_ble_eq_true rfl, Nat.le_of_ble_eq_true rfl⟩ gX12_one_10.1 (fun u6605 H locs hr6604 hP hD hS => ?_)
                      refine Kpdr (ws := [(nc, iA G 100 fnc), (nF, sA G 5 (FCT K)), (h0, oX12 nw nk mhasKept nt (nI ktp) nr mrowMany mroundOf mroundFrom mouts nm mfromHour mtoHour ns (nI (NXT bt ktp (NXT bt ktp vks))) (nI (TKE bt ktp (NXT bt ktp (NXT bt ktp vks)))) (nI (TKN bt ktp (NXT bt ktp (NXT bt ktp vks)))) 0 (nI jd) (nI kc) mlines nl nc nF np ntr nb mbestCost nso nsi nit nsh nsf nss nrc mtraced mdealer mnumber mwhose msize misParted), (nt, iA G 240 fnt)]) hP hD (fun hP hD => ?_)
                      have xn6606 := NXT.ge (bt := bt) (n := ktp) (s := (NXT bt ktp vks)) (by omega)
                      refine lv_aload_n hx hb gX12_one_10.2.1 rfl (lv_at3 hl) ?_
                      refine lv_sipush (v := 999) hx hb gX12_one_10.2.2.1 (by decide) ?_
                      refine iV (wr := [(nc, iA G 100 fnc), (nF, sA G 5 (FCT K))]) hC hK hl hP hD hS hA (m_numberX l G h0 999 nw nk mhasKept nt ktp nr mrowMany mroundOf mroundFrom mouts nm mfromHour mtoHour ns (NXT bt ktp (NXT bt ktp vks)) (nI jd) (nI kc) mlines nl nc nF np ntr nb mbestCost nso nsi nit nsh nsf nss nrc mtraced mdealer mnumber mwhose msize misParted fnt bt (htp) (by omega) (hFB) (by omega)) si_X12_271 [2, 3] [0, 1] sm_2_3 fm_2_3 nd_2_3 sm_0_1 nd_0_1 dj_2_3__0_1 rfl rfl rfl rfl rfl (Nat.le_of_ble_eq_true rfl) (rmT (Nat.le_of_ble_eq_true rfl) (Nat.le_of_ble_eq_true rfl)) ⟨Nat.le_of_ble_eq_true rfl, Nat.le_of_ble_eq_true rfl⟩ gX12_one_10.2.2.2.1 (fun r6607 => Ktu2 fun ff16609 ks16610 => ?_)
                      intro H locs hr6607 hP hD hS
                      try dsimp only at hr6607
                      refine Kpdr (ws := [(nc, iA G 100 fnc), (nF, sA G 5 (FCT K)), (h0, oX12 nw nk mhasKept nt (nI ktp) nr mrowMany mroundOf mroundFrom mouts nm mfromHour mtoHour ns (nI ks16610) (nI (TKE bt ktp ks16610)) (nI (TKN bt ktp ks16610)) ff16609 (nI jd) (nI kc) mlines nl nc nF np ntr nb mbestCost nso nsi nit nsh nsf nss nrc mtraced mdealer mnumber mwhose msize misParted), (nt, iA G 240 fnt)]) hP hD (fun hP hD => ?_)
                      obtain ⟨hr6607, w6611⟩ := hr6607
                      rcases w6611 with v6612 | v6613
                      · obtain ⟨rfl, rfl, rfl, hq6614⟩ := v6612
                        have xl6615 := NML.len hq6614 (by omega)
                        refine lv_istore (lv' := [(4, .int (nI (NVL bt ktp (NXT bt ktp (NXT bt ktp vks))))), (3, .int 0), (2, .int (nI (FAV bt ktp vks))), (1, .int (nI vn)), (0, .ref h0)]) hx hb gX12_one_10.2.2.2.2.1 hl (by decide) rfl (fun ls hl => ?_)
                        refine lv_aload_n hx hb gX12_one_10.2.2.2.2.2.1 rfl (lv_at4 hl) ?_
                        refine lv_sipush (v := 3000) hx hb gX12_one_10.2.2.2.2.2.2.1 (by decide) ?_
                        refine lv_iload_n hx hb gX12_one_10.2.2.2.2.2.2.2.1 rfl (lv_at2 hl) ?_
                        refine lv_imul hx hb gX12_one_10.2.2.2.2.2.2.2.2.1 ?_
                        refine eqi (x1 := nI (3000 * (FAV bt ktp vks))) (nI_mul 3000 (FAV bt ktp vks)) ?_
                        refine lv_sipush (v := 1000) hx hb gX12_one_10.2.2.2.2.2.2.2.2.2 (by decide) ?_
                        refine lv_iload_n hx hb gX12_one_11.1 rfl (lv_at1 hl) ?_
                        refine lv_imul hx hb gX12_one_11.2.1 ?_
                        refine eqi (x1 := 0) (by decide) ?_
                        refine lv_iadd hx hb gX12_one_11.2.2.1 ?_
                        refine eqi (x1 := nI (3000 * (FAV bt ktp vks) + 0)) (nI_add (3000 * (FAV bt ktp vks)) 0) ?_
                        refine lv_iload hx hb gX12_one_11.2.2.2.1 (lv_at0 hl) ?_
                        refine lv_iadd hx hb gX12_one_11.2.2.2.2.1 ?_
                        refine eqi (x1 := nI (3000 * (FAV bt ktp vks) + 0 + (NVL bt ktp (NXT bt ktp (NXT bt ktp vks))))) (nI_add (3000 * (FAV bt ktp vks) + 0) (NVL bt ktp (NXT bt ktp (NXT bt ktp vks)))) ?_
                        have hy9 := CMP.y hfs hsg (NML.of hq6614).1
                        have hcv : (CMP bt ktp vks).2.2 = (FAV bt ktp vks * 3 + 0) * 1000 + NVL bt ktp (NXT bt ktp (NXT bt ktp vks)) := congrArg (fun z9 => z9.2.2) hy9
                        have hcm : CMP bt ktp vks = (1, (NXT bt ktp (NXT bt ktp (NXT bt ktp vks))), (CMP bt ktp vks).2.2) := hy9.trans (congrArg (fun z9 => ((1 : Nat), (NXT bt ktp (NXT bt ktp (NXT bt ktp vks))), z9)) hcv.symm)
                        refine eqi (x1 := nI (CMP bt ktp vks).2.2) (congrArg nI (by rw [hcv]; omega)) ?_
                        refine vV (wr := [(nF, sA G 5 (FCT K)), (nt, iA G 240 fnt)]) hC hK hl hP hD hS hA (m_codes0 l G h0 (nI (CMP bt ktp vks).2.2) nw nk mhasKept nt (nI ktp) nr mrowMany mroundOf mroundFrom mouts nm mfromHour mtoHour ns (nI (NXT bt ktp (NXT bt ktp (NXT bt ktp vks)))) (nI (TKE bt ktp (NXT bt ktp (NXT bt ktp (NXT bt ktp vks))))) (nI (TKN bt ktp (NXT bt ktp (NXT bt ktp (NXT bt ktp vks))))) (nI jd) kc mlines nl nc nF np ntr nb mbestCost nso nsi nit nsh nsf nss nrc mtraced mdealer mnumber mwhose msize misParted fnc (by omega)) si_X12_252 [2, 0] [1, 3] sm_2_0 fm_2_0 nd_2_0 sm_1_3 nd_1_3 dj_2_0__1_3 rfl rfl rfl rfl rfl (Nat.le_of_ble_eq_true rfl) (rmT (Nat.le_of_ble_eq_true rfl) (Nat.le_of_ble_eq_true rfl)) ⟨Nat.le_of_ble_eq_true rfl, Nat.le_of_ble_eq_true rfl⟩ gX12_one_11.2.2.2.2.2.1 (fun u6617 H locs hr6616 hP hD hS => ?_)
                        refine Kpdr (ws := [(nF, sA G 5 (FCT K)), (nt, iA G 240 fnt), (h0, oX12 nw nk mhasKept nt (nI ktp) nr mrowMany mroundOf mroundFrom mouts nm mfromHour mtoHour ns (nI (NXT bt ktp (NXT bt ktp (NXT bt ktp vks)))) (nI (TKE bt ktp (NXT bt ktp (NXT bt ktp (NXT bt ktp vks))))) (nI (TKN bt ktp (NXT bt ktp (NXT bt ktp (NXT bt ktp vks))))) 0 (nI jd) (nI (kc + 1)) mlines nl nc nF np ntr nb mbestCost nso nsi nit nsh nsf nss nrc mtraced mdealer mnumber mwhose msize misParted), (nc, iA G 100 (upd fnc kc (nI (CMP bt ktp vks).2.2)))]) hP hD (fun hP hD => ?_)
                        refine lv_iconst (v := 0) hx hb gX12_one_11.2.2.2.2.2.2.1 (by decide) ?_
                        refine lv_istore_n (lv' := [(2, .int 0), (4, .int (nI (NVL bt ktp (NXT bt ktp (NXT bt ktp vks))))), (3, .int 0), (1, .int (nI vn)), (0, .ref h0)]) hx hb gX12_one_11.2.2.2.2.2.2.2.1 rfl hl (by decide) rfl (fun ls hl => ?_)
                        have keyN : ∀ (nN kN : Nat) (vC : Nat → Int32) (H : Heap) (locs : List Loc) (ls : Array Slot), kN + nN = vn → (STP ((kc + 1) + kN) vC ((rs ++ [nI (CMP bt ktp vks).2.2]) ++ List.replicate kN 30000)) → va_PD G A [(nF, sA G 5 (FCT K)), (nt, iA G 240 fnt), (h0, oX12 nw nk mhasKept nt (nI ktp) nr mrowMany mroundOf mroundFrom mouts nm mfromHour mtoHour ns (nI (NXT bt ktp (NXT bt ktp (NXT bt ktp vks)))) (nI (TKE bt ktp (NXT bt ktp (NXT bt ktp (NXT bt ktp vks))))) (nI (TKN bt ktp (NXT bt ktp (NXT bt ktp (NXT bt ktp vks))))) 0 (nI jd) (nI ((kc + 1) + kN)) mlines nl nc nF np ntr nb mbestCost nso nsi nit nsh nsf nss nrc mtraced mdealer mnumber mwhose msize misParted), (nc, iA G 100 vC)] H → va_S A s.heap H locs → lv_has ls 5 [(2, .int (nI kN)), (4, .int (nI (NVL bt ktp (NXT bt ktp (NXT bt ktp vks))))), (3, .int 0), (1, .int (nI vn)), (0, .ref h0)] → W p l e (RM (10 + 4 * mn) 0 0) s m ([.ref h0] : List Value).toArray below meth c H locs 0 0 Q0 (F0 m 225 ls []) := by
                          intro nN
                          induction nN with
                          | zero =>
                            intro kN vC H locs ls hkN hEx hPD hS hl
                            refine Kan2 hPD (fun hP hD => ?_)
                            obtain rfl : vn = kN := by omega
                            refine Kpdr (ws := [(nF, sA G 5 (FCT K)), (nt, iA G 240 fnt), (h0, oX12 nw nk mhasKept nt (nI ktp) nr mrowMany mroundOf mroundFrom mouts nm mfromHour mtoHour ns (nI (NXT bt ktp (NXT bt ktp (NXT bt ktp vks)))) (nI (TKE bt ktp (NXT bt ktp (NXT bt ktp (NXT bt ktp vks))))) (nI (TKN bt ktp (NXT bt ktp (NXT bt ktp (NXT bt ktp vks))))) 0 (nI jd) (nI ((kc + 1) + vn)) mlines nl nc nF np ntr nb mbestCost nso nsi nit nsh nsf nss nrc mtraced mdealer mnumber mwhose msize misParted), (nc, iA G 100 vC)]) hP hD (fun hP hD => ?_)
                            have hl : lv_has ls 5 [(2, .int (nI vn)), (4, .int (nI (NVL bt ktp (NXT bt ktp (NXT bt ktp vks))))), (3, .int 0), (1, .int (nI vn)), (0, .ref h0)] := hl
                            refine lv_iload_n hx hb gX12_one_11.2.2.2.2.2.2.2.2.1 rfl (lv_at0 hl) ?_
                            refine lv_iload_n hx hb gX12_one_11.2.2.2.2.2.2.2.2.2 rfl (lv_at3 hl) ?_
                            refine lv_icmp_ge (tgt := 243) hx hb gX12_one_12.1 (by decide) (fun _ => ?_) (fun c9 => absurd (Int32.le_refl _) c9)
                            refine toQ hQ0 ?_
                            exact RV hC hP hD hS [2, 1, 3, 0] (0, (NXT bt ktp (NXT bt ktp (NXT bt ktp vks))), ((kc + 1) + vn), vC, (cs ++ nI (CMP bt ktp vks).2.2 :: NOC vn), (rs ++ nI (CMP bt ktp vks).2.2 :: NTR vn)) rfl rfl (by decide) (Or.inl ⟨rfl, hco _ (RT.cmpO hq6510 hq6568 hcm), STP.cn hEx⟩) gX12_one_12.2.2.2.2.2.2
                          | succ nN ihN =>
                            intro kN vC H locs ls hkN hEx hPD hS hl
                            refine Kan2 hPD (fun hP hD => ?_)
                            refine lv_iload_n hx hb gX12_one_11.2.2.2.2.2.2.2.2.1 rfl (lv_at0 hl) ?_
                            refine lv_iload_n hx hb gX12_one_11.2.2.2.2.2.2.2.2.2 rfl (lv_at3 hl) ?_
                            refine lv_icmp_ge (tgt := 243) hx hb gX12_one_12.1 (by decide) (fun c9 => absurd c9 (nI_ge (a := kN) (b := vn) (by omega) (by omega))) (fun _ => ?_)
                            refine lv_aload_n hx hb gX12_one_12.2.1 rfl (lv_at4 hl) ?_
                            refine lv_sipush (v := 30000) hx hb gX12_one_12.2.2.1 (by decide) ?_
                            refine vV (wr := [(nF, sA G 5 (FCT K)), (nt, iA G 240 fnt)]) hC hK hl hP hD hS hA (m_codes0 l G h0 30000 nw nk mhasKept nt (nI ktp) nr mrowMany mroundOf mroundFrom mouts nm mfromHour mtoHour ns (nI (NXT bt ktp (NXT bt ktp (NXT bt ktp vks)))) (nI (TKE bt ktp (NXT bt ktp (NXT bt ktp (NXT bt ktp vks))))) (nI (TKN bt ktp (NXT bt ktp (NXT bt ktp (NXT bt ktp vks))))) (nI jd) ((kc + 1) + kN) mlines nl nc nF np ntr nb mbestCost nso nsi nit nsh nsf nss nrc mtraced mdealer mnumber mwhose msize misParted vC (by omega)) si_X12_252 [2, 3] [0, 1] sm_2_3 fm_2_3 nd_2_3 sm_0_1 nd_0_1 dj_2_3__0_1 rfl rfl rfl rfl rfl (Nat.le_of_ble_eq_true rfl) (rmT (Nat.le_of_ble_eq_true rfl) (Nat.le_of_ble_eq_true rfl)) ⟨Nat.le_of_ble_eq_true rfl, Nat.le_of_ble_eq_true rfl⟩ gX12_one_12.2.2.2.1 (fun u6619 H locs hr6618 hP hD hS => ?_)
                            refine Kpdr (ws := [(nF, sA G 5 (FCT K)), (nt, iA G 240 fnt), (h0, oX12 nw nk mhasKept nt (nI ktp) nr mrowMany mroundOf mroundFrom mouts nm mfromHour mtoHour ns (nI (NXT bt ktp (NXT bt ktp (NXT bt ktp vks)))) (nI (TKE bt ktp (NXT bt ktp (NXT bt ktp (NXT bt ktp vks))))) (nI (TKN bt ktp (NXT bt ktp (NXT bt ktp (NXT bt ktp vks))))) 0 (nI jd) (nI (((kc + 1) + kN) + 1)) mlines nl nc nF np ntr nb mbestCost nso nsi nit nsh nsf nss nrc mtraced mdealer mnumber mwhose msize misParted), (nc, iA G 100 (upd vC ((kc + 1) + kN) 30000))]) hP hD (fun hP hD => ?_)
                            refine lv_iinc (v := nI (kN + 1)) (lv' := [(2, .int (nI (kN + 1))), (4, .int (nI (NVL bt ktp (NXT bt ktp (NXT bt ktp vks))))), (3, .int 0), (1, .int (nI vn)), (0, .ref h0)]) hx hb gX12_one_12.2.2.2.2.1 hl (k := 0) rfl (nI_1 _) (by decide) rfl (fun ls hl => ?_)
                            refine lv_goto (tgt := 225) hx hb gX12_one_12.2.2.2.2.2.1 (by decide) ?_
                            exact ihN (kN + 1) (upd vC ((kc + 1) + kN) 30000) _ _ _ (by omega) (by first | assumption | exact Or.inl rfl | exact Or.inr rfl | exact STP.r0 (STP.push hST) | exact STP.rep hEx) (And.intro hP hD) hS (lv_sub hl [0, 1, 2, 3, 4] rfl)
                        exact keyN vn 0 (upd fnc kc (nI (CMP bt ktp vks).2.2)) _ _ _ (by omega) (by first | assumption | exact Or.inl rfl | exact Or.inr rfl | exact STP.r0 (STP.push hST) | exact STP.rep hEx) (And.intro hP hD) hS (lv_sub hl [0, 1, 2, 3, 4] rfl)
                      · obtain ⟨rfl, rfl, hq6620⟩ := v6613
                        refine lv_istore (lv' := [(4, .int r6607), (3, .int 0), (2, .int (nI (FAV bt ktp vks))), (1, .int (nI vn)), (0, .ref h0)]) hx hb gX12_one_10.2.2.2.2.1 hl (by decide) rfl (fun ls hl => ?_)
                        refine lv_aload_n hx hb gX12_one_10.2.2.2.2.2.1 rfl (lv_at4 hl) ?_
                        refine lv_sipush (v := 3000) hx hb gX12_one_10.2.2.2.2.2.2.1 (by decide) ?_
                        refine lv_iload_n hx hb gX12_one_10.2.2.2.2.2.2.2.1 rfl (lv_at2 hl) ?_
                        refine lv_imul hx hb gX12_one_10.2.2.2.2.2.2.2.2.1 ?_
                        refine eqi (x1 := nI (3000 * (FAV bt ktp vks))) (nI_mul 3000 (FAV bt ktp vks)) ?_
                        refine lv_sipush (v := 1000) hx hb gX12_one_10.2.2.2.2.2.2.2.2.2 (by decide) ?_
                        refine lv_iload_n hx hb gX12_one_11.1 rfl (lv_at1 hl) ?_
                        refine lv_imul hx hb gX12_one_11.2.1 ?_
                        refine eqi (x1 := 0) (by decide) ?_
                        refine lv_iadd hx hb gX12_one_11.2.2.1 ?_
                        refine eqi (x1 := nI (3000 * (FAV bt ktp vks) + 0)) (nI_add (3000 * (FAV bt ktp vks)) 0) ?_
                        refine lv_iload hx hb gX12_one_11.2.2.2.1 (lv_at0 hl) ?_
                        refine lv_iadd hx hb gX12_one_11.2.2.2.2.1 ?_
                        refine vV (wr := [(nc, iA G 100 fnc), (nF, sA G 5 (FCT K)), (nt, iA G 240 fnt)]) hC hK hl hP hD hS hA (m_codesF l G h0 ((nI (3000 * (FAV bt ktp vks) + 0)) + r6607) nw nk mhasKept nt (nI ktp) nr mrowMany mroundOf mroundFrom mouts nm mfromHour mtoHour ns (nI (NXT bt ktp (NXT bt ktp vks))) (nI (TKE bt ktp (NXT bt ktp (NXT bt ktp vks)))) (nI (TKN bt ktp (NXT bt ktp (NXT bt ktp vks)))) (nI jd) (nI kc) mlines nl nc nF np ntr nb mbestCost nso nsi nit nsh nsf nss nrc mtraced mdealer mnumber mwhose msize misParted) si_X12_252 [2] [0, 1, 3] sm_2 fm_2 nd_2 sm_0_1_3 nd_0_1_3 dj_2__0_1_3 rfl rfl rfl rfl rfl (Nat.le_of_ble_eq_true rfl) (rmT (Nat.le_of_ble_eq_true rfl) (Nat.le_of_ble_eq_true rfl)) ⟨Nat.le_of_ble_eq_true rfl, Nat.le_of_ble_eq_true rfl⟩ gX12_one_11.2.2.2.2.2.1 (fun u6622 H locs hr6621 hP hD hS => ?_)
                        refine Kpdr (ws := [(nc, iA G 100 fnc), (nF, sA G 5 (FCT K)), (nt, iA G 240 fnt), (h0, oX12 nw nk mhasKept nt (nI ktp) nr mrowMany mroundOf mroundFrom mouts nm mfromHour mtoHour ns (nI (NXT bt ktp (NXT bt ktp vks))) (nI (TKE bt ktp (NXT bt ktp (NXT bt ktp vks)))) (nI (TKN bt ktp (NXT bt ktp (NXT bt ktp vks)))) 1 (nI jd) (nI kc) mlines nl nc nF np ntr nb mbestCost nso nsi nit nsh nsf nss nrc mtraced mdealer mnumber mwhose msize misParted)]) hP hD (fun hP hD => ?_)
                        refine lv_iconst (v := 0) hx hb gX12_one_11.2.2.2.2.2.2.1 (by decide) ?_
                        refine lv_istore_n (lv' := [(2, .int 0), (4, .int r6607), (3, .int 0), (1, .int (nI vn)), (0, .ref h0)]) hx hb gX12_one_11.2.2.2.2.2.2.2.1 rfl hl (by decide) rfl (fun ls hl => ?_)
                        have keyN : ∀ (nN kN : Nat) (H : Heap) (locs : List Loc) (ls : Array Slot), kN + nN = vn → va_PD G A [(nc, iA G 100 fnc), (nF, sA G 5 (FCT K)), (nt, iA G 240 fnt), (h0, oX12 nw nk mhasKept nt (nI ktp) nr mrowMany mroundOf mroundFrom mouts nm mfromHour mtoHour ns (nI (NXT bt ktp (NXT bt ktp vks))) (nI (TKE bt ktp (NXT bt ktp (NXT bt ktp vks)))) (nI (TKN bt ktp (NXT bt ktp (NXT bt ktp vks)))) 1 (nI jd) (nI kc) mlines nl nc nF np ntr nb mbestCost nso nsi nit nsh nsf nss nrc mtraced mdealer mnumber mwhose msize misParted)] H → va_S A s.heap H locs → lv_has ls 5 [(2, .int (nI kN)), (4, .int r6607), (3, .int 0), (1, .int (nI vn)), (0, .ref h0)] → W p l e (RM (10 + 4 * mn) 0 0) s m ([.ref h0] : List Value).toArray below meth c H locs 0 0 Q0 (F0 m 225 ls []) := by
                          intro nN
                          induction nN with
                          | zero =>
                            intro kN H locs ls hkN hPD hS hl
                            refine Kan2 hPD (fun hP hD => ?_)
                            obtain rfl : vn = kN := by omega
                            have hl : lv_has ls 5 [(2, .int (nI vn)), (4, .int r6607), (3, .int 0), (1, .int (nI vn)), (0, .ref h0)] := hl
                            refine lv_iload_n hx hb gX12_one_11.2.2.2.2.2.2.2.2.1 rfl (lv_at0 hl) ?_
                            refine lv_iload_n hx hb gX12_one_11.2.2.2.2.2.2.2.2.2 rfl (lv_at3 hl) ?_
                            refine lv_icmp_ge (tgt := 243) hx hb gX12_one_12.1 (by decide) (fun _ => ?_) (fun c9 => absurd (Int32.le_refl _) c9)
                            refine toQ hQ0 ?_
                            exact RV hC hP hD hS [3, 2, 0, 1] (1, (NXT bt ktp (NXT bt ktp vks)), kc, fnc, [], []) rfl rfl (by decide) (Or.inr ⟨rfl, hco _ (RT.cmpF hq6510 hq6568 (CMP.f3 hfs hsg (NML.no hq6620 (by omega)))), by (try dsimp only); omega⟩) gX12_one_12.2.2.2.2.2.2
                          | succ nN ihN =>
                            intro kN H locs ls hkN hPD hS hl
                            refine Kan2 hPD (fun hP hD => ?_)
                            refine lv_iload_n hx hb gX12_one_11.2.2.2.2.2.2.2.2.1 rfl (lv_at0 hl) ?_
                            refine lv_iload_n hx hb gX12_one_11.2.2.2.2.2.2.2.2.2 rfl (lv_at3 hl) ?_
                            refine lv_icmp_ge (tgt := 243) hx hb gX12_one_12.1 (by decide) (fun c9 => absurd c9 (nI_ge (a := kN) (b := vn) (by omega) (by omega))) (fun _ => ?_)
                            refine lv_aload_n hx hb gX12_one_12.2.1 rfl (lv_at4 hl) ?_
                            refine lv_sipush (v := 30000) hx hb gX12_one_12.2.2.1 (by decide) ?_
                            refine vV (wr := [(nc, iA G 100 fnc), (nF, sA G 5 (FCT K)), (nt, iA G 240 fnt)]) hC hK hl hP hD hS hA (m_codesF l G h0 30000 nw nk mhasKept nt (nI ktp) nr mrowMany mroundOf mroundFrom mouts nm mfromHour mtoHour ns (nI (NXT bt ktp (NXT bt ktp vks))) (nI (TKE bt ktp (NXT bt ktp (NXT bt ktp vks)))) (nI (TKN bt ktp (NXT bt ktp (NXT bt ktp vks)))) (nI jd) (nI kc) mlines nl nc nF np ntr nb mbestCost nso nsi nit nsh nsf nss nrc mtraced mdealer mnumber mwhose msize misParted) si_X12_252 [3] [0, 1, 2] sm_3 fm_3 nd_3 sm_0_1_2 nd_0_1_2 dj_3__0_1_2 rfl rfl rfl rfl rfl (Nat.le_of_ble_eq_true rfl) (rmT (Nat.le_of_ble_eq_true rfl) (Nat.le_of_ble_eq_true rfl)) ⟨Nat.le_of_ble_eq_true rfl, Nat.le_of_ble_eq_true rfl⟩ gX12_one_12.2.2.2.1 (fun u6624 H locs hr6623 hP hD hS => ?_)
                            refine Kpdr (ws := [(nc, iA G 100 fnc), (nF, sA G 5 (FCT K)), (nt, iA G 240 fnt), (h0, oX12 nw nk mhasKept nt (nI ktp) nr mrowMany mroundOf mroundFrom mouts nm mfromHour mtoHour ns (nI (NXT bt ktp (NXT bt ktp vks))) (nI (TKE bt ktp (NXT bt ktp (NXT bt ktp vks)))) (nI (TKN bt ktp (NXT bt ktp (NXT bt ktp vks)))) 1 (nI jd) (nI kc) mlines nl nc nF np ntr nb mbestCost nso nsi nit nsh nsf nss nrc mtraced mdealer mnumber mwhose msize misParted)]) hP hD (fun hP hD => ?_)
                            refine lv_iinc (v := nI (kN + 1)) (lv' := [(2, .int (nI (kN + 1))), (4, .int r6607), (3, .int 0), (1, .int (nI vn)), (0, .ref h0)]) hx hb gX12_one_12.2.2.2.2.1 hl (k := 0) rfl (nI_1 _) (by decide) rfl (fun ls hl => ?_)
                            refine lv_goto (tgt := 225) hx hb gX12_one_12.2.2.2.2.2.1 (by decide) ?_
                            exact ihN (kN + 1) _ _ _ (by omega) (And.intro hP hD) hS (lv_sub hl [0, 1, 2, 3, 4] rfl)
                        exact keyN vn 0 _ _ _ (by omega) (And.intro hP hD) hS (lv_sub hl [0, 1, 2, 3, 4] rfl)
                    · exact absurd hq6598 a6601
                  · have hq6625 := a6597
                    refine lv_if_eq (tgt := 145) hx hb gX12_one_7.2.2.2.1 (by decide) (fun _ => ?_) (fun c9 => absurd (by decide) c9)
                    refine lv_aload_n hx hb gX12_one_7.2.2.2.2.2.2.1 rfl (lv_at3 hl) ?_
                    refine lv_bipush (v := 61) hx hb gX12_one_7.2.2.2.2.2.2.2.1 (by decide) ?_
                    refine pV hC hK hl hP hD (m_isSignX l G h0 61 nw nk mhasKept nt ktp nr mrowMany mroundOf mroundFrom mouts nm mfromHour mtoHour ns (NXT bt ktp vks) (nI jd) (nI kc) mlines nl nc nF np ntr nb mbestCost nso nsi nit nsh nsf nss nrc mtraced mdealer mnumber mwhose msize misParted fnt bt (htp) (by omega) (hFB)) si_X12_262 [2, 3] sm_2_3 fm_2_3 nd_2_3 rfl rfl rfl rfl rfl (Nat.le_of_ble_eq_true rfl) (rmT (Nat.le_of_ble_eq_true rfl) (Nat.le_of_ble_eq_true rfl)) ⟨by first | exact Nat.le_of_ble_eq_true rfl | exact Nat.zero_le _, by first | exact Nat.le_of_ble_eq_true rfl | exact Nat.zero_le _⟩ gX12_one_7.2.2.2.2.2.2.2.2.1 (Kors (Keqa fun a6627 => ?_) (Keqa fun a6627 => ?_))
                    · have hq6628 := a6627
                      have xl6629 := SGN.len hq6628 (by omega)
                      refine lv_if_eq (tgt := 158) hx hb gX12_one_7.2.2.2.2.2.2.2.2.2 (by decide) (fun c9 => absurd c9 (by decide)) (fun _ => ?_)
                      refine lv_iconst (v := 1) hx hb gX12_one_8.1 (by decide) ?_
                      refine lv_goto (tgt := 159) hx hb gX12_one_8.2.1 (by decide) ?_
                      refine lv_istore_n (lv' := [(3, .int 1), (2, .int (nI (FAV bt ktp vks))), (1, .int (nI vn)), (0, .ref h0)]) hx hb gX12_one_8.2.2.2.1 rfl hl (by decide) rfl (fun ls hl => ?_)
                      refine lv_aload_n hx hb gX12_one_8.2.2.2.2.1 rfl (lv_at3 hl) ?_
                      refine lv_aload_n hx hb gX12_one_8.2.2.2.2.2.1 rfl (lv_at3 hl) ?_
                      refine lv_bipush (v := 60) hx hb gX12_one_8.2.2.2.2.2.2.1 (by decide) ?_
                      refine pV hC hK hl hP hD (m_isSignX l G h0 60 nw nk mhasKept nt ktp nr mrowMany mroundOf mroundFrom mouts nm mfromHour mtoHour ns (NXT bt ktp vks) (nI jd) (nI kc) mlines nl nc nF np ntr nb mbestCost nso nsi nit nsh nsf nss nrc mtraced mdealer mnumber mwhose msize misParted fnt bt (htp) (by omega) (hFB)) si_X12_262 [2, 3] sm_2_3 fm_2_3 nd_2_3 rfl rfl rfl rfl rfl (Nat.le_of_ble_eq_true rfl) (rmT (Nat.le_of_ble_eq_true rfl) (Nat.le_of_ble_eq_true rfl)) ⟨by first | exact Nat.le_of_ble_eq_true rfl | exact Nat.zero_le _, by first | exact Nat.le_of_ble_eq_true rfl | exact Nat.zero_le _⟩ gX12_one_8.2.2.2.2.2.2.2.1 (Kors (Keqa fun a6631 => ?_) (Keqa fun a6631 => ?_))
                      · exact absurd a6631 hq6625
                      · have hq6632 := a6631
                        refine lv_if_ne (tgt := 188) hx hb gX12_one_8.2.2.2.2.2.2.2.2.1 (by decide) (fun c9 => absurd (by decide) c9) (fun _ => ?_)
                        refine lv_aload_n hx hb gX12_one_8.2.2.2.2.2.2.2.2.2 rfl (lv_at3 hl) ?_
                        refine lv_bipush (v := 61) hx hb gX12_one_9.1 (by decide) ?_
                        refine pV hC hK hl hP hD (m_isSignX l G h0 61 nw nk mhasKept nt ktp nr mrowMany mroundOf mroundFrom mouts nm mfromHour mtoHour ns (NXT bt ktp vks) (nI jd) (nI kc) mlines nl nc nF np ntr nb mbestCost nso nsi nit nsh nsf nss nrc mtraced mdealer mnumber mwhose msize misParted fnt bt (htp) (by omega) (hFB)) si_X12_262 [2, 3] sm_2_3 fm_2_3 nd_2_3 rfl rfl rfl rfl rfl (Nat.le_of_ble_eq_true rfl) (rmT (Nat.le_of_ble_eq_true rfl) (Nat.le_of_ble_eq_true rfl)) ⟨by first | exact Nat.le_of_ble_eq_true rfl | exact Nat.zero_le _, by first | exact Nat.le_of_ble_eq_true rfl | exact Nat.zero_le _⟩ gX12_one_9.2.1 (Kors (Keqa fun a6634 => ?_) (Keqa fun a6634 => ?_))
                        · have hq6635 := a6634
                          have xl6636 := SGN.len hq6635 (by omega)
                          refine lv_if_ne (tgt := 188) hx hb gX12_one_9.2.2.1 (by decide) (fun _ => ?_) (fun c9 => absurd c9 (by decide))
                          refine lv_iconst (v := 1) hx hb gX12_one_9.2.2.2.2.2.2.2.1 (by decide) ?_
                          refine lv_goto (tgt := 193) hx hb gX12_one_9.2.2.2.2.2.2.2.2.1 (by decide) ?_
                          have hsg : SIG bt ktp (NXT bt ktp vks) = some 1 := SIG.e1 hq6632 hq6635
                          refine vV (wr := [(nc, iA G 100 fnc), (nF, sA G 5 (FCT K))]) hC hK hl hP hD hS hA (m_need1X l G h0 nw nk mhasKept nt ktp nr mrowMany mroundOf mroundFrom mouts nm mfromHour mtoHour ns (NXT bt ktp vks) (nI jd) (nI kc) mlines nl nc nF np ntr nb mbestCost nso nsi nit nsh nsf nss nrc mtraced mdealer mnumber mwhose msize misParted fnt bt (htp) (by omega) (hFB)) si_X12_236 [2, 3] [0, 1] sm_2_3 fm_2_3 nd_2_3 sm_0_1 nd_0_1 dj_2_3__0_1 rfl rfl rfl rfl rfl (Nat.le_of_ble_eq_true rfl) (rmT (Nat.le_of_ble_eq_true rfl) (Nat.le_of_ble_eq_true rfl)) ⟨Nat.le_of_ble_eq_true rfl, Nat.le_of_ble_eq_true rfl⟩ gX12_one_10.1 (fun u6638 H locs hr6637 hP hD hS => ?_)
                          refine Kpdr (ws := [(nc, iA G 100 fnc), (nF, sA G 5 (FCT K)), (h0, oX12 nw nk mhasKept nt (nI ktp) nr mrowMany mroundOf mroundFrom mouts nm mfromHour mtoHour ns (nI (NXT bt ktp (NXT bt ktp vks))) (nI (TKE bt ktp (NXT bt ktp (NXT bt ktp vks)))) (nI (TKN bt ktp (NXT bt ktp (NXT bt ktp vks)))) 0 (nI jd) (nI kc) mlines nl nc nF np ntr nb mbestCost nso nsi nit nsh nsf nss nrc mtraced mdealer mnumber mwhose msize misParted), (nt, iA G 240 fnt)]) hP hD (fun hP hD => ?_)
                          have xn6639 := NXT.ge (bt := bt) (n := ktp) (s := (NXT bt ktp vks)) (by omega)
                          refine lv_aload_n hx hb gX12_one_10.2.1 rfl (lv_at3 hl) ?_
                          refine lv_sipush (v := 999) hx hb gX12_one_10.2.2.1 (by decide) ?_
                          refine iV (wr := [(nc, iA G 100 fnc), (nF, sA G 5 (FCT K))]) hC hK hl hP hD hS hA (m_numberX l G h0 999 nw nk mhasKept nt ktp nr mrowMany mroundOf mroundFrom mouts nm mfromHour mtoHour ns (NXT bt ktp (NXT bt ktp vks)) (nI jd) (nI kc) mlines nl nc nF np ntr nb mbestCost nso nsi nit nsh nsf nss nrc mtraced mdealer mnumber mwhose msize misParted fnt bt (htp) (by omega) (hFB) (by omega)) si_X12_271 [2, 3] [0, 1] sm_2_3 fm_2_3 nd_2_3 sm_0_1 nd_0_1 dj_2_3__0_1 rfl rfl rfl rfl rfl (Nat.le_of_ble_eq_true rfl) (rmT (Nat.le_of_ble_eq_true rfl) (Nat.le_of_ble_eq_true rfl)) ⟨Nat.le_of_ble_eq_true rfl, Nat.le_of_ble_eq_true rfl⟩ gX12_one_10.2.2.2.1 (fun r6640 => Ktu2 fun ff16642 ks16643 => ?_)
                          intro H locs hr6640 hP hD hS
                          try dsimp only at hr6640
                          refine Kpdr (ws := [(nc, iA G 100 fnc), (nF, sA G 5 (FCT K)), (h0, oX12 nw nk mhasKept nt (nI ktp) nr mrowMany mroundOf mroundFrom mouts nm mfromHour mtoHour ns (nI ks16643) (nI (TKE bt ktp ks16643)) (nI (TKN bt ktp ks16643)) ff16642 (nI jd) (nI kc) mlines nl nc nF np ntr nb mbestCost nso nsi nit nsh nsf nss nrc mtraced mdealer mnumber mwhose msize misParted), (nt, iA G 240 fnt)]) hP hD (fun hP hD => ?_)
                          obtain ⟨hr6640, w6644⟩ := hr6640
                          rcases w6644 with v6645 | v6646
                          · obtain ⟨rfl, rfl, rfl, hq6647⟩ := v6645
                            have xl6648 := NML.len hq6647 (by omega)
                            refine lv_istore (lv' := [(4, .int (nI (NVL bt ktp (NXT bt ktp (NXT bt ktp vks))))), (3, .int 1), (2, .int (nI (FAV bt ktp vks))), (1, .int (nI vn)), (0, .ref h0)]) hx hb gX12_one_10.2.2.2.2.1 hl (by decide) rfl (fun ls hl => ?_)
                            refine lv_aload_n hx hb gX12_one_10.2.2.2.2.2.1 rfl (lv_at4 hl) ?_
                            refine lv_sipush (v := 3000) hx hb gX12_one_10.2.2.2.2.2.2.1 (by decide) ?_
                            refine lv_iload_n hx hb gX12_one_10.2.2.2.2.2.2.2.1 rfl (lv_at2 hl) ?_
                            refine lv_imul hx hb gX12_one_10.2.2.2.2.2.2.2.2.1 ?_
                            refine eqi (x1 := nI (3000 * (FAV bt ktp vks))) (nI_mul 3000 (FAV bt ktp vks)) ?_
                            refine lv_sipush (v := 1000) hx hb gX12_one_10.2.2.2.2.2.2.2.2.2 (by decide) ?_
                            refine lv_iload_n hx hb gX12_one_11.1 rfl (lv_at1 hl) ?_
                            refine lv_imul hx hb gX12_one_11.2.1 ?_
                            refine eqi (x1 := 1000) (by decide) ?_
                            refine lv_iadd hx hb gX12_one_11.2.2.1 ?_
                            refine eqi (x1 := nI (3000 * (FAV bt ktp vks) + 1000)) (nI_add (3000 * (FAV bt ktp vks)) 1000) ?_
                            refine lv_iload hx hb gX12_one_11.2.2.2.1 (lv_at0 hl) ?_
                            refine lv_iadd hx hb gX12_one_11.2.2.2.2.1 ?_
                            refine eqi (x1 := nI (3000 * (FAV bt ktp vks) + 1000 + (NVL bt ktp (NXT bt ktp (NXT bt ktp vks))))) (nI_add (3000 * (FAV bt ktp vks) + 1000) (NVL bt ktp (NXT bt ktp (NXT bt ktp vks)))) ?_
                            have hy9 := CMP.y hfs hsg (NML.of hq6647).1
                            have hcv : (CMP bt ktp vks).2.2 = (FAV bt ktp vks * 3 + 1) * 1000 + NVL bt ktp (NXT bt ktp (NXT bt ktp vks)) := congrArg (fun z9 => z9.2.2) hy9
                            have hcm : CMP bt ktp vks = (1, (NXT bt ktp (NXT bt ktp (NXT bt ktp vks))), (CMP bt ktp vks).2.2) := hy9.trans (congrArg (fun z9 => ((1 : Nat), (NXT bt ktp (NXT bt ktp (NXT bt ktp vks))), z9)) hcv.symm)
                            refine eqi (x1 := nI (CMP bt ktp vks).2.2) (congrArg nI (by rw [hcv]; omega)) ?_
                            refine vV (wr := [(nF, sA G 5 (FCT K)), (nt, iA G 240 fnt)]) hC hK hl hP hD hS hA (m_codes0 l G h0 (nI (CMP bt ktp vks).2.2) nw nk mhasKept nt (nI ktp) nr mrowMany mroundOf mroundFrom mouts nm mfromHour mtoHour ns (nI (NXT bt ktp (NXT bt ktp (NXT bt ktp vks)))) (nI (TKE bt ktp (NXT bt ktp (NXT bt ktp (NXT bt ktp vks))))) (nI (TKN bt ktp (NXT bt ktp (NXT bt ktp (NXT bt ktp vks))))) (nI jd) kc mlines nl nc nF np ntr nb mbestCost nso nsi nit nsh nsf nss nrc mtraced mdealer mnumber mwhose msize misParted fnc (by omega)) si_X12_252 [2, 0] [1, 3] sm_2_0 fm_2_0 nd_2_0 sm_1_3 nd_1_3 dj_2_0__1_3 rfl rfl rfl rfl rfl (Nat.le_of_ble_eq_true rfl) (rmT (Nat.le_of_ble_eq_true rfl) (Nat.le_of_ble_eq_true rfl)) ⟨Nat.le_of_ble_eq_true rfl, Nat.le_of_ble_eq_true rfl⟩ gX12_one_11.2.2.2.2.2.1 (fun u6650 H locs hr6649 hP hD hS => ?_)
                            refine Kpdr (ws := [(nF, sA G 5 (FCT K)), (nt, iA G 240 fnt), (h0, oX12 nw nk mhasKept nt (nI ktp) nr mrowMany mroundOf mroundFrom mouts nm mfromHour mtoHour ns (nI (NXT bt ktp (NXT bt ktp (NXT bt ktp vks)))) (nI (TKE bt ktp (NXT bt ktp (NXT bt ktp (NXT bt ktp vks))))) (nI (TKN bt ktp (NXT bt ktp (NXT bt ktp (NXT bt ktp vks))))) 0 (nI jd) (nI (kc + 1)) mlines nl nc nF np ntr nb mbestCost nso nsi nit nsh nsf nss nrc mtraced mdealer mnumber mwhose msize misParted), (nc, iA G 100 (upd fnc kc (nI (CMP bt ktp vks).2.2)))]) hP hD (fun hP hD => ?_)
                            refine lv_iconst (v := 0) hx hb gX12_one_11.2.2.2.2.2.2.1 (by decide) ?_
                            refine lv_istore_n (lv' := [(2, .int 0), (4, .int (nI (NVL bt ktp (NXT bt ktp (NXT bt ktp vks))))), (3, .int 1), (1, .int (nI vn)), (0, .ref h0)]) hx hb gX12_one_11.2.2.2.2.2.2.2.1 rfl hl (by decide) rfl (fun ls hl => ?_)
                            have keyN : ∀ (nN kN : Nat) (vC : Nat → Int32) (H : Heap) (locs : List Loc) (ls : Array Slot), kN + nN = vn → (STP ((kc + 1) + kN) vC ((rs ++ [nI (CMP bt ktp vks).2.2]) ++ List.replicate kN 30000)) → va_PD G A [(nF, sA G 5 (FCT K)), (nt, iA G 240 fnt), (h0, oX12 nw nk mhasKept nt (nI ktp) nr mrowMany mroundOf mroundFrom mouts nm mfromHour mtoHour ns (nI (NXT bt ktp (NXT bt ktp (NXT bt ktp vks)))) (nI (TKE bt ktp (NXT bt ktp (NXT bt ktp (NXT bt ktp vks))))) (nI (TKN bt ktp (NXT bt ktp (NXT bt ktp (NXT bt ktp vks))))) 0 (nI jd) (nI ((kc + 1) + kN)) mlines nl nc nF np ntr nb mbestCost nso nsi nit nsh nsf nss nrc mtraced mdealer mnumber mwhose msize misParted), (nc, iA G 100 vC)] H → va_S A s.heap H locs → lv_has ls 5 [(2, .int (nI kN)), (4, .int (nI (NVL bt ktp (NXT bt ktp (NXT bt ktp vks))))), (3, .int 1), (1, .int (nI vn)), (0, .ref h0)] → W p l e (RM (10 + 4 * mn) 0 0) s m ([.ref h0] : List Value).toArray below meth c H locs 0 0 Q0 (F0 m 225 ls []) := by
                              intro nN
                              induction nN with
                              | zero =>
                                intro kN vC H locs ls hkN hEx hPD hS hl
                                refine Kan2 hPD (fun hP hD => ?_)
                                obtain rfl : vn = kN := by omega
                                refine Kpdr (ws := [(nF, sA G 5 (FCT K)), (nt, iA G 240 fnt), (h0, oX12 nw nk mhasKept nt (nI ktp) nr mrowMany mroundOf mroundFrom mouts nm mfromHour mtoHour ns (nI (NXT bt ktp (NXT bt ktp (NXT bt ktp vks)))) (nI (TKE bt ktp (NXT bt ktp (NXT bt ktp (NXT bt ktp vks))))) (nI (TKN bt ktp (NXT bt ktp (NXT bt ktp (NXT bt ktp vks))))) 0 (nI jd) (nI ((kc + 1) + vn)) mlines nl nc nF np ntr nb mbestCost nso nsi nit nsh nsf nss nrc mtraced mdealer mnumber mwhose msize misParted), (nc, iA G 100 vC)]) hP hD (fun hP hD => ?_)
                                have hl : lv_has ls 5 [(2, .int (nI vn)), (4, .int (nI (NVL bt ktp (NXT bt ktp (NXT bt ktp vks))))), (3, .int 1), (1, .int (nI vn)), (0, .ref h0)] := hl
                                refine lv_iload_n hx hb gX12_one_11.2.2.2.2.2.2.2.2.1 rfl (lv_at0 hl) ?_
                                refine lv_iload_n hx hb gX12_one_11.2.2.2.2.2.2.2.2.2 rfl (lv_at3 hl) ?_
                                refine lv_icmp_ge (tgt := 243) hx hb gX12_one_12.1 (by decide) (fun _ => ?_) (fun c9 => absurd (Int32.le_refl _) c9)
                                refine toQ hQ0 ?_
                                exact RV hC hP hD hS [2, 1, 3, 0] (0, (NXT bt ktp (NXT bt ktp (NXT bt ktp vks))), ((kc + 1) + vn), vC, (cs ++ nI (CMP bt ktp vks).2.2 :: NOC vn), (rs ++ nI (CMP bt ktp vks).2.2 :: NTR vn)) rfl rfl (by decide) (Or.inl ⟨rfl, hco _ (RT.cmpO hq6510 hq6568 hcm), STP.cn hEx⟩) gX12_one_12.2.2.2.2.2.2
                              | succ nN ihN =>
                                intro kN vC H locs ls hkN hEx hPD hS hl
                                refine Kan2 hPD (fun hP hD => ?_)
                                refine lv_iload_n hx hb gX12_one_11.2.2.2.2.2.2.2.2.1 rfl (lv_at0 hl) ?_
                                refine lv_iload_n hx hb gX12_one_11.2.2.2.2.2.2.2.2.2 rfl (lv_at3 hl) ?_
                                refine lv_icmp_ge (tgt := 243) hx hb gX12_one_12.1 (by decide) (fun c9 => absurd c9 (nI_ge (a := kN) (b := vn) (by omega) (by omega))) (fun _ => ?_)
                                refine lv_aload_n hx hb gX12_one_12.2.1 rfl (lv_at4 hl) ?_
                                refine lv_sipush (v := 30000) hx hb gX12_one_12.2.2.1 (by decide) ?_
                                refine vV (wr := [(nF, sA G 5 (FCT K)), (nt, iA G 240 fnt)]) hC hK hl hP hD hS hA (m_codes0 l G h0 30000 nw nk mhasKept nt (nI ktp) nr mrowMany mroundOf mroundFrom mouts nm mfromHour mtoHour ns (nI (NXT bt ktp (NXT bt ktp (NXT bt ktp vks)))) (nI (TKE bt ktp (NXT bt ktp (NXT bt ktp (NXT bt ktp vks))))) (nI (TKN bt ktp (NXT bt ktp (NXT bt ktp (NXT bt ktp vks))))) (nI jd) ((kc + 1) + kN) mlines nl nc nF np ntr nb mbestCost nso nsi nit nsh nsf nss nrc mtraced mdealer mnumber mwhose msize misParted vC (by omega)) si_X12_252 [2, 3] [0, 1] sm_2_3 fm_2_3 nd_2_3 sm_0_1 nd_0_1 dj_2_3__0_1 rfl rfl rfl rfl rfl (Nat.le_of_ble_eq_true rfl) (rmT (Nat.le_of_ble_eq_true rfl) (Nat.le_of_ble_eq_true rfl)) ⟨Nat.le_of_ble_eq_true rfl, Nat.le_of_ble_eq_true rfl⟩ gX12_one_12.2.2.2.1 (fun u6652 H locs hr6651 hP hD hS => ?_)
                                refine Kpdr (ws := [(nF, sA G 5 (FCT K)), (nt, iA G 240 fnt), (h0, oX12 nw nk mhasKept nt (nI ktp) nr mrowMany mroundOf mroundFrom mouts nm mfromHour mtoHour ns (nI (NXT bt ktp (NXT bt ktp (NXT bt ktp vks)))) (nI (TKE bt ktp (NXT bt ktp (NXT bt ktp (NXT bt ktp vks))))) (nI (TKN bt ktp (NXT bt ktp (NXT bt ktp (NXT bt ktp vks))))) 0 (nI jd) (nI (((kc + 1) + kN) + 1)) mlines nl nc nF np ntr nb mbestCost nso nsi nit nsh nsf nss nrc mtraced mdealer mnumber mwhose msize misParted), (nc, iA G 100 (upd vC ((kc + 1) + kN) 30000))]) hP hD (fun hP hD => ?_)
                                refine lv_iinc (v := nI (kN + 1)) (lv' := [(2, .int (nI (kN + 1))), (4, .int (nI (NVL bt ktp (NXT bt ktp (NXT bt ktp vks))))), (3, .int 1), (1, .int (nI vn)), (0, .ref h0)]) hx hb gX12_one_12.2.2.2.2.1 hl (k := 0) rfl (nI_1 _) (by decide) rfl (fun ls hl => ?_)
                                refine lv_goto (tgt := 225) hx hb gX12_one_12.2.2.2.2.2.1 (by decide) ?_
                                exact ihN (kN + 1) (upd vC ((kc + 1) + kN) 30000) _ _ _ (by omega) (by first | assumption | exact Or.inl rfl | exact Or.inr rfl | exact STP.r0 (STP.push hST) | exact STP.rep hEx) (And.intro hP hD) hS (lv_sub hl [0, 1, 2, 3, 4] rfl)
                            exact keyN vn 0 (upd fnc kc (nI (CMP bt ktp vks).2.2)) _ _ _ (by omega) (by first | assumption | exact Or.inl rfl | exact Or.inr rfl | exact STP.r0 (STP.push hST) | exact STP.rep hEx) (And.intro hP hD) hS (lv_sub hl [0, 1, 2, 3, 4] rfl)
                          · obtain ⟨rfl, rfl, hq6653⟩ := v6646
                            refine lv_istore (lv' := [(4, .int r6640), (3, .int 1), (2, .int (nI (FAV bt ktp vks))), (1, .int (nI vn)), (0, .ref h0)]) hx hb gX12_one_10.2.2.2.2.1 hl (by decide) rfl (fun ls hl => ?_)
                            refine lv_aload_n hx hb gX12_one_10.2.2.2.2.2.1 rfl (lv_at4 hl) ?_
                            refine lv_sipush (v := 3000) hx hb gX12_one_10.2.2.2.2.2.2.1 (by decide) ?_
                            refine lv_iload_n hx hb gX12_one_10.2.2.2.2.2.2.2.1 rfl (lv_at2 hl) ?_
                            refine lv_imul hx hb gX12_one_10.2.2.2.2.2.2.2.2.1 ?_
                            refine eqi (x1 := nI (3000 * (FAV bt ktp vks))) (nI_mul 3000 (FAV bt ktp vks)) ?_
                            refine lv_sipush (v := 1000) hx hb gX12_one_10.2.2.2.2.2.2.2.2.2 (by decide) ?_
                            refine lv_iload_n hx hb gX12_one_11.1 rfl (lv_at1 hl) ?_
                            refine lv_imul hx hb gX12_one_11.2.1 ?_
                            refine eqi (x1 := 1000) (by decide) ?_
                            refine lv_iadd hx hb gX12_one_11.2.2.1 ?_
                            refine eqi (x1 := nI (3000 * (FAV bt ktp vks) + 1000)) (nI_add (3000 * (FAV bt ktp vks)) 1000) ?_
                            refine lv_iload hx hb gX12_one_11.2.2.2.1 (lv_at0 hl) ?_
                            refine lv_iadd hx hb gX12_one_11.2.2.2.2.1 ?_
                            refine vV (wr := [(nc, iA G 100 fnc), (nF, sA G 5 (FCT K)), (nt, iA G 240 fnt)]) hC hK hl hP hD hS hA (m_codesF l G h0 ((nI (3000 * (FAV bt ktp vks) + 1000)) + r6640) nw nk mhasKept nt (nI ktp) nr mrowMany mroundOf mroundFrom mouts nm mfromHour mtoHour ns (nI (NXT bt ktp (NXT bt ktp vks))) (nI (TKE bt ktp (NXT bt ktp (NXT bt ktp vks)))) (nI (TKN bt ktp (NXT bt ktp (NXT bt ktp vks)))) (nI jd) (nI kc) mlines nl nc nF np ntr nb mbestCost nso nsi nit nsh nsf nss nrc mtraced mdealer mnumber mwhose msize misParted) si_X12_252 [2] [0, 1, 3] sm_2 fm_2 nd_2 sm_0_1_3 nd_0_1_3 dj_2__0_1_3 rfl rfl rfl rfl rfl (Nat.le_of_ble_eq_true rfl) (rmT (Nat.le_of_ble_eq_true rfl) (Nat.le_of_ble_eq_true rfl)) ⟨Nat.le_of_ble_eq_true rfl, Nat.le_of_ble_eq_true rfl⟩ gX12_one_11.2.2.2.2.2.1 (fun u6655 H locs hr6654 hP hD hS => ?_)
                            refine Kpdr (ws := [(nc, iA G 100 fnc), (nF, sA G 5 (FCT K)), (nt, iA G 240 fnt), (h0, oX12 nw nk mhasKept nt (nI ktp) nr mrowMany mroundOf mroundFrom mouts nm mfromHour mtoHour ns (nI (NXT bt ktp (NXT bt ktp vks))) (nI (TKE bt ktp (NXT bt ktp (NXT bt ktp vks)))) (nI (TKN bt ktp (NXT bt ktp (NXT bt ktp vks)))) 1 (nI jd) (nI kc) mlines nl nc nF np ntr nb mbestCost nso nsi nit nsh nsf nss nrc mtraced mdealer mnumber mwhose msize misParted)]) hP hD (fun hP hD => ?_)
                            refine lv_iconst (v := 0) hx hb gX12_one_11.2.2.2.2.2.2.1 (by decide) ?_
                            refine lv_istore_n (lv' := [(2, .int 0), (4, .int r6640), (3, .int 1), (1, .int (nI vn)), (0, .ref h0)]) hx hb gX12_one_11.2.2.2.2.2.2.2.1 rfl hl (by decide) rfl (fun ls hl => ?_)
                            have keyN : ∀ (nN kN : Nat) (H : Heap) (locs : List Loc) (ls : Array Slot), kN + nN = vn → va_PD G A [(nc, iA G 100 fnc), (nF, sA G 5 (FCT K)), (nt, iA G 240 fnt), (h0, oX12 nw nk mhasKept nt (nI ktp) nr mrowMany mroundOf mroundFrom mouts nm mfromHour mtoHour ns (nI (NXT bt ktp (NXT bt ktp vks))) (nI (TKE bt ktp (NXT bt ktp (NXT bt ktp vks)))) (nI (TKN bt ktp (NXT bt ktp (NXT bt ktp vks)))) 1 (nI jd) (nI kc) mlines nl nc nF np ntr nb mbestCost nso nsi nit nsh nsf nss nrc mtraced mdealer mnumber mwhose msize misParted)] H → va_S A s.heap H locs → lv_has ls 5 [(2, .int (nI kN)), (4, .int r6640), (3, .int 1), (1, .int (nI vn)), (0, .ref h0)] → W p l e (RM (10 + 4 * mn) 0 0) s m ([.ref h0] : List Value).toArray below meth c H locs 0 0 Q0 (F0 m 225 ls []) := by
                              intro nN
                              induction nN with
                              | zero =>
                                intro kN H locs ls hkN hPD hS hl
                                refine Kan2 hPD (fun hP hD => ?_)
                                obtain rfl : vn = kN := by omega
                                have hl : lv_has ls 5 [(2, .int (nI vn)), (4, .int r6640), (3, .int 1), (1, .int (nI vn)), (0, .ref h0)] := hl
                                refine lv_iload_n hx hb gX12_one_11.2.2.2.2.2.2.2.2.1 rfl (lv_at0 hl) ?_
                                refine lv_iload_n hx hb gX12_one_11.2.2.2.2.2.2.2.2.2 rfl (lv_at3 hl) ?_
                                refine lv_icmp_ge (tgt := 243) hx hb gX12_one_12.1 (by decide) (fun _ => ?_) (fun c9 => absurd (Int32.le_refl _) c9)
                                refine toQ hQ0 ?_
                                exact RV hC hP hD hS [3, 2, 0, 1] (1, (NXT bt ktp (NXT bt ktp vks)), kc, fnc, [], []) rfl rfl (by decide) (Or.inr ⟨rfl, hco _ (RT.cmpF hq6510 hq6568 (CMP.f3 hfs hsg (NML.no hq6653 (by omega)))), by (try dsimp only); omega⟩) gX12_one_12.2.2.2.2.2.2
                              | succ nN ihN =>
                                intro kN H locs ls hkN hPD hS hl
                                refine Kan2 hPD (fun hP hD => ?_)
                                refine lv_iload_n hx hb gX12_one_11.2.2.2.2.2.2.2.2.1 rfl (lv_at0 hl) ?_
                                refine lv_iload_n hx hb gX12_one_11.2.2.2.2.2.2.2.2.2 rfl (lv_at3 hl) ?_
                                refine lv_icmp_ge (tgt := 243) hx hb gX12_one_12.1 (by decide) (fun c9 => absurd c9 (nI_ge (a := kN) (b := vn) (by omega) (by omega))) (fun _ => ?_)
                                refine lv_aload_n hx hb gX12_one_12.2.1 rfl (lv_at4 hl) ?_
                                refine lv_sipush (v := 30000) hx hb gX12_one_12.2.2.1 (by decide) ?_
                                refine vV (wr := [(nc, iA G 100 fnc), (nF, sA G 5 (FCT K)), (nt, iA G 240 fnt)]) hC hK hl hP hD hS hA (m_codesF l G h0 30000 nw nk mhasKept nt (nI ktp) nr mrowMany mroundOf mroundFrom mouts nm mfromHour mtoHour ns (nI (NXT bt ktp (NXT bt ktp vks))) (nI (TKE bt ktp (NXT bt ktp (NXT bt ktp vks)))) (nI (TKN bt ktp (NXT bt ktp (NXT bt ktp vks)))) (nI jd) (nI kc) mlines nl nc nF np ntr nb mbestCost nso nsi nit nsh nsf nss nrc mtraced mdealer mnumber mwhose msize misParted) si_X12_252 [3] [0, 1, 2] sm_3 fm_3 nd_3 sm_0_1_2 nd_0_1_2 dj_3__0_1_2 rfl rfl rfl rfl rfl (Nat.le_of_ble_eq_true rfl) (rmT (Nat.le_of_ble_eq_true rfl) (Nat.le_of_ble_eq_true rfl)) ⟨Nat.le_of_ble_eq_true rfl, Nat.le_of_ble_eq_true rfl⟩ gX12_one_12.2.2.2.1 (fun u6657 H locs hr6656 hP hD hS => ?_)
                                refine Kpdr (ws := [(nc, iA G 100 fnc), (nF, sA G 5 (FCT K)), (nt, iA G 240 fnt), (h0, oX12 nw nk mhasKept nt (nI ktp) nr mrowMany mroundOf mroundFrom mouts nm mfromHour mtoHour ns (nI (NXT bt ktp (NXT bt ktp vks))) (nI (TKE bt ktp (NXT bt ktp (NXT bt ktp vks)))) (nI (TKN bt ktp (NXT bt ktp (NXT bt ktp vks)))) 1 (nI jd) (nI kc) mlines nl nc nF np ntr nb mbestCost nso nsi nit nsh nsf nss nrc mtraced mdealer mnumber mwhose msize misParted)]) hP hD (fun hP hD => ?_)
                                refine lv_iinc (v := nI (kN + 1)) (lv' := [(2, .int (nI (kN + 1))), (4, .int r6640), (3, .int 1), (1, .int (nI vn)), (0, .ref h0)]) hx hb gX12_one_12.2.2.2.2.1 hl (k := 0) rfl (nI_1 _) (by decide) rfl (fun ls hl => ?_)
                                refine lv_goto (tgt := 225) hx hb gX12_one_12.2.2.2.2.2.1 (by decide) ?_
                                exact ihN (kN + 1) _ _ _ (by omega) (And.intro hP hD) hS (lv_sub hl [0, 1, 2, 3, 4] rfl)
                            exact keyN vn 0 _ _ _ (by omega) (And.intro hP hD) hS (lv_sub hl [0, 1, 2, 3, 4] rfl)
                        · exact absurd hq6628 a6634
                    · have hq6658 := a6627
                      refine lv_if_eq (tgt := 158) hx hb gX12_one_7.2.2.2.2.2.2.2.2.2 (by decide) (fun _ => ?_) (fun c9 => absurd (by decide) c9)
                      refine lv_iconst (v := 2) hx hb gX12_one_8.2.2.1 (by decide) ?_
                      refine lv_istore_n (lv' := [(3, .int 2), (2, .int (nI (FAV bt ktp vks))), (1, .int (nI vn)), (0, .ref h0)]) hx hb gX12_one_8.2.2.2.1 rfl hl (by decide) rfl (fun ls hl => ?_)
                      refine lv_aload_n hx hb gX12_one_8.2.2.2.2.1 rfl (lv_at3 hl) ?_
                      refine lv_aload_n hx hb gX12_one_8.2.2.2.2.2.1 rfl (lv_at3 hl) ?_
                      refine lv_bipush (v := 60) hx hb gX12_one_8.2.2.2.2.2.2.1 (by decide) ?_
                      refine pV hC hK hl hP hD (m_isSignX l G h0 60 nw nk mhasKept nt ktp nr mrowMany mroundOf mroundFrom mouts nm mfromHour mtoHour ns (NXT bt ktp vks) (nI jd) (nI kc) mlines nl nc nF np ntr nb mbestCost nso nsi nit nsh nsf nss nrc mtraced mdealer mnumber mwhose msize misParted fnt bt (htp) (by omega) (hFB)) si_X12_262 [2, 3] sm_2_3 fm_2_3 nd_2_3 rfl rfl rfl rfl rfl (Nat.le_of_ble_eq_true rfl) (rmT (Nat.le_of_ble_eq_true rfl) (Nat.le_of_ble_eq_true rfl)) ⟨by first | exact Nat.le_of_ble_eq_true rfl | exact Nat.zero_le _, by first | exact Nat.le_of_ble_eq_true rfl | exact Nat.zero_le _⟩ gX12_one_8.2.2.2.2.2.2.2.1 (Kors (Keqa fun a6660 => ?_) (Keqa fun a6660 => ?_))
                      · exact absurd a6660 hq6625
                      · have hq6661 := a6660
                        refine lv_if_ne (tgt := 188) hx hb gX12_one_8.2.2.2.2.2.2.2.2.1 (by decide) (fun c9 => absurd (by decide) c9) (fun _ => ?_)
                        refine lv_aload_n hx hb gX12_one_8.2.2.2.2.2.2.2.2.2 rfl (lv_at3 hl) ?_
                        refine lv_bipush (v := 61) hx hb gX12_one_9.1 (by decide) ?_
                        refine pV hC hK hl hP hD (m_isSignX l G h0 61 nw nk mhasKept nt ktp nr mrowMany mroundOf mroundFrom mouts nm mfromHour mtoHour ns (NXT bt ktp vks) (nI jd) (nI kc) mlines nl nc nF np ntr nb mbestCost nso nsi nit nsh nsf nss nrc mtraced mdealer mnumber mwhose msize misParted fnt bt (htp) (by omega) (hFB)) si_X12_262 [2, 3] sm_2_3 fm_2_3 nd_2_3 rfl rfl rfl rfl rfl (Nat.le_of_ble_eq_true rfl) (rmT (Nat.le_of_ble_eq_true rfl) (Nat.le_of_ble_eq_true rfl)) ⟨by first | exact Nat.le_of_ble_eq_true rfl | exact Nat.zero_le _, by first | exact Nat.le_of_ble_eq_true rfl | exact Nat.zero_le _⟩ gX12_one_9.2.1 (Kors (Keqa fun a6663 => ?_) (Keqa fun a6663 => ?_))
                        · exact absurd a6663 hq6658
                        · have hq6664 := a6663
                          refine lv_if_ne (tgt := 188) hx hb gX12_one_9.2.2.1 (by decide) (fun c9 => absurd (by decide) c9) (fun _ => ?_)
                          refine lv_aload_n hx hb gX12_one_9.2.2.2.1 rfl (lv_at3 hl) ?_
                          refine lv_bipush (v := 62) hx hb gX12_one_9.2.2.2.2.1 (by decide) ?_
                          refine pV hC hK hl hP hD (m_isSignX l G h0 62 nw nk mhasKept nt ktp nr mrowMany mroundOf mroundFrom mouts nm mfromHour mtoHour ns (NXT bt ktp vks) (nI jd) (nI kc) mlines nl nc nF np ntr nb mbestCost nso nsi nit nsh nsf nss nrc mtraced mdealer mnumber mwhose msize misParted fnt bt (htp) (by omega) (hFB)) si_X12_262 [2, 3] sm_2_3 fm_2_3 nd_2_3 rfl rfl rfl rfl rfl (Nat.le_of_ble_eq_true rfl) (rmT (Nat.le_of_ble_eq_true rfl) (Nat.le_of_ble_eq_true rfl)) ⟨by first | exact Nat.le_of_ble_eq_true rfl | exact Nat.zero_le _, by first | exact Nat.le_of_ble_eq_true rfl | exact Nat.zero_le _⟩ gX12_one_9.2.2.2.2.2.1 (Kors (Keqa fun a6666 => ?_) (Keqa fun a6666 => ?_))
                          · have hq6667 := a6666
                            have xl6668 := SGN.len hq6667 (by omega)
                            refine lv_if_eq (tgt := 192) hx hb gX12_one_9.2.2.2.2.2.2.1 (by decide) (fun c9 => absurd c9 (by decide)) (fun _ => ?_)
                            refine lv_iconst (v := 1) hx hb gX12_one_9.2.2.2.2.2.2.2.1 (by decide) ?_
                            refine lv_goto (tgt := 193) hx hb gX12_one_9.2.2.2.2.2.2.2.2.1 (by decide) ?_
                            have hsg : SIG bt ktp (NXT bt ktp vks) = some 2 := SIG.e2 hq6661 hq6664 hq6667
                            refine vV (wr := [(nc, iA G 100 fnc), (nF, sA G 5 (FCT K))]) hC hK hl hP hD hS hA (m_need1X l G h0 nw nk mhasKept nt ktp nr mrowMany mroundOf mroundFrom mouts nm mfromHour mtoHour ns (NXT bt ktp vks) (nI jd) (nI kc) mlines nl nc nF np ntr nb mbestCost nso nsi nit nsh nsf nss nrc mtraced mdealer mnumber mwhose msize misParted fnt bt (htp) (by omega) (hFB)) si_X12_236 [2, 3] [0, 1] sm_2_3 fm_2_3 nd_2_3 sm_0_1 nd_0_1 dj_2_3__0_1 rfl rfl rfl rfl rfl (Nat.le_of_ble_eq_true rfl) (rmT (Nat.le_of_ble_eq_true rfl) (Nat.le_of_ble_eq_true rfl)) ⟨Nat.le_of_ble_eq_true rfl, Nat.le_of_ble_eq_true rfl⟩ gX12_one_10.1 (fun u6670 H locs hr6669 hP hD hS => ?_)
                            refine Kpdr (ws := [(nc, iA G 100 fnc), (nF, sA G 5 (FCT K)), (h0, oX12 nw nk mhasKept nt (nI ktp) nr mrowMany mroundOf mroundFrom mouts nm mfromHour mtoHour ns (nI (NXT bt ktp (NXT bt ktp vks))) (nI (TKE bt ktp (NXT bt ktp (NXT bt ktp vks)))) (nI (TKN bt ktp (NXT bt ktp (NXT bt ktp vks)))) 0 (nI jd) (nI kc) mlines nl nc nF np ntr nb mbestCost nso nsi nit nsh nsf nss nrc mtraced mdealer mnumber mwhose msize misParted), (nt, iA G 240 fnt)]) hP hD (fun hP hD => ?_)
                            have xn6671 := NXT.ge (bt := bt) (n := ktp) (s := (NXT bt ktp vks)) (by omega)
                            refine lv_aload_n hx hb gX12_one_10.2.1 rfl (lv_at3 hl) ?_
                            refine lv_sipush (v := 999) hx hb gX12_one_10.2.2.1 (by decide) ?_
                            refine iV (wr := [(nc, iA G 100 fnc), (nF, sA G 5 (FCT K))]) hC hK hl hP hD hS hA (m_numberX l G h0 999 nw nk mhasKept nt ktp nr mrowMany mroundOf mroundFrom mouts nm mfromHour mtoHour ns (NXT bt ktp (NXT bt ktp vks)) (nI jd) (nI kc) mlines nl nc nF np ntr nb mbestCost nso nsi nit nsh nsf nss nrc mtraced mdealer mnumber mwhose msize misParted fnt bt (htp) (by omega) (hFB) (by omega)) si_X12_271 [2, 3] [0, 1] sm_2_3 fm_2_3 nd_2_3 sm_0_1 nd_0_1 dj_2_3__0_1 rfl rfl rfl rfl rfl (Nat.le_of_ble_eq_true rfl) (rmT (Nat.le_of_ble_eq_true rfl) (Nat.le_of_ble_eq_true rfl)) ⟨Nat.le_of_ble_eq_true rfl, Nat.le_of_ble_eq_true rfl⟩ gX12_one_10.2.2.2.1 (fun r6672 => Ktu2 fun ff16674 ks16675 => ?_)
                            intro H locs hr6672 hP hD hS
                            try dsimp only at hr6672
                            refine Kpdr (ws := [(nc, iA G 100 fnc), (nF, sA G 5 (FCT K)), (h0, oX12 nw nk mhasKept nt (nI ktp) nr mrowMany mroundOf mroundFrom mouts nm mfromHour mtoHour ns (nI ks16675) (nI (TKE bt ktp ks16675)) (nI (TKN bt ktp ks16675)) ff16674 (nI jd) (nI kc) mlines nl nc nF np ntr nb mbestCost nso nsi nit nsh nsf nss nrc mtraced mdealer mnumber mwhose msize misParted), (nt, iA G 240 fnt)]) hP hD (fun hP hD => ?_)
                            obtain ⟨hr6672, w6676⟩ := hr6672
                            rcases w6676 with v6677 | v6678
                            · obtain ⟨rfl, rfl, rfl, hq6679⟩ := v6677
                              have xl6680 := NML.len hq6679 (by omega)
                              refine lv_istore (lv' := [(4, .int (nI (NVL bt ktp (NXT bt ktp (NXT bt ktp vks))))), (3, .int 2), (2, .int (nI (FAV bt ktp vks))), (1, .int (nI vn)), (0, .ref h0)]) hx hb gX12_one_10.2.2.2.2.1 hl (by decide) rfl (fun ls hl => ?_)
                              refine lv_aload_n hx hb gX12_one_10.2.2.2.2.2.1 rfl (lv_at4 hl) ?_
                              refine lv_sipush (v := 3000) hx hb gX12_one_10.2.2.2.2.2.2.1 (by decide) ?_
                              refine lv_iload_n hx hb gX12_one_10.2.2.2.2.2.2.2.1 rfl (lv_at2 hl) ?_
                              refine lv_imul hx hb gX12_one_10.2.2.2.2.2.2.2.2.1 ?_
                              refine eqi (x1 := nI (3000 * (FAV bt ktp vks))) (nI_mul 3000 (FAV bt ktp vks)) ?_
                              refine lv_sipush (v := 1000) hx hb gX12_one_10.2.2.2.2.2.2.2.2.2 (by decide) ?_
                              refine lv_iload_n hx hb gX12_one_11.1 rfl (lv_at1 hl) ?_
                              refine lv_imul hx hb gX12_one_11.2.1 ?_
                              refine eqi (x1 := 2000) (by decide) ?_
                              refine lv_iadd hx hb gX12_one_11.2.2.1 ?_
                              refine eqi (x1 := nI (3000 * (FAV bt ktp vks) + 2000)) (nI_add (3000 * (FAV bt ktp vks)) 2000) ?_
                              refine lv_iload hx hb gX12_one_11.2.2.2.1 (lv_at0 hl) ?_
                              refine lv_iadd hx hb gX12_one_11.2.2.2.2.1 ?_
                              refine eqi (x1 := nI (3000 * (FAV bt ktp vks) + 2000 + (NVL bt ktp (NXT bt ktp (NXT bt ktp vks))))) (nI_add (3000 * (FAV bt ktp vks) + 2000) (NVL bt ktp (NXT bt ktp (NXT bt ktp vks)))) ?_
                              have hy9 := CMP.y hfs hsg (NML.of hq6679).1
                              have hcv : (CMP bt ktp vks).2.2 = (FAV bt ktp vks * 3 + 2) * 1000 + NVL bt ktp (NXT bt ktp (NXT bt ktp vks)) := congrArg (fun z9 => z9.2.2) hy9
                              have hcm : CMP bt ktp vks = (1, (NXT bt ktp (NXT bt ktp (NXT bt ktp vks))), (CMP bt ktp vks).2.2) := hy9.trans (congrArg (fun z9 => ((1 : Nat), (NXT bt ktp (NXT bt ktp (NXT bt ktp vks))), z9)) hcv.symm)
                              refine eqi (x1 := nI (CMP bt ktp vks).2.2) (congrArg nI (by rw [hcv]; omega)) ?_
                              refine vV (wr := [(nF, sA G 5 (FCT K)), (nt, iA G 240 fnt)]) hC hK hl hP hD hS hA (m_codes0 l G h0 (nI (CMP bt ktp vks).2.2) nw nk mhasKept nt (nI ktp) nr mrowMany mroundOf mroundFrom mouts nm mfromHour mtoHour ns (nI (NXT bt ktp (NXT bt ktp (NXT bt ktp vks)))) (nI (TKE bt ktp (NXT bt ktp (NXT bt ktp (NXT bt ktp vks))))) (nI (TKN bt ktp (NXT bt ktp (NXT bt ktp (NXT bt ktp vks))))) (nI jd) kc mlines nl nc nF np ntr nb mbestCost nso nsi nit nsh nsf nss nrc mtraced mdealer mnumber mwhose msize misParted fnc (by omega)) si_X12_252 [2, 0] [1, 3] sm_2_0 fm_2_0 nd_2_0 sm_1_3 nd_1_3 dj_2_0__1_3 rfl rfl rfl rfl rfl (Nat.le_of_ble_eq_true rfl) (rmT (Nat.le_of_ble_eq_true rfl) (Nat.le_of_ble_eq_true rfl)) ⟨Nat.le_of_ble_eq_true rfl, Nat.le_of_ble_eq_true rfl⟩ gX12_one_11.2.2.2.2.2.1 (fun u6682 H locs hr6681 hP hD hS => ?_)
                              refine Kpdr (ws := [(nF, sA G 5 (FCT K)), (nt, iA G 240 fnt), (h0, oX12 nw nk mhasKept nt (nI ktp) nr mrowMany mroundOf mroundFrom mouts nm mfromHour mtoHour ns (nI (NXT bt ktp (NXT bt ktp (NXT bt ktp vks)))) (nI (TKE bt ktp (NXT bt ktp (NXT bt ktp (NXT bt ktp vks))))) (nI (TKN bt ktp (NXT bt ktp (NXT bt ktp (NXT bt ktp vks))))) 0 (nI jd) (nI (kc + 1)) mlines nl nc nF np ntr nb mbestCost nso nsi nit nsh nsf nss nrc mtraced mdealer mnumber mwhose msize misParted), (nc, iA G 100 (upd fnc kc (nI (CMP bt ktp vks).2.2)))]) hP hD (fun hP hD => ?_)
                              refine lv_iconst (v := 0) hx hb gX12_one_11.2.2.2.2.2.2.1 (by decide) ?_
                              refine lv_istore_n (lv' := [(2, .int 0), (4, .int (nI (NVL bt ktp (NXT bt ktp (NXT bt ktp vks))))), (3, .int 2), (1, .int (nI vn)), (0, .ref h0)]) hx hb gX12_one_11.2.2.2.2.2.2.2.1 rfl hl (by decide) rfl (fun ls hl => ?_)
                              have keyN : ∀ (nN kN : Nat) (vC : Nat → Int32) (H : Heap) (locs : List Loc) (ls : Array Slot), kN + nN = vn → (STP ((kc + 1) + kN) vC ((rs ++ [nI (CMP bt ktp vks).2.2]) ++ List.replicate kN 30000)) → va_PD G A [(nF, sA G 5 (FCT K)), (nt, iA G 240 fnt), (h0, oX12 nw nk mhasKept nt (nI ktp) nr mrowMany mroundOf mroundFrom mouts nm mfromHour mtoHour ns (nI (NXT bt ktp (NXT bt ktp (NXT bt ktp vks)))) (nI (TKE bt ktp (NXT bt ktp (NXT bt ktp (NXT bt ktp vks))))) (nI (TKN bt ktp (NXT bt ktp (NXT bt ktp (NXT bt ktp vks))))) 0 (nI jd) (nI ((kc + 1) + kN)) mlines nl nc nF np ntr nb mbestCost nso nsi nit nsh nsf nss nrc mtraced mdealer mnumber mwhose msize misParted), (nc, iA G 100 vC)] H → va_S A s.heap H locs → lv_has ls 5 [(2, .int (nI kN)), (4, .int (nI (NVL bt ktp (NXT bt ktp (NXT bt ktp vks))))), (3, .int 2), (1, .int (nI vn)), (0, .ref h0)] → W p l e (RM (10 + 4 * mn) 0 0) s m ([.ref h0] : List Value).toArray below meth c H locs 0 0 Q0 (F0 m 225 ls []) := by
                                intro nN
                                induction nN with
                                | zero =>
                                  intro kN vC H locs ls hkN hEx hPD hS hl
                                  refine Kan2 hPD (fun hP hD => ?_)
                                  obtain rfl : vn = kN := by omega
                                  refine Kpdr (ws := [(nF, sA G 5 (FCT K)), (nt, iA G 240 fnt), (h0, oX12 nw nk mhasKept nt (nI ktp) nr mrowMany mroundOf mroundFrom mouts nm mfromHour mtoHour ns (nI (NXT bt ktp (NXT bt ktp (NXT bt ktp vks)))) (nI (TKE bt ktp (NXT bt ktp (NXT bt ktp (NXT bt ktp vks))))) (nI (TKN bt ktp (NXT bt ktp (NXT bt ktp (NXT bt ktp vks))))) 0 (nI jd) (nI ((kc + 1) + vn)) mlines nl nc nF np ntr nb mbestCost nso nsi nit nsh nsf nss nrc mtraced mdealer mnumber mwhose msize misParted), (nc, iA G 100 vC)]) hP hD (fun hP hD => ?_)
                                  have hl : lv_has ls 5 [(2, .int (nI vn)), (4, .int (nI (NVL bt ktp (NXT bt ktp (NXT bt ktp vks))))), (3, .int 2), (1, .int (nI vn)), (0, .ref h0)] := hl
                                  refine lv_iload_n hx hb gX12_one_11.2.2.2.2.2.2.2.2.1 rfl (lv_at0 hl) ?_
                                  refine lv_iload_n hx hb gX12_one_11.2.2.2.2.2.2.2.2.2 rfl (lv_at3 hl) ?_
                                  refine lv_icmp_ge (tgt := 243) hx hb gX12_one_12.1 (by decide) (fun _ => ?_) (fun c9 => absurd (Int32.le_refl _) c9)
                                  refine toQ hQ0 ?_
                                  exact RV hC hP hD hS [2, 1, 3, 0] (0, (NXT bt ktp (NXT bt ktp (NXT bt ktp vks))), ((kc + 1) + vn), vC, (cs ++ nI (CMP bt ktp vks).2.2 :: NOC vn), (rs ++ nI (CMP bt ktp vks).2.2 :: NTR vn)) rfl rfl (by decide) (Or.inl ⟨rfl, hco _ (RT.cmpO hq6510 hq6568 hcm), STP.cn hEx⟩) gX12_one_12.2.2.2.2.2.2
                                | succ nN ihN =>
                                  intro kN vC H locs ls hkN hEx hPD hS hl
                                  refine Kan2 hPD (fun hP hD => ?_)
                                  refine lv_iload_n hx hb gX12_one_11.2.2.2.2.2.2.2.2.1 rfl (lv_at0 hl) ?_
                                  refine lv_iload_n hx hb gX12_one_11.2.2.2.2.2.2.2.2.2 rfl (lv_at3 hl) ?_
                                  refine lv_icmp_ge (tgt := 243) hx hb gX12_one_12.1 (by decide) (fun c9 => absurd c9 (nI_ge (a := kN) (b := vn) (by omega) (by omega))) (fun _ => ?_)
                                  refine lv_aload_n hx hb gX12_one_12.2.1 rfl (lv_at4 hl) ?_
                                  refine lv_sipush (v := 30000) hx hb gX12_one_12.2.2.1 (by decide) ?_
                                  refine vV (wr := [(nF, sA G 5 (FCT K)), (nt, iA G 240 fnt)]) hC hK hl hP hD hS hA (m_codes0 l G h0 30000 nw nk mhasKept nt (nI ktp) nr mrowMany mroundOf mroundFrom mouts nm mfromHour mtoHour ns (nI (NXT bt ktp (NXT bt ktp (NXT bt ktp vks)))) (nI (TKE bt ktp (NXT bt ktp (NXT bt ktp (NXT bt ktp vks))))) (nI (TKN bt ktp (NXT bt ktp (NXT bt ktp (NXT bt ktp vks))))) (nI jd) ((kc + 1) + kN) mlines nl nc nF np ntr nb mbestCost nso nsi nit nsh nsf nss nrc mtraced mdealer mnumber mwhose msize misParted vC (by omega)) si_X12_252 [2, 3] [0, 1] sm_2_3 fm_2_3 nd_2_3 sm_0_1 nd_0_1 dj_2_3__0_1 rfl rfl rfl rfl rfl (Nat.le_of_ble_eq_true rfl) (rmT (Nat.le_of_ble_eq_true rfl) (Nat.le_of_ble_eq_true rfl)) ⟨Nat.le_of_ble_eq_true rfl, Nat.le_of_ble_eq_true rfl⟩ gX12_one_12.2.2.2.1 (fun u6684 H locs hr6683 hP hD hS => ?_)
                                  refine Kpdr (ws := [(nF, sA G 5 (FCT K)), (nt, iA G 240 fnt), (h0, oX12 nw nk mhasKept nt (nI ktp) nr mrowMany mroundOf mroundFrom mouts nm mfromHour mtoHour ns (nI (NXT bt ktp (NXT bt ktp (NXT bt ktp vks)))) (nI (TKE bt ktp (NXT bt ktp (NXT bt ktp (NXT bt ktp vks))))) (nI (TKN bt ktp (NXT bt ktp (NXT bt ktp (NXT bt ktp vks))))) 0 (nI jd) (nI (((kc + 1) + kN) + 1)) mlines nl nc nF np ntr nb mbestCost nso nsi nit nsh nsf nss nrc mtraced mdealer mnumber mwhose msize misParted), (nc, iA G 100 (upd vC ((kc + 1) + kN) 30000))]) hP hD (fun hP hD => ?_)
                                  refine lv_iinc (v := nI (kN + 1)) (lv' := [(2, .int (nI (kN + 1))), (4, .int (nI (NVL bt ktp (NXT bt ktp (NXT bt ktp vks))))), (3, .int 2), (1, .int (nI vn)), (0, .ref h0)]) hx hb gX12_one_12.2.2.2.2.1 hl (k := 0) rfl (nI_1 _) (by decide) rfl (fun ls hl => ?_)
                                  refine lv_goto (tgt := 225) hx hb gX12_one_12.2.2.2.2.2.1 (by decide) ?_
                                  exact ihN (kN + 1) (upd vC ((kc + 1) + kN) 30000) _ _ _ (by omega) (by first | assumption | exact Or.inl rfl | exact Or.inr rfl | exact STP.r0 (STP.push hST) | exact STP.rep hEx) (And.intro hP hD) hS (lv_sub hl [0, 1, 2, 3, 4] rfl)
                              exact keyN vn 0 (upd fnc kc (nI (CMP bt ktp vks).2.2)) _ _ _ (by omega) (by first | assumption | exact Or.inl rfl | exact Or.inr rfl | exact STP.r0 (STP.push hST) | exact STP.rep hEx) (And.intro hP hD) hS (lv_sub hl [0, 1, 2, 3, 4] rfl)
                            · obtain ⟨rfl, rfl, hq6685⟩ := v6678
                              refine lv_istore (lv' := [(4, .int r6672), (3, .int 2), (2, .int (nI (FAV bt ktp vks))), (1, .int (nI vn)), (0, .ref h0)]) hx hb gX12_one_10.2.2.2.2.1 hl (by decide) rfl (fun ls hl => ?_)
                              refine lv_aload_n hx hb gX12_one_10.2.2.2.2.2.1 rfl (lv_at4 hl) ?_
                              refine lv_sipush (v := 3000) hx hb gX12_one_10.2.2.2.2.2.2.1 (by decide) ?_
                              refine lv_iload_n hx hb gX12_one_10.2.2.2.2.2.2.2.1 rfl (lv_at2 hl) ?_
                              refine lv_imul hx hb gX12_one_10.2.2.2.2.2.2.2.2.1 ?_
                              refine eqi (x1 := nI (3000 * (FAV bt ktp vks))) (nI_mul 3000 (FAV bt ktp vks)) ?_
                              refine lv_sipush (v := 1000) hx hb gX12_one_10.2.2.2.2.2.2.2.2.2 (by decide) ?_
                              refine lv_iload_n hx hb gX12_one_11.1 rfl (lv_at1 hl) ?_
                              refine lv_imul hx hb gX12_one_11.2.1 ?_
                              refine eqi (x1 := 2000) (by decide) ?_
                              refine lv_iadd hx hb gX12_one_11.2.2.1 ?_
                              refine eqi (x1 := nI (3000 * (FAV bt ktp vks) + 2000)) (nI_add (3000 * (FAV bt ktp vks)) 2000) ?_
                              refine lv_iload hx hb gX12_one_11.2.2.2.1 (lv_at0 hl) ?_
                              refine lv_iadd hx hb gX12_one_11.2.2.2.2.1 ?_
                              refine vV (wr := [(nc, iA G 100 fnc), (nF, sA G 5 (FCT K)), (nt, iA G 240 fnt)]) hC hK hl hP hD hS hA (m_codesF l G h0 ((nI (3000 * (FAV bt ktp vks) + 2000)) + r6672) nw nk mhasKept nt (nI ktp) nr mrowMany mroundOf mroundFrom mouts nm mfromHour mtoHour ns (nI (NXT bt ktp (NXT bt ktp vks))) (nI (TKE bt ktp (NXT bt ktp (NXT bt ktp vks)))) (nI (TKN bt ktp (NXT bt ktp (NXT bt ktp vks)))) (nI jd) (nI kc) mlines nl nc nF np ntr nb mbestCost nso nsi nit nsh nsf nss nrc mtraced mdealer mnumber mwhose msize misParted) si_X12_252 [2] [0, 1, 3] sm_2 fm_2 nd_2 sm_0_1_3 nd_0_1_3 dj_2__0_1_3 rfl rfl rfl rfl rfl (Nat.le_of_ble_eq_true rfl) (rmT (Nat.le_of_ble_eq_true rfl) (Nat.le_of_ble_eq_true rfl)) ⟨Nat.le_of_ble_eq_true rfl, Nat.le_of_ble_eq_true rfl⟩ gX12_one_11.2.2.2.2.2.1 (fun u6687 H locs hr6686 hP hD hS => ?_)
                              refine Kpdr (ws := [(nc, iA G 100 fnc), (nF, sA G 5 (FCT K)), (nt, iA G 240 fnt), (h0, oX12 nw nk mhasKept nt (nI ktp) nr mrowMany mroundOf mroundFrom mouts nm mfromHour mtoHour ns (nI (NXT bt ktp (NXT bt ktp vks))) (nI (TKE bt ktp (NXT bt ktp (NXT bt ktp vks)))) (nI (TKN bt ktp (NXT bt ktp (NXT bt ktp vks)))) 1 (nI jd) (nI kc) mlines nl nc nF np ntr nb mbestCost nso nsi nit nsh nsf nss nrc mtraced mdealer mnumber mwhose msize misParted)]) hP hD (fun hP hD => ?_)
                              refine lv_iconst (v := 0) hx hb gX12_one_11.2.2.2.2.2.2.1 (by decide) ?_
                              refine lv_istore_n (lv' := [(2, .int 0), (4, .int r6672), (3, .int 2), (1, .int (nI vn)), (0, .ref h0)]) hx hb gX12_one_11.2.2.2.2.2.2.2.1 rfl hl (by decide) rfl (fun ls hl => ?_)
                              have keyN : ∀ (nN kN : Nat) (H : Heap) (locs : List Loc) (ls : Array Slot), kN + nN = vn → va_PD G A [(nc, iA G 100 fnc), (nF, sA G 5 (FCT K)), (nt, iA G 240 fnt), (h0, oX12 nw nk mhasKept nt (nI ktp) nr mrowMany mroundOf mroundFrom mouts nm mfromHour mtoHour ns (nI (NXT bt ktp (NXT bt ktp vks))) (nI (TKE bt ktp (NXT bt ktp (NXT bt ktp vks)))) (nI (TKN bt ktp (NXT bt ktp (NXT bt ktp vks)))) 1 (nI jd) (nI kc) mlines nl nc nF np ntr nb mbestCost nso nsi nit nsh nsf nss nrc mtraced mdealer mnumber mwhose msize misParted)] H → va_S A s.heap H locs → lv_has ls 5 [(2, .int (nI kN)), (4, .int r6672), (3, .int 2), (1, .int (nI vn)), (0, .ref h0)] → W p l e (RM (10 + 4 * mn) 0 0) s m ([.ref h0] : List Value).toArray below meth c H locs 0 0 Q0 (F0 m 225 ls []) := by
                                intro nN
                                induction nN with
                                | zero =>
                                  intro kN H locs ls hkN hPD hS hl
                                  refine Kan2 hPD (fun hP hD => ?_)
                                  obtain rfl : vn = kN := by omega
                                  have hl : lv_has ls 5 [(2, .int (nI vn)), (4, .int r6672), (3, .int 2), (1, .int (nI vn)), (0, .ref h0)] := hl
                                  refine lv_iload_n hx hb gX12_one_11.2.2.2.2.2.2.2.2.1 rfl (lv_at0 hl) ?_
                                  refine lv_iload_n hx hb gX12_one_11.2.2.2.2.2.2.2.2.2 rfl (lv_at3 hl) ?_
                                  refine lv_icmp_ge (tgt := 243) hx hb gX12_one_12.1 (by decide) (fun _ => ?_) (fun c9 => absurd (Int32.le_refl _) c9)
                                  refine toQ hQ0 ?_
                                  exact RV hC hP hD hS [3, 2, 0, 1] (1, (NXT bt ktp (NXT bt ktp vks)), kc, fnc, [], []) rfl rfl (by decide) (Or.inr ⟨rfl, hco _ (RT.cmpF hq6510 hq6568 (CMP.f3 hfs hsg (NML.no hq6685 (by omega)))), by (try dsimp only); omega⟩) gX12_one_12.2.2.2.2.2.2
                                | succ nN ihN =>
                                  intro kN H locs ls hkN hPD hS hl
                                  refine Kan2 hPD (fun hP hD => ?_)
                                  refine lv_iload_n hx hb gX12_one_11.2.2.2.2.2.2.2.2.1 rfl (lv_at0 hl) ?_
                                  refine lv_iload_n hx hb gX12_one_11.2.2.2.2.2.2.2.2.2 rfl (lv_at3 hl) ?_
                                  refine lv_icmp_ge (tgt := 243) hx hb gX12_one_12.1 (by decide) (fun c9 => absurd c9 (nI_ge (a := kN) (b := vn) (by omega) (by omega))) (fun _ => ?_)
                                  refine lv_aload_n hx hb gX12_one_12.2.1 rfl (lv_at4 hl) ?_
                                  refine lv_sipush (v := 30000) hx hb gX12_one_12.2.2.1 (by decide) ?_
                                  refine vV (wr := [(nc, iA G 100 fnc), (nF, sA G 5 (FCT K)), (nt, iA G 240 fnt)]) hC hK hl hP hD hS hA (m_codesF l G h0 30000 nw nk mhasKept nt (nI ktp) nr mrowMany mroundOf mroundFrom mouts nm mfromHour mtoHour ns (nI (NXT bt ktp (NXT bt ktp vks))) (nI (TKE bt ktp (NXT bt ktp (NXT bt ktp vks)))) (nI (TKN bt ktp (NXT bt ktp (NXT bt ktp vks)))) (nI jd) (nI kc) mlines nl nc nF np ntr nb mbestCost nso nsi nit nsh nsf nss nrc mtraced mdealer mnumber mwhose msize misParted) si_X12_252 [3] [0, 1, 2] sm_3 fm_3 nd_3 sm_0_1_2 nd_0_1_2 dj_3__0_1_2 rfl rfl rfl rfl rfl (Nat.le_of_ble_eq_true rfl) (rmT (Nat.le_of_ble_eq_true rfl) (Nat.le_of_ble_eq_true rfl)) ⟨Nat.le_of_ble_eq_true rfl, Nat.le_of_ble_eq_true rfl⟩ gX12_one_12.2.2.2.1 (fun u6689 H locs hr6688 hP hD hS => ?_)
                                  refine Kpdr (ws := [(nc, iA G 100 fnc), (nF, sA G 5 (FCT K)), (nt, iA G 240 fnt), (h0, oX12 nw nk mhasKept nt (nI ktp) nr mrowMany mroundOf mroundFrom mouts nm mfromHour mtoHour ns (nI (NXT bt ktp (NXT bt ktp vks))) (nI (TKE bt ktp (NXT bt ktp (NXT bt ktp vks)))) (nI (TKN bt ktp (NXT bt ktp (NXT bt ktp vks)))) 1 (nI jd) (nI kc) mlines nl nc nF np ntr nb mbestCost nso nsi nit nsh nsf nss nrc mtraced mdealer mnumber mwhose msize misParted)]) hP hD (fun hP hD => ?_)
                                  refine lv_iinc (v := nI (kN + 1)) (lv' := [(2, .int (nI (kN + 1))), (4, .int r6672), (3, .int 2), (1, .int (nI vn)), (0, .ref h0)]) hx hb gX12_one_12.2.2.2.2.1 hl (k := 0) rfl (nI_1 _) (by decide) rfl (fun ls hl => ?_)
                                  refine lv_goto (tgt := 225) hx hb gX12_one_12.2.2.2.2.2.1 (by decide) ?_
                                  exact ihN (kN + 1) _ _ _ (by omega) (And.intro hP hD) hS (lv_sub hl [0, 1, 2, 3, 4] rfl)
                              exact keyN vn 0 _ _ _ (by omega) (And.intro hP hD) hS (lv_sub hl [0, 1, 2, 3, 4] rfl)
                          · have hq6690 := a6666
                            refine lv_if_eq (tgt := 192) hx hb gX12_one_9.2.2.2.2.2.2.1 (by decide) (fun _ => ?_) (fun c9 => absurd (by decide) c9)
                            refine lv_iconst (v := 0) hx hb gX12_one_9.2.2.2.2.2.2.2.2.2 (by decide) ?_
                            have hsn : SIG bt ktp (NXT bt ktp vks) = none := SIG.n hq6661 hq6664 hq6690
                            refine vV (wr := [(nc, iA G 100 fnc), (nF, sA G 5 (FCT K)), (nt, iA G 240 fnt)]) hC hK hl hP hD hS hA (m_need0 l G h0 nw nk mhasKept nt (nI ktp) nr mrowMany mroundOf mroundFrom mouts nm mfromHour mtoHour ns (nI (NXT bt ktp vks)) (nI (TKE bt ktp (NXT bt ktp vks))) (nI (TKN bt ktp (NXT bt ktp vks))) (nI jd) (nI kc) mlines nl nc nF np ntr nb mbestCost nso nsi nit nsh nsf nss nrc mtraced mdealer mnumber mwhose msize misParted) si_X12_236 [2] [0, 1, 3] sm_2 fm_2 nd_2 sm_0_1_3 nd_0_1_3 dj_2__0_1_3 rfl rfl rfl rfl rfl (Nat.le_of_ble_eq_true rfl) (rmT (Nat.le_of_ble_eq_true rfl) (Nat.le_of_ble_eq_true rfl)) ⟨Nat.le_of_ble_eq_true rfl, Nat.le_of_ble_eq_true rfl⟩ gX12_one_10.1 (fun u6692 H locs hr6691 hP hD hS => ?_)
                            refine Kpdr (ws := [(nc, iA G 100 fnc), (nF, sA G 5 (FCT K)), (nt, iA G 240 fnt), (h0, oX12 nw nk mhasKept nt (nI ktp) nr mrowMany mroundOf mroundFrom mouts nm mfromHour mtoHour ns (nI (NXT bt ktp vks)) (nI (TKE bt ktp (NXT bt ktp vks))) (nI (TKN bt ktp (NXT bt ktp vks))) 1 (nI jd) (nI kc) mlines nl nc nF np ntr nb mbestCost nso nsi nit nsh nsf nss nrc mtraced mdealer mnumber mwhose msize misParted)]) hP hD (fun hP hD => ?_)
                            refine lv_aload_n hx hb gX12_one_10.2.1 rfl (lv_at3 hl) ?_
                            refine lv_sipush (v := 999) hx hb gX12_one_10.2.2.1 (by decide) ?_
                            refine iV (wr := [(nc, iA G 100 fnc), (nF, sA G 5 (FCT K)), (nt, iA G 240 fnt)]) hC hK hl hP hD hS hA (m_numberF l G h0 999 nw nk mhasKept nt (nI ktp) nr mrowMany mroundOf mroundFrom mouts nm mfromHour mtoHour ns (nI (NXT bt ktp vks)) (nI (TKE bt ktp (NXT bt ktp vks))) (nI (TKN bt ktp (NXT bt ktp vks))) (nI jd) (nI kc) mlines nl nc nF np ntr nb mbestCost nso nsi nit nsh nsf nss nrc mtraced mdealer mnumber mwhose msize misParted) si_X12_271 [3] [0, 1, 2] sm_3 fm_3 nd_3 sm_0_1_2 nd_0_1_2 dj_3__0_1_2 rfl rfl rfl rfl rfl (Nat.le_of_ble_eq_true rfl) (rmT (Nat.le_of_ble_eq_true rfl) (Nat.le_of_ble_eq_true rfl)) ⟨Nat.le_of_ble_eq_true rfl, Nat.le_of_ble_eq_true rfl⟩ gX12_one_10.2.2.2.1 (fun r6693 u6694 H locs hr6693 hP hD hS => ?_)
                            refine Kpdr (ws := [(nc, iA G 100 fnc), (nF, sA G 5 (FCT K)), (nt, iA G 240 fnt), (h0, oX12 nw nk mhasKept nt (nI ktp) nr mrowMany mroundOf mroundFrom mouts nm mfromHour mtoHour ns (nI (NXT bt ktp vks)) (nI (TKE bt ktp (NXT bt ktp vks))) (nI (TKN bt ktp (NXT bt ktp vks))) 1 (nI jd) (nI kc) mlines nl nc nF np ntr nb mbestCost nso nsi nit nsh nsf nss nrc mtraced mdealer mnumber mwhose msize misParted)]) hP hD (fun hP hD => ?_)
                            obtain rfl := hr6693
                            refine lv_istore (lv' := [(4, .int 0), (3, .int 2), (2, .int (nI (FAV bt ktp vks))), (1, .int (nI vn)), (0, .ref h0)]) hx hb gX12_one_10.2.2.2.2.1 hl (by decide) rfl (fun ls hl => ?_)
                            refine lv_aload_n hx hb gX12_one_10.2.2.2.2.2.1 rfl (lv_at4 hl) ?_
                            refine lv_sipush (v := 3000) hx hb gX12_one_10.2.2.2.2.2.2.1 (by decide) ?_
                            refine lv_iload_n hx hb gX12_one_10.2.2.2.2.2.2.2.1 rfl (lv_at2 hl) ?_
                            refine lv_imul hx hb gX12_one_10.2.2.2.2.2.2.2.2.1 ?_
                            refine eqi (x1 := nI (3000 * (FAV bt ktp vks))) (nI_mul 3000 (FAV bt ktp vks)) ?_
                            refine lv_sipush (v := 1000) hx hb gX12_one_10.2.2.2.2.2.2.2.2.2 (by decide) ?_
                            refine lv_iload_n hx hb gX12_one_11.1 rfl (lv_at1 hl) ?_
                            refine lv_imul hx hb gX12_one_11.2.1 ?_
                            refine eqi (x1 := 2000) (by decide) ?_
                            refine lv_iadd hx hb gX12_one_11.2.2.1 ?_
                            refine eqi (x1 := nI (3000 * (FAV bt ktp vks) + 2000)) (nI_add (3000 * (FAV bt ktp vks)) 2000) ?_
                            refine lv_iload hx hb gX12_one_11.2.2.2.1 (lv_at0 hl) ?_
                            refine lv_iadd hx hb gX12_one_11.2.2.2.2.1 ?_
                            refine eqi (x1 := nI (3000 * (FAV bt ktp vks) + 2000 + 0)) (nI_add (3000 * (FAV bt ktp vks) + 2000) 0) ?_
                            refine vV (wr := [(nc, iA G 100 fnc), (nF, sA G 5 (FCT K)), (nt, iA G 240 fnt)]) hC hK hl hP hD hS hA (m_codesF l G h0 (nI (3000 * (FAV bt ktp vks) + 2000 + 0)) nw nk mhasKept nt (nI ktp) nr mrowMany mroundOf mroundFrom mouts nm mfromHour mtoHour ns (nI (NXT bt ktp vks)) (nI (TKE bt ktp (NXT bt ktp vks))) (nI (TKN bt ktp (NXT bt ktp vks))) (nI jd) (nI kc) mlines nl nc nF np ntr nb mbestCost nso nsi nit nsh nsf nss nrc mtraced mdealer mnumber mwhose msize misParted) si_X12_252 [3] [0, 1, 2] sm_3 fm_3 nd_3 sm_0_1_2 nd_0_1_2 dj_3__0_1_2 rfl rfl rfl rfl rfl (Nat.le_of_ble_eq_true rfl) (rmT (Nat.le_of_ble_eq_true rfl) (Nat.le_of_ble_eq_true rfl)) ⟨Nat.le_of_ble_eq_true rfl, Nat.le_of_ble_eq_true rfl⟩ gX12_one_11.2.2.2.2.2.1 (fun u6697 H locs hr6696 hP hD hS => ?_)
                            refine Kpdr (ws := [(nc, iA G 100 fnc), (nF, sA G 5 (FCT K)), (nt, iA G 240 fnt), (h0, oX12 nw nk mhasKept nt (nI ktp) nr mrowMany mroundOf mroundFrom mouts nm mfromHour mtoHour ns (nI (NXT bt ktp vks)) (nI (TKE bt ktp (NXT bt ktp vks))) (nI (TKN bt ktp (NXT bt ktp vks))) 1 (nI jd) (nI kc) mlines nl nc nF np ntr nb mbestCost nso nsi nit nsh nsf nss nrc mtraced mdealer mnumber mwhose msize misParted)]) hP hD (fun hP hD => ?_)
                            refine lv_iconst (v := 0) hx hb gX12_one_11.2.2.2.2.2.2.1 (by decide) ?_
                            refine lv_istore_n (lv' := [(2, .int 0), (4, .int 0), (3, .int 2), (1, .int (nI vn)), (0, .ref h0)]) hx hb gX12_one_11.2.2.2.2.2.2.2.1 rfl hl (by decide) rfl (fun ls hl => ?_)
                            have keyN : ∀ (nN kN : Nat) (H : Heap) (locs : List Loc) (ls : Array Slot), kN + nN = vn → va_PD G A [(nc, iA G 100 fnc), (nF, sA G 5 (FCT K)), (nt, iA G 240 fnt), (h0, oX12 nw nk mhasKept nt (nI ktp) nr mrowMany mroundOf mroundFrom mouts nm mfromHour mtoHour ns (nI (NXT bt ktp vks)) (nI (TKE bt ktp (NXT bt ktp vks))) (nI (TKN bt ktp (NXT bt ktp vks))) 1 (nI jd) (nI kc) mlines nl nc nF np ntr nb mbestCost nso nsi nit nsh nsf nss nrc mtraced mdealer mnumber mwhose msize misParted)] H → va_S A s.heap H locs → lv_has ls 5 [(2, .int (nI kN)), (4, .int 0), (3, .int 2), (1, .int (nI vn)), (0, .ref h0)] → W p l e (RM (10 + 4 * mn) 0 0) s m ([.ref h0] : List Value).toArray below meth c H locs 0 0 Q0 (F0 m 225 ls []) := by
                              intro nN
                              induction nN with
                              | zero =>
                                intro kN H locs ls hkN hPD hS hl
                                refine Kan2 hPD (fun hP hD => ?_)
                                obtain rfl : vn = kN := by omega
                                have hl : lv_has ls 5 [(2, .int (nI vn)), (4, .int 0), (3, .int 2), (1, .int (nI vn)), (0, .ref h0)] := hl
                                refine lv_iload_n hx hb gX12_one_11.2.2.2.2.2.2.2.2.1 rfl (lv_at0 hl) ?_
                                refine lv_iload_n hx hb gX12_one_11.2.2.2.2.2.2.2.2.2 rfl (lv_at3 hl) ?_
                                refine lv_icmp_ge (tgt := 243) hx hb gX12_one_12.1 (by decide) (fun _ => ?_) (fun c9 => absurd (Int32.le_refl _) c9)
                                refine toQ hQ0 ?_
                                exact RV hC hP hD hS [3, 2, 0, 1] (1, (NXT bt ktp vks), kc, fnc, [], []) rfl rfl (by decide) (Or.inr ⟨rfl, hco _ (RT.cmpF hq6510 hq6568 (CMP.f2 hfs hsn)), by (try dsimp only); omega⟩) gX12_one_12.2.2.2.2.2.2
                              | succ nN ihN =>
                                intro kN H locs ls hkN hPD hS hl
                                refine Kan2 hPD (fun hP hD => ?_)
                                refine lv_iload_n hx hb gX12_one_11.2.2.2.2.2.2.2.2.1 rfl (lv_at0 hl) ?_
                                refine lv_iload_n hx hb gX12_one_11.2.2.2.2.2.2.2.2.2 rfl (lv_at3 hl) ?_
                                refine lv_icmp_ge (tgt := 243) hx hb gX12_one_12.1 (by decide) (fun c9 => absurd c9 (nI_ge (a := kN) (b := vn) (by omega) (by omega))) (fun _ => ?_)
                                refine lv_aload_n hx hb gX12_one_12.2.1 rfl (lv_at4 hl) ?_
                                refine lv_sipush (v := 30000) hx hb gX12_one_12.2.2.1 (by decide) ?_
                                refine vV (wr := [(nc, iA G 100 fnc), (nF, sA G 5 (FCT K)), (nt, iA G 240 fnt)]) hC hK hl hP hD hS hA (m_codesF l G h0 30000 nw nk mhasKept nt (nI ktp) nr mrowMany mroundOf mroundFrom mouts nm mfromHour mtoHour ns (nI (NXT bt ktp vks)) (nI (TKE bt ktp (NXT bt ktp vks))) (nI (TKN bt ktp (NXT bt ktp vks))) (nI jd) (nI kc) mlines nl nc nF np ntr nb mbestCost nso nsi nit nsh nsf nss nrc mtraced mdealer mnumber mwhose msize misParted) si_X12_252 [3] [0, 1, 2] sm_3 fm_3 nd_3 sm_0_1_2 nd_0_1_2 dj_3__0_1_2 rfl rfl rfl rfl rfl (Nat.le_of_ble_eq_true rfl) (rmT (Nat.le_of_ble_eq_true rfl) (Nat.le_of_ble_eq_true rfl)) ⟨Nat.le_of_ble_eq_true rfl, Nat.le_of_ble_eq_true rfl⟩ gX12_one_12.2.2.2.1 (fun u6699 H locs hr6698 hP hD hS => ?_)
                                refine Kpdr (ws := [(nc, iA G 100 fnc), (nF, sA G 5 (FCT K)), (nt, iA G 240 fnt), (h0, oX12 nw nk mhasKept nt (nI ktp) nr mrowMany mroundOf mroundFrom mouts nm mfromHour mtoHour ns (nI (NXT bt ktp vks)) (nI (TKE bt ktp (NXT bt ktp vks))) (nI (TKN bt ktp (NXT bt ktp vks))) 1 (nI jd) (nI kc) mlines nl nc nF np ntr nb mbestCost nso nsi nit nsh nsf nss nrc mtraced mdealer mnumber mwhose msize misParted)]) hP hD (fun hP hD => ?_)
                                refine lv_iinc (v := nI (kN + 1)) (lv' := [(2, .int (nI (kN + 1))), (4, .int 0), (3, .int 2), (1, .int (nI vn)), (0, .ref h0)]) hx hb gX12_one_12.2.2.2.2.1 hl (k := 0) rfl (nI_1 _) (by decide) rfl (fun ls hl => ?_)
                                refine lv_goto (tgt := 225) hx hb gX12_one_12.2.2.2.2.2.1 (by decide) ?_
                                exact ihN (kN + 1) _ _ _ (by omega) (And.intro hP hD) hS (lv_sub hl [0, 1, 2, 3, 4] rfl)
                            exact keyN vn 0 _ _ _ (by omega) (And.intro hP hD) hS (lv_sub hl [0, 1, 2, 3, 4] rfl)
              · have nb6571 : ¬ 5 ≤ vq := fun h9 => c_91_6569 ((nI_leI (a := 5) (b := vq) (by omega) (by omega)).mpr h9)
                refine lv_aload_n hx hb gX12_one_5.1 rfl (lv_at3 hl) ?_
                refine lv_aload_n hx hb gX12_one_5.2.1 rfl (lv_at3 hl) ?_
                refine gf_X12_50 hC rfl hK hP 0 rfl rfl gX12_one_5.2.2.1 ?_
                refine lv_iload_n hx hb gX12_one_5.2.2.2.1 rfl (lv_at0 hl) ?_
                obtain ⟨if6700, hif6700⟩ : ∃ z, z = 11 + vq := ⟨_, rfl⟩
                have hxif6700 : if6700 < 16 := by omega
                have h3if6700 := slen3 if6700 hxif6700 (by omega)
                refine aldS hC hK hP 3 rfl (vp_in_nI (by omega) (by omega)) (k := vq) (nI_clamp (by omega)) (v := (K.1 if6700)) (by rw [hif6700]; exact if_pos (by omega)) gX12_one_5.2.2.2.2.1 ?_
                refine pVo hO hS hC hK hl hP hD (m_isNameX l G K if6700 h0 nw nk mhasKept nt ktp nr mrowMany mroundOf mroundFrom mouts nm mfromHour mtoHour ns vks (nI jd) (nI kc) mlines nl nc nF np ntr nb mbestCost nso nsi nit nsh nsf nss nrc mtraced mdealer mnumber mwhose msize misParted fnt bt (htp) (by omega) (hFB) ((hxif6700))) si_X12_248 [0, 1] sm_0_1 fm_0_1 nd_0_1 rfl rfl rfl rfl rfl (Nat.le_of_ble_eq_true rfl) (rmT (Nat.le_of_ble_eq_true rfl) (Nat.le_of_ble_eq_true rfl)) ⟨by first | exact Nat.le_of_ble_eq_true rfl | exact Nat.zero_le _, by first | exact Nat.le_of_ble_eq_true rfl | exact Nat.zero_le _⟩ gX12_one_5.2.2.2.2.2.1 (Kors (Keqa fun a6702 => ?_) (Keqa fun a6702 => ?_))
                · have hq6703 := a6702
                  have xl6704 : vks + SLEN.getD if6700 0 ≤ NXT bt ktp vks ∧ NXT bt ktp vks ≤ ktp := WRD.len hq6703 (by omega)
                  refine lv_if_eq (tgt := 111) hx hb gX12_one_5.2.2.2.2.2.2.1 (by decide) (fun c9 => absurd c9 (by decide)) (fun _ => ?_)
                  refine lv_iload_n hx hb gX12_one_5.2.2.2.2.2.2.2.1 rfl (lv_at0 hl) ?_
                  refine lv_goto (tgt := 112) hx hb gX12_one_5.2.2.2.2.2.2.2.2.1 (by decide) ?_
                  refine lv_istore_n (lv' := [(2, .int (nI vq)), (3, .int (nI vq)), (1, .int (nI vn)), (0, .ref h0)]) hx hb gX12_one_6.1 rfl hl (by decide) rfl (fun ls hl => ?_)
                  refine lv_iinc (v := nI (vq + 1)) (lv' := [(3, .int (nI (vq + 1))), (2, .int (nI vq)), (1, .int (nI vn)), (0, .ref h0)]) hx hb gX12_one_6.2.1 hl (k := 1) rfl (nI_1 _) (by decide) rfl (fun ls hl => ?_)
                  refine lv_goto (tgt := 89) hx hb gX12_one_6.2.2.1 (by decide) ?_
                  exact ihE (vq + 1) (nI vq) _ _ _ (by omega) (FCI.yes hif6700 hq6703) (And.intro hP hD) hS (lv_sub hl [0, 1, 2, 3] rfl)
                · have hq6705 := a6702
                  refine lv_if_eq (tgt := 111) hx hb gX12_one_5.2.2.2.2.2.2.1 (by decide) (fun _ => ?_) (fun c9 => absurd (by decide) c9)
                  refine lv_iload_n hx hb gX12_one_5.2.2.2.2.2.2.2.2.2 rfl (lv_at1 hl) ?_
                  refine lv_istore_n (lv' := [(2, .int fa9), (3, .int (nI vq)), (1, .int (nI vn)), (0, .ref h0)]) hx hb gX12_one_6.1 rfl hl (by decide) rfl (fun ls hl => ?_)
                  refine lv_iinc (v := nI (vq + 1)) (lv' := [(3, .int (nI (vq + 1))), (2, .int fa9), (1, .int (nI vn)), (0, .ref h0)]) hx hb gX12_one_6.2.1 hl (k := 1) rfl (nI_1 _) (by decide) rfl (fun ls hl => ?_)
                  refine lv_goto (tgt := 89) hx hb gX12_one_6.2.2.1 (by decide) ?_
                  exact ihE (vq + 1) fa9 _ _ _ (by omega) (FCI.no hfa hif6700 hq6705) (And.intro hP hD) hS (lv_sub hl [0, 1, 2, 3] rfl)
          exact keyE 6 0 (-1) _ _ _ (by omega) (FCI.zero) (And.intro hP hD) hS (lv_sub hl [0, 1, 2, 3] rfl)
  exact keyT 241 ks 0 _ _ _ (by omega) (fun _ h9 => h9) (And.intro hP hD) hS (lv_sub hl [0, 1] rfl)
def K_m_all (l : Launch) (G : GG) (K : OO) (mn : Nat) (h0 : Nat) (nw : Nat) (nk : Nat) (mhasKept : Int32) (nt : Nat) (ktp : Nat) (nr : Nat) (mrowMany : Int32) (mroundOf : Int32) (mroundFrom : Int32) (mouts : Int32) (nm : Nat) (mfromHour : Int32) (mtoHour : Int32) (ns : Nat) (ks : Nat) (jd : Nat) (kc : Nat) (mlines : Int32) (nl : Nat) (nc : Nat) (nF : Nat) (np : Nat) (ntr : Nat) (nb : Nat) (mbestCost : Int32) (nso : Nat) (nsi : Nat) (nit : Nat) (nsh : Nat) (nsf : Nat) (nss : Nat) (nrc : Nat) (mtraced : Int32) (mdealer : Int32) (mnumber : Int32) (mwhose : Int32) (msize : Int32) (misParted : Int32) (fnt : Nat → Int32) (fnc : Nat → Int32) (bt : Nat → Int32) (cs : List Int32) (rs : List Int32) : Prop := MVo l G K yX12_all cX12_all 1 (11 + 4 * mn) 0 0 [.ref h0] [(h0, oX12 nw nk mhasKept nt (nI ktp) nr mrowMany mroundOf mroundFrom mouts nm mfromHour mtoHour ns (nI ks) (nI (TKE bt ktp ks)) (nI (TKN bt ktp ks)) 0 (nI jd) (nI kc) mlines nl nc nF np ntr nb mbestCost nso nsi nit nsh nsf nss nrc mtraced mdealer mnumber mwhose msize misParted), (nt, iA G 240 fnt), (nc, iA G 100 fnc), (nF, sA G 5 (FCT K))] (fun u : Int32 × Nat × Nat × (Nat → Int32) × (List Int32) × (List Int32) => (0 = u.1 ∧ RT bt ktp 1 jd 0 ks cs rs (1, u.2.1, u.2.2.2.2.1, u.2.2.2.2.2) ∧ STP u.2.2.1 u.2.2.2.1 u.2.2.2.2.2) ∨ (1 = u.1 ∧ RT bt ktp 1 jd 0 ks cs rs (0, u.2.1, [], []) ∧ u.2.1 ≤ ktp)) (fun u : Int32 × Nat × Nat × (Nat → Int32) × (List Int32) × (List Int32) => [(h0, oX12 nw nk mhasKept nt (nI ktp) nr mrowMany mroundOf mroundFrom mouts nm mfromHour mtoHour ns (nI u.2.1) (nI (TKE bt ktp u.2.1)) (nI (TKN bt ktp u.2.1)) u.1 (nI jd) (nI u.2.2.1) mlines nl nc nF np ntr nb mbestCost nso nsi nit nsh nsf nss nrc mtraced mdealer mnumber mwhose msize misParted), (nt, iA G 240 fnt), (nc, iA G 100 u.2.2.2.1), (nF, sA G 5 (FCT K))])
set_option maxHeartbeats 4000000 in
set_option maxRecDepth 100000 in
theorem m_all (l : Launch) (G : GG) (K : OO) (mn : Nat) (h0 : Nat) (nw : Nat) (nk : Nat) (mhasKept : Int32) (nt : Nat) (ktp : Nat) (nr : Nat) (mrowMany : Int32) (mroundOf : Int32) (mroundFrom : Int32) (mouts : Int32) (nm : Nat) (mfromHour : Int32) (mtoHour : Int32) (ns : Nat) (ks : Nat) (jd : Nat) (kc : Nat) (mlines : Int32) (nl : Nat) (nc : Nat) (nF : Nat) (np : Nat) (ntr : Nat) (nb : Nat) (mbestCost : Int32) (nso : Nat) (nsi : Nat) (nit : Nat) (nsh : Nat) (nsf : Nat) (nss : Nat) (nrc : Nat) (mtraced : Int32) (mdealer : Int32) (mnumber : Int32) (mwhose : Int32) (msize : Int32) (misParted : Int32) (fnt : Nat → Int32) (fnc : Nat → Int32) (bt : Nat → Int32) (cs : List Int32) (rs : List Int32) (htp : ktp ≤ 240) (hks : ks ≤ ktp) (hFB : FBT fnt bt ktp) (hST : STP kc fnc rs) (h3s : 3 * kc ≤ ks) (hjm : jd + mn = 4) (ihE : ∀ m9, m9 < mn → ∀ (h0 : Nat) (nw : Nat) (nk : Nat) (mhasKept : Int32) (nt : Nat) (ktp : Nat) (nr : Nat) (mrowMany : Int32) (mroundOf : Int32) (mroundFrom : Int32) (mouts : Int32) (nm : Nat) (mfromHour : Int32) (mtoHour : Int32) (ns : Nat) (ks : Nat) (jd : Nat) (kc : Nat) (mlines : Int32) (nl : Nat) (nc : Nat) (nF : Nat) (np : Nat) (ntr : Nat) (nb : Nat) (mbestCost : Int32) (nso : Nat) (nsi : Nat) (nit : Nat) (nsh : Nat) (nsf : Nat) (nss : Nat) (nrc : Nat) (mtraced : Int32) (mdealer : Int32) (mnumber : Int32) (mwhose : Int32) (msize : Int32) (misParted : Int32) (fnt : Nat → Int32) (fnc : Nat → Int32) (bt : Nat → Int32) (cs : List Int32) (rs : List Int32) (htp : ktp ≤ 240) (hks : ks ≤ ktp) (hFB : FBT fnt bt ktp) (hST : STP kc fnc rs) (h3s : 3 * kc ≤ ks) (hjm : jd + m9 = 4), MVo l G K yX12_either cX12_either 1 (12 + 4 * m9) 0 0 [.ref h0] [(h0, oX12 nw nk mhasKept nt (nI ktp) nr mrowMany mroundOf mroundFrom mouts nm mfromHour mtoHour ns (nI ks) (nI (TKE bt ktp ks)) (nI (TKN bt ktp ks)) 0 (nI jd) (nI kc) mlines nl nc nF np ntr nb mbestCost nso nsi nit nsh nsf nss nrc mtraced mdealer mnumber mwhose msize misParted), (nt, iA G 240 fnt), (nc, iA G 100 fnc), (nF, sA G 5 (FCT K))] (fun u : Int32 × Nat × Nat × (Nat → Int32) × (List Int32) × (List Int32) => (0 = u.1 ∧ RT bt ktp 2 jd 0 ks cs rs (1, u.2.1, u.2.2.2.2.1, u.2.2.2.2.2) ∧ STP u.2.2.1 u.2.2.2.1 u.2.2.2.2.2) ∨ (1 = u.1 ∧ RT bt ktp 2 jd 0 ks cs rs (0, u.2.1, [], []) ∧ u.2.1 ≤ ktp)) (fun u : Int32 × Nat × Nat × (Nat → Int32) × (List Int32) × (List Int32) => [(h0, oX12 nw nk mhasKept nt (nI ktp) nr mrowMany mroundOf mroundFrom mouts nm mfromHour mtoHour ns (nI u.2.1) (nI (TKE bt ktp u.2.1)) (nI (TKN bt ktp u.2.1)) u.1 (nI jd) (nI u.2.2.1) mlines nl nc nF np ntr nb mbestCost nso nsi nit nsh nsf nss nrc mtraced mdealer mnumber mwhose msize misParted), (nt, iA G 240 fnt), (nc, iA G 100 u.2.2.2.1), (nF, sA G 5 (FCT K))])) : K_m_all l G K mn h0 nw nk mhasKept nt ktp nr mrowMany mroundOf mroundFrom mouts nm mfromHour mtoHour ns ks jd kc mlines nl nc nF np ntr nb mbestCost nso nsi nit nsh nsf nss nrc mtraced mdealer mnumber mwhose msize misParted fnt fnc bt cs rs := by
  refine MVo.start (by decide +kernel) (Nat.le_of_ble_eq_true rfl) ?_
  intro p e s m below meth c A ls hC hK hP hD hS hA hl hO
  refine absQ (fun Q0 hQ0 => ?_)
  have hl : lv_has ls 1 [(0, .ref h0)] := hl
  refine Kan8 hC (fun hx hb hr hml hB hown hlocks hnm => ?_)
  have tk0 := TKE.ge (bt := bt) (n := ktp) (s := ks) hks
  have hs1 := hST.1
  refine lv_aload_n hx hb gX12_all_0.1 rfl (lv_at0 hl) ?_
  refine vVo (wr := []) hO hC hK hl hP hD hS hA (m_one l G K mn h0 nw nk mhasKept nt ktp nr mrowMany mroundOf mroundFrom mouts nm mfromHour mtoHour ns ks jd kc mlines nl nc nF np ntr nb mbestCost nso nsi nit nsh nsf nss nrc mtraced mdealer mnumber mwhose msize misParted fnt fnc bt cs rs (by omega) (by omega) (hFB) (hST) (by omega) (by omega) ihE) si_X12_255 [0, 1, 2, 3] [] sm_0_1_2_3 fm_0_1_2_3 nd_0_1_2_3 rfl rfl (by decide) rfl rfl rfl rfl rfl (Nat.le_of_ble_eq_true rfl) ⟨by simp only [RM]; omega, by simp only [RM]; omega⟩ ⟨Nat.le_of_ble_eq_true rfl, Nat.le_of_ble_eq_true rfl⟩ gX12_all_0.2.1 (Ktu6 fun ff16708 ks16709 kc16710 gnc6711 c16712 r16713 => ?_)
  intro H locs hr6706 hP hD hS
  try dsimp only at hr6706
  refine Kpdr (ws := [(h0, oX12 nw nk mhasKept nt (nI ktp) nr mrowMany mroundOf mroundFrom mouts nm mfromHour mtoHour ns (nI ks16709) (nI (TKE bt ktp ks16709)) (nI (TKN bt ktp ks16709)) ff16708 (nI jd) (nI kc16710) mlines nl nc nF np ntr nb mbestCost nso nsi nit nsh nsf nss nrc mtraced mdealer mnumber mwhose msize misParted), (nt, iA G 240 fnt), (nc, iA G 100 gnc6711), (nF, sA G 5 (FCT K))]) hP hD (fun hP hD => ?_)
  have w6714 := hr6706
  rcases w6714 with v6715 | v6716
  · obtain ⟨rfl, hq6717, hq6718⟩ := v6715
    have xl6719 := RT.lem hq6717 (by decide) (by omega)
    have xl6720 := hq6718.1
    have keyD : ∀ (nD : Nat) (vks : Nat) (vc : Nat) (vC : Nat → Int32) (H : Heap) (locs : List Loc) (ls : Array Slot), (3 * vc ≤ vks ∧ vks ≤ ktp ∧ 241 ≤ vks + nD) → (RTV bt ktp 1 jd ks cs rs 3 vks vc vC) → va_PD G A [(h0, oX12 nw nk mhasKept nt (nI ktp) nr mrowMany mroundOf mroundFrom mouts nm mfromHour mtoHour ns (nI vks) (nI (TKE bt ktp vks)) (nI (TKN bt ktp vks)) 0 (nI jd) (nI vc) mlines nl nc nF np ntr nb mbestCost nso nsi nit nsh nsf nss nrc mtraced mdealer mnumber mwhose msize misParted), (nt, iA G 240 fnt), (nc, iA G 100 vC), (nF, sA G 5 (FCT K))] H → va_S A s.heap H locs → lv_has ls 1 [(0, .ref h0)] → W p l e (RM (11 + 4 * mn) 0 0) s m ([.ref h0] : List Value).toArray below meth c H locs 0 0 Q0 (F0 m 4 ls []) := by
      intro nD
      induction nD with
      | zero =>
        intro vks vc vC H locs ls hiD hrw hPD hS hl
        refine Kan2 hPD (fun hP hD => ?_)
        exact (show False by omega).elim
      | succ nD ihD =>
        intro vks vc vC H locs ls hiD hrw hPD hS hl
        refine Kan2 hPD (fun hP hD => ?_)
        have tkv := TKE.ge (bt := bt) (n := ktp) (s := vks) (by omega)
        obtain ⟨c9, q9, hst9, hco9⟩ := hrw
        have hsl9 := hst9.1
        refine lv_aload_n hx hb gX12_all_0.2.2.1 rfl (lv_at0 hl) ?_
        refine va_ldcSw (index := 258) (tx := "and") hx hb hown (hO.2.2 9 (by decide)) gX12_all_0.2.2.2.1 ?_
        refine pVo hO hS hC hK hl hP hD (m_isNameX l G K 9 h0 nw nk mhasKept nt ktp nr mrowMany mroundOf mroundFrom mouts nm mfromHour mtoHour ns vks (nI jd) (nI vc) mlines nl nc nF np ntr nb mbestCost nso nsi nit nsh nsf nss nrc mtraced mdealer mnumber mwhose msize misParted fnt bt (htp) (by omega) (hFB) ((by decide))) si_X12_248 [0, 1] sm_0_1 fm_0_1 nd_0_1 rfl rfl rfl rfl rfl (Nat.le_of_ble_eq_true rfl) (rmT (Nat.le_of_ble_eq_true rfl) (Nat.le_of_ble_eq_true rfl)) ⟨by first | exact Nat.le_of_ble_eq_true rfl | exact Nat.zero_le _, by first | exact Nat.le_of_ble_eq_true rfl | exact Nat.zero_le _⟩ gX12_all_0.2.2.2.2.1 (Kors (Keqa fun a6722 => ?_) (Keqa fun a6722 => ?_))
        · have hq6723 := a6722
          have xl6724 : vks + 3 ≤ NXT bt ktp vks ∧ NXT bt ktp vks ≤ ktp := WRD.len hq6723 (by omega)
          refine lv_if_eq (tgt := 32) hx hb gX12_all_0.2.2.2.2.2.1 (by decide) (fun c9 => absurd c9 (by decide)) (fun _ => ?_)
          refine lv_aload_n hx hb gX12_all_0.2.2.2.2.2.2.1 rfl (lv_at0 hl) ?_
          refine vV (wr := [(nc, iA G 100 vC), (nF, sA G 5 (FCT K))]) hC hK hl hP hD hS hA (m_nextT l G h0 nw nk mhasKept nt ktp nr mrowMany mroundOf mroundFrom mouts nm mfromHour mtoHour ns vks 0 (nI jd) (nI vc) mlines nl nc nF np ntr nb mbestCost nso nsi nit nsh nsf nss nrc mtraced mdealer mnumber mwhose msize misParted fnt bt (htp) (by omega) (hFB)) si_X12_233 [0, 1] [2, 3] sm_0_1 fm_0_1 nd_0_1 sm_2_3 nd_2_3 dj_0_1__2_3 rfl rfl rfl rfl rfl (Nat.le_of_ble_eq_true rfl) (rmT (Nat.le_of_ble_eq_true rfl) (Nat.le_of_ble_eq_true rfl)) ⟨Nat.le_of_ble_eq_true rfl, Nat.le_of_ble_eq_true rfl⟩ gX12_all_0.2.2.2.2.2.2.2.1 (fun u6726 H locs hr6725 hP hD hS => ?_)
          refine Kpdr (ws := [(nc, iA G 100 vC), (nF, sA G 5 (FCT K)), (h0, oX12 nw nk mhasKept nt (nI ktp) nr mrowMany mroundOf mroundFrom mouts nm mfromHour mtoHour ns (nI (NXT bt ktp vks)) (nI (TKE bt ktp (NXT bt ktp vks))) (nI (TKN bt ktp (NXT bt ktp vks))) 0 (nI jd) (nI vc) mlines nl nc nF np ntr nb mbestCost nso nsi nit nsh nsf nss nrc mtraced mdealer mnumber mwhose msize misParted), (nt, iA G 240 fnt)]) hP hD (fun hP hD => ?_)
          have xn6727 := NXT.ge (bt := bt) (n := ktp) (s := vks) (by omega)
          refine lv_aload_n hx hb gX12_all_0.2.2.2.2.2.2.2.2.1 rfl (lv_at0 hl) ?_
          refine vVo (wr := []) hO hC hK hl hP hD hS hA (m_one l G K mn h0 nw nk mhasKept nt ktp nr mrowMany mroundOf mroundFrom mouts nm mfromHour mtoHour ns (NXT bt ktp vks) jd vc mlines nl nc nF np ntr nb mbestCost nso nsi nit nsh nsf nss nrc mtraced mdealer mnumber mwhose msize misParted fnt vC bt c9 q9 (by omega) (by omega) (hFB) (hst9) (by omega) (by omega) ihE) si_X12_255 [2, 3, 0, 1] [] sm_2_3_0_1 fm_2_3_0_1 nd_2_3_0_1 rfl rfl (by decide) rfl rfl rfl rfl rfl (Nat.le_of_ble_eq_true rfl) ⟨by simp only [RM]; omega, by simp only [RM]; omega⟩ ⟨Nat.le_of_ble_eq_true rfl, Nat.le_of_ble_eq_true rfl⟩ gX12_all_0.2.2.2.2.2.2.2.2.2 (Ktu6 fun ff16730 ks16731 kc16732 gnc6733 c16734 r16735 => ?_)
          intro H locs hr6728 hP hD hS
          try dsimp only at hr6728
          refine Kpdr (ws := [(h0, oX12 nw nk mhasKept nt (nI ktp) nr mrowMany mroundOf mroundFrom mouts nm mfromHour mtoHour ns (nI ks16731) (nI (TKE bt ktp ks16731)) (nI (TKN bt ktp ks16731)) ff16730 (nI jd) (nI kc16732) mlines nl nc nF np ntr nb mbestCost nso nsi nit nsh nsf nss nrc mtraced mdealer mnumber mwhose msize misParted), (nt, iA G 240 fnt), (nc, iA G 100 gnc6733), (nF, sA G 5 (FCT K))]) hP hD (fun hP hD => ?_)
          have w6736 := hr6728
          rcases w6736 with v6737 | v6738
          · obtain ⟨rfl, hq6739, hq6740⟩ := v6737
            have xl6741 := RT.lem hq6739 (by decide) (by omega)
            have xl6742 := hq6740.1
            refine lv_aload_n hx hb gX12_all_1.1 rfl (lv_at0 hl) ?_
            refine lv_sipush (v := 30001) hx hb gX12_all_1.2.1 (by decide) ?_
            refine vV (wr := [(nt, iA G 240 fnt), (nF, sA G 5 (FCT K))]) hC hK hl hP hD hS hA (m_codes0 l G h0 30001 nw nk mhasKept nt (nI ktp) nr mrowMany mroundOf mroundFrom mouts nm mfromHour mtoHour ns (nI ks16731) (nI (TKE bt ktp ks16731)) (nI (TKN bt ktp ks16731)) (nI jd) kc16732 mlines nl nc nF np ntr nb mbestCost nso nsi nit nsh nsf nss nrc mtraced mdealer mnumber mwhose msize misParted gnc6733 (by omega)) si_X12_252 [0, 2] [1, 3] sm_0_2 fm_0_2 nd_0_2 sm_1_3 nd_1_3 dj_0_2__1_3 rfl rfl rfl rfl rfl (Nat.le_of_ble_eq_true rfl) (rmT (Nat.le_of_ble_eq_true rfl) (Nat.le_of_ble_eq_true rfl)) ⟨Nat.le_of_ble_eq_true rfl, Nat.le_of_ble_eq_true rfl⟩ gX12_all_1.2.2.1 (fun u6744 H locs hr6743 hP hD hS => ?_)
            refine Kpdr (ws := [(nt, iA G 240 fnt), (nF, sA G 5 (FCT K)), (h0, oX12 nw nk mhasKept nt (nI ktp) nr mrowMany mroundOf mroundFrom mouts nm mfromHour mtoHour ns (nI ks16731) (nI (TKE bt ktp ks16731)) (nI (TKN bt ktp ks16731)) 0 (nI jd) (nI (kc16732 + 1)) mlines nl nc nF np ntr nb mbestCost nso nsi nit nsh nsf nss nrc mtraced mdealer mnumber mwhose msize misParted), (nc, iA G 100 (upd gnc6733 kc16732 30001))]) hP hD (fun hP hD => ?_)
            refine lv_goto (tgt := 4) hx hb gX12_all_1.2.2.2.1 (by decide) ?_
            refine Kpds (ws' := [(h0, oX12 nw nk mhasKept nt (nI ktp) nr mrowMany mroundOf mroundFrom mouts nm mfromHour mtoHour ns (nI ks16731) (nI (TKE bt ktp ks16731)) (nI (TKN bt ktp ks16731)) 0 (nI jd) (nI (kc16732 + 1)) mlines nl nc nF np ntr nb mbestCost nso nsi nit nsh nsf nss nrc mtraced mdealer mnumber mwhose msize misParted), (nt, iA G 240 fnt), (nc, iA G 100 (upd gnc6733 kc16732 30001)), (nF, sA G 5 (FCT K))]) hP hD [2, 0, 3, 1] fm_2_0_3_1 nd_2_0_3_1 sm_2_0_3_1 (fun hP hD => ?_)
            exact ihD ks16731 (kc16732 + 1) (upd gnc6733 kc16732 30001) _ _ _ (by omega) (⟨_, _, STP.push hq6740, fun r h9 => hco9 r (RT.andG hq6723 hq6739 h9)⟩) (And.intro hP hD) hS (lv_sub hl [0] rfl)
          · obtain ⟨rfl, hq6745, hq6746⟩ := v6738
            refine lv_aload_n hx hb gX12_all_1.1 rfl (lv_at0 hl) ?_
            refine lv_sipush (v := 30001) hx hb gX12_all_1.2.1 (by decide) ?_
            refine vV (wr := [(nt, iA G 240 fnt), (nc, iA G 100 gnc6733), (nF, sA G 5 (FCT K))]) hC hK hl hP hD hS hA (m_codesF l G h0 30001 nw nk mhasKept nt (nI ktp) nr mrowMany mroundOf mroundFrom mouts nm mfromHour mtoHour ns (nI ks16731) (nI (TKE bt ktp ks16731)) (nI (TKN bt ktp ks16731)) (nI jd) (nI kc16732) mlines nl nc nF np ntr nb mbestCost nso nsi nit nsh nsf nss nrc mtraced mdealer mnumber mwhose msize misParted) si_X12_252 [0] [1, 2, 3] sm_0 fm_0 nd_0 sm_1_2_3 nd_1_2_3 dj_0__1_2_3 rfl rfl rfl rfl rfl (Nat.le_of_ble_eq_true rfl) (rmT (Nat.le_of_ble_eq_true rfl) (Nat.le_of_ble_eq_true rfl)) ⟨Nat.le_of_ble_eq_true rfl, Nat.le_of_ble_eq_true rfl⟩ gX12_all_1.2.2.1 (fun u6748 H locs hr6747 hP hD hS => ?_)
            refine Kpdr (ws := [(nt, iA G 240 fnt), (nc, iA G 100 gnc6733), (nF, sA G 5 (FCT K)), (h0, oX12 nw nk mhasKept nt (nI ktp) nr mrowMany mroundOf mroundFrom mouts nm mfromHour mtoHour ns (nI ks16731) (nI (TKE bt ktp ks16731)) (nI (TKN bt ktp ks16731)) 1 (nI jd) (nI kc16732) mlines nl nc nF np ntr nb mbestCost nso nsi nit nsh nsf nss nrc mtraced mdealer mnumber mwhose msize misParted)]) hP hD (fun hP hD => ?_)
            refine lv_goto (tgt := 4) hx hb gX12_all_1.2.2.2.1 (by decide) ?_
            refine lv_aload_n hx hb gX12_all_0.2.2.1 rfl (lv_at0 hl) ?_
            refine va_ldcSw (index := 258) (tx := "and") hx hb hown (hO.2.2 9 (by decide)) gX12_all_0.2.2.2.1 ?_
            refine pVo hO hS hC hK hl hP hD (m_isNameF l G K 9 h0 nw nk mhasKept nt (nI ktp) nr mrowMany mroundOf mroundFrom mouts nm mfromHour mtoHour ns (nI ks16731) (nI (TKE bt ktp ks16731)) (nI (TKN bt ktp ks16731)) (nI jd) (nI kc16732) mlines nl nc nF np ntr nb mbestCost nso nsi nit nsh nsf nss nrc mtraced mdealer mnumber mwhose msize misParted ((by decide))) si_X12_248 [3] sm_3 fm_3 nd_3 rfl rfl rfl rfl rfl (Nat.le_of_ble_eq_true rfl) (rmT (Nat.le_of_ble_eq_true rfl) (Nat.le_of_ble_eq_true rfl)) ⟨by first | exact Nat.le_of_ble_eq_true rfl | exact Nat.zero_le _, by first | exact Nat.le_of_ble_eq_true rfl | exact Nat.zero_le _⟩ gX12_all_0.2.2.2.2.1 (Keqr ?_)
            refine lv_if_eq (tgt := 32) hx hb gX12_all_0.2.2.2.2.2.1 (by decide) (fun _ => ?_) (fun c9 => absurd (by decide) c9)
            refine toQ hQ0 ?_
            exact RV hC hP hD hS [3, 0, 1, 2] (1, ks16731, kc16732, gnc6733, [], []) rfl rfl (by decide) (Or.inr ⟨rfl, hco9 _ (RT.andF hq6723 hq6745 rfl), by (try dsimp only); omega⟩) gX12_all_1.2.2.2.2
        · have hq6751 := a6722
          refine lv_if_eq (tgt := 32) hx hb gX12_all_0.2.2.2.2.2.1 (by decide) (fun _ => ?_) (fun c9 => absurd (by decide) c9)
          refine toQ hQ0 ?_
          exact RV hC hP hD hS [0, 1, 2, 3] (0, vks, vc, vC, c9, q9) rfl rfl (by decide) (Or.inl ⟨rfl, hco9 _ (RT.andE hq6751), hst9⟩) gX12_all_1.2.2.2.2
    exact keyD 241 ks16709 kc16710 gnc6711 _ _ _ (by omega) (⟨c16712, r16713, hq6718, fun _ h9 => RT.allG hq6717 h9⟩) (And.intro hP hD) hS (lv_sub hl [0] rfl)
  · obtain ⟨rfl, hq6752, hq6753⟩ := v6716
    refine lv_aload_n hx hb gX12_all_0.2.2.1 rfl (lv_at0 hl) ?_
    refine va_ldcSw (index := 258) (tx := "and") hx hb hown (hO.2.2 9 (by decide)) gX12_all_0.2.2.2.1 ?_
    refine pVo hO hS hC hK hl hP hD (m_isNameF l G K 9 h0 nw nk mhasKept nt (nI ktp) nr mrowMany mroundOf mroundFrom mouts nm mfromHour mtoHour ns (nI ks16709) (nI (TKE bt ktp ks16709)) (nI (TKN bt ktp ks16709)) (nI jd) (nI kc16710) mlines nl nc nF np ntr nb mbestCost nso nsi nit nsh nsf nss nrc mtraced mdealer mnumber mwhose msize misParted ((by decide))) si_X12_248 [0] sm_0 fm_0 nd_0 rfl rfl rfl rfl rfl (Nat.le_of_ble_eq_true rfl) (rmT (Nat.le_of_ble_eq_true rfl) (Nat.le_of_ble_eq_true rfl)) ⟨by first | exact Nat.le_of_ble_eq_true rfl | exact Nat.zero_le _, by first | exact Nat.le_of_ble_eq_true rfl | exact Nat.zero_le _⟩ gX12_all_0.2.2.2.2.1 (Keqr ?_)
    refine lv_if_eq (tgt := 32) hx hb gX12_all_0.2.2.2.2.2.1 (by decide) (fun _ => ?_) (fun c9 => absurd (by decide) c9)
    refine toQ hQ0 ?_
    exact RV hC hP hD hS [0, 1, 2, 3] (1, ks16709, kc16710, gnc6711, [], []) rfl rfl (by decide) (Or.inr ⟨rfl, RT.allF hq6752 rfl, by (try dsimp only); omega⟩) gX12_all_1.2.2.2.2
def K_m_either_step (l : Launch) (G : GG) (K : OO) (mn : Nat) (h0 : Nat) (nw : Nat) (nk : Nat) (mhasKept : Int32) (nt : Nat) (ktp : Nat) (nr : Nat) (mrowMany : Int32) (mroundOf : Int32) (mroundFrom : Int32) (mouts : Int32) (nm : Nat) (mfromHour : Int32) (mtoHour : Int32) (ns : Nat) (ks : Nat) (jd : Nat) (kc : Nat) (mlines : Int32) (nl : Nat) (nc : Nat) (nF : Nat) (np : Nat) (ntr : Nat) (nb : Nat) (mbestCost : Int32) (nso : Nat) (nsi : Nat) (nit : Nat) (nsh : Nat) (nsf : Nat) (nss : Nat) (nrc : Nat) (mtraced : Int32) (mdealer : Int32) (mnumber : Int32) (mwhose : Int32) (msize : Int32) (misParted : Int32) (fnt : Nat → Int32) (fnc : Nat → Int32) (bt : Nat → Int32) (cs : List Int32) (rs : List Int32) : Prop := MVo l G K yX12_either cX12_either 1 (12 + 4 * mn) 0 0 [.ref h0] [(h0, oX12 nw nk mhasKept nt (nI ktp) nr mrowMany mroundOf mroundFrom mouts nm mfromHour mtoHour ns (nI ks) (nI (TKE bt ktp ks)) (nI (TKN bt ktp ks)) 0 (nI jd) (nI kc) mlines nl nc nF np ntr nb mbestCost nso nsi nit nsh nsf nss nrc mtraced mdealer mnumber mwhose msize misParted), (nt, iA G 240 fnt), (nc, iA G 100 fnc), (nF, sA G 5 (FCT K))] (fun u : Int32 × Nat × Nat × (Nat → Int32) × (List Int32) × (List Int32) => (0 = u.1 ∧ RT bt ktp 2 jd 0 ks cs rs (1, u.2.1, u.2.2.2.2.1, u.2.2.2.2.2) ∧ STP u.2.2.1 u.2.2.2.1 u.2.2.2.2.2) ∨ (1 = u.1 ∧ RT bt ktp 2 jd 0 ks cs rs (0, u.2.1, [], []) ∧ u.2.1 ≤ ktp)) (fun u : Int32 × Nat × Nat × (Nat → Int32) × (List Int32) × (List Int32) => [(h0, oX12 nw nk mhasKept nt (nI ktp) nr mrowMany mroundOf mroundFrom mouts nm mfromHour mtoHour ns (nI u.2.1) (nI (TKE bt ktp u.2.1)) (nI (TKN bt ktp u.2.1)) u.1 (nI jd) (nI u.2.2.1) mlines nl nc nF np ntr nb mbestCost nso nsi nit nsh nsf nss nrc mtraced mdealer mnumber mwhose msize misParted), (nt, iA G 240 fnt), (nc, iA G 100 u.2.2.2.1), (nF, sA G 5 (FCT K))])
set_option maxHeartbeats 4000000 in
set_option maxRecDepth 100000 in
theorem m_either_step (l : Launch) (G : GG) (K : OO) (mn : Nat) (h0 : Nat) (nw : Nat) (nk : Nat) (mhasKept : Int32) (nt : Nat) (ktp : Nat) (nr : Nat) (mrowMany : Int32) (mroundOf : Int32) (mroundFrom : Int32) (mouts : Int32) (nm : Nat) (mfromHour : Int32) (mtoHour : Int32) (ns : Nat) (ks : Nat) (jd : Nat) (kc : Nat) (mlines : Int32) (nl : Nat) (nc : Nat) (nF : Nat) (np : Nat) (ntr : Nat) (nb : Nat) (mbestCost : Int32) (nso : Nat) (nsi : Nat) (nit : Nat) (nsh : Nat) (nsf : Nat) (nss : Nat) (nrc : Nat) (mtraced : Int32) (mdealer : Int32) (mnumber : Int32) (mwhose : Int32) (msize : Int32) (misParted : Int32) (fnt : Nat → Int32) (fnc : Nat → Int32) (bt : Nat → Int32) (cs : List Int32) (rs : List Int32) (htp : ktp ≤ 240) (hks : ks ≤ ktp) (hFB : FBT fnt bt ktp) (hST : STP kc fnc rs) (h3s : 3 * kc ≤ ks) (hjm : jd + mn = 4) (ihE : ∀ m9, m9 < mn → ∀ (h0 : Nat) (nw : Nat) (nk : Nat) (mhasKept : Int32) (nt : Nat) (ktp : Nat) (nr : Nat) (mrowMany : Int32) (mroundOf : Int32) (mroundFrom : Int32) (mouts : Int32) (nm : Nat) (mfromHour : Int32) (mtoHour : Int32) (ns : Nat) (ks : Nat) (jd : Nat) (kc : Nat) (mlines : Int32) (nl : Nat) (nc : Nat) (nF : Nat) (np : Nat) (ntr : Nat) (nb : Nat) (mbestCost : Int32) (nso : Nat) (nsi : Nat) (nit : Nat) (nsh : Nat) (nsf : Nat) (nss : Nat) (nrc : Nat) (mtraced : Int32) (mdealer : Int32) (mnumber : Int32) (mwhose : Int32) (msize : Int32) (misParted : Int32) (fnt : Nat → Int32) (fnc : Nat → Int32) (bt : Nat → Int32) (cs : List Int32) (rs : List Int32) (htp : ktp ≤ 240) (hks : ks ≤ ktp) (hFB : FBT fnt bt ktp) (hST : STP kc fnc rs) (h3s : 3 * kc ≤ ks) (hjm : jd + m9 = 4), MVo l G K yX12_either cX12_either 1 (12 + 4 * m9) 0 0 [.ref h0] [(h0, oX12 nw nk mhasKept nt (nI ktp) nr mrowMany mroundOf mroundFrom mouts nm mfromHour mtoHour ns (nI ks) (nI (TKE bt ktp ks)) (nI (TKN bt ktp ks)) 0 (nI jd) (nI kc) mlines nl nc nF np ntr nb mbestCost nso nsi nit nsh nsf nss nrc mtraced mdealer mnumber mwhose msize misParted), (nt, iA G 240 fnt), (nc, iA G 100 fnc), (nF, sA G 5 (FCT K))] (fun u : Int32 × Nat × Nat × (Nat → Int32) × (List Int32) × (List Int32) => (0 = u.1 ∧ RT bt ktp 2 jd 0 ks cs rs (1, u.2.1, u.2.2.2.2.1, u.2.2.2.2.2) ∧ STP u.2.2.1 u.2.2.2.1 u.2.2.2.2.2) ∨ (1 = u.1 ∧ RT bt ktp 2 jd 0 ks cs rs (0, u.2.1, [], []) ∧ u.2.1 ≤ ktp)) (fun u : Int32 × Nat × Nat × (Nat → Int32) × (List Int32) × (List Int32) => [(h0, oX12 nw nk mhasKept nt (nI ktp) nr mrowMany mroundOf mroundFrom mouts nm mfromHour mtoHour ns (nI u.2.1) (nI (TKE bt ktp u.2.1)) (nI (TKN bt ktp u.2.1)) u.1 (nI jd) (nI u.2.2.1) mlines nl nc nF np ntr nb mbestCost nso nsi nit nsh nsf nss nrc mtraced mdealer mnumber mwhose msize misParted), (nt, iA G 240 fnt), (nc, iA G 100 u.2.2.2.1), (nF, sA G 5 (FCT K))])) : K_m_either_step l G K mn h0 nw nk mhasKept nt ktp nr mrowMany mroundOf mroundFrom mouts nm mfromHour mtoHour ns ks jd kc mlines nl nc nF np ntr nb mbestCost nso nsi nit nsh nsf nss nrc mtraced mdealer mnumber mwhose msize misParted fnt fnc bt cs rs := by
  refine MVo.start (by decide +kernel) (Nat.le_of_ble_eq_true rfl) ?_
  intro p e s m below meth c A ls hC hK hP hD hS hA hl hO
  refine absQ (fun Q0 hQ0 => ?_)
  have hl : lv_has ls 1 [(0, .ref h0)] := hl
  refine Kan8 hC (fun hx hb hr hml hB hown hlocks hnm => ?_)
  have tk0 := TKE.ge (bt := bt) (n := ktp) (s := ks) hks
  have hs1 := hST.1
  refine lv_aload_n hx hb gX12_either_0.1 rfl (lv_at0 hl) ?_
  refine vVo (wr := []) hO hC hK hl hP hD hS hA (m_all l G K mn h0 nw nk mhasKept nt ktp nr mrowMany mroundOf mroundFrom mouts nm mfromHour mtoHour ns ks jd kc mlines nl nc nF np ntr nb mbestCost nso nsi nit nsh nsf nss nrc mtraced mdealer mnumber mwhose msize misParted fnt fnc bt cs rs (by omega) (by omega) (hFB) (hST) (by omega) (by omega) ihE) si_X12_243 [0, 1, 2, 3] [] sm_0_1_2_3 fm_0_1_2_3 nd_0_1_2_3 rfl rfl (by decide) rfl rfl rfl rfl rfl (Nat.le_of_ble_eq_true rfl) ⟨by simp only [RM]; omega, by simp only [RM]; omega⟩ ⟨Nat.le_of_ble_eq_true rfl, Nat.le_of_ble_eq_true rfl⟩ gX12_either_0.2.1 (Ktu6 fun ff16758 ks16759 kc16760 gnc6761 c16762 r16763 => ?_)
  intro H locs hr6756 hP hD hS
  try dsimp only at hr6756
  refine Kpdr (ws := [(h0, oX12 nw nk mhasKept nt (nI ktp) nr mrowMany mroundOf mroundFrom mouts nm mfromHour mtoHour ns (nI ks16759) (nI (TKE bt ktp ks16759)) (nI (TKN bt ktp ks16759)) ff16758 (nI jd) (nI kc16760) mlines nl nc nF np ntr nb mbestCost nso nsi nit nsh nsf nss nrc mtraced mdealer mnumber mwhose msize misParted), (nt, iA G 240 fnt), (nc, iA G 100 gnc6761), (nF, sA G 5 (FCT K))]) hP hD (fun hP hD => ?_)
  have w6764 := hr6756
  rcases w6764 with v6765 | v6766
  · obtain ⟨rfl, hq6767, hq6768⟩ := v6765
    have xl6769 := RT.lem hq6767 (by decide) (by omega)
    have xl6770 := hq6768.1
    have keyD : ∀ (nD : Nat) (vks : Nat) (vc : Nat) (vC : Nat → Int32) (H : Heap) (locs : List Loc) (ls : Array Slot), (3 * vc ≤ vks ∧ vks ≤ ktp ∧ 241 ≤ vks + nD) → (RTV bt ktp 2 jd ks cs rs 4 vks vc vC) → va_PD G A [(h0, oX12 nw nk mhasKept nt (nI ktp) nr mrowMany mroundOf mroundFrom mouts nm mfromHour mtoHour ns (nI vks) (nI (TKE bt ktp vks)) (nI (TKN bt ktp vks)) 0 (nI jd) (nI vc) mlines nl nc nF np ntr nb mbestCost nso nsi nit nsh nsf nss nrc mtraced mdealer mnumber mwhose msize misParted), (nt, iA G 240 fnt), (nc, iA G 100 vC), (nF, sA G 5 (FCT K))] H → va_S A s.heap H locs → lv_has ls 1 [(0, .ref h0)] → W p l e (RM (12 + 4 * mn) 0 0) s m ([.ref h0] : List Value).toArray below meth c H locs 0 0 Q0 (F0 m 4 ls []) := by
      intro nD
      induction nD with
      | zero =>
        intro vks vc vC H locs ls hiD hrw hPD hS hl
        refine Kan2 hPD (fun hP hD => ?_)
        exact (show False by omega).elim
      | succ nD ihD =>
        intro vks vc vC H locs ls hiD hrw hPD hS hl
        refine Kan2 hPD (fun hP hD => ?_)
        have tkv := TKE.ge (bt := bt) (n := ktp) (s := vks) (by omega)
        obtain ⟨c9, q9, hst9, hco9⟩ := hrw
        have hsl9 := hst9.1
        refine lv_aload_n hx hb gX12_either_0.2.2.1 rfl (lv_at0 hl) ?_
        refine va_ldcS (index := 246) (tx := "o\x72") hx hb hown (hO.2.2 8 (by decide)) gX12_either_0.2.2.2.1 ?_
        refine pVo hO hS hC hK hl hP hD (m_isNameX l G K 8 h0 nw nk mhasKept nt ktp nr mrowMany mroundOf mroundFrom mouts nm mfromHour mtoHour ns vks (nI jd) (nI vc) mlines nl nc nF np ntr nb mbestCost nso nsi nit nsh nsf nss nrc mtraced mdealer mnumber mwhose msize misParted fnt bt (htp) (by omega) (hFB) ((by decide))) si_X12_248 [0, 1] sm_0_1 fm_0_1 nd_0_1 rfl rfl rfl rfl rfl (Nat.le_of_ble_eq_true rfl) (rmT (Nat.le_of_ble_eq_true rfl) (Nat.le_of_ble_eq_true rfl)) ⟨by first | exact Nat.le_of_ble_eq_true rfl | exact Nat.zero_le _, by first | exact Nat.le_of_ble_eq_true rfl | exact Nat.zero_le _⟩ gX12_either_0.2.2.2.2.1 (Kors (Keqa fun a6772 => ?_) (Keqa fun a6772 => ?_))
        · have hq6773 := a6772
          have xl6774 : vks + 2 ≤ NXT bt ktp vks ∧ NXT bt ktp vks ≤ ktp := WRD.len hq6773 (by omega)
          refine lv_if_eq (tgt := 31) hx hb gX12_either_0.2.2.2.2.2.1 (by decide) (fun c9 => absurd c9 (by decide)) (fun _ => ?_)
          refine lv_aload_n hx hb gX12_either_0.2.2.2.2.2.2.1 rfl (lv_at0 hl) ?_
          refine vV (wr := [(nc, iA G 100 vC), (nF, sA G 5 (FCT K))]) hC hK hl hP hD hS hA (m_nextT l G h0 nw nk mhasKept nt ktp nr mrowMany mroundOf mroundFrom mouts nm mfromHour mtoHour ns vks 0 (nI jd) (nI vc) mlines nl nc nF np ntr nb mbestCost nso nsi nit nsh nsf nss nrc mtraced mdealer mnumber mwhose msize misParted fnt bt (htp) (by omega) (hFB)) si_X12_233 [0, 1] [2, 3] sm_0_1 fm_0_1 nd_0_1 sm_2_3 nd_2_3 dj_0_1__2_3 rfl rfl rfl rfl rfl (Nat.le_of_ble_eq_true rfl) (rmT (Nat.le_of_ble_eq_true rfl) (Nat.le_of_ble_eq_true rfl)) ⟨Nat.le_of_ble_eq_true rfl, Nat.le_of_ble_eq_true rfl⟩ gX12_either_0.2.2.2.2.2.2.2.1 (fun u6776 H locs hr6775 hP hD hS => ?_)
          refine Kpdr (ws := [(nc, iA G 100 vC), (nF, sA G 5 (FCT K)), (h0, oX12 nw nk mhasKept nt (nI ktp) nr mrowMany mroundOf mroundFrom mouts nm mfromHour mtoHour ns (nI (NXT bt ktp vks)) (nI (TKE bt ktp (NXT bt ktp vks))) (nI (TKN bt ktp (NXT bt ktp vks))) 0 (nI jd) (nI vc) mlines nl nc nF np ntr nb mbestCost nso nsi nit nsh nsf nss nrc mtraced mdealer mnumber mwhose msize misParted), (nt, iA G 240 fnt)]) hP hD (fun hP hD => ?_)
          have xn6777 := NXT.ge (bt := bt) (n := ktp) (s := vks) (by omega)
          refine lv_aload_n hx hb gX12_either_0.2.2.2.2.2.2.2.2.1 rfl (lv_at0 hl) ?_
          refine vVo (wr := []) hO hC hK hl hP hD hS hA (m_all l G K mn h0 nw nk mhasKept nt ktp nr mrowMany mroundOf mroundFrom mouts nm mfromHour mtoHour ns (NXT bt ktp vks) jd vc mlines nl nc nF np ntr nb mbestCost nso nsi nit nsh nsf nss nrc mtraced mdealer mnumber mwhose msize misParted fnt vC bt c9 q9 (by omega) (by omega) (hFB) (hst9) (by omega) (by omega) ihE) si_X12_243 [2, 3, 0, 1] [] sm_2_3_0_1 fm_2_3_0_1 nd_2_3_0_1 rfl rfl (by decide) rfl rfl rfl rfl rfl (Nat.le_of_ble_eq_true rfl) ⟨by simp only [RM]; omega, by simp only [RM]; omega⟩ ⟨Nat.le_of_ble_eq_true rfl, Nat.le_of_ble_eq_true rfl⟩ gX12_either_0.2.2.2.2.2.2.2.2.2 (Ktu6 fun ff16780 ks16781 kc16782 gnc6783 c16784 r16785 => ?_)
          intro H locs hr6778 hP hD hS
          try dsimp only at hr6778
          refine Kpdr (ws := [(h0, oX12 nw nk mhasKept nt (nI ktp) nr mrowMany mroundOf mroundFrom mouts nm mfromHour mtoHour ns (nI ks16781) (nI (TKE bt ktp ks16781)) (nI (TKN bt ktp ks16781)) ff16780 (nI jd) (nI kc16782) mlines nl nc nF np ntr nb mbestCost nso nsi nit nsh nsf nss nrc mtraced mdealer mnumber mwhose msize misParted), (nt, iA G 240 fnt), (nc, iA G 100 gnc6783), (nF, sA G 5 (FCT K))]) hP hD (fun hP hD => ?_)
          have w6786 := hr6778
          rcases w6786 with v6787 | v6788
          · obtain ⟨rfl, hq6789, hq6790⟩ := v6787
            have xl6791 := RT.lem hq6789 (by decide) (by omega)
            have xl6792 := hq6790.1
            refine lv_aload_n hx hb gX12_either_1.1 rfl (lv_at0 hl) ?_
            refine lv_sipush (v := 30002) hx hb gX12_either_1.2.1 (by decide) ?_
            refine vV (wr := [(nt, iA G 240 fnt), (nF, sA G 5 (FCT K))]) hC hK hl hP hD hS hA (m_codes0 l G h0 30002 nw nk mhasKept nt (nI ktp) nr mrowMany mroundOf mroundFrom mouts nm mfromHour mtoHour ns (nI ks16781) (nI (TKE bt ktp ks16781)) (nI (TKN bt ktp ks16781)) (nI jd) kc16782 mlines nl nc nF np ntr nb mbestCost nso nsi nit nsh nsf nss nrc mtraced mdealer mnumber mwhose msize misParted gnc6783 (by omega)) si_X12_252 [0, 2] [1, 3] sm_0_2 fm_0_2 nd_0_2 sm_1_3 nd_1_3 dj_0_2__1_3 rfl rfl rfl rfl rfl (Nat.le_of_ble_eq_true rfl) (rmT (Nat.le_of_ble_eq_true rfl) (Nat.le_of_ble_eq_true rfl)) ⟨Nat.le_of_ble_eq_true rfl, Nat.le_of_ble_eq_true rfl⟩ gX12_either_1.2.2.1 (fun u6794 H locs hr6793 hP hD hS => ?_)
            refine Kpdr (ws := [(nt, iA G 240 fnt), (nF, sA G 5 (FCT K)), (h0, oX12 nw nk mhasKept nt (nI ktp) nr mrowMany mroundOf mroundFrom mouts nm mfromHour mtoHour ns (nI ks16781) (nI (TKE bt ktp ks16781)) (nI (TKN bt ktp ks16781)) 0 (nI jd) (nI (kc16782 + 1)) mlines nl nc nF np ntr nb mbestCost nso nsi nit nsh nsf nss nrc mtraced mdealer mnumber mwhose msize misParted), (nc, iA G 100 (upd gnc6783 kc16782 30002))]) hP hD (fun hP hD => ?_)
            refine lv_goto (tgt := 4) hx hb gX12_either_1.2.2.2.1 (by decide) ?_
            refine Kpds (ws' := [(h0, oX12 nw nk mhasKept nt (nI ktp) nr mrowMany mroundOf mroundFrom mouts nm mfromHour mtoHour ns (nI ks16781) (nI (TKE bt ktp ks16781)) (nI (TKN bt ktp ks16781)) 0 (nI jd) (nI (kc16782 + 1)) mlines nl nc nF np ntr nb mbestCost nso nsi nit nsh nsf nss nrc mtraced mdealer mnumber mwhose msize misParted), (nt, iA G 240 fnt), (nc, iA G 100 (upd gnc6783 kc16782 30002)), (nF, sA G 5 (FCT K))]) hP hD [2, 0, 3, 1] fm_2_0_3_1 nd_2_0_3_1 sm_2_0_3_1 (fun hP hD => ?_)
            exact ihD ks16781 (kc16782 + 1) (upd gnc6783 kc16782 30002) _ _ _ (by omega) (⟨_, _, STP.push hq6790, fun r h9 => hco9 r (RT.orG hq6773 hq6789 h9)⟩) (And.intro hP hD) hS (lv_sub hl [0] rfl)
          · obtain ⟨rfl, hq6795, hq6796⟩ := v6788
            refine lv_aload_n hx hb gX12_either_1.1 rfl (lv_at0 hl) ?_
            refine lv_sipush (v := 30002) hx hb gX12_either_1.2.1 (by decide) ?_
            refine vV (wr := [(nt, iA G 240 fnt), (nc, iA G 100 gnc6783), (nF, sA G 5 (FCT K))]) hC hK hl hP hD hS hA (m_codesF l G h0 30002 nw nk mhasKept nt (nI ktp) nr mrowMany mroundOf mroundFrom mouts nm mfromHour mtoHour ns (nI ks16781) (nI (TKE bt ktp ks16781)) (nI (TKN bt ktp ks16781)) (nI jd) (nI kc16782) mlines nl nc nF np ntr nb mbestCost nso nsi nit nsh nsf nss nrc mtraced mdealer mnumber mwhose msize misParted) si_X12_252 [0] [1, 2, 3] sm_0 fm_0 nd_0 sm_1_2_3 nd_1_2_3 dj_0__1_2_3 rfl rfl rfl rfl rfl (Nat.le_of_ble_eq_true rfl) (rmT (Nat.le_of_ble_eq_true rfl) (Nat.le_of_ble_eq_true rfl)) ⟨Nat.le_of_ble_eq_true rfl, Nat.le_of_ble_eq_true rfl⟩ gX12_either_1.2.2.1 (fun u6798 H locs hr6797 hP hD hS => ?_)
            refine Kpdr (ws := [(nt, iA G 240 fnt), (nc, iA G 100 gnc6783), (nF, sA G 5 (FCT K)), (h0, oX12 nw nk mhasKept nt (nI ktp) nr mrowMany mroundOf mroundFrom mouts nm mfromHour mtoHour ns (nI ks16781) (nI (TKE bt ktp ks16781)) (nI (TKN bt ktp ks16781)) 1 (nI jd) (nI kc16782) mlines nl nc nF np ntr nb mbestCost nso nsi nit nsh nsf nss nrc mtraced mdealer mnumber mwhose msize misParted)]) hP hD (fun hP hD => ?_)
            refine lv_goto (tgt := 4) hx hb gX12_either_1.2.2.2.1 (by decide) ?_
            refine lv_aload_n hx hb gX12_either_0.2.2.1 rfl (lv_at0 hl) ?_
            refine va_ldcS (index := 246) (tx := "o\x72") hx hb hown (hO.2.2 8 (by decide)) gX12_either_0.2.2.2.1 ?_
            refine pVo hO hS hC hK hl hP hD (m_isNameF l G K 8 h0 nw nk mhasKept nt (nI ktp) nr mrowMany mroundOf mroundFrom mouts nm mfromHour mtoHour ns (nI ks16781) (nI (TKE bt ktp ks16781)) (nI (TKN bt ktp ks16781)) (nI jd) (nI kc16782) mlines nl nc nF np ntr nb mbestCost nso nsi nit nsh nsf nss nrc mtraced mdealer mnumber mwhose msize misParted ((by decide))) si_X12_248 [3] sm_3 fm_3 nd_3 rfl rfl rfl rfl rfl (Nat.le_of_ble_eq_true rfl) (rmT (Nat.le_of_ble_eq_true rfl) (Nat.le_of_ble_eq_true rfl)) ⟨by first | exact Nat.le_of_ble_eq_true rfl | exact Nat.zero_le _, by first | exact Nat.le_of_ble_eq_true rfl | exact Nat.zero_le _⟩ gX12_either_0.2.2.2.2.1 (Keqr ?_)
            refine lv_if_eq (tgt := 31) hx hb gX12_either_0.2.2.2.2.2.1 (by decide) (fun _ => ?_) (fun c9 => absurd (by decide) c9)
            refine toQ hQ0 ?_
            exact RV hC hP hD hS [3, 0, 1, 2] (1, ks16781, kc16782, gnc6783, [], []) rfl rfl (by decide) (Or.inr ⟨rfl, hco9 _ (RT.orF hq6773 hq6795 rfl), by (try dsimp only); omega⟩) gX12_either_1.2.2.2.2
        · have hq6801 := a6772
          refine lv_if_eq (tgt := 31) hx hb gX12_either_0.2.2.2.2.2.1 (by decide) (fun _ => ?_) (fun c9 => absurd (by decide) c9)
          refine toQ hQ0 ?_
          exact RV hC hP hD hS [0, 1, 2, 3] (0, vks, vc, vC, c9, q9) rfl rfl (by decide) (Or.inl ⟨rfl, hco9 _ (RT.orE hq6801), hst9⟩) gX12_either_1.2.2.2.2
    exact keyD 241 ks16759 kc16760 gnc6761 _ _ _ (by omega) (⟨c16762, r16763, hq6768, fun _ h9 => RT.conG hq6767 h9⟩) (And.intro hP hD) hS (lv_sub hl [0] rfl)
  · obtain ⟨rfl, hq6802, hq6803⟩ := v6766
    refine lv_aload_n hx hb gX12_either_0.2.2.1 rfl (lv_at0 hl) ?_
    refine va_ldcS (index := 246) (tx := "o\x72") hx hb hown (hO.2.2 8 (by decide)) gX12_either_0.2.2.2.1 ?_
    refine pVo hO hS hC hK hl hP hD (m_isNameF l G K 8 h0 nw nk mhasKept nt (nI ktp) nr mrowMany mroundOf mroundFrom mouts nm mfromHour mtoHour ns (nI ks16759) (nI (TKE bt ktp ks16759)) (nI (TKN bt ktp ks16759)) (nI jd) (nI kc16760) mlines nl nc nF np ntr nb mbestCost nso nsi nit nsh nsf nss nrc mtraced mdealer mnumber mwhose msize misParted ((by decide))) si_X12_248 [0] sm_0 fm_0 nd_0 rfl rfl rfl rfl rfl (Nat.le_of_ble_eq_true rfl) (rmT (Nat.le_of_ble_eq_true rfl) (Nat.le_of_ble_eq_true rfl)) ⟨by first | exact Nat.le_of_ble_eq_true rfl | exact Nat.zero_le _, by first | exact Nat.le_of_ble_eq_true rfl | exact Nat.zero_le _⟩ gX12_either_0.2.2.2.2.1 (Keqr ?_)
    refine lv_if_eq (tgt := 31) hx hb gX12_either_0.2.2.2.2.2.1 (by decide) (fun _ => ?_) (fun c9 => absurd (by decide) c9)
    refine toQ hQ0 ?_
    exact RV hC hP hD hS [0, 1, 2, 3] (1, ks16759, kc16760, gnc6761, [], []) rfl rfl (by decide) (Or.inr ⟨rfl, RT.conF hq6802 rfl, by (try dsimp only); omega⟩) gX12_either_1.2.2.2.2
theorem m_either (l : Launch) (G : GG) (K : OO) : ∀ (mn : Nat) (h0 : Nat) (nw : Nat) (nk : Nat) (mhasKept : Int32) (nt : Nat) (ktp : Nat) (nr : Nat) (mrowMany : Int32) (mroundOf : Int32) (mroundFrom : Int32) (mouts : Int32) (nm : Nat) (mfromHour : Int32) (mtoHour : Int32) (ns : Nat) (ks : Nat) (jd : Nat) (kc : Nat) (mlines : Int32) (nl : Nat) (nc : Nat) (nF : Nat) (np : Nat) (ntr : Nat) (nb : Nat) (mbestCost : Int32) (nso : Nat) (nsi : Nat) (nit : Nat) (nsh : Nat) (nsf : Nat) (nss : Nat) (nrc : Nat) (mtraced : Int32) (mdealer : Int32) (mnumber : Int32) (mwhose : Int32) (msize : Int32) (misParted : Int32) (fnt : Nat → Int32) (fnc : Nat → Int32) (bt : Nat → Int32) (cs : List Int32) (rs : List Int32) (htp : ktp ≤ 240) (hks : ks ≤ ktp) (hFB : FBT fnt bt ktp) (hST : STP kc fnc rs) (h3s : 3 * kc ≤ ks) (hjm : jd + mn = 4), MVo l G K yX12_either cX12_either 1 (12 + 4 * mn) 0 0 [.ref h0] [(h0, oX12 nw nk mhasKept nt (nI ktp) nr mrowMany mroundOf mroundFrom mouts nm mfromHour mtoHour ns (nI ks) (nI (TKE bt ktp ks)) (nI (TKN bt ktp ks)) 0 (nI jd) (nI kc) mlines nl nc nF np ntr nb mbestCost nso nsi nit nsh nsf nss nrc mtraced mdealer mnumber mwhose msize misParted), (nt, iA G 240 fnt), (nc, iA G 100 fnc), (nF, sA G 5 (FCT K))] (fun u : Int32 × Nat × Nat × (Nat → Int32) × (List Int32) × (List Int32) => (0 = u.1 ∧ RT bt ktp 2 jd 0 ks cs rs (1, u.2.1, u.2.2.2.2.1, u.2.2.2.2.2) ∧ STP u.2.2.1 u.2.2.2.1 u.2.2.2.2.2) ∨ (1 = u.1 ∧ RT bt ktp 2 jd 0 ks cs rs (0, u.2.1, [], []) ∧ u.2.1 ≤ ktp)) (fun u : Int32 × Nat × Nat × (Nat → Int32) × (List Int32) × (List Int32) => [(h0, oX12 nw nk mhasKept nt (nI ktp) nr mrowMany mroundOf mroundFrom mouts nm mfromHour mtoHour ns (nI u.2.1) (nI (TKE bt ktp u.2.1)) (nI (TKN bt ktp u.2.1)) u.1 (nI jd) (nI u.2.2.1) mlines nl nc nF np ntr nb mbestCost nso nsi nit nsh nsf nss nrc mtraced mdealer mnumber mwhose msize misParted), (nt, iA G 240 fnt), (nc, iA G 100 u.2.2.2.1), (nF, sA G 5 (FCT K))]) := by
  intro mn
  induction mn using Nat.strongRecOn with
  | ind mn ih => exact fun h0 nw nk mhasKept nt ktp nr mrowMany mroundOf mroundFrom mouts nm mfromHour mtoHour ns ks jd kc mlines nl nc nF np ntr nb mbestCost nso nsi nit nsh nsf nss nrc mtraced mdealer mnumber mwhose msize misParted fnt fnc bt cs rs htp hks hFB hST h3s hjm => m_either_step l G K mn h0 nw nk mhasKept nt ktp nr mrowMany mroundOf mroundFrom mouts nm mfromHour mtoHour ns ks jd kc mlines nl nc nF np ntr nb mbestCost nso nsi nit nsh nsf nss nrc mtraced mdealer mnumber mwhose msize misParted fnt fnc bt cs rs htp hks hFB hST h3s hjm ih
def K_m_lineAt (l : Launch) (G : GG) (K : OO) (h0 : Nat) (nw : Nat) (nk : Nat) (mhasKept : Int32) (nt : Nat) (ktp : Nat) (nr : Nat) (mrowMany : Int32) (mroundOf : Int32) (mroundFrom : Int32) (mouts : Int32) (nm : Nat) (mfromHour : Int32) (mtoHour : Int32) (ns : Nat) (ks : Nat) (kc : Nat) (kl : Nat) (nl : Nat) (nc : Nat) (nF : Nat) (np : Nat) (ntr : Nat) (nb : Nat) (mbestCost : Int32) (nso : Nat) (nsi : Nat) (nit : Nat) (nsh : Nat) (nsf : Nat) (nss : Nat) (nrc : Nat) (mtraced : Int32) (mdealer : Int32) (mnumber : Int32) (mwhose : Int32) (msize : Int32) (misParted : Int32) (fnt : Nat → Int32) (fnc : Nat → Int32) (fnl : Nat → Int32) (bt : Nat → Int32) (cs : List Int32) (rs : List Int32) : Prop := MVo l G K yX12_lineAt cX12_lineAt 3 32 0 0 [.ref h0, .int (nI (6 * kl))] [(h0, oX12 nw nk mhasKept nt (nI ktp) nr mrowMany mroundOf mroundFrom mouts nm mfromHour mtoHour ns (nI ks) (nI (TKE bt ktp ks)) (nI (TKN bt ktp ks)) 0 0 (nI kc) (nI kl) nl nc nF np ntr nb mbestCost nso nsi nit nsh nsf nss nrc mtraced mdealer mnumber mwhose msize misParted), (nt, iA G 240 fnt), (nc, iA G 100 fnc), (nl, iA G 54 fnl), (nF, sA G 5 (FCT K))] (fun u : Int32 × Nat × Nat × (Nat → Int32) × (Nat → Int32) × LNT × (List Int32) × (List Int32) => (0 = u.1 ∧ RLN bt ktp ks cs rs (1, u.2.1, u.2.2.2.2.2.1, u.2.2.2.2.2.2.1, u.2.2.2.2.2.2.2) ∧ STP u.2.2.1 u.2.2.2.1 u.2.2.2.2.2.2.2 ∧ LNM fnl u.2.2.2.2.1 kl u.2.2.2.2.2.1 ∧ 3 * u.2.2.1 ≤ u.2.1 ∧ u.2.1 ≤ ktp) ∨ (1 = u.1 ∧ RLN bt ktp ks cs rs (0, u.2.1, LN0, [], []) ∧ u.2.1 ≤ ktp)) (fun u : Int32 × Nat × Nat × (Nat → Int32) × (Nat → Int32) × LNT × (List Int32) × (List Int32) => [(h0, oX12 nw nk mhasKept nt (nI ktp) nr mrowMany mroundOf mroundFrom mouts nm mfromHour mtoHour ns (nI u.2.1) (nI (TKE bt ktp u.2.1)) (nI (TKN bt ktp u.2.1)) u.1 0 (nI u.2.2.1) (nI kl) nl nc nF np ntr nb mbestCost nso nsi nit nsh nsf nss nrc mtraced mdealer mnumber mwhose msize misParted), (nt, iA G 240 fnt), (nc, iA G 100 u.2.2.2.1), (nl, iA G 54 u.2.2.2.2.1), (nF, sA G 5 (FCT K))])
set_option maxHeartbeats 4000000 in
set_option maxRecDepth 100000 in
theorem m_lineAt (l : Launch) (G : GG) (K : OO) (h0 : Nat) (nw : Nat) (nk : Nat) (mhasKept : Int32) (nt : Nat) (ktp : Nat) (nr : Nat) (mrowMany : Int32) (mroundOf : Int32) (mroundFrom : Int32) (mouts : Int32) (nm : Nat) (mfromHour : Int32) (mtoHour : Int32) (ns : Nat) (ks : Nat) (kc : Nat) (kl : Nat) (nl : Nat) (nc : Nat) (nF : Nat) (np : Nat) (ntr : Nat) (nb : Nat) (mbestCost : Int32) (nso : Nat) (nsi : Nat) (nit : Nat) (nsh : Nat) (nsf : Nat) (nss : Nat) (nrc : Nat) (mtraced : Int32) (mdealer : Int32) (mnumber : Int32) (mwhose : Int32) (msize : Int32) (misParted : Int32) (fnt : Nat → Int32) (fnc : Nat → Int32) (fnl : Nat → Int32) (bt : Nat → Int32) (cs : List Int32) (rs : List Int32) (htp : ktp ≤ 240) (hks : ks ≤ ktp) (hFB : FBT fnt bt ktp) (hST : STP kc fnc rs) (h3s : 3 * kc ≤ ks) (hkl : kl < 9) : K_m_lineAt l G K h0 nw nk mhasKept nt ktp nr mrowMany mroundOf mroundFrom mouts nm mfromHour mtoHour ns ks kc kl nl nc nF np ntr nb mbestCost nso nsi nit nsh nsf nss nrc mtraced mdealer mnumber mwhose msize misParted fnt fnc fnl bt cs rs := by
  refine MVo.start (by decide +kernel) (Nat.le_of_ble_eq_true rfl) ?_
  intro p e s m below meth c A ls hC hK hP hD hS hA hl hO
  refine absQ (fun Q0 hQ0 => ?_)
  have hl : lv_has ls 3 [(0, .ref h0), (1, .int (nI (6 * kl)))] := hl
  refine Kan8 hC (fun hx hb hr hml hB hown hlocks hnm => ?_)
  have tk0 := TKE.ge (bt := bt) (n := ktp) (s := ks) hks
  have hs1 := hST.1
  refine lv_aload_n hx hb gX12_lineAt_0.1 rfl (lv_at0 hl) ?_
  refine va_ldcSw (index := 274) (tx := "taken") hx hb hown (hO.2.2 1 (by decide)) gX12_lineAt_0.2.1 ?_
  refine pVo hO hS hC hK hl hP hD (m_isNameX l G K 1 h0 nw nk mhasKept nt ktp nr mrowMany mroundOf mroundFrom mouts nm mfromHour mtoHour ns ks 0 (nI kc) (nI kl) nl nc nF np ntr nb mbestCost nso nsi nit nsh nsf nss nrc mtraced mdealer mnumber mwhose msize misParted fnt bt (htp) (hks) (hFB) ((by decide))) si_X12_248 [0, 1] sm_0_1 fm_0_1 nd_0_1 rfl rfl rfl rfl rfl (Nat.le_of_ble_eq_true rfl) rm_32_5_4 ⟨by first | exact Nat.le_of_ble_eq_true rfl | exact Nat.zero_le _, by first | exact Nat.le_of_ble_eq_true rfl | exact Nat.zero_le _⟩ gX12_lineAt_0.2.2.1 (Kors (Keqa fun a6807 => ?_) (Keqa fun a6807 => ?_))
  · have hq6808 := a6807
    have xl6809 : ks + 5 ≤ NXT bt ktp ks ∧ NXT bt ktp ks ≤ ktp := WRD.len hq6808 (by omega)
    refine lv_if_eq (tgt := 14) hx hb gX12_lineAt_0.2.2.2.1 (by decide) (fun c9 => absurd c9 (by decide)) (fun _ => ?_)
    refine lv_iconst (v := 0) hx hb gX12_lineAt_0.2.2.2.2.1 (by decide) ?_
    refine lv_goto (tgt := 57) hx hb gX12_lineAt_0.2.2.2.2.2.1 (by decide) ?_
    refine lv_istore_n (lv' := [(2, .int 0), (0, .ref h0), (1, .int (nI (6 * kl)))]) hx hb gX12_lineAt_2.2.2.2.2.2.1 rfl hl (by decide) rfl (fun ls hl => ?_)
    refine lv_aload_n hx hb gX12_lineAt_2.2.2.2.2.2.2.1 rfl (lv_at1 hl) ?_
    refine lv_iload_n hx hb gX12_lineAt_2.2.2.2.2.2.2.2.1 rfl (lv_at0 hl) ?_
    refine lv_if_lt (tgt := 67) hx hb gX12_lineAt_2.2.2.2.2.2.2.2.2.1 (by decide) (fun c9 => absurd c9 (by decide)) (fun _ => ?_)
    refine lv_iconst (v := 1) hx hb gX12_lineAt_2.2.2.2.2.2.2.2.2.2 (by decide) ?_
    refine lv_goto (tgt := 68) hx hb gX12_lineAt_3.1 (by decide) ?_
    refine vV (wr := [(nc, iA G 100 fnc), (nl, iA G 54 fnl), (nF, sA G 5 (FCT K))]) hC hK hl hP hD hS hA (m_need1X l G h0 nw nk mhasKept nt ktp nr mrowMany mroundOf mroundFrom mouts nm mfromHour mtoHour ns ks 0 (nI kc) (nI kl) nl nc nF np ntr nb mbestCost nso nsi nit nsh nsf nss nrc mtraced mdealer mnumber mwhose msize misParted fnt bt (htp) (hks) (hFB)) si_X12_236 [0, 1] [2, 3, 4] sm_0_1 fm_0_1 nd_0_1 sm_2_3_4 nd_2_3_4 dj_0_1__2_3_4 rfl rfl rfl rfl rfl (Nat.le_of_ble_eq_true rfl) rm_32_4_2 ⟨Nat.le_of_ble_eq_true rfl, Nat.le_of_ble_eq_true rfl⟩ gX12_lineAt_3.2.2.1 (fun u6811 H locs hr6810 hP hD hS => ?_)
    refine Kpdr (ws := [(nc, iA G 100 fnc), (nl, iA G 54 fnl), (nF, sA G 5 (FCT K)), (h0, oX12 nw nk mhasKept nt (nI ktp) nr mrowMany mroundOf mroundFrom mouts nm mfromHour mtoHour ns (nI (NXT bt ktp ks)) (nI (TKE bt ktp (NXT bt ktp ks))) (nI (TKN bt ktp (NXT bt ktp ks))) 0 0 (nI kc) (nI kl) nl nc nF np ntr nb mbestCost nso nsi nit nsh nsf nss nrc mtraced mdealer mnumber mwhose msize misParted), (nt, iA G 240 fnt)]) hP hD (fun hP hD => ?_)
    have xn6812 := NXT.ge (bt := bt) (n := ktp) (s := ks) (by omega)
    refine lv_aload_n hx hb gX12_lineAt_3.2.2.2.1 rfl (lv_at1 hl) ?_
    refine gf_X12_32 hC rfl hK hP 3 rfl rfl gX12_lineAt_3.2.2.2.2.1 ?_
    refine lv_iload_n hx hb gX12_lineAt_3.2.2.2.2.2.1 rfl (lv_at2 hl) ?_
    refine lv_iload_n hx hb gX12_lineAt_3.2.2.2.2.2.2.1 rfl (lv_at0 hl) ?_
    refine astN hC hK hP hD hS 1 (ws' := [(nc, iA G 100 fnc), (nl, iA G 54 (upd fnl (6 * kl) 0)), (nF, sA G 5 (FCT K)), (h0, oX12 nw nk mhasKept nt (nI ktp) nr mrowMany mroundOf mroundFrom mouts nm mfromHour mtoHour ns (nI (NXT bt ktp ks)) (nI (TKE bt ktp (NXT bt ktp ks))) (nI (TKN bt ktp (NXT bt ktp ks))) 0 0 (nI kc) (nI kl) nl nc nF np ntr nb mbestCost nso nsi nit nsh nsf nss nrc mtraced mdealer mnumber mwhose msize misParted), (nt, iA G 240 fnt)]) rfl (k := (6 * kl)) (by omega) (Nat.le_of_ble_eq_true rfl) (rfl) gX12_lineAt_3.2.2.2.2.2.2.2.1 (fun H locs hP hD hS => ?_)
    refine lv_aload_n hx hb gX12_lineAt_3.2.2.2.2.2.2.2.2.1 rfl (lv_at1 hl) ?_
    refine gf_X12_32 hC rfl hK hP 3 rfl rfl gX12_lineAt_3.2.2.2.2.2.2.2.2.2 ?_
    refine lv_iload_n hx hb gX12_lineAt_4.1 rfl (lv_at2 hl) ?_
    refine lv_iconst (v := 1) hx hb gX12_lineAt_4.2.1 (by decide) ?_
    refine lv_iadd hx hb gX12_lineAt_4.2.2.1 ?_
    refine eqi (x1 := nI (6 * kl + 1)) (nI_add (6 * kl) 1) ?_
    refine lv_aload_n hx hb gX12_lineAt_4.2.2.2.1 rfl (lv_at1 hl) ?_
    refine lv_iload_n hx hb gX12_lineAt_4.2.2.2.2.1 rfl (lv_at0 hl) ?_
    refine lv_if_eq (tgt := 95) hx hb gX12_lineAt_4.2.2.2.2.2.1 (by decide) (fun _ => ?_) (fun c9 => absurd (by decide) c9)
    refine lv_bipush (v := 99) hx hb gX12_lineAt_4.2.2.2.2.2.2.2.2.2 (by decide) ?_
    refine lv_goto (tgt := 112) hx hb gX12_lineAt_5.1 (by decide) ?_
    refine iV (wr := [(nc, iA G 100 fnc), (nl, iA G 54 (upd fnl (6 * kl) 0)), (nF, sA G 5 (FCT K))]) hC hK hl hP hD hS hA (m_numberX l G h0 99 nw nk mhasKept nt ktp nr mrowMany mroundOf mroundFrom mouts nm mfromHour mtoHour ns (NXT bt ktp ks) 0 (nI kc) (nI kl) nl nc nF np ntr nb mbestCost nso nsi nit nsh nsf nss nrc mtraced mdealer mnumber mwhose msize misParted fnt bt (htp) (by omega) (hFB) (by omega)) si_X12_271 [3, 4] [0, 1, 2] sm_3_4 fm_3_4 nd_3_4 sm_0_1_2 nd_0_1_2 dj_3_4__0_1_2 rfl rfl rfl rfl rfl (Nat.le_of_ble_eq_true rfl) rm_32_5_5 ⟨Nat.le_of_ble_eq_true rfl, Nat.le_of_ble_eq_true rfl⟩ gX12_lineAt_5.2.2.2.2.2.2.2.1 (fun r6813 => Ktu2 fun ff16815 ks16816 => ?_)
    intro H locs hr6813 hP hD hS
    try dsimp only at hr6813
    refine Kpdr (ws := [(nc, iA G 100 fnc), (nl, iA G 54 (upd fnl (6 * kl) 0)), (nF, sA G 5 (FCT K)), (h0, oX12 nw nk mhasKept nt (nI ktp) nr mrowMany mroundOf mroundFrom mouts nm mfromHour mtoHour ns (nI ks16816) (nI (TKE bt ktp ks16816)) (nI (TKN bt ktp ks16816)) ff16815 0 (nI kc) (nI kl) nl nc nF np ntr nb mbestCost nso nsi nit nsh nsf nss nrc mtraced mdealer mnumber mwhose msize misParted), (nt, iA G 240 fnt)]) hP hD (fun hP hD => ?_)
    obtain ⟨hr6813, w6817⟩ := hr6813
    rcases w6817 with v6818 | v6819
    · obtain ⟨rfl, rfl, rfl, hq6820⟩ := v6818
      have xl6821 := NML.len hq6820 (by omega)
      refine astN hC hK hP hD hS 1 (ws' := [(nc, iA G 100 fnc), (nl, iA G 54 (upd (upd fnl (6 * kl) 0) (6 * kl + 1) (nI (NVL bt ktp (NXT bt ktp ks))))), (nF, sA G 5 (FCT K)), (h0, oX12 nw nk mhasKept nt (nI ktp) nr mrowMany mroundOf mroundFrom mouts nm mfromHour mtoHour ns (nI (NXT bt ktp (NXT bt ktp ks))) (nI (TKE bt ktp (NXT bt ktp (NXT bt ktp ks)))) (nI (TKN bt ktp (NXT bt ktp (NXT bt ktp ks)))) 0 0 (nI kc) (nI kl) nl nc nF np ntr nb mbestCost nso nsi nit nsh nsf nss nrc mtraced mdealer mnumber mwhose msize misParted), (nt, iA G 240 fnt)]) rfl (k := (6 * kl + 1)) (by omega) (Nat.le_of_ble_eq_true rfl) (rfl) gX12_lineAt_5.2.2.2.2.2.2.2.2.1 (fun H locs hP hD hS => ?_)
      refine lv_aload_n hx hb gX12_lineAt_5.2.2.2.2.2.2.2.2.2 rfl (lv_at1 hl) ?_
      refine gf_X12_32 hC rfl hK hP 3 rfl rfl gX12_lineAt_6.1 ?_
      refine lv_iload_n hx hb gX12_lineAt_6.2.1 rfl (lv_at2 hl) ?_
      refine lv_iconst (v := 2) hx hb gX12_lineAt_6.2.2.1 (by decide) ?_
      refine lv_iadd hx hb gX12_lineAt_6.2.2.2.1 ?_
      refine eqi (x1 := nI (6 * kl + 2)) (nI_add (6 * kl) 2) ?_
      refine lv_bipush (v := (-9)) hx hb gX12_lineAt_6.2.2.2.2.1 (by decide) ?_
      refine astN hC hK hP hD hS 1 (ws' := [(nc, iA G 100 fnc), (nl, iA G 54 (upd (upd (upd fnl (6 * kl) 0) (6 * kl + 1) (nI (NVL bt ktp (NXT bt ktp ks)))) (6 * kl + 2) (-9))), (nF, sA G 5 (FCT K)), (h0, oX12 nw nk mhasKept nt (nI ktp) nr mrowMany mroundOf mroundFrom mouts nm mfromHour mtoHour ns (nI (NXT bt ktp (NXT bt ktp ks))) (nI (TKE bt ktp (NXT bt ktp (NXT bt ktp ks)))) (nI (TKN bt ktp (NXT bt ktp (NXT bt ktp ks)))) 0 0 (nI kc) (nI kl) nl nc nF np ntr nb mbestCost nso nsi nit nsh nsf nss nrc mtraced mdealer mnumber mwhose msize misParted), (nt, iA G 240 fnt)]) rfl (k := (6 * kl + 2)) (by omega) (Nat.le_of_ble_eq_true rfl) (rfl) gX12_lineAt_6.2.2.2.2.2.1 (fun H locs hP hD hS => ?_)
      refine lv_aload_n hx hb gX12_lineAt_6.2.2.2.2.2.2.1 rfl (lv_at1 hl) ?_
      refine gf_X12_32 hC rfl hK hP 3 rfl rfl gX12_lineAt_6.2.2.2.2.2.2.2.1 ?_
      refine lv_iload_n hx hb gX12_lineAt_6.2.2.2.2.2.2.2.2.1 rfl (lv_at2 hl) ?_
      refine lv_iconst (v := 3) hx hb gX12_lineAt_6.2.2.2.2.2.2.2.2.2 (by decide) ?_
      refine lv_iadd hx hb gX12_lineAt_7.1 ?_
      refine eqi (x1 := nI (6 * kl + 3)) (nI_add (6 * kl) 3) ?_
      refine lv_bipush (v := (-9)) hx hb gX12_lineAt_7.2.1 (by decide) ?_
      refine astN hC hK hP hD hS 1 (ws' := [(nc, iA G 100 fnc), (nl, iA G 54 (upd (upd (upd (upd fnl (6 * kl) 0) (6 * kl + 1) (nI (NVL bt ktp (NXT bt ktp ks)))) (6 * kl + 2) (-9)) (6 * kl + 3) (-9))), (nF, sA G 5 (FCT K)), (h0, oX12 nw nk mhasKept nt (nI ktp) nr mrowMany mroundOf mroundFrom mouts nm mfromHour mtoHour ns (nI (NXT bt ktp (NXT bt ktp ks))) (nI (TKE bt ktp (NXT bt ktp (NXT bt ktp ks)))) (nI (TKN bt ktp (NXT bt ktp (NXT bt ktp ks)))) 0 0 (nI kc) (nI kl) nl nc nF np ntr nb mbestCost nso nsi nit nsh nsf nss nrc mtraced mdealer mnumber mwhose msize misParted), (nt, iA G 240 fnt)]) rfl (k := (6 * kl + 3)) (by omega) (Nat.le_of_ble_eq_true rfl) (rfl) gX12_lineAt_7.2.2.1 (fun H locs hP hD hS => ?_)
      refine lv_iload_n hx hb gX12_lineAt_7.2.2.2.1 rfl (lv_at0 hl) ?_
      refine lv_if_ne (tgt := 190) hx hb gX12_lineAt_7.2.2.2.2.1 (by decide) (fun c9 => absurd (by decide) c9) (fun _ => ?_)
      refine lv_aload_n hx hb gX12_lineAt_7.2.2.2.2.2.1 rfl (lv_at1 hl) ?_
      refine lv_aload_n hx hb gX12_lineAt_7.2.2.2.2.2.2.1 rfl (lv_at1 hl) ?_
      refine va_ldcSw (index := 282) (tx := "of") hx hb hown (hO.2.2 5 (by decide)) gX12_lineAt_7.2.2.2.2.2.2.2.1 ?_
      refine pVo hO hS hC hK hl hP hD (m_isNameX l G K 5 h0 nw nk mhasKept nt ktp nr mrowMany mroundOf mroundFrom mouts nm mfromHour mtoHour ns (NXT bt ktp (NXT bt ktp ks)) 0 (nI kc) (nI kl) nl nc nF np ntr nb mbestCost nso nsi nit nsh nsf nss nrc mtraced mdealer mnumber mwhose msize misParted fnt bt (htp) (by omega) (hFB) ((by decide))) si_X12_248 [3, 4] sm_3_4 fm_3_4 nd_3_4 rfl rfl rfl rfl rfl (Nat.le_of_ble_eq_true rfl) rm_32_5_4 ⟨by first | exact Nat.le_of_ble_eq_true rfl | exact Nat.zero_le _, by first | exact Nat.le_of_ble_eq_true rfl | exact Nat.zero_le _⟩ gX12_lineAt_7.2.2.2.2.2.2.2.2.1 (Kors (Keqa fun a6823 => ?_) (Keqa fun a6823 => ?_))
      · have hq6824 := a6823
        have xl6825 : (NXT bt ktp (NXT bt ktp ks)) + 2 ≤ NXT bt ktp (NXT bt ktp (NXT bt ktp ks)) ∧ NXT bt ktp (NXT bt ktp (NXT bt ktp ks)) ≤ ktp := WRD.len hq6824 (by omega)
        refine vV (wr := [(nc, iA G 100 fnc), (nl, iA G 54 (upd (upd (upd (upd fnl (6 * kl) 0) (6 * kl + 1) (nI (NVL bt ktp (NXT bt ktp ks)))) (6 * kl + 2) (-9)) (6 * kl + 3) (-9))), (nF, sA G 5 (FCT K))]) hC hK hl hP hD hS hA (m_need1X l G h0 nw nk mhasKept nt ktp nr mrowMany mroundOf mroundFrom mouts nm mfromHour mtoHour ns (NXT bt ktp (NXT bt ktp ks)) 0 (nI kc) (nI kl) nl nc nF np ntr nb mbestCost nso nsi nit nsh nsf nss nrc mtraced mdealer mnumber mwhose msize misParted fnt bt (htp) (by omega) (hFB)) si_X12_236 [3, 4] [0, 1, 2] sm_3_4 fm_3_4 nd_3_4 sm_0_1_2 nd_0_1_2 dj_3_4__0_1_2 rfl rfl rfl rfl rfl (Nat.le_of_ble_eq_true rfl) rm_32_4_2 ⟨Nat.le_of_ble_eq_true rfl, Nat.le_of_ble_eq_true rfl⟩ gX12_lineAt_7.2.2.2.2.2.2.2.2.2 (fun u6827 H locs hr6826 hP hD hS => ?_)
        refine Kpdr (ws := [(nc, iA G 100 fnc), (nl, iA G 54 (upd (upd (upd (upd fnl (6 * kl) 0) (6 * kl + 1) (nI (NVL bt ktp (NXT bt ktp ks)))) (6 * kl + 2) (-9)) (6 * kl + 3) (-9))), (nF, sA G 5 (FCT K)), (h0, oX12 nw nk mhasKept nt (nI ktp) nr mrowMany mroundOf mroundFrom mouts nm mfromHour mtoHour ns (nI (NXT bt ktp (NXT bt ktp (NXT bt ktp ks)))) (nI (TKE bt ktp (NXT bt ktp (NXT bt ktp (NXT bt ktp ks))))) (nI (TKN bt ktp (NXT bt ktp (NXT bt ktp (NXT bt ktp ks))))) 0 0 (nI kc) (nI kl) nl nc nF np ntr nb mbestCost nso nsi nit nsh nsf nss nrc mtraced mdealer mnumber mwhose msize misParted), (nt, iA G 240 fnt)]) hP hD (fun hP hD => ?_)
        have xn6828 := NXT.ge (bt := bt) (n := ktp) (s := (NXT bt ktp (NXT bt ktp ks))) (by omega)
        refine lv_aload_n hx hb gX12_lineAt_8.1 rfl (lv_at1 hl) ?_
        refine gf_X12_32 hC rfl hK hP 3 rfl rfl gX12_lineAt_8.2.1 ?_
        refine lv_iload_n hx hb gX12_lineAt_8.2.2.1 rfl (lv_at2 hl) ?_
        refine lv_iconst (v := 2) hx hb gX12_lineAt_8.2.2.2.1 (by decide) ?_
        refine lv_iadd hx hb gX12_lineAt_8.2.2.2.2.1 ?_
        refine eqi (x1 := nI (6 * kl + 2)) (nI_add (6 * kl) 2) ?_
        refine lv_aload_n hx hb gX12_lineAt_8.2.2.2.2.2.1 rfl (lv_at1 hl) ?_
        refine lv_bipush (v := 7) hx hb gX12_lineAt_8.2.2.2.2.2.2.1 (by decide) ?_
        refine iV (wr := [(nc, iA G 100 fnc), (nl, iA G 54 (upd (upd (upd (upd fnl (6 * kl) 0) (6 * kl + 1) (nI (NVL bt ktp (NXT bt ktp ks)))) (6 * kl + 2) (-9)) (6 * kl + 3) (-9))), (nF, sA G 5 (FCT K))]) hC hK hl hP hD hS hA (m_numberX l G h0 7 nw nk mhasKept nt ktp nr mrowMany mroundOf mroundFrom mouts nm mfromHour mtoHour ns (NXT bt ktp (NXT bt ktp (NXT bt ktp ks))) 0 (nI kc) (nI kl) nl nc nF np ntr nb mbestCost nso nsi nit nsh nsf nss nrc mtraced mdealer mnumber mwhose msize misParted fnt bt (htp) (by omega) (hFB) (by omega)) si_X12_271 [3, 4] [0, 1, 2] sm_3_4 fm_3_4 nd_3_4 sm_0_1_2 nd_0_1_2 dj_3_4__0_1_2 rfl rfl rfl rfl rfl (Nat.le_of_ble_eq_true rfl) rm_32_5_5 ⟨Nat.le_of_ble_eq_true rfl, Nat.le_of_ble_eq_true rfl⟩ gX12_lineAt_8.2.2.2.2.2.2.2.1 (fun r6829 => Ktu2 fun ff16831 ks16832 => ?_)
        intro H locs hr6829 hP hD hS
        try dsimp only at hr6829
        refine Kpdr (ws := [(nc, iA G 100 fnc), (nl, iA G 54 (upd (upd (upd (upd fnl (6 * kl) 0) (6 * kl + 1) (nI (NVL bt ktp (NXT bt ktp ks)))) (6 * kl + 2) (-9)) (6 * kl + 3) (-9))), (nF, sA G 5 (FCT K)), (h0, oX12 nw nk mhasKept nt (nI ktp) nr mrowMany mroundOf mroundFrom mouts nm mfromHour mtoHour ns (nI ks16832) (nI (TKE bt ktp ks16832)) (nI (TKN bt ktp ks16832)) ff16831 0 (nI kc) (nI kl) nl nc nF np ntr nb mbestCost nso nsi nit nsh nsf nss nrc mtraced mdealer mnumber mwhose msize misParted), (nt, iA G 240 fnt)]) hP hD (fun hP hD => ?_)
        obtain ⟨hr6829, w6833⟩ := hr6829
        rcases w6833 with v6834 | v6835
        · obtain ⟨rfl, rfl, rfl, hq6836⟩ := v6834
          have xl6837 := NML.len hq6836 (by omega)
          refine astN hC hK hP hD hS 1 (ws' := [(nc, iA G 100 fnc), (nl, iA G 54 (upd (upd (upd (upd (upd fnl (6 * kl) 0) (6 * kl + 1) (nI (NVL bt ktp (NXT bt ktp ks)))) (6 * kl + 2) (-9)) (6 * kl + 3) (-9)) (6 * kl + 2) (nI (NVL bt ktp (NXT bt ktp (NXT bt ktp (NXT bt ktp ks))))))), (nF, sA G 5 (FCT K)), (h0, oX12 nw nk mhasKept nt (nI ktp) nr mrowMany mroundOf mroundFrom mouts nm mfromHour mtoHour ns (nI (NXT bt ktp (NXT bt ktp (NXT bt ktp (NXT bt ktp ks))))) (nI (TKE bt ktp (NXT bt ktp (NXT bt ktp (NXT bt ktp (NXT bt ktp ks)))))) (nI (TKN bt ktp (NXT bt ktp (NXT bt ktp (NXT bt ktp (NXT bt ktp ks)))))) 0 0 (nI kc) (nI kl) nl nc nF np ntr nb mbestCost nso nsi nit nsh nsf nss nrc mtraced mdealer mnumber mwhose msize misParted), (nt, iA G 240 fnt)]) rfl (k := (6 * kl + 2)) (by omega) (Nat.le_of_ble_eq_true rfl) (rfl) gX12_lineAt_8.2.2.2.2.2.2.2.2.1 (fun H locs hP hD hS => ?_)
          refine lv_aload_n hx hb gX12_lineAt_8.2.2.2.2.2.2.2.2.2 rfl (lv_at1 hl) ?_
          refine lv_aload_n hx hb gX12_lineAt_9.1 rfl (lv_at1 hl) ?_
          refine va_ldcSw (index := 284) (tx := "from") hx hb hown (hO.2.2 6 (by decide)) gX12_lineAt_9.2.1 ?_
          refine pVo hO hS hC hK hl hP hD (m_isNameX l G K 6 h0 nw nk mhasKept nt ktp nr mrowMany mroundOf mroundFrom mouts nm mfromHour mtoHour ns (NXT bt ktp (NXT bt ktp (NXT bt ktp (NXT bt ktp ks)))) 0 (nI kc) (nI kl) nl nc nF np ntr nb mbestCost nso nsi nit nsh nsf nss nrc mtraced mdealer mnumber mwhose msize misParted fnt bt (htp) (by omega) (hFB) ((by decide))) si_X12_248 [3, 4] sm_3_4 fm_3_4 nd_3_4 rfl rfl rfl rfl rfl (Nat.le_of_ble_eq_true rfl) rm_32_5_4 ⟨by first | exact Nat.le_of_ble_eq_true rfl | exact Nat.zero_le _, by first | exact Nat.le_of_ble_eq_true rfl | exact Nat.zero_le _⟩ gX12_lineAt_9.2.2.1 (Kors (Keqa fun a6839 => ?_) (Keqa fun a6839 => ?_))
          · have hq6840 := a6839
            have xl6841 : (NXT bt ktp (NXT bt ktp (NXT bt ktp (NXT bt ktp ks)))) + 4 ≤ NXT bt ktp (NXT bt ktp (NXT bt ktp (NXT bt ktp (NXT bt ktp ks)))) ∧ NXT bt ktp (NXT bt ktp (NXT bt ktp (NXT bt ktp (NXT bt ktp ks)))) ≤ ktp := WRD.len hq6840 (by omega)
            refine vV (wr := [(nc, iA G 100 fnc), (nl, iA G 54 (upd (upd (upd (upd (upd fnl (6 * kl) 0) (6 * kl + 1) (nI (NVL bt ktp (NXT bt ktp ks)))) (6 * kl + 2) (-9)) (6 * kl + 3) (-9)) (6 * kl + 2) (nI (NVL bt ktp (NXT bt ktp (NXT bt ktp (NXT bt ktp ks))))))), (nF, sA G 5 (FCT K))]) hC hK hl hP hD hS hA (m_need1X l G h0 nw nk mhasKept nt ktp nr mrowMany mroundOf mroundFrom mouts nm mfromHour mtoHour ns (NXT bt ktp (NXT bt ktp (NXT bt ktp (NXT bt ktp ks)))) 0 (nI kc) (nI kl) nl nc nF np ntr nb mbestCost nso nsi nit nsh nsf nss nrc mtraced mdealer mnumber mwhose msize misParted fnt bt (htp) (by omega) (hFB)) si_X12_236 [3, 4] [0, 1, 2] sm_3_4 fm_3_4 nd_3_4 sm_0_1_2 nd_0_1_2 dj_3_4__0_1_2 rfl rfl rfl rfl rfl (Nat.le_of_ble_eq_true rfl) rm_32_4_2 ⟨Nat.le_of_ble_eq_true rfl, Nat.le_of_ble_eq_true rfl⟩ gX12_lineAt_9.2.2.2.1 (fun u6843 H locs hr6842 hP hD hS => ?_)
            refine Kpdr (ws := [(nc, iA G 100 fnc), (nl, iA G 54 (upd (upd (upd (upd (upd fnl (6 * kl) 0) (6 * kl + 1) (nI (NVL bt ktp (NXT bt ktp ks)))) (6 * kl + 2) (-9)) (6 * kl + 3) (-9)) (6 * kl + 2) (nI (NVL bt ktp (NXT bt ktp (NXT bt ktp (NXT bt ktp ks))))))), (nF, sA G 5 (FCT K)), (h0, oX12 nw nk mhasKept nt (nI ktp) nr mrowMany mroundOf mroundFrom mouts nm mfromHour mtoHour ns (nI (NXT bt ktp (NXT bt ktp (NXT bt ktp (NXT bt ktp (NXT bt ktp ks)))))) (nI (TKE bt ktp (NXT bt ktp (NXT bt ktp (NXT bt ktp (NXT bt ktp (NXT bt ktp ks))))))) (nI (TKN bt ktp (NXT bt ktp (NXT bt ktp (NXT bt ktp (NXT bt ktp (NXT bt ktp ks))))))) 0 0 (nI kc) (nI kl) nl nc nF np ntr nb mbestCost nso nsi nit nsh nsf nss nrc mtraced mdealer mnumber mwhose msize misParted), (nt, iA G 240 fnt)]) hP hD (fun hP hD => ?_)
            have xn6844 := NXT.ge (bt := bt) (n := ktp) (s := (NXT bt ktp (NXT bt ktp (NXT bt ktp (NXT bt ktp ks))))) (by omega)
            refine lv_aload_n hx hb gX12_lineAt_9.2.2.2.2.1 rfl (lv_at1 hl) ?_
            refine gf_X12_32 hC rfl hK hP 3 rfl rfl gX12_lineAt_9.2.2.2.2.2.1 ?_
            refine lv_iload_n hx hb gX12_lineAt_9.2.2.2.2.2.2.1 rfl (lv_at2 hl) ?_
            refine lv_iconst (v := 3) hx hb gX12_lineAt_9.2.2.2.2.2.2.2.1 (by decide) ?_
            refine lv_iadd hx hb gX12_lineAt_9.2.2.2.2.2.2.2.2.1 ?_
            refine eqi (x1 := nI (6 * kl + 3)) (nI_add (6 * kl) 3) ?_
            refine lv_aload_n hx hb gX12_lineAt_9.2.2.2.2.2.2.2.2.2 rfl (lv_at1 hl) ?_
            refine lv_bipush (v := 7) hx hb gX12_lineAt_10.1 (by decide) ?_
            refine iV (wr := [(nc, iA G 100 fnc), (nl, iA G 54 (upd (upd (upd (upd (upd fnl (6 * kl) 0) (6 * kl + 1) (nI (NVL bt ktp (NXT bt ktp ks)))) (6 * kl + 2) (-9)) (6 * kl + 3) (-9)) (6 * kl + 2) (nI (NVL bt ktp (NXT bt ktp (NXT bt ktp (NXT bt ktp ks))))))), (nF, sA G 5 (FCT K))]) hC hK hl hP hD hS hA (m_numberX l G h0 7 nw nk mhasKept nt ktp nr mrowMany mroundOf mroundFrom mouts nm mfromHour mtoHour ns (NXT bt ktp (NXT bt ktp (NXT bt ktp (NXT bt ktp (NXT bt ktp ks))))) 0 (nI kc) (nI kl) nl nc nF np ntr nb mbestCost nso nsi nit nsh nsf nss nrc mtraced mdealer mnumber mwhose msize misParted fnt bt (htp) (by omega) (hFB) (by omega)) si_X12_271 [3, 4] [0, 1, 2] sm_3_4 fm_3_4 nd_3_4 sm_0_1_2 nd_0_1_2 dj_3_4__0_1_2 rfl rfl rfl rfl rfl (Nat.le_of_ble_eq_true rfl) rm_32_5_5 ⟨Nat.le_of_ble_eq_true rfl, Nat.le_of_ble_eq_true rfl⟩ gX12_lineAt_10.2.1 (fun r6845 => Ktu2 fun ff16847 ks16848 => ?_)
            intro H locs hr6845 hP hD hS
            try dsimp only at hr6845
            refine Kpdr (ws := [(nc, iA G 100 fnc), (nl, iA G 54 (upd (upd (upd (upd (upd fnl (6 * kl) 0) (6 * kl + 1) (nI (NVL bt ktp (NXT bt ktp ks)))) (6 * kl + 2) (-9)) (6 * kl + 3) (-9)) (6 * kl + 2) (nI (NVL bt ktp (NXT bt ktp (NXT bt ktp (NXT bt ktp ks))))))), (nF, sA G 5 (FCT K)), (h0, oX12 nw nk mhasKept nt (nI ktp) nr mrowMany mroundOf mroundFrom mouts nm mfromHour mtoHour ns (nI ks16848) (nI (TKE bt ktp ks16848)) (nI (TKN bt ktp ks16848)) ff16847 0 (nI kc) (nI kl) nl nc nF np ntr nb mbestCost nso nsi nit nsh nsf nss nrc mtraced mdealer mnumber mwhose msize misParted), (nt, iA G 240 fnt)]) hP hD (fun hP hD => ?_)
            obtain ⟨hr6845, w6849⟩ := hr6845
            rcases w6849 with v6850 | v6851
            · obtain ⟨rfl, rfl, rfl, hq6852⟩ := v6850
              have xl6853 := NML.len hq6852 (by omega)
              refine astN hC hK hP hD hS 1 (ws' := [(nc, iA G 100 fnc), (nl, iA G 54 (upd (upd (upd (upd (upd (upd fnl (6 * kl) 0) (6 * kl + 1) (nI (NVL bt ktp (NXT bt ktp ks)))) (6 * kl + 2) (-9)) (6 * kl + 3) (-9)) (6 * kl + 2) (nI (NVL bt ktp (NXT bt ktp (NXT bt ktp (NXT bt ktp ks)))))) (6 * kl + 3) (nI (NVL bt ktp (NXT bt ktp (NXT bt ktp (NXT bt ktp (NXT bt ktp (NXT bt ktp ks))))))))), (nF, sA G 5 (FCT K)), (h0, oX12 nw nk mhasKept nt (nI ktp) nr mrowMany mroundOf mroundFrom mouts nm mfromHour mtoHour ns (nI (NXT bt ktp (NXT bt ktp (NXT bt ktp (NXT bt ktp (NXT bt ktp (NXT bt ktp ks))))))) (nI (TKE bt ktp (NXT bt ktp (NXT bt ktp (NXT bt ktp (NXT bt ktp (NXT bt ktp (NXT bt ktp ks)))))))) (nI (TKN bt ktp (NXT bt ktp (NXT bt ktp (NXT bt ktp (NXT bt ktp (NXT bt ktp (NXT bt ktp ks)))))))) 0 0 (nI kc) (nI kl) nl nc nF np ntr nb mbestCost nso nsi nit nsh nsf nss nrc mtraced mdealer mnumber mwhose msize misParted), (nt, iA G 240 fnt)]) rfl (k := (6 * kl + 3)) (by omega) (Nat.le_of_ble_eq_true rfl) (rfl) gX12_lineAt_10.2.2.1 (fun H locs hP hD hS => ?_)
              refine lv_iload_n hx hb gX12_lineAt_10.2.2.2.1 rfl (lv_at0 hl) ?_
              refine lv_iconst (v := 2) hx hb gX12_lineAt_10.2.2.2.2.1 (by decide) ?_
              refine lv_icmp_ne (tgt := 221) hx hb gX12_lineAt_10.2.2.2.2.2.1 (by decide) (fun _ => ?_) (fun c9 => absurd c9 (by decide))
              refine lv_aload_n hx hb gX12_lineAt_12.1 rfl (lv_at1 hl) ?_
              refine gf_X12_32 hC rfl hK hP 3 rfl rfl gX12_lineAt_12.2.1 ?_
              refine lv_iload_n hx hb gX12_lineAt_12.2.2.1 rfl (lv_at2 hl) ?_
              refine lv_iconst (v := 4) hx hb gX12_lineAt_12.2.2.2.1 (by decide) ?_
              refine lv_iadd hx hb gX12_lineAt_12.2.2.2.2.1 ?_
              refine eqi (x1 := nI (6 * kl + 4)) (nI_add (6 * kl) 4) ?_
              refine lv_aload_n hx hb gX12_lineAt_12.2.2.2.2.2.1 rfl (lv_at1 hl) ?_
              refine gf_X12_240 hC rfl hK hP 3 rfl rfl gX12_lineAt_12.2.2.2.2.2.2.1 ?_
              refine astN hC hK hP hD hS 1 (ws' := [(nc, iA G 100 fnc), (nl, iA G 54 (upd (upd (upd (upd (upd (upd (upd fnl (6 * kl) 0) (6 * kl + 1) (nI (NVL bt ktp (NXT bt ktp ks)))) (6 * kl + 2) (-9)) (6 * kl + 3) (-9)) (6 * kl + 2) (nI (NVL bt ktp (NXT bt ktp (NXT bt ktp (NXT bt ktp ks)))))) (6 * kl + 3) (nI (NVL bt ktp (NXT bt ktp (NXT bt ktp (NXT bt ktp (NXT bt ktp (NXT bt ktp ks)))))))) (6 * kl + 4) (nI kc))), (nF, sA G 5 (FCT K)), (h0, oX12 nw nk mhasKept nt (nI ktp) nr mrowMany mroundOf mroundFrom mouts nm mfromHour mtoHour ns (nI (NXT bt ktp (NXT bt ktp (NXT bt ktp (NXT bt ktp (NXT bt ktp (NXT bt ktp ks))))))) (nI (TKE bt ktp (NXT bt ktp (NXT bt ktp (NXT bt ktp (NXT bt ktp (NXT bt ktp (NXT bt ktp ks)))))))) (nI (TKN bt ktp (NXT bt ktp (NXT bt ktp (NXT bt ktp (NXT bt ktp (NXT bt ktp (NXT bt ktp ks)))))))) 0 0 (nI kc) (nI kl) nl nc nF np ntr nb mbestCost nso nsi nit nsh nsf nss nrc mtraced mdealer mnumber mwhose msize misParted), (nt, iA G 240 fnt)]) rfl (k := (6 * kl + 4)) (by omega) (Nat.le_of_ble_eq_true rfl) (rfl) gX12_lineAt_12.2.2.2.2.2.2.2.1 (fun H locs hP hD hS => ?_)
              refine lv_iload_n hx hb gX12_lineAt_12.2.2.2.2.2.2.2.2.1 rfl (lv_at0 hl) ?_
              refine lv_iconst (v := 3) hx hb gX12_lineAt_12.2.2.2.2.2.2.2.2.2 (by decide) ?_
              refine lv_icmp_eq (tgt := 256) hx hb gX12_lineAt_13.1 (by decide) (fun c9 => absurd c9 (by decide)) (fun _ => ?_)
              refine lv_aload_n hx hb gX12_lineAt_13.2.1 rfl (lv_at1 hl) ?_
              refine va_ldcSw (index := 287) (tx := "if") hx hb hown (hO.2.2 0 (by decide)) gX12_lineAt_13.2.2.1 ?_
              refine pVo hO hS hC hK hl hP hD (m_isNameX l G K 0 h0 nw nk mhasKept nt ktp nr mrowMany mroundOf mroundFrom mouts nm mfromHour mtoHour ns (NXT bt ktp (NXT bt ktp (NXT bt ktp (NXT bt ktp (NXT bt ktp (NXT bt ktp ks)))))) 0 (nI kc) (nI kl) nl nc nF np ntr nb mbestCost nso nsi nit nsh nsf nss nrc mtraced mdealer mnumber mwhose msize misParted fnt bt (htp) (by omega) (hFB) ((by decide))) si_X12_248 [3, 4] sm_3_4 fm_3_4 nd_3_4 rfl rfl rfl rfl rfl (Nat.le_of_ble_eq_true rfl) rm_32_5_4 ⟨by first | exact Nat.le_of_ble_eq_true rfl | exact Nat.zero_le _, by first | exact Nat.le_of_ble_eq_true rfl | exact Nat.zero_le _⟩ gX12_lineAt_13.2.2.2.1 (Kors (Keqa fun a6855 => ?_) (Keqa fun a6855 => ?_))
              · have hq6856 := a6855
                have xl6857 : (NXT bt ktp (NXT bt ktp (NXT bt ktp (NXT bt ktp (NXT bt ktp (NXT bt ktp ks)))))) + 2 ≤ NXT bt ktp (NXT bt ktp (NXT bt ktp (NXT bt ktp (NXT bt ktp (NXT bt ktp (NXT bt ktp ks)))))) ∧ NXT bt ktp (NXT bt ktp (NXT bt ktp (NXT bt ktp (NXT bt ktp (NXT bt ktp (NXT bt ktp ks)))))) ≤ ktp := WRD.len hq6856 (by omega)
                refine lv_if_eq (tgt := 256) hx hb gX12_lineAt_13.2.2.2.2.1 (by decide) (fun c9 => absurd c9 (by decide)) (fun _ => ?_)
                refine lv_aload_n hx hb gX12_lineAt_13.2.2.2.2.2.1 rfl (lv_at1 hl) ?_
                refine vV (wr := [(nc, iA G 100 fnc), (nl, iA G 54 (upd (upd (upd (upd (upd (upd (upd fnl (6 * kl) 0) (6 * kl + 1) (nI (NVL bt ktp (NXT bt ktp ks)))) (6 * kl + 2) (-9)) (6 * kl + 3) (-9)) (6 * kl + 2) (nI (NVL bt ktp (NXT bt ktp (NXT bt ktp (NXT bt ktp ks)))))) (6 * kl + 3) (nI (NVL bt ktp (NXT bt ktp (NXT bt ktp (NXT bt ktp (NXT bt ktp (NXT bt ktp ks)))))))) (6 * kl + 4) (nI kc))), (nF, sA G 5 (FCT K))]) hC hK hl hP hD hS hA (m_nextT l G h0 nw nk mhasKept nt ktp nr mrowMany mroundOf mroundFrom mouts nm mfromHour mtoHour ns (NXT bt ktp (NXT bt ktp (NXT bt ktp (NXT bt ktp (NXT bt ktp (NXT bt ktp ks)))))) 0 0 (nI kc) (nI kl) nl nc nF np ntr nb mbestCost nso nsi nit nsh nsf nss nrc mtraced mdealer mnumber mwhose msize misParted fnt bt (htp) (by omega) (hFB)) si_X12_233 [3, 4] [0, 1, 2] sm_3_4 fm_3_4 nd_3_4 sm_0_1_2 nd_0_1_2 dj_3_4__0_1_2 rfl rfl rfl rfl rfl (Nat.le_of_ble_eq_true rfl) rm_32_3_1 ⟨Nat.le_of_ble_eq_true rfl, Nat.le_of_ble_eq_true rfl⟩ gX12_lineAt_13.2.2.2.2.2.2.1 (fun u6859 H locs hr6858 hP hD hS => ?_)
                refine Kpdr (ws := [(nc, iA G 100 fnc), (nl, iA G 54 (upd (upd (upd (upd (upd (upd (upd fnl (6 * kl) 0) (6 * kl + 1) (nI (NVL bt ktp (NXT bt ktp ks)))) (6 * kl + 2) (-9)) (6 * kl + 3) (-9)) (6 * kl + 2) (nI (NVL bt ktp (NXT bt ktp (NXT bt ktp (NXT bt ktp ks)))))) (6 * kl + 3) (nI (NVL bt ktp (NXT bt ktp (NXT bt ktp (NXT bt ktp (NXT bt ktp (NXT bt ktp ks)))))))) (6 * kl + 4) (nI kc))), (nF, sA G 5 (FCT K)), (h0, oX12 nw nk mhasKept nt (nI ktp) nr mrowMany mroundOf mroundFrom mouts nm mfromHour mtoHour ns (nI (NXT bt ktp (NXT bt ktp (NXT bt ktp (NXT bt ktp (NXT bt ktp (NXT bt ktp (NXT bt ktp ks)))))))) (nI (TKE bt ktp (NXT bt ktp (NXT bt ktp (NXT bt ktp (NXT bt ktp (NXT bt ktp (NXT bt ktp (NXT bt ktp ks))))))))) (nI (TKN bt ktp (NXT bt ktp (NXT bt ktp (NXT bt ktp (NXT bt ktp (NXT bt ktp (NXT bt ktp (NXT bt ktp ks))))))))) 0 0 (nI kc) (nI kl) nl nc nF np ntr nb mbestCost nso nsi nit nsh nsf nss nrc mtraced mdealer mnumber mwhose msize misParted), (nt, iA G 240 fnt)]) hP hD (fun hP hD => ?_)
                have xn6860 := NXT.ge (bt := bt) (n := ktp) (s := (NXT bt ktp (NXT bt ktp (NXT bt ktp (NXT bt ktp (NXT bt ktp (NXT bt ktp ks))))))) (by omega)
                refine lv_aload_n hx hb gX12_lineAt_13.2.2.2.2.2.2.2.1 rfl (lv_at1 hl) ?_
                refine vVo (wr := [(nl, iA G 54 (upd (upd (upd (upd (upd (upd (upd fnl (6 * kl) 0) (6 * kl + 1) (nI (NVL bt ktp (NXT bt ktp ks)))) (6 * kl + 2) (-9)) (6 * kl + 3) (-9)) (6 * kl + 2) (nI (NVL bt ktp (NXT bt ktp (NXT bt ktp (NXT bt ktp ks)))))) (6 * kl + 3) (nI (NVL bt ktp (NXT bt ktp (NXT bt ktp (NXT bt ktp (NXT bt ktp (NXT bt ktp ks)))))))) (6 * kl + 4) (nI kc)))]) hO hC hK hl hP hD hS hA (m_either l G K 4 h0 nw nk mhasKept nt ktp nr mrowMany mroundOf mroundFrom mouts nm mfromHour mtoHour ns (NXT bt ktp (NXT bt ktp (NXT bt ktp (NXT bt ktp (NXT bt ktp (NXT bt ktp (NXT bt ktp ks))))))) 0 kc (nI kl) nl nc nF np ntr nb mbestCost nso nsi nit nsh nsf nss nrc mtraced mdealer mnumber mwhose msize misParted fnt fnc bt cs rs (by omega) (by omega) (hFB) (hST) (by omega) (by omega)) si_X12_268 [3, 4, 0, 2] [1] sm_3_4_0_2 fm_3_4_0_2 nd_3_4_0_2 sm_1 nd_1 dj_3_4_0_2__1 rfl rfl rfl rfl rfl (Nat.le_of_ble_eq_true rfl) ⟨Nat.le_of_ble_eq_true rfl, Nat.le_of_ble_eq_true rfl⟩ ⟨Nat.le_of_ble_eq_true rfl, Nat.le_of_ble_eq_true rfl⟩ gX12_lineAt_13.2.2.2.2.2.2.2.2.1 (Ktu6 fun ff16863 ks16864 kc16865 gnc6866 c16867 r16868 => ?_)
                intro H locs hr6861 hP hD hS
                try dsimp only at hr6861
                refine Kpdr (ws := [(nl, iA G 54 (upd (upd (upd (upd (upd (upd (upd fnl (6 * kl) 0) (6 * kl + 1) (nI (NVL bt ktp (NXT bt ktp ks)))) (6 * kl + 2) (-9)) (6 * kl + 3) (-9)) (6 * kl + 2) (nI (NVL bt ktp (NXT bt ktp (NXT bt ktp (NXT bt ktp ks)))))) (6 * kl + 3) (nI (NVL bt ktp (NXT bt ktp (NXT bt ktp (NXT bt ktp (NXT bt ktp (NXT bt ktp ks)))))))) (6 * kl + 4) (nI kc))), (h0, oX12 nw nk mhasKept nt (nI ktp) nr mrowMany mroundOf mroundFrom mouts nm mfromHour mtoHour ns (nI ks16864) (nI (TKE bt ktp ks16864)) (nI (TKN bt ktp ks16864)) ff16863 0 (nI kc16865) (nI kl) nl nc nF np ntr nb mbestCost nso nsi nit nsh nsf nss nrc mtraced mdealer mnumber mwhose msize misParted), (nt, iA G 240 fnt), (nc, iA G 100 gnc6866), (nF, sA G 5 (FCT K))]) hP hD (fun hP hD => ?_)
                have w6869 := hr6861
                rcases w6869 with v6870 | v6871
                · obtain ⟨rfl, hq6872, hq6873⟩ := v6870
                  have xl6874 := RT.lem hq6872 (by decide) (by omega)
                  have xl6875 := hq6873.1
                  refine lv_aload_n hx hb gX12_lineAt_13.2.2.2.2.2.2.2.2.2 rfl (lv_at1 hl) ?_
                  refine gf_X12_32 hC rfl hK hP 1 rfl rfl gX12_lineAt_14.1 ?_
                  refine lv_iload_n hx hb gX12_lineAt_14.2.1 rfl (lv_at2 hl) ?_
                  refine lv_iconst (v := 5) hx hb gX12_lineAt_14.2.2.1 (by decide) ?_
                  refine lv_iadd hx hb gX12_lineAt_14.2.2.2.1 ?_
                  refine eqi (x1 := nI (6 * kl + 5)) (nI_add (6 * kl) 5) ?_
                  refine lv_aload_n hx hb gX12_lineAt_14.2.2.2.2.1 rfl (lv_at1 hl) ?_
                  refine gf_X12_240 hC rfl hK hP 1 rfl rfl gX12_lineAt_14.2.2.2.2.2.1 ?_
                  refine astN hC hK hP hD hS 0 (ws' := [(nl, iA G 54 (upd (upd (upd (upd (upd (upd (upd (upd fnl (6 * kl) 0) (6 * kl + 1) (nI (NVL bt ktp (NXT bt ktp ks)))) (6 * kl + 2) (-9)) (6 * kl + 3) (-9)) (6 * kl + 2) (nI (NVL bt ktp (NXT bt ktp (NXT bt ktp (NXT bt ktp ks)))))) (6 * kl + 3) (nI (NVL bt ktp (NXT bt ktp (NXT bt ktp (NXT bt ktp (NXT bt ktp (NXT bt ktp ks)))))))) (6 * kl + 4) (nI kc)) (6 * kl + 5) (nI kc16865))), (h0, oX12 nw nk mhasKept nt (nI ktp) nr mrowMany mroundOf mroundFrom mouts nm mfromHour mtoHour ns (nI ks16864) (nI (TKE bt ktp ks16864)) (nI (TKN bt ktp ks16864)) 0 0 (nI kc16865) (nI kl) nl nc nF np ntr nb mbestCost nso nsi nit nsh nsf nss nrc mtraced mdealer mnumber mwhose msize misParted), (nt, iA G 240 fnt), (nc, iA G 100 gnc6866), (nF, sA G 5 (FCT K))]) rfl (k := (6 * kl + 5)) (by omega) (Nat.le_of_ble_eq_true rfl) (rfl) gX12_lineAt_14.2.2.2.2.2.2.1 (fun H locs hP hD hS => ?_)
                  refine lv_aload_n hx hb gX12_lineAt_14.2.2.2.2.2.2.2.1 rfl (lv_at1 hl) ?_
                  refine lv_aload_n hx hb gX12_lineAt_14.2.2.2.2.2.2.2.2.1 rfl (lv_at1 hl) ?_
                  refine lv_bipush (v := 59) hx hb gX12_lineAt_14.2.2.2.2.2.2.2.2.2 (by decide) ?_
                  refine pV hC hK hl hP hD (m_isSignX l G h0 59 nw nk mhasKept nt ktp nr mrowMany mroundOf mroundFrom mouts nm mfromHour mtoHour ns ks16864 0 (nI kc16865) (nI kl) nl nc nF np ntr nb mbestCost nso nsi nit nsh nsf nss nrc mtraced mdealer mnumber mwhose msize misParted fnt bt (htp) (by omega) (hFB)) si_X12_262 [1, 2] sm_1_2 fm_1_2 nd_1_2 rfl rfl rfl rfl rfl (Nat.le_of_ble_eq_true rfl) rm_32_1_2 ⟨by first | exact Nat.le_of_ble_eq_true rfl | exact Nat.zero_le _, by first | exact Nat.le_of_ble_eq_true rfl | exact Nat.zero_le _⟩ gX12_lineAt_15.1 (Kors (Keqa fun a6877 => ?_) (Keqa fun a6877 => ?_))
                  · have hq6878 := a6877
                    have xl6879 := SGN.len hq6878 (by omega)
                    refine vV (wr := [(nl, iA G 54 (upd (upd (upd (upd (upd (upd (upd (upd fnl (6 * kl) 0) (6 * kl + 1) (nI (NVL bt ktp (NXT bt ktp ks)))) (6 * kl + 2) (-9)) (6 * kl + 3) (-9)) (6 * kl + 2) (nI (NVL bt ktp (NXT bt ktp (NXT bt ktp (NXT bt ktp ks)))))) (6 * kl + 3) (nI (NVL bt ktp (NXT bt ktp (NXT bt ktp (NXT bt ktp (NXT bt ktp (NXT bt ktp ks)))))))) (6 * kl + 4) (nI kc)) (6 * kl + 5) (nI kc16865))), (nc, iA G 100 gnc6866), (nF, sA G 5 (FCT K))]) hC hK hl hP hD hS hA (m_need1X l G h0 nw nk mhasKept nt ktp nr mrowMany mroundOf mroundFrom mouts nm mfromHour mtoHour ns ks16864 0 (nI kc16865) (nI kl) nl nc nF np ntr nb mbestCost nso nsi nit nsh nsf nss nrc mtraced mdealer mnumber mwhose msize misParted fnt bt (htp) (by omega) (hFB)) si_X12_236 [1, 2] [0, 3, 4] sm_1_2 fm_1_2 nd_1_2 sm_0_3_4 nd_0_3_4 dj_1_2__0_3_4 rfl rfl rfl rfl rfl (Nat.le_of_ble_eq_true rfl) rm_32_4_2 ⟨Nat.le_of_ble_eq_true rfl, Nat.le_of_ble_eq_true rfl⟩ gX12_lineAt_15.2.1 (fun u6881 H locs hr6880 hP hD hS => ?_)
                    refine Kpdr (ws := [(nl, iA G 54 (upd (upd (upd (upd (upd (upd (upd (upd fnl (6 * kl) 0) (6 * kl + 1) (nI (NVL bt ktp (NXT bt ktp ks)))) (6 * kl + 2) (-9)) (6 * kl + 3) (-9)) (6 * kl + 2) (nI (NVL bt ktp (NXT bt ktp (NXT bt ktp (NXT bt ktp ks)))))) (6 * kl + 3) (nI (NVL bt ktp (NXT bt ktp (NXT bt ktp (NXT bt ktp (NXT bt ktp (NXT bt ktp ks)))))))) (6 * kl + 4) (nI kc)) (6 * kl + 5) (nI kc16865))), (nc, iA G 100 gnc6866), (nF, sA G 5 (FCT K)), (h0, oX12 nw nk mhasKept nt (nI ktp) nr mrowMany mroundOf mroundFrom mouts nm mfromHour mtoHour ns (nI (NXT bt ktp ks16864)) (nI (TKE bt ktp (NXT bt ktp ks16864))) (nI (TKN bt ktp (NXT bt ktp ks16864))) 0 0 (nI kc16865) (nI kl) nl nc nF np ntr nb mbestCost nso nsi nit nsh nsf nss nrc mtraced mdealer mnumber mwhose msize misParted), (nt, iA G 240 fnt)]) hP hD (fun hP hD => ?_)
                    have xn6882 := NXT.ge (bt := bt) (n := ktp) (s := ks16864) (by omega)
                    refine toQ hQ0 ?_
                    exact RV hC hP hD hS [3, 4, 1, 0, 2] (0, (NXT bt ktp ks16864), kc16865, gnc6866, upd (upd (upd (upd (upd (upd (upd (upd fnl (6 * kl) 0) (6 * kl + 1) (nI (NVL bt ktp (NXT bt ktp ks)))) (6 * kl + 2) (-9)) (6 * kl + 3) (-9)) (6 * kl + 2) (nI (NVL bt ktp (NXT bt ktp (NXT bt ktp (NXT bt ktp ks)))))) (6 * kl + 3) (nI (NVL bt ktp (NXT bt ktp (NXT bt ktp (NXT bt ktp (NXT bt ktp (NXT bt ktp ks)))))))) (6 * kl + 4) (nI kc)) (6 * kl + 5) (nI kc16865), (0, (nI (NVL bt ktp (NXT bt ktp ks))), (nI (NVL bt ktp (NXT bt ktp (NXT bt ktp (NXT bt ktp ks))))), (nI (NVL bt ktp (NXT bt ktp (NXT bt ktp (NXT bt ktp (NXT bt ktp (NXT bt ktp ks))))))), 1, cs.length, c16867.length, rs.length, r16868.length), c16867, r16868) rfl rfl (by decide) (Or.inl ⟨rfl, Or.inr ⟨0, SRT.y (k := 0) (by decide) hq6808, Or.inr ⟨(NXT bt ktp (NXT bt ktp (NXT bt ktp (NXT bt ktp (NXT bt ktp (NXT bt ktp ks)))))), (nI (NVL bt ktp (NXT bt ktp ks))), (nI (NVL bt ktp (NXT bt ktp (NXT bt ktp (NXT bt ktp ks))))), (nI (NVL bt ktp (NXT bt ktp (NXT bt ktp (NXT bt ktp (NXT bt ktp (NXT bt ktp ks))))))), HDQ.t5 hq6820 hq6824 hq6836 hq6840 hq6852, Or.inr ⟨⟨by decide, hq6856⟩, Or.inr ⟨ks16864, c16867, r16868, hq6872, Or.inr ⟨hq6878, rfl⟩⟩⟩⟩⟩, hq6873, (by rw [hs1, hq6873.1]; exact ⟨fun j hj => (upd_ne (by omega)).trans ((upd_ne (by omega)).trans ((upd_ne (by omega)).trans ((upd_ne (by omega)).trans ((upd_ne (by omega)).trans ((upd_ne (by omega)).trans ((upd_ne (by omega)).trans ((upd_ne (by omega)).trans (rfl)))))))), (upd_ne (by omega)).trans ((upd_ne (by omega)).trans ((upd_ne (by omega)).trans ((upd_ne (by omega)).trans ((upd_ne (by omega)).trans ((upd_ne (by omega)).trans ((upd_ne (by omega)).trans (upd_eq (by omega)))))))), (upd_ne (by omega)).trans ((upd_ne (by omega)).trans ((upd_ne (by omega)).trans ((upd_ne (by omega)).trans ((upd_ne (by omega)).trans ((upd_ne (by omega)).trans (upd_eq (by omega))))))), (upd_ne (by omega)).trans ((upd_ne (by omega)).trans ((upd_ne (by omega)).trans (upd_eq (by omega)))), (upd_ne (by omega)).trans ((upd_ne (by omega)).trans (upd_eq (by omega))), (upd_ne (by omega)).trans (upd_eq (by omega)), upd_eq (by omega), fun h9 => absurd (show (1 : Nat) = 0 from h9) (by decide), fun _ => (by (try dsimp only); omega), Nat.le_refl _, (by (try dsimp only); omega)⟩), by (try dsimp only); omega, by (try dsimp only); omega⟩) gX12_lineAt_15.2.2
                  · have hq6883 := a6877
                    refine vV (wr := [(nl, iA G 54 (upd (upd (upd (upd (upd (upd (upd (upd fnl (6 * kl) 0) (6 * kl + 1) (nI (NVL bt ktp (NXT bt ktp ks)))) (6 * kl + 2) (-9)) (6 * kl + 3) (-9)) (6 * kl + 2) (nI (NVL bt ktp (NXT bt ktp (NXT bt ktp (NXT bt ktp ks)))))) (6 * kl + 3) (nI (NVL bt ktp (NXT bt ktp (NXT bt ktp (NXT bt ktp (NXT bt ktp (NXT bt ktp ks)))))))) (6 * kl + 4) (nI kc)) (6 * kl + 5) (nI kc16865))), (nt, iA G 240 fnt), (nc, iA G 100 gnc6866), (nF, sA G 5 (FCT K))]) hC hK hl hP hD hS hA (m_need0 l G h0 nw nk mhasKept nt (nI ktp) nr mrowMany mroundOf mroundFrom mouts nm mfromHour mtoHour ns (nI ks16864) (nI (TKE bt ktp ks16864)) (nI (TKN bt ktp ks16864)) 0 (nI kc16865) (nI kl) nl nc nF np ntr nb mbestCost nso nsi nit nsh nsf nss nrc mtraced mdealer mnumber mwhose msize misParted) si_X12_236 [1] [0, 2, 3, 4] sm_1 fm_1 nd_1 sm_0_2_3_4 nd_0_2_3_4 dj_1__0_2_3_4 rfl rfl rfl rfl rfl (Nat.le_of_ble_eq_true rfl) rm_32_4_2 ⟨Nat.le_of_ble_eq_true rfl, Nat.le_of_ble_eq_true rfl⟩ gX12_lineAt_15.2.1 (fun u6885 H locs hr6884 hP hD hS => ?_)
                    refine Kpdr (ws := [(nl, iA G 54 (upd (upd (upd (upd (upd (upd (upd (upd fnl (6 * kl) 0) (6 * kl + 1) (nI (NVL bt ktp (NXT bt ktp ks)))) (6 * kl + 2) (-9)) (6 * kl + 3) (-9)) (6 * kl + 2) (nI (NVL bt ktp (NXT bt ktp (NXT bt ktp (NXT bt ktp ks)))))) (6 * kl + 3) (nI (NVL bt ktp (NXT bt ktp (NXT bt ktp (NXT bt ktp (NXT bt ktp (NXT bt ktp ks)))))))) (6 * kl + 4) (nI kc)) (6 * kl + 5) (nI kc16865))), (nt, iA G 240 fnt), (nc, iA G 100 gnc6866), (nF, sA G 5 (FCT K)), (h0, oX12 nw nk mhasKept nt (nI ktp) nr mrowMany mroundOf mroundFrom mouts nm mfromHour mtoHour ns (nI ks16864) (nI (TKE bt ktp ks16864)) (nI (TKN bt ktp ks16864)) 1 0 (nI kc16865) (nI kl) nl nc nF np ntr nb mbestCost nso nsi nit nsh nsf nss nrc mtraced mdealer mnumber mwhose msize misParted)]) hP hD (fun hP hD => ?_)
                    refine toQ hQ0 ?_
                    exact RV hC hP hD hS [4, 1, 2, 0, 3] (1, ks16864, kc16865, gnc6866, upd (upd (upd (upd (upd (upd (upd (upd fnl (6 * kl) 0) (6 * kl + 1) (nI (NVL bt ktp (NXT bt ktp ks)))) (6 * kl + 2) (-9)) (6 * kl + 3) (-9)) (6 * kl + 2) (nI (NVL bt ktp (NXT bt ktp (NXT bt ktp (NXT bt ktp ks)))))) (6 * kl + 3) (nI (NVL bt ktp (NXT bt ktp (NXT bt ktp (NXT bt ktp (NXT bt ktp (NXT bt ktp ks)))))))) (6 * kl + 4) (nI kc)) (6 * kl + 5) (nI kc16865), LN0, [], []) rfl rfl (by decide) (Or.inr ⟨rfl, Or.inr ⟨0, SRT.y (k := 0) (by decide) hq6808, Or.inr ⟨(NXT bt ktp (NXT bt ktp (NXT bt ktp (NXT bt ktp (NXT bt ktp (NXT bt ktp ks)))))), (nI (NVL bt ktp (NXT bt ktp ks))), (nI (NVL bt ktp (NXT bt ktp (NXT bt ktp (NXT bt ktp ks))))), (nI (NVL bt ktp (NXT bt ktp (NXT bt ktp (NXT bt ktp (NXT bt ktp (NXT bt ktp ks))))))), HDQ.t5 hq6820 hq6824 hq6836 hq6840 hq6852, Or.inr ⟨⟨by decide, hq6856⟩, Or.inr ⟨ks16864, c16867, r16868, hq6872, Or.inl ⟨hq6883, rfl⟩⟩⟩⟩⟩, by (try dsimp only); omega⟩) gX12_lineAt_15.2.2
                · obtain ⟨rfl, hq6886, hq6887⟩ := v6871
                  refine lv_aload_n hx hb gX12_lineAt_13.2.2.2.2.2.2.2.2.2 rfl (lv_at1 hl) ?_
                  refine gf_X12_32 hC rfl hK hP 1 rfl rfl gX12_lineAt_14.1 ?_
                  refine lv_iload_n hx hb gX12_lineAt_14.2.1 rfl (lv_at2 hl) ?_
                  refine lv_iconst (v := 5) hx hb gX12_lineAt_14.2.2.1 (by decide) ?_
                  refine lv_iadd hx hb gX12_lineAt_14.2.2.2.1 ?_
                  refine eqi (x1 := nI (6 * kl + 5)) (nI_add (6 * kl) 5) ?_
                  refine lv_aload_n hx hb gX12_lineAt_14.2.2.2.2.1 rfl (lv_at1 hl) ?_
                  refine gf_X12_240 hC rfl hK hP 1 rfl rfl gX12_lineAt_14.2.2.2.2.2.1 ?_
                  refine astN hC hK hP hD hS 0 (ws' := [(nl, iA G 54 (upd (upd (upd (upd (upd (upd (upd (upd fnl (6 * kl) 0) (6 * kl + 1) (nI (NVL bt ktp (NXT bt ktp ks)))) (6 * kl + 2) (-9)) (6 * kl + 3) (-9)) (6 * kl + 2) (nI (NVL bt ktp (NXT bt ktp (NXT bt ktp (NXT bt ktp ks)))))) (6 * kl + 3) (nI (NVL bt ktp (NXT bt ktp (NXT bt ktp (NXT bt ktp (NXT bt ktp (NXT bt ktp ks)))))))) (6 * kl + 4) (nI kc)) (6 * kl + 5) (nI kc16865))), (h0, oX12 nw nk mhasKept nt (nI ktp) nr mrowMany mroundOf mroundFrom mouts nm mfromHour mtoHour ns (nI ks16864) (nI (TKE bt ktp ks16864)) (nI (TKN bt ktp ks16864)) 1 0 (nI kc16865) (nI kl) nl nc nF np ntr nb mbestCost nso nsi nit nsh nsf nss nrc mtraced mdealer mnumber mwhose msize misParted), (nt, iA G 240 fnt), (nc, iA G 100 gnc6866), (nF, sA G 5 (FCT K))]) rfl (k := (6 * kl + 5)) (by omega) (Nat.le_of_ble_eq_true rfl) (rfl) gX12_lineAt_14.2.2.2.2.2.2.1 (fun H locs hP hD hS => ?_)
                  refine lv_aload_n hx hb gX12_lineAt_14.2.2.2.2.2.2.2.1 rfl (lv_at1 hl) ?_
                  refine lv_aload_n hx hb gX12_lineAt_14.2.2.2.2.2.2.2.2.1 rfl (lv_at1 hl) ?_
                  refine lv_bipush (v := 59) hx hb gX12_lineAt_14.2.2.2.2.2.2.2.2.2 (by decide) ?_
                  refine pV hC hK hl hP hD (m_isSignF l G h0 59 nw nk mhasKept nt (nI ktp) nr mrowMany mroundOf mroundFrom mouts nm mfromHour mtoHour ns (nI ks16864) (nI (TKE bt ktp ks16864)) (nI (TKN bt ktp ks16864)) 0 (nI kc16865) (nI kl) nl nc nF np ntr nb mbestCost nso nsi nit nsh nsf nss nrc mtraced mdealer mnumber mwhose msize misParted) si_X12_262 [1] sm_1 fm_1 nd_1 rfl rfl rfl rfl rfl (Nat.le_of_ble_eq_true rfl) rm_32_1_2 ⟨by first | exact Nat.le_of_ble_eq_true rfl | exact Nat.zero_le _, by first | exact Nat.le_of_ble_eq_true rfl | exact Nat.zero_le _⟩ gX12_lineAt_15.1 (Keqr ?_)
                  refine vV (wr := [(nl, iA G 54 (upd (upd (upd (upd (upd (upd (upd (upd fnl (6 * kl) 0) (6 * kl + 1) (nI (NVL bt ktp (NXT bt ktp ks)))) (6 * kl + 2) (-9)) (6 * kl + 3) (-9)) (6 * kl + 2) (nI (NVL bt ktp (NXT bt ktp (NXT bt ktp (NXT bt ktp ks)))))) (6 * kl + 3) (nI (NVL bt ktp (NXT bt ktp (NXT bt ktp (NXT bt ktp (NXT bt ktp (NXT bt ktp ks)))))))) (6 * kl + 4) (nI kc)) (6 * kl + 5) (nI kc16865))), (nt, iA G 240 fnt), (nc, iA G 100 gnc6866), (nF, sA G 5 (FCT K))]) hC hK hl hP hD hS hA (m_needF l G h0 0 nw nk mhasKept nt (nI ktp) nr mrowMany mroundOf mroundFrom mouts nm mfromHour mtoHour ns (nI ks16864) (nI (TKE bt ktp ks16864)) (nI (TKN bt ktp ks16864)) 0 (nI kc16865) (nI kl) nl nc nF np ntr nb mbestCost nso nsi nit nsh nsf nss nrc mtraced mdealer mnumber mwhose msize misParted) si_X12_236 [1] [0, 2, 3, 4] sm_1 fm_1 nd_1 sm_0_2_3_4 nd_0_2_3_4 dj_1__0_2_3_4 rfl rfl rfl rfl rfl (Nat.le_of_ble_eq_true rfl) rm_32_4_2 ⟨Nat.le_of_ble_eq_true rfl, Nat.le_of_ble_eq_true rfl⟩ gX12_lineAt_15.2.1 (fun u6891 H locs hr6890 hP hD hS => ?_)
                  refine Kpdr (ws := [(nl, iA G 54 (upd (upd (upd (upd (upd (upd (upd (upd fnl (6 * kl) 0) (6 * kl + 1) (nI (NVL bt ktp (NXT bt ktp ks)))) (6 * kl + 2) (-9)) (6 * kl + 3) (-9)) (6 * kl + 2) (nI (NVL bt ktp (NXT bt ktp (NXT bt ktp (NXT bt ktp ks)))))) (6 * kl + 3) (nI (NVL bt ktp (NXT bt ktp (NXT bt ktp (NXT bt ktp (NXT bt ktp (NXT bt ktp ks)))))))) (6 * kl + 4) (nI kc)) (6 * kl + 5) (nI kc16865))), (nt, iA G 240 fnt), (nc, iA G 100 gnc6866), (nF, sA G 5 (FCT K)), (h0, oX12 nw nk mhasKept nt (nI ktp) nr mrowMany mroundOf mroundFrom mouts nm mfromHour mtoHour ns (nI ks16864) (nI (TKE bt ktp ks16864)) (nI (TKN bt ktp ks16864)) 1 0 (nI kc16865) (nI kl) nl nc nF np ntr nb mbestCost nso nsi nit nsh nsf nss nrc mtraced mdealer mnumber mwhose msize misParted)]) hP hD (fun hP hD => ?_)
                  refine toQ hQ0 ?_
                  exact RV hC hP hD hS [4, 1, 2, 0, 3] (1, ks16864, kc16865, gnc6866, upd (upd (upd (upd (upd (upd (upd (upd fnl (6 * kl) 0) (6 * kl + 1) (nI (NVL bt ktp (NXT bt ktp ks)))) (6 * kl + 2) (-9)) (6 * kl + 3) (-9)) (6 * kl + 2) (nI (NVL bt ktp (NXT bt ktp (NXT bt ktp (NXT bt ktp ks)))))) (6 * kl + 3) (nI (NVL bt ktp (NXT bt ktp (NXT bt ktp (NXT bt ktp (NXT bt ktp (NXT bt ktp ks)))))))) (6 * kl + 4) (nI kc)) (6 * kl + 5) (nI kc16865), LN0, [], []) rfl rfl (by decide) (Or.inr ⟨rfl, Or.inr ⟨0, SRT.y (k := 0) (by decide) hq6808, Or.inr ⟨(NXT bt ktp (NXT bt ktp (NXT bt ktp (NXT bt ktp (NXT bt ktp (NXT bt ktp ks)))))), (nI (NVL bt ktp (NXT bt ktp ks))), (nI (NVL bt ktp (NXT bt ktp (NXT bt ktp (NXT bt ktp ks))))), (nI (NVL bt ktp (NXT bt ktp (NXT bt ktp (NXT bt ktp (NXT bt ktp (NXT bt ktp ks))))))), HDQ.t5 hq6820 hq6824 hq6836 hq6840 hq6852, Or.inr ⟨⟨by decide, hq6856⟩, Or.inl ⟨_, hq6886, rfl⟩⟩⟩⟩, by (try dsimp only); omega⟩) gX12_lineAt_15.2.2
              · have hq6892 := a6855
                refine lv_if_eq (tgt := 256) hx hb gX12_lineAt_13.2.2.2.2.1 (by decide) (fun _ => ?_) (fun c9 => absurd (by decide) c9)
                refine lv_aload_n hx hb gX12_lineAt_13.2.2.2.2.2.2.2.2.2 rfl (lv_at1 hl) ?_
                refine gf_X12_32 hC rfl hK hP 3 rfl rfl gX12_lineAt_14.1 ?_
                refine lv_iload_n hx hb gX12_lineAt_14.2.1 rfl (lv_at2 hl) ?_
                refine lv_iconst (v := 5) hx hb gX12_lineAt_14.2.2.1 (by decide) ?_
                refine lv_iadd hx hb gX12_lineAt_14.2.2.2.1 ?_
                refine eqi (x1 := nI (6 * kl + 5)) (nI_add (6 * kl) 5) ?_
                refine lv_aload_n hx hb gX12_lineAt_14.2.2.2.2.1 rfl (lv_at1 hl) ?_
                refine gf_X12_240 hC rfl hK hP 3 rfl rfl gX12_lineAt_14.2.2.2.2.2.1 ?_
                refine astN hC hK hP hD hS 1 (ws' := [(nc, iA G 100 fnc), (nl, iA G 54 (upd (upd (upd (upd (upd (upd (upd (upd fnl (6 * kl) 0) (6 * kl + 1) (nI (NVL bt ktp (NXT bt ktp ks)))) (6 * kl + 2) (-9)) (6 * kl + 3) (-9)) (6 * kl + 2) (nI (NVL bt ktp (NXT bt ktp (NXT bt ktp (NXT bt ktp ks)))))) (6 * kl + 3) (nI (NVL bt ktp (NXT bt ktp (NXT bt ktp (NXT bt ktp (NXT bt ktp (NXT bt ktp ks)))))))) (6 * kl + 4) (nI kc)) (6 * kl + 5) (nI kc))), (nF, sA G 5 (FCT K)), (h0, oX12 nw nk mhasKept nt (nI ktp) nr mrowMany mroundOf mroundFrom mouts nm mfromHour mtoHour ns (nI (NXT bt ktp (NXT bt ktp (NXT bt ktp (NXT bt ktp (NXT bt ktp (NXT bt ktp ks))))))) (nI (TKE bt ktp (NXT bt ktp (NXT bt ktp (NXT bt ktp (NXT bt ktp (NXT bt ktp (NXT bt ktp ks)))))))) (nI (TKN bt ktp (NXT bt ktp (NXT bt ktp (NXT bt ktp (NXT bt ktp (NXT bt ktp (NXT bt ktp ks)))))))) 0 0 (nI kc) (nI kl) nl nc nF np ntr nb mbestCost nso nsi nit nsh nsf nss nrc mtraced mdealer mnumber mwhose msize misParted), (nt, iA G 240 fnt)]) rfl (k := (6 * kl + 5)) (by omega) (Nat.le_of_ble_eq_true rfl) (rfl) gX12_lineAt_14.2.2.2.2.2.2.1 (fun H locs hP hD hS => ?_)
                refine lv_aload_n hx hb gX12_lineAt_14.2.2.2.2.2.2.2.1 rfl (lv_at1 hl) ?_
                refine lv_aload_n hx hb gX12_lineAt_14.2.2.2.2.2.2.2.2.1 rfl (lv_at1 hl) ?_
                refine lv_bipush (v := 59) hx hb gX12_lineAt_14.2.2.2.2.2.2.2.2.2 (by decide) ?_
                refine pV hC hK hl hP hD (m_isSignX l G h0 59 nw nk mhasKept nt ktp nr mrowMany mroundOf mroundFrom mouts nm mfromHour mtoHour ns (NXT bt ktp (NXT bt ktp (NXT bt ktp (NXT bt ktp (NXT bt ktp (NXT bt ktp ks)))))) 0 (nI kc) (nI kl) nl nc nF np ntr nb mbestCost nso nsi nit nsh nsf nss nrc mtraced mdealer mnumber mwhose msize misParted fnt bt (htp) (by omega) (hFB)) si_X12_262 [3, 4] sm_3_4 fm_3_4 nd_3_4 rfl rfl rfl rfl rfl (Nat.le_of_ble_eq_true rfl) rm_32_1_2 ⟨by first | exact Nat.le_of_ble_eq_true rfl | exact Nat.zero_le _, by first | exact Nat.le_of_ble_eq_true rfl | exact Nat.zero_le _⟩ gX12_lineAt_15.1 (Kors (Keqa fun a6894 => ?_) (Keqa fun a6894 => ?_))
                · have hq6895 := a6894
                  have xl6896 := SGN.len hq6895 (by omega)
                  refine vV (wr := [(nc, iA G 100 fnc), (nl, iA G 54 (upd (upd (upd (upd (upd (upd (upd (upd fnl (6 * kl) 0) (6 * kl + 1) (nI (NVL bt ktp (NXT bt ktp ks)))) (6 * kl + 2) (-9)) (6 * kl + 3) (-9)) (6 * kl + 2) (nI (NVL bt ktp (NXT bt ktp (NXT bt ktp (NXT bt ktp ks)))))) (6 * kl + 3) (nI (NVL bt ktp (NXT bt ktp (NXT bt ktp (NXT bt ktp (NXT bt ktp (NXT bt ktp ks)))))))) (6 * kl + 4) (nI kc)) (6 * kl + 5) (nI kc))), (nF, sA G 5 (FCT K))]) hC hK hl hP hD hS hA (m_need1X l G h0 nw nk mhasKept nt ktp nr mrowMany mroundOf mroundFrom mouts nm mfromHour mtoHour ns (NXT bt ktp (NXT bt ktp (NXT bt ktp (NXT bt ktp (NXT bt ktp (NXT bt ktp ks)))))) 0 (nI kc) (nI kl) nl nc nF np ntr nb mbestCost nso nsi nit nsh nsf nss nrc mtraced mdealer mnumber mwhose msize misParted fnt bt (htp) (by omega) (hFB)) si_X12_236 [3, 4] [0, 1, 2] sm_3_4 fm_3_4 nd_3_4 sm_0_1_2 nd_0_1_2 dj_3_4__0_1_2 rfl rfl rfl rfl rfl (Nat.le_of_ble_eq_true rfl) rm_32_4_2 ⟨Nat.le_of_ble_eq_true rfl, Nat.le_of_ble_eq_true rfl⟩ gX12_lineAt_15.2.1 (fun u6898 H locs hr6897 hP hD hS => ?_)
                  refine Kpdr (ws := [(nc, iA G 100 fnc), (nl, iA G 54 (upd (upd (upd (upd (upd (upd (upd (upd fnl (6 * kl) 0) (6 * kl + 1) (nI (NVL bt ktp (NXT bt ktp ks)))) (6 * kl + 2) (-9)) (6 * kl + 3) (-9)) (6 * kl + 2) (nI (NVL bt ktp (NXT bt ktp (NXT bt ktp (NXT bt ktp ks)))))) (6 * kl + 3) (nI (NVL bt ktp (NXT bt ktp (NXT bt ktp (NXT bt ktp (NXT bt ktp (NXT bt ktp ks)))))))) (6 * kl + 4) (nI kc)) (6 * kl + 5) (nI kc))), (nF, sA G 5 (FCT K)), (h0, oX12 nw nk mhasKept nt (nI ktp) nr mrowMany mroundOf mroundFrom mouts nm mfromHour mtoHour ns (nI (NXT bt ktp (NXT bt ktp (NXT bt ktp (NXT bt ktp (NXT bt ktp (NXT bt ktp (NXT bt ktp ks)))))))) (nI (TKE bt ktp (NXT bt ktp (NXT bt ktp (NXT bt ktp (NXT bt ktp (NXT bt ktp (NXT bt ktp (NXT bt ktp ks))))))))) (nI (TKN bt ktp (NXT bt ktp (NXT bt ktp (NXT bt ktp (NXT bt ktp (NXT bt ktp (NXT bt ktp (NXT bt ktp ks))))))))) 0 0 (nI kc) (nI kl) nl nc nF np ntr nb mbestCost nso nsi nit nsh nsf nss nrc mtraced mdealer mnumber mwhose msize misParted), (nt, iA G 240 fnt)]) hP hD (fun hP hD => ?_)
                  have xn6899 := NXT.ge (bt := bt) (n := ktp) (s := (NXT bt ktp (NXT bt ktp (NXT bt ktp (NXT bt ktp (NXT bt ktp (NXT bt ktp ks))))))) (by omega)
                  refine toQ hQ0 ?_
                  exact RV hC hP hD hS [3, 4, 0, 1, 2] (0, (NXT bt ktp (NXT bt ktp (NXT bt ktp (NXT bt ktp (NXT bt ktp (NXT bt ktp (NXT bt ktp ks))))))), kc, fnc, upd (upd (upd (upd (upd (upd (upd (upd fnl (6 * kl) 0) (6 * kl + 1) (nI (NVL bt ktp (NXT bt ktp ks)))) (6 * kl + 2) (-9)) (6 * kl + 3) (-9)) (6 * kl + 2) (nI (NVL bt ktp (NXT bt ktp (NXT bt ktp (NXT bt ktp ks)))))) (6 * kl + 3) (nI (NVL bt ktp (NXT bt ktp (NXT bt ktp (NXT bt ktp (NXT bt ktp (NXT bt ktp ks)))))))) (6 * kl + 4) (nI kc)) (6 * kl + 5) (nI kc), (0, (nI (NVL bt ktp (NXT bt ktp ks))), (nI (NVL bt ktp (NXT bt ktp (NXT bt ktp (NXT bt ktp ks))))), (nI (NVL bt ktp (NXT bt ktp (NXT bt ktp (NXT bt ktp (NXT bt ktp (NXT bt ktp ks))))))), 0, cs.length, cs.length, rs.length, rs.length), cs, rs) rfl rfl (by decide) (Or.inl ⟨rfl, Or.inr ⟨0, SRT.y (k := 0) (by decide) hq6808, Or.inr ⟨(NXT bt ktp (NXT bt ktp (NXT bt ktp (NXT bt ktp (NXT bt ktp (NXT bt ktp ks)))))), (nI (NVL bt ktp (NXT bt ktp ks))), (nI (NVL bt ktp (NXT bt ktp (NXT bt ktp (NXT bt ktp ks))))), (nI (NVL bt ktp (NXT bt ktp (NXT bt ktp (NXT bt ktp (NXT bt ktp (NXT bt ktp ks))))))), HDQ.t5 hq6820 hq6824 hq6836 hq6840 hq6852, Or.inl ⟨(fun h9 => hq6892 h9.2), Or.inr ⟨hq6895, rfl⟩⟩⟩⟩, hST, (by rw [hs1]; exact ⟨fun j hj => (upd_ne (by omega)).trans ((upd_ne (by omega)).trans ((upd_ne (by omega)).trans ((upd_ne (by omega)).trans ((upd_ne (by omega)).trans ((upd_ne (by omega)).trans ((upd_ne (by omega)).trans ((upd_ne (by omega)).trans (rfl)))))))), (upd_ne (by omega)).trans ((upd_ne (by omega)).trans ((upd_ne (by omega)).trans ((upd_ne (by omega)).trans ((upd_ne (by omega)).trans ((upd_ne (by omega)).trans ((upd_ne (by omega)).trans (upd_eq (by omega)))))))), (upd_ne (by omega)).trans ((upd_ne (by omega)).trans ((upd_ne (by omega)).trans ((upd_ne (by omega)).trans ((upd_ne (by omega)).trans ((upd_ne (by omega)).trans (upd_eq (by omega))))))), (upd_ne (by omega)).trans ((upd_ne (by omega)).trans ((upd_ne (by omega)).trans (upd_eq (by omega)))), (upd_ne (by omega)).trans ((upd_ne (by omega)).trans (upd_eq (by omega))), (upd_ne (by omega)).trans (upd_eq (by omega)), upd_eq (by omega), fun _ => rfl, fun h9 => absurd (show (0 : Nat) = 1 from h9) (by decide), Nat.zero_le _, (by (try dsimp only); omega)⟩), by (try dsimp only); omega, by (try dsimp only); omega⟩) gX12_lineAt_15.2.2
                · have hq6900 := a6894
                  refine vV (wr := [(nc, iA G 100 fnc), (nl, iA G 54 (upd (upd (upd (upd (upd (upd (upd (upd fnl (6 * kl) 0) (6 * kl + 1) (nI (NVL bt ktp (NXT bt ktp ks)))) (6 * kl + 2) (-9)) (6 * kl + 3) (-9)) (6 * kl + 2) (nI (NVL bt ktp (NXT bt ktp (NXT bt ktp (NXT bt ktp ks)))))) (6 * kl + 3) (nI (NVL bt ktp (NXT bt ktp (NXT bt ktp (NXT bt ktp (NXT bt ktp (NXT bt ktp ks)))))))) (6 * kl + 4) (nI kc)) (6 * kl + 5) (nI kc))), (nF, sA G 5 (FCT K)), (nt, iA G 240 fnt)]) hC hK hl hP hD hS hA (m_need0 l G h0 nw nk mhasKept nt (nI ktp) nr mrowMany mroundOf mroundFrom mouts nm mfromHour mtoHour ns (nI (NXT bt ktp (NXT bt ktp (NXT bt ktp (NXT bt ktp (NXT bt ktp (NXT bt ktp ks))))))) (nI (TKE bt ktp (NXT bt ktp (NXT bt ktp (NXT bt ktp (NXT bt ktp (NXT bt ktp (NXT bt ktp ks)))))))) (nI (TKN bt ktp (NXT bt ktp (NXT bt ktp (NXT bt ktp (NXT bt ktp (NXT bt ktp (NXT bt ktp ks)))))))) 0 (nI kc) (nI kl) nl nc nF np ntr nb mbestCost nso nsi nit nsh nsf nss nrc mtraced mdealer mnumber mwhose msize misParted) si_X12_236 [3] [0, 1, 2, 4] sm_3 fm_3 nd_3 sm_0_1_2_4 nd_0_1_2_4 dj_3__0_1_2_4 rfl rfl rfl rfl rfl (Nat.le_of_ble_eq_true rfl) rm_32_4_2 ⟨Nat.le_of_ble_eq_true rfl, Nat.le_of_ble_eq_true rfl⟩ gX12_lineAt_15.2.1 (fun u6902 H locs hr6901 hP hD hS => ?_)
                  refine Kpdr (ws := [(nc, iA G 100 fnc), (nl, iA G 54 (upd (upd (upd (upd (upd (upd (upd (upd fnl (6 * kl) 0) (6 * kl + 1) (nI (NVL bt ktp (NXT bt ktp ks)))) (6 * kl + 2) (-9)) (6 * kl + 3) (-9)) (6 * kl + 2) (nI (NVL bt ktp (NXT bt ktp (NXT bt ktp (NXT bt ktp ks)))))) (6 * kl + 3) (nI (NVL bt ktp (NXT bt ktp (NXT bt ktp (NXT bt ktp (NXT bt ktp (NXT bt ktp ks)))))))) (6 * kl + 4) (nI kc)) (6 * kl + 5) (nI kc))), (nF, sA G 5 (FCT K)), (nt, iA G 240 fnt), (h0, oX12 nw nk mhasKept nt (nI ktp) nr mrowMany mroundOf mroundFrom mouts nm mfromHour mtoHour ns (nI (NXT bt ktp (NXT bt ktp (NXT bt ktp (NXT bt ktp (NXT bt ktp (NXT bt ktp ks))))))) (nI (TKE bt ktp (NXT bt ktp (NXT bt ktp (NXT bt ktp (NXT bt ktp (NXT bt ktp (NXT bt ktp ks)))))))) (nI (TKN bt ktp (NXT bt ktp (NXT bt ktp (NXT bt ktp (NXT bt ktp (NXT bt ktp (NXT bt ktp ks)))))))) 1 0 (nI kc) (nI kl) nl nc nF np ntr nb mbestCost nso nsi nit nsh nsf nss nrc mtraced mdealer mnumber mwhose msize misParted)]) hP hD (fun hP hD => ?_)
                  refine toQ hQ0 ?_
                  exact RV hC hP hD hS [4, 3, 0, 1, 2] (1, (NXT bt ktp (NXT bt ktp (NXT bt ktp (NXT bt ktp (NXT bt ktp (NXT bt ktp ks)))))), kc, fnc, upd (upd (upd (upd (upd (upd (upd (upd fnl (6 * kl) 0) (6 * kl + 1) (nI (NVL bt ktp (NXT bt ktp ks)))) (6 * kl + 2) (-9)) (6 * kl + 3) (-9)) (6 * kl + 2) (nI (NVL bt ktp (NXT bt ktp (NXT bt ktp (NXT bt ktp ks)))))) (6 * kl + 3) (nI (NVL bt ktp (NXT bt ktp (NXT bt ktp (NXT bt ktp (NXT bt ktp (NXT bt ktp ks)))))))) (6 * kl + 4) (nI kc)) (6 * kl + 5) (nI kc), LN0, [], []) rfl rfl (by decide) (Or.inr ⟨rfl, Or.inr ⟨0, SRT.y (k := 0) (by decide) hq6808, Or.inr ⟨(NXT bt ktp (NXT bt ktp (NXT bt ktp (NXT bt ktp (NXT bt ktp (NXT bt ktp ks)))))), (nI (NVL bt ktp (NXT bt ktp ks))), (nI (NVL bt ktp (NXT bt ktp (NXT bt ktp (NXT bt ktp ks))))), (nI (NVL bt ktp (NXT bt ktp (NXT bt ktp (NXT bt ktp (NXT bt ktp (NXT bt ktp ks))))))), HDQ.t5 hq6820 hq6824 hq6836 hq6840 hq6852, Or.inl ⟨(fun h9 => hq6892 h9.2), Or.inl ⟨hq6900, rfl⟩⟩⟩⟩, by (try dsimp only); omega⟩) gX12_lineAt_15.2.2
            · obtain ⟨rfl, rfl, hq6903⟩ := v6851
              refine astN hC hK hP hD hS 1 (ws' := [(nc, iA G 100 fnc), (nl, iA G 54 (upd (upd (upd (upd (upd (upd fnl (6 * kl) 0) (6 * kl + 1) (nI (NVL bt ktp (NXT bt ktp ks)))) (6 * kl + 2) (-9)) (6 * kl + 3) (-9)) (6 * kl + 2) (nI (NVL bt ktp (NXT bt ktp (NXT bt ktp (NXT bt ktp ks)))))) (6 * kl + 3) r6845)), (nF, sA G 5 (FCT K)), (h0, oX12 nw nk mhasKept nt (nI ktp) nr mrowMany mroundOf mroundFrom mouts nm mfromHour mtoHour ns (nI (NXT bt ktp (NXT bt ktp (NXT bt ktp (NXT bt ktp (NXT bt ktp ks)))))) (nI (TKE bt ktp (NXT bt ktp (NXT bt ktp (NXT bt ktp (NXT bt ktp (NXT bt ktp ks))))))) (nI (TKN bt ktp (NXT bt ktp (NXT bt ktp (NXT bt ktp (NXT bt ktp (NXT bt ktp ks))))))) 1 0 (nI kc) (nI kl) nl nc nF np ntr nb mbestCost nso nsi nit nsh nsf nss nrc mtraced mdealer mnumber mwhose msize misParted), (nt, iA G 240 fnt)]) rfl (k := (6 * kl + 3)) (by omega) (Nat.le_of_ble_eq_true rfl) (rfl) gX12_lineAt_10.2.2.1 (fun H locs hP hD hS => ?_)
              refine lv_iload_n hx hb gX12_lineAt_10.2.2.2.1 rfl (lv_at0 hl) ?_
              refine lv_iconst (v := 2) hx hb gX12_lineAt_10.2.2.2.2.1 (by decide) ?_
              refine lv_icmp_ne (tgt := 221) hx hb gX12_lineAt_10.2.2.2.2.2.1 (by decide) (fun _ => ?_) (fun c9 => absurd c9 (by decide))
              refine lv_aload_n hx hb gX12_lineAt_12.1 rfl (lv_at1 hl) ?_
              refine gf_X12_32 hC rfl hK hP 3 rfl rfl gX12_lineAt_12.2.1 ?_
              refine lv_iload_n hx hb gX12_lineAt_12.2.2.1 rfl (lv_at2 hl) ?_
              refine lv_iconst (v := 4) hx hb gX12_lineAt_12.2.2.2.1 (by decide) ?_
              refine lv_iadd hx hb gX12_lineAt_12.2.2.2.2.1 ?_
              refine eqi (x1 := nI (6 * kl + 4)) (nI_add (6 * kl) 4) ?_
              refine lv_aload_n hx hb gX12_lineAt_12.2.2.2.2.2.1 rfl (lv_at1 hl) ?_
              refine gf_X12_240 hC rfl hK hP 3 rfl rfl gX12_lineAt_12.2.2.2.2.2.2.1 ?_
              refine astN hC hK hP hD hS 1 (ws' := [(nc, iA G 100 fnc), (nl, iA G 54 (upd (upd (upd (upd (upd (upd (upd fnl (6 * kl) 0) (6 * kl + 1) (nI (NVL bt ktp (NXT bt ktp ks)))) (6 * kl + 2) (-9)) (6 * kl + 3) (-9)) (6 * kl + 2) (nI (NVL bt ktp (NXT bt ktp (NXT bt ktp (NXT bt ktp ks)))))) (6 * kl + 3) r6845) (6 * kl + 4) (nI kc))), (nF, sA G 5 (FCT K)), (h0, oX12 nw nk mhasKept nt (nI ktp) nr mrowMany mroundOf mroundFrom mouts nm mfromHour mtoHour ns (nI (NXT bt ktp (NXT bt ktp (NXT bt ktp (NXT bt ktp (NXT bt ktp ks)))))) (nI (TKE bt ktp (NXT bt ktp (NXT bt ktp (NXT bt ktp (NXT bt ktp (NXT bt ktp ks))))))) (nI (TKN bt ktp (NXT bt ktp (NXT bt ktp (NXT bt ktp (NXT bt ktp (NXT bt ktp ks))))))) 1 0 (nI kc) (nI kl) nl nc nF np ntr nb mbestCost nso nsi nit nsh nsf nss nrc mtraced mdealer mnumber mwhose msize misParted), (nt, iA G 240 fnt)]) rfl (k := (6 * kl + 4)) (by omega) (Nat.le_of_ble_eq_true rfl) (rfl) gX12_lineAt_12.2.2.2.2.2.2.2.1 (fun H locs hP hD hS => ?_)
              refine lv_iload_n hx hb gX12_lineAt_12.2.2.2.2.2.2.2.2.1 rfl (lv_at0 hl) ?_
              refine lv_iconst (v := 3) hx hb gX12_lineAt_12.2.2.2.2.2.2.2.2.2 (by decide) ?_
              refine lv_icmp_eq (tgt := 256) hx hb gX12_lineAt_13.1 (by decide) (fun c9 => absurd c9 (by decide)) (fun _ => ?_)
              refine lv_aload_n hx hb gX12_lineAt_13.2.1 rfl (lv_at1 hl) ?_
              refine va_ldcSw (index := 287) (tx := "if") hx hb hown (hO.2.2 0 (by decide)) gX12_lineAt_13.2.2.1 ?_
              refine pVo hO hS hC hK hl hP hD (m_isNameF l G K 0 h0 nw nk mhasKept nt (nI ktp) nr mrowMany mroundOf mroundFrom mouts nm mfromHour mtoHour ns (nI (NXT bt ktp (NXT bt ktp (NXT bt ktp (NXT bt ktp (NXT bt ktp ks)))))) (nI (TKE bt ktp (NXT bt ktp (NXT bt ktp (NXT bt ktp (NXT bt ktp (NXT bt ktp ks))))))) (nI (TKN bt ktp (NXT bt ktp (NXT bt ktp (NXT bt ktp (NXT bt ktp (NXT bt ktp ks))))))) 0 (nI kc) (nI kl) nl nc nF np ntr nb mbestCost nso nsi nit nsh nsf nss nrc mtraced mdealer mnumber mwhose msize misParted ((by decide))) si_X12_248 [3] sm_3 fm_3 nd_3 rfl rfl rfl rfl rfl (Nat.le_of_ble_eq_true rfl) rm_32_5_4 ⟨by first | exact Nat.le_of_ble_eq_true rfl | exact Nat.zero_le _, by first | exact Nat.le_of_ble_eq_true rfl | exact Nat.zero_le _⟩ gX12_lineAt_13.2.2.2.1 (Keqr ?_)
              refine lv_if_eq (tgt := 256) hx hb gX12_lineAt_13.2.2.2.2.1 (by decide) (fun _ => ?_) (fun c9 => absurd (by decide) c9)
              refine lv_aload_n hx hb gX12_lineAt_13.2.2.2.2.2.2.2.2.2 rfl (lv_at1 hl) ?_
              refine gf_X12_32 hC rfl hK hP 3 rfl rfl gX12_lineAt_14.1 ?_
              refine lv_iload_n hx hb gX12_lineAt_14.2.1 rfl (lv_at2 hl) ?_
              refine lv_iconst (v := 5) hx hb gX12_lineAt_14.2.2.1 (by decide) ?_
              refine lv_iadd hx hb gX12_lineAt_14.2.2.2.1 ?_
              refine eqi (x1 := nI (6 * kl + 5)) (nI_add (6 * kl) 5) ?_
              refine lv_aload_n hx hb gX12_lineAt_14.2.2.2.2.1 rfl (lv_at1 hl) ?_
              refine gf_X12_240 hC rfl hK hP 3 rfl rfl gX12_lineAt_14.2.2.2.2.2.1 ?_
              refine astN hC hK hP hD hS 1 (ws' := [(nc, iA G 100 fnc), (nl, iA G 54 (upd (upd (upd (upd (upd (upd (upd (upd fnl (6 * kl) 0) (6 * kl + 1) (nI (NVL bt ktp (NXT bt ktp ks)))) (6 * kl + 2) (-9)) (6 * kl + 3) (-9)) (6 * kl + 2) (nI (NVL bt ktp (NXT bt ktp (NXT bt ktp (NXT bt ktp ks)))))) (6 * kl + 3) r6845) (6 * kl + 4) (nI kc)) (6 * kl + 5) (nI kc))), (nF, sA G 5 (FCT K)), (h0, oX12 nw nk mhasKept nt (nI ktp) nr mrowMany mroundOf mroundFrom mouts nm mfromHour mtoHour ns (nI (NXT bt ktp (NXT bt ktp (NXT bt ktp (NXT bt ktp (NXT bt ktp ks)))))) (nI (TKE bt ktp (NXT bt ktp (NXT bt ktp (NXT bt ktp (NXT bt ktp (NXT bt ktp ks))))))) (nI (TKN bt ktp (NXT bt ktp (NXT bt ktp (NXT bt ktp (NXT bt ktp (NXT bt ktp ks))))))) 1 0 (nI kc) (nI kl) nl nc nF np ntr nb mbestCost nso nsi nit nsh nsf nss nrc mtraced mdealer mnumber mwhose msize misParted), (nt, iA G 240 fnt)]) rfl (k := (6 * kl + 5)) (by omega) (Nat.le_of_ble_eq_true rfl) (rfl) gX12_lineAt_14.2.2.2.2.2.2.1 (fun H locs hP hD hS => ?_)
              refine lv_aload_n hx hb gX12_lineAt_14.2.2.2.2.2.2.2.1 rfl (lv_at1 hl) ?_
              refine lv_aload_n hx hb gX12_lineAt_14.2.2.2.2.2.2.2.2.1 rfl (lv_at1 hl) ?_
              refine lv_bipush (v := 59) hx hb gX12_lineAt_14.2.2.2.2.2.2.2.2.2 (by decide) ?_
              refine pV hC hK hl hP hD (m_isSignF l G h0 59 nw nk mhasKept nt (nI ktp) nr mrowMany mroundOf mroundFrom mouts nm mfromHour mtoHour ns (nI (NXT bt ktp (NXT bt ktp (NXT bt ktp (NXT bt ktp (NXT bt ktp ks)))))) (nI (TKE bt ktp (NXT bt ktp (NXT bt ktp (NXT bt ktp (NXT bt ktp (NXT bt ktp ks))))))) (nI (TKN bt ktp (NXT bt ktp (NXT bt ktp (NXT bt ktp (NXT bt ktp (NXT bt ktp ks))))))) 0 (nI kc) (nI kl) nl nc nF np ntr nb mbestCost nso nsi nit nsh nsf nss nrc mtraced mdealer mnumber mwhose msize misParted) si_X12_262 [3] sm_3 fm_3 nd_3 rfl rfl rfl rfl rfl (Nat.le_of_ble_eq_true rfl) rm_32_1_2 ⟨by first | exact Nat.le_of_ble_eq_true rfl | exact Nat.zero_le _, by first | exact Nat.le_of_ble_eq_true rfl | exact Nat.zero_le _⟩ gX12_lineAt_15.1 (Keqr ?_)
              refine vV (wr := [(nc, iA G 100 fnc), (nl, iA G 54 (upd (upd (upd (upd (upd (upd (upd (upd fnl (6 * kl) 0) (6 * kl + 1) (nI (NVL bt ktp (NXT bt ktp ks)))) (6 * kl + 2) (-9)) (6 * kl + 3) (-9)) (6 * kl + 2) (nI (NVL bt ktp (NXT bt ktp (NXT bt ktp (NXT bt ktp ks)))))) (6 * kl + 3) r6845) (6 * kl + 4) (nI kc)) (6 * kl + 5) (nI kc))), (nF, sA G 5 (FCT K)), (nt, iA G 240 fnt)]) hC hK hl hP hD hS hA (m_needF l G h0 0 nw nk mhasKept nt (nI ktp) nr mrowMany mroundOf mroundFrom mouts nm mfromHour mtoHour ns (nI (NXT bt ktp (NXT bt ktp (NXT bt ktp (NXT bt ktp (NXT bt ktp ks)))))) (nI (TKE bt ktp (NXT bt ktp (NXT bt ktp (NXT bt ktp (NXT bt ktp (NXT bt ktp ks))))))) (nI (TKN bt ktp (NXT bt ktp (NXT bt ktp (NXT bt ktp (NXT bt ktp (NXT bt ktp ks))))))) 0 (nI kc) (nI kl) nl nc nF np ntr nb mbestCost nso nsi nit nsh nsf nss nrc mtraced mdealer mnumber mwhose msize misParted) si_X12_236 [3] [0, 1, 2, 4] sm_3 fm_3 nd_3 sm_0_1_2_4 nd_0_1_2_4 dj_3__0_1_2_4 rfl rfl rfl rfl rfl (Nat.le_of_ble_eq_true rfl) rm_32_4_2 ⟨Nat.le_of_ble_eq_true rfl, Nat.le_of_ble_eq_true rfl⟩ gX12_lineAt_15.2.1 (fun u6909 H locs hr6908 hP hD hS => ?_)
              refine Kpdr (ws := [(nc, iA G 100 fnc), (nl, iA G 54 (upd (upd (upd (upd (upd (upd (upd (upd fnl (6 * kl) 0) (6 * kl + 1) (nI (NVL bt ktp (NXT bt ktp ks)))) (6 * kl + 2) (-9)) (6 * kl + 3) (-9)) (6 * kl + 2) (nI (NVL bt ktp (NXT bt ktp (NXT bt ktp (NXT bt ktp ks)))))) (6 * kl + 3) r6845) (6 * kl + 4) (nI kc)) (6 * kl + 5) (nI kc))), (nF, sA G 5 (FCT K)), (nt, iA G 240 fnt), (h0, oX12 nw nk mhasKept nt (nI ktp) nr mrowMany mroundOf mroundFrom mouts nm mfromHour mtoHour ns (nI (NXT bt ktp (NXT bt ktp (NXT bt ktp (NXT bt ktp (NXT bt ktp ks)))))) (nI (TKE bt ktp (NXT bt ktp (NXT bt ktp (NXT bt ktp (NXT bt ktp (NXT bt ktp ks))))))) (nI (TKN bt ktp (NXT bt ktp (NXT bt ktp (NXT bt ktp (NXT bt ktp (NXT bt ktp ks))))))) 1 0 (nI kc) (nI kl) nl nc nF np ntr nb mbestCost nso nsi nit nsh nsf nss nrc mtraced mdealer mnumber mwhose msize misParted)]) hP hD (fun hP hD => ?_)
              refine toQ hQ0 ?_
              exact RV hC hP hD hS [4, 3, 0, 1, 2] (1, (NXT bt ktp (NXT bt ktp (NXT bt ktp (NXT bt ktp (NXT bt ktp ks))))), kc, fnc, upd (upd (upd (upd (upd (upd (upd (upd fnl (6 * kl) 0) (6 * kl + 1) (nI (NVL bt ktp (NXT bt ktp ks)))) (6 * kl + 2) (-9)) (6 * kl + 3) (-9)) (6 * kl + 2) (nI (NVL bt ktp (NXT bt ktp (NXT bt ktp (NXT bt ktp ks)))))) (6 * kl + 3) r6845) (6 * kl + 4) (nI kc)) (6 * kl + 5) (nI kc), LN0, [], []) rfl rfl (by decide) (Or.inr ⟨rfl, Or.inr ⟨0, SRT.y (k := 0) (by decide) hq6808, Or.inl ⟨_, HDQ.t4 hq6820 hq6824 hq6836 hq6840 hq6903, rfl⟩⟩, by (try dsimp only); omega⟩) gX12_lineAt_15.2.2
          · have hq6910 := a6839
            refine vV (wr := [(nc, iA G 100 fnc), (nl, iA G 54 (upd (upd (upd (upd (upd fnl (6 * kl) 0) (6 * kl + 1) (nI (NVL bt ktp (NXT bt ktp ks)))) (6 * kl + 2) (-9)) (6 * kl + 3) (-9)) (6 * kl + 2) (nI (NVL bt ktp (NXT bt ktp (NXT bt ktp (NXT bt ktp ks))))))), (nF, sA G 5 (FCT K)), (nt, iA G 240 fnt)]) hC hK hl hP hD hS hA (m_need0 l G h0 nw nk mhasKept nt (nI ktp) nr mrowMany mroundOf mroundFrom mouts nm mfromHour mtoHour ns (nI (NXT bt ktp (NXT bt ktp (NXT bt ktp (NXT bt ktp ks))))) (nI (TKE bt ktp (NXT bt ktp (NXT bt ktp (NXT bt ktp (NXT bt ktp ks)))))) (nI (TKN bt ktp (NXT bt ktp (NXT bt ktp (NXT bt ktp (NXT bt ktp ks)))))) 0 (nI kc) (nI kl) nl nc nF np ntr nb mbestCost nso nsi nit nsh nsf nss nrc mtraced mdealer mnumber mwhose msize misParted) si_X12_236 [3] [0, 1, 2, 4] sm_3 fm_3 nd_3 sm_0_1_2_4 nd_0_1_2_4 dj_3__0_1_2_4 rfl rfl rfl rfl rfl (Nat.le_of_ble_eq_true rfl) rm_32_4_2 ⟨Nat.le_of_ble_eq_true rfl, Nat.le_of_ble_eq_true rfl⟩ gX12_lineAt_9.2.2.2.1 (fun u6912 H locs hr6911 hP hD hS => ?_)
            refine Kpdr (ws := [(nc, iA G 100 fnc), (nl, iA G 54 (upd (upd (upd (upd (upd fnl (6 * kl) 0) (6 * kl + 1) (nI (NVL bt ktp (NXT bt ktp ks)))) (6 * kl + 2) (-9)) (6 * kl + 3) (-9)) (6 * kl + 2) (nI (NVL bt ktp (NXT bt ktp (NXT bt ktp (NXT bt ktp ks))))))), (nF, sA G 5 (FCT K)), (nt, iA G 240 fnt), (h0, oX12 nw nk mhasKept nt (nI ktp) nr mrowMany mroundOf mroundFrom mouts nm mfromHour mtoHour ns (nI (NXT bt ktp (NXT bt ktp (NXT bt ktp (NXT bt ktp ks))))) (nI (TKE bt ktp (NXT bt ktp (NXT bt ktp (NXT bt ktp (NXT bt ktp ks)))))) (nI (TKN bt ktp (NXT bt ktp (NXT bt ktp (NXT bt ktp (NXT bt ktp ks)))))) 1 0 (nI kc) (nI kl) nl nc nF np ntr nb mbestCost nso nsi nit nsh nsf nss nrc mtraced mdealer mnumber mwhose msize misParted)]) hP hD (fun hP hD => ?_)
            refine lv_aload_n hx hb gX12_lineAt_9.2.2.2.2.1 rfl (lv_at1 hl) ?_
            refine gf_X12_32 hC rfl hK hP 4 rfl rfl gX12_lineAt_9.2.2.2.2.2.1 ?_
            refine lv_iload_n hx hb gX12_lineAt_9.2.2.2.2.2.2.1 rfl (lv_at2 hl) ?_
            refine lv_iconst (v := 3) hx hb gX12_lineAt_9.2.2.2.2.2.2.2.1 (by decide) ?_
            refine lv_iadd hx hb gX12_lineAt_9.2.2.2.2.2.2.2.2.1 ?_
            refine eqi (x1 := nI (6 * kl + 3)) (nI_add (6 * kl) 3) ?_
            refine lv_aload_n hx hb gX12_lineAt_9.2.2.2.2.2.2.2.2.2 rfl (lv_at1 hl) ?_
            refine lv_bipush (v := 7) hx hb gX12_lineAt_10.1 (by decide) ?_
            refine iV (wr := [(nc, iA G 100 fnc), (nl, iA G 54 (upd (upd (upd (upd (upd fnl (6 * kl) 0) (6 * kl + 1) (nI (NVL bt ktp (NXT bt ktp ks)))) (6 * kl + 2) (-9)) (6 * kl + 3) (-9)) (6 * kl + 2) (nI (NVL bt ktp (NXT bt ktp (NXT bt ktp (NXT bt ktp ks))))))), (nF, sA G 5 (FCT K)), (nt, iA G 240 fnt)]) hC hK hl hP hD hS hA (m_numberF l G h0 7 nw nk mhasKept nt (nI ktp) nr mrowMany mroundOf mroundFrom mouts nm mfromHour mtoHour ns (nI (NXT bt ktp (NXT bt ktp (NXT bt ktp (NXT bt ktp ks))))) (nI (TKE bt ktp (NXT bt ktp (NXT bt ktp (NXT bt ktp (NXT bt ktp ks)))))) (nI (TKN bt ktp (NXT bt ktp (NXT bt ktp (NXT bt ktp (NXT bt ktp ks)))))) 0 (nI kc) (nI kl) nl nc nF np ntr nb mbestCost nso nsi nit nsh nsf nss nrc mtraced mdealer mnumber mwhose msize misParted) si_X12_271 [4] [0, 1, 2, 3] sm_4 fm_4 nd_4 sm_0_1_2_3 nd_0_1_2_3 dj_4__0_1_2_3 rfl rfl rfl rfl rfl (Nat.le_of_ble_eq_true rfl) rm_32_5_5 ⟨Nat.le_of_ble_eq_true rfl, Nat.le_of_ble_eq_true rfl⟩ gX12_lineAt_10.2.1 (fun r6913 u6914 H locs hr6913 hP hD hS => ?_)
            refine Kpdr (ws := [(nc, iA G 100 fnc), (nl, iA G 54 (upd (upd (upd (upd (upd fnl (6 * kl) 0) (6 * kl + 1) (nI (NVL bt ktp (NXT bt ktp ks)))) (6 * kl + 2) (-9)) (6 * kl + 3) (-9)) (6 * kl + 2) (nI (NVL bt ktp (NXT bt ktp (NXT bt ktp (NXT bt ktp ks))))))), (nF, sA G 5 (FCT K)), (nt, iA G 240 fnt), (h0, oX12 nw nk mhasKept nt (nI ktp) nr mrowMany mroundOf mroundFrom mouts nm mfromHour mtoHour ns (nI (NXT bt ktp (NXT bt ktp (NXT bt ktp (NXT bt ktp ks))))) (nI (TKE bt ktp (NXT bt ktp (NXT bt ktp (NXT bt ktp (NXT bt ktp ks)))))) (nI (TKN bt ktp (NXT bt ktp (NXT bt ktp (NXT bt ktp (NXT bt ktp ks)))))) 1 0 (nI kc) (nI kl) nl nc nF np ntr nb mbestCost nso nsi nit nsh nsf nss nrc mtraced mdealer mnumber mwhose msize misParted)]) hP hD (fun hP hD => ?_)
            obtain rfl := hr6913
            refine astN hC hK hP hD hS 1 (ws' := [(nc, iA G 100 fnc), (nl, iA G 54 (upd (upd (upd (upd (upd (upd fnl (6 * kl) 0) (6 * kl + 1) (nI (NVL bt ktp (NXT bt ktp ks)))) (6 * kl + 2) (-9)) (6 * kl + 3) (-9)) (6 * kl + 2) (nI (NVL bt ktp (NXT bt ktp (NXT bt ktp (NXT bt ktp ks)))))) (6 * kl + 3) 0)), (nF, sA G 5 (FCT K)), (nt, iA G 240 fnt), (h0, oX12 nw nk mhasKept nt (nI ktp) nr mrowMany mroundOf mroundFrom mouts nm mfromHour mtoHour ns (nI (NXT bt ktp (NXT bt ktp (NXT bt ktp (NXT bt ktp ks))))) (nI (TKE bt ktp (NXT bt ktp (NXT bt ktp (NXT bt ktp (NXT bt ktp ks)))))) (nI (TKN bt ktp (NXT bt ktp (NXT bt ktp (NXT bt ktp (NXT bt ktp ks)))))) 1 0 (nI kc) (nI kl) nl nc nF np ntr nb mbestCost nso nsi nit nsh nsf nss nrc mtraced mdealer mnumber mwhose msize misParted)]) rfl (k := (6 * kl + 3)) (by omega) (Nat.le_of_ble_eq_true rfl) (rfl) gX12_lineAt_10.2.2.1 (fun H locs hP hD hS => ?_)
            refine lv_iload_n hx hb gX12_lineAt_10.2.2.2.1 rfl (lv_at0 hl) ?_
            refine lv_iconst (v := 2) hx hb gX12_lineAt_10.2.2.2.2.1 (by decide) ?_
            refine lv_icmp_ne (tgt := 221) hx hb gX12_lineAt_10.2.2.2.2.2.1 (by decide) (fun _ => ?_) (fun c9 => absurd c9 (by decide))
            refine lv_aload_n hx hb gX12_lineAt_12.1 rfl (lv_at1 hl) ?_
            refine gf_X12_32 hC rfl hK hP 4 rfl rfl gX12_lineAt_12.2.1 ?_
            refine lv_iload_n hx hb gX12_lineAt_12.2.2.1 rfl (lv_at2 hl) ?_
            refine lv_iconst (v := 4) hx hb gX12_lineAt_12.2.2.2.1 (by decide) ?_
            refine lv_iadd hx hb gX12_lineAt_12.2.2.2.2.1 ?_
            refine eqi (x1 := nI (6 * kl + 4)) (nI_add (6 * kl) 4) ?_
            refine lv_aload_n hx hb gX12_lineAt_12.2.2.2.2.2.1 rfl (lv_at1 hl) ?_
            refine gf_X12_240 hC rfl hK hP 4 rfl rfl gX12_lineAt_12.2.2.2.2.2.2.1 ?_
            refine astN hC hK hP hD hS 1 (ws' := [(nc, iA G 100 fnc), (nl, iA G 54 (upd (upd (upd (upd (upd (upd (upd fnl (6 * kl) 0) (6 * kl + 1) (nI (NVL bt ktp (NXT bt ktp ks)))) (6 * kl + 2) (-9)) (6 * kl + 3) (-9)) (6 * kl + 2) (nI (NVL bt ktp (NXT bt ktp (NXT bt ktp (NXT bt ktp ks)))))) (6 * kl + 3) 0) (6 * kl + 4) (nI kc))), (nF, sA G 5 (FCT K)), (nt, iA G 240 fnt), (h0, oX12 nw nk mhasKept nt (nI ktp) nr mrowMany mroundOf mroundFrom mouts nm mfromHour mtoHour ns (nI (NXT bt ktp (NXT bt ktp (NXT bt ktp (NXT bt ktp ks))))) (nI (TKE bt ktp (NXT bt ktp (NXT bt ktp (NXT bt ktp (NXT bt ktp ks)))))) (nI (TKN bt ktp (NXT bt ktp (NXT bt ktp (NXT bt ktp (NXT bt ktp ks)))))) 1 0 (nI kc) (nI kl) nl nc nF np ntr nb mbestCost nso nsi nit nsh nsf nss nrc mtraced mdealer mnumber mwhose msize misParted)]) rfl (k := (6 * kl + 4)) (by omega) (Nat.le_of_ble_eq_true rfl) (rfl) gX12_lineAt_12.2.2.2.2.2.2.2.1 (fun H locs hP hD hS => ?_)
            refine lv_iload_n hx hb gX12_lineAt_12.2.2.2.2.2.2.2.2.1 rfl (lv_at0 hl) ?_
            refine lv_iconst (v := 3) hx hb gX12_lineAt_12.2.2.2.2.2.2.2.2.2 (by decide) ?_
            refine lv_icmp_eq (tgt := 256) hx hb gX12_lineAt_13.1 (by decide) (fun c9 => absurd c9 (by decide)) (fun _ => ?_)
            refine lv_aload_n hx hb gX12_lineAt_13.2.1 rfl (lv_at1 hl) ?_
            refine va_ldcSw (index := 287) (tx := "if") hx hb hown (hO.2.2 0 (by decide)) gX12_lineAt_13.2.2.1 ?_
            refine pVo hO hS hC hK hl hP hD (m_isNameF l G K 0 h0 nw nk mhasKept nt (nI ktp) nr mrowMany mroundOf mroundFrom mouts nm mfromHour mtoHour ns (nI (NXT bt ktp (NXT bt ktp (NXT bt ktp (NXT bt ktp ks))))) (nI (TKE bt ktp (NXT bt ktp (NXT bt ktp (NXT bt ktp (NXT bt ktp ks)))))) (nI (TKN bt ktp (NXT bt ktp (NXT bt ktp (NXT bt ktp (NXT bt ktp ks)))))) 0 (nI kc) (nI kl) nl nc nF np ntr nb mbestCost nso nsi nit nsh nsf nss nrc mtraced mdealer mnumber mwhose msize misParted ((by decide))) si_X12_248 [4] sm_4 fm_4 nd_4 rfl rfl rfl rfl rfl (Nat.le_of_ble_eq_true rfl) rm_32_5_4 ⟨by first | exact Nat.le_of_ble_eq_true rfl | exact Nat.zero_le _, by first | exact Nat.le_of_ble_eq_true rfl | exact Nat.zero_le _⟩ gX12_lineAt_13.2.2.2.1 (Keqr ?_)
            refine lv_if_eq (tgt := 256) hx hb gX12_lineAt_13.2.2.2.2.1 (by decide) (fun _ => ?_) (fun c9 => absurd (by decide) c9)
            refine lv_aload_n hx hb gX12_lineAt_13.2.2.2.2.2.2.2.2.2 rfl (lv_at1 hl) ?_
            refine gf_X12_32 hC rfl hK hP 4 rfl rfl gX12_lineAt_14.1 ?_
            refine lv_iload_n hx hb gX12_lineAt_14.2.1 rfl (lv_at2 hl) ?_
            refine lv_iconst (v := 5) hx hb gX12_lineAt_14.2.2.1 (by decide) ?_
            refine lv_iadd hx hb gX12_lineAt_14.2.2.2.1 ?_
            refine eqi (x1 := nI (6 * kl + 5)) (nI_add (6 * kl) 5) ?_
            refine lv_aload_n hx hb gX12_lineAt_14.2.2.2.2.1 rfl (lv_at1 hl) ?_
            refine gf_X12_240 hC rfl hK hP 4 rfl rfl gX12_lineAt_14.2.2.2.2.2.1 ?_
            refine astN hC hK hP hD hS 1 (ws' := [(nc, iA G 100 fnc), (nl, iA G 54 (upd (upd (upd (upd (upd (upd (upd (upd fnl (6 * kl) 0) (6 * kl + 1) (nI (NVL bt ktp (NXT bt ktp ks)))) (6 * kl + 2) (-9)) (6 * kl + 3) (-9)) (6 * kl + 2) (nI (NVL bt ktp (NXT bt ktp (NXT bt ktp (NXT bt ktp ks)))))) (6 * kl + 3) 0) (6 * kl + 4) (nI kc)) (6 * kl + 5) (nI kc))), (nF, sA G 5 (FCT K)), (nt, iA G 240 fnt), (h0, oX12 nw nk mhasKept nt (nI ktp) nr mrowMany mroundOf mroundFrom mouts nm mfromHour mtoHour ns (nI (NXT bt ktp (NXT bt ktp (NXT bt ktp (NXT bt ktp ks))))) (nI (TKE bt ktp (NXT bt ktp (NXT bt ktp (NXT bt ktp (NXT bt ktp ks)))))) (nI (TKN bt ktp (NXT bt ktp (NXT bt ktp (NXT bt ktp (NXT bt ktp ks)))))) 1 0 (nI kc) (nI kl) nl nc nF np ntr nb mbestCost nso nsi nit nsh nsf nss nrc mtraced mdealer mnumber mwhose msize misParted)]) rfl (k := (6 * kl + 5)) (by omega) (Nat.le_of_ble_eq_true rfl) (rfl) gX12_lineAt_14.2.2.2.2.2.2.1 (fun H locs hP hD hS => ?_)
            refine lv_aload_n hx hb gX12_lineAt_14.2.2.2.2.2.2.2.1 rfl (lv_at1 hl) ?_
            refine lv_aload_n hx hb gX12_lineAt_14.2.2.2.2.2.2.2.2.1 rfl (lv_at1 hl) ?_
            refine lv_bipush (v := 59) hx hb gX12_lineAt_14.2.2.2.2.2.2.2.2.2 (by decide) ?_
            refine pV hC hK hl hP hD (m_isSignF l G h0 59 nw nk mhasKept nt (nI ktp) nr mrowMany mroundOf mroundFrom mouts nm mfromHour mtoHour ns (nI (NXT bt ktp (NXT bt ktp (NXT bt ktp (NXT bt ktp ks))))) (nI (TKE bt ktp (NXT bt ktp (NXT bt ktp (NXT bt ktp (NXT bt ktp ks)))))) (nI (TKN bt ktp (NXT bt ktp (NXT bt ktp (NXT bt ktp (NXT bt ktp ks)))))) 0 (nI kc) (nI kl) nl nc nF np ntr nb mbestCost nso nsi nit nsh nsf nss nrc mtraced mdealer mnumber mwhose msize misParted) si_X12_262 [4] sm_4 fm_4 nd_4 rfl rfl rfl rfl rfl (Nat.le_of_ble_eq_true rfl) rm_32_1_2 ⟨by first | exact Nat.le_of_ble_eq_true rfl | exact Nat.zero_le _, by first | exact Nat.le_of_ble_eq_true rfl | exact Nat.zero_le _⟩ gX12_lineAt_15.1 (Keqr ?_)
            refine vV (wr := [(nc, iA G 100 fnc), (nl, iA G 54 (upd (upd (upd (upd (upd (upd (upd (upd fnl (6 * kl) 0) (6 * kl + 1) (nI (NVL bt ktp (NXT bt ktp ks)))) (6 * kl + 2) (-9)) (6 * kl + 3) (-9)) (6 * kl + 2) (nI (NVL bt ktp (NXT bt ktp (NXT bt ktp (NXT bt ktp ks)))))) (6 * kl + 3) 0) (6 * kl + 4) (nI kc)) (6 * kl + 5) (nI kc))), (nF, sA G 5 (FCT K)), (nt, iA G 240 fnt)]) hC hK hl hP hD hS hA (m_needF l G h0 0 nw nk mhasKept nt (nI ktp) nr mrowMany mroundOf mroundFrom mouts nm mfromHour mtoHour ns (nI (NXT bt ktp (NXT bt ktp (NXT bt ktp (NXT bt ktp ks))))) (nI (TKE bt ktp (NXT bt ktp (NXT bt ktp (NXT bt ktp (NXT bt ktp ks)))))) (nI (TKN bt ktp (NXT bt ktp (NXT bt ktp (NXT bt ktp (NXT bt ktp ks)))))) 0 (nI kc) (nI kl) nl nc nF np ntr nb mbestCost nso nsi nit nsh nsf nss nrc mtraced mdealer mnumber mwhose msize misParted) si_X12_236 [4] [0, 1, 2, 3] sm_4 fm_4 nd_4 sm_0_1_2_3 nd_0_1_2_3 dj_4__0_1_2_3 rfl rfl rfl rfl rfl (Nat.le_of_ble_eq_true rfl) rm_32_4_2 ⟨Nat.le_of_ble_eq_true rfl, Nat.le_of_ble_eq_true rfl⟩ gX12_lineAt_15.2.1 (fun u6921 H locs hr6920 hP hD hS => ?_)
            refine Kpdr (ws := [(nc, iA G 100 fnc), (nl, iA G 54 (upd (upd (upd (upd (upd (upd (upd (upd fnl (6 * kl) 0) (6 * kl + 1) (nI (NVL bt ktp (NXT bt ktp ks)))) (6 * kl + 2) (-9)) (6 * kl + 3) (-9)) (6 * kl + 2) (nI (NVL bt ktp (NXT bt ktp (NXT bt ktp (NXT bt ktp ks)))))) (6 * kl + 3) 0) (6 * kl + 4) (nI kc)) (6 * kl + 5) (nI kc))), (nF, sA G 5 (FCT K)), (nt, iA G 240 fnt), (h0, oX12 nw nk mhasKept nt (nI ktp) nr mrowMany mroundOf mroundFrom mouts nm mfromHour mtoHour ns (nI (NXT bt ktp (NXT bt ktp (NXT bt ktp (NXT bt ktp ks))))) (nI (TKE bt ktp (NXT bt ktp (NXT bt ktp (NXT bt ktp (NXT bt ktp ks)))))) (nI (TKN bt ktp (NXT bt ktp (NXT bt ktp (NXT bt ktp (NXT bt ktp ks)))))) 1 0 (nI kc) (nI kl) nl nc nF np ntr nb mbestCost nso nsi nit nsh nsf nss nrc mtraced mdealer mnumber mwhose msize misParted)]) hP hD (fun hP hD => ?_)
            refine toQ hQ0 ?_
            exact RV hC hP hD hS [4, 3, 0, 1, 2] (1, (NXT bt ktp (NXT bt ktp (NXT bt ktp (NXT bt ktp ks)))), kc, fnc, upd (upd (upd (upd (upd (upd (upd (upd fnl (6 * kl) 0) (6 * kl + 1) (nI (NVL bt ktp (NXT bt ktp ks)))) (6 * kl + 2) (-9)) (6 * kl + 3) (-9)) (6 * kl + 2) (nI (NVL bt ktp (NXT bt ktp (NXT bt ktp (NXT bt ktp ks)))))) (6 * kl + 3) 0) (6 * kl + 4) (nI kc)) (6 * kl + 5) (nI kc), LN0, [], []) rfl rfl (by decide) (Or.inr ⟨rfl, Or.inr ⟨0, SRT.y (k := 0) (by decide) hq6808, Or.inl ⟨_, HDQ.t3 hq6820 hq6824 hq6836 hq6910, rfl⟩⟩, by (try dsimp only); omega⟩) gX12_lineAt_15.2.2
        · obtain ⟨rfl, rfl, hq6922⟩ := v6835
          refine astN hC hK hP hD hS 1 (ws' := [(nc, iA G 100 fnc), (nl, iA G 54 (upd (upd (upd (upd (upd fnl (6 * kl) 0) (6 * kl + 1) (nI (NVL bt ktp (NXT bt ktp ks)))) (6 * kl + 2) (-9)) (6 * kl + 3) (-9)) (6 * kl + 2) r6829)), (nF, sA G 5 (FCT K)), (h0, oX12 nw nk mhasKept nt (nI ktp) nr mrowMany mroundOf mroundFrom mouts nm mfromHour mtoHour ns (nI (NXT bt ktp (NXT bt ktp (NXT bt ktp ks)))) (nI (TKE bt ktp (NXT bt ktp (NXT bt ktp (NXT bt ktp ks))))) (nI (TKN bt ktp (NXT bt ktp (NXT bt ktp (NXT bt ktp ks))))) 1 0 (nI kc) (nI kl) nl nc nF np ntr nb mbestCost nso nsi nit nsh nsf nss nrc mtraced mdealer mnumber mwhose msize misParted), (nt, iA G 240 fnt)]) rfl (k := (6 * kl + 2)) (by omega) (Nat.le_of_ble_eq_true rfl) (rfl) gX12_lineAt_8.2.2.2.2.2.2.2.2.1 (fun H locs hP hD hS => ?_)
          refine lv_aload_n hx hb gX12_lineAt_8.2.2.2.2.2.2.2.2.2 rfl (lv_at1 hl) ?_
          refine lv_aload_n hx hb gX12_lineAt_9.1 rfl (lv_at1 hl) ?_
          refine va_ldcSw (index := 284) (tx := "from") hx hb hown (hO.2.2 6 (by decide)) gX12_lineAt_9.2.1 ?_
          refine pVo hO hS hC hK hl hP hD (m_isNameF l G K 6 h0 nw nk mhasKept nt (nI ktp) nr mrowMany mroundOf mroundFrom mouts nm mfromHour mtoHour ns (nI (NXT bt ktp (NXT bt ktp (NXT bt ktp ks)))) (nI (TKE bt ktp (NXT bt ktp (NXT bt ktp (NXT bt ktp ks))))) (nI (TKN bt ktp (NXT bt ktp (NXT bt ktp (NXT bt ktp ks))))) 0 (nI kc) (nI kl) nl nc nF np ntr nb mbestCost nso nsi nit nsh nsf nss nrc mtraced mdealer mnumber mwhose msize misParted ((by decide))) si_X12_248 [3] sm_3 fm_3 nd_3 rfl rfl rfl rfl rfl (Nat.le_of_ble_eq_true rfl) rm_32_5_4 ⟨by first | exact Nat.le_of_ble_eq_true rfl | exact Nat.zero_le _, by first | exact Nat.le_of_ble_eq_true rfl | exact Nat.zero_le _⟩ gX12_lineAt_9.2.2.1 (Keqr ?_)
          refine vV (wr := [(nc, iA G 100 fnc), (nl, iA G 54 (upd (upd (upd (upd (upd fnl (6 * kl) 0) (6 * kl + 1) (nI (NVL bt ktp (NXT bt ktp ks)))) (6 * kl + 2) (-9)) (6 * kl + 3) (-9)) (6 * kl + 2) r6829)), (nF, sA G 5 (FCT K)), (nt, iA G 240 fnt)]) hC hK hl hP hD hS hA (m_needF l G h0 0 nw nk mhasKept nt (nI ktp) nr mrowMany mroundOf mroundFrom mouts nm mfromHour mtoHour ns (nI (NXT bt ktp (NXT bt ktp (NXT bt ktp ks)))) (nI (TKE bt ktp (NXT bt ktp (NXT bt ktp (NXT bt ktp ks))))) (nI (TKN bt ktp (NXT bt ktp (NXT bt ktp (NXT bt ktp ks))))) 0 (nI kc) (nI kl) nl nc nF np ntr nb mbestCost nso nsi nit nsh nsf nss nrc mtraced mdealer mnumber mwhose msize misParted) si_X12_236 [3] [0, 1, 2, 4] sm_3 fm_3 nd_3 sm_0_1_2_4 nd_0_1_2_4 dj_3__0_1_2_4 rfl rfl rfl rfl rfl (Nat.le_of_ble_eq_true rfl) rm_32_4_2 ⟨Nat.le_of_ble_eq_true rfl, Nat.le_of_ble_eq_true rfl⟩ gX12_lineAt_9.2.2.2.1 (fun u6926 H locs hr6925 hP hD hS => ?_)
          refine Kpdr (ws := [(nc, iA G 100 fnc), (nl, iA G 54 (upd (upd (upd (upd (upd fnl (6 * kl) 0) (6 * kl + 1) (nI (NVL bt ktp (NXT bt ktp ks)))) (6 * kl + 2) (-9)) (6 * kl + 3) (-9)) (6 * kl + 2) r6829)), (nF, sA G 5 (FCT K)), (nt, iA G 240 fnt), (h0, oX12 nw nk mhasKept nt (nI ktp) nr mrowMany mroundOf mroundFrom mouts nm mfromHour mtoHour ns (nI (NXT bt ktp (NXT bt ktp (NXT bt ktp ks)))) (nI (TKE bt ktp (NXT bt ktp (NXT bt ktp (NXT bt ktp ks))))) (nI (TKN bt ktp (NXT bt ktp (NXT bt ktp (NXT bt ktp ks))))) 1 0 (nI kc) (nI kl) nl nc nF np ntr nb mbestCost nso nsi nit nsh nsf nss nrc mtraced mdealer mnumber mwhose msize misParted)]) hP hD (fun hP hD => ?_)
          refine lv_aload_n hx hb gX12_lineAt_9.2.2.2.2.1 rfl (lv_at1 hl) ?_
          refine gf_X12_32 hC rfl hK hP 4 rfl rfl gX12_lineAt_9.2.2.2.2.2.1 ?_
          refine lv_iload_n hx hb gX12_lineAt_9.2.2.2.2.2.2.1 rfl (lv_at2 hl) ?_
          refine lv_iconst (v := 3) hx hb gX12_lineAt_9.2.2.2.2.2.2.2.1 (by decide) ?_
          refine lv_iadd hx hb gX12_lineAt_9.2.2.2.2.2.2.2.2.1 ?_
          refine eqi (x1 := nI (6 * kl + 3)) (nI_add (6 * kl) 3) ?_
          refine lv_aload_n hx hb gX12_lineAt_9.2.2.2.2.2.2.2.2.2 rfl (lv_at1 hl) ?_
          refine lv_bipush (v := 7) hx hb gX12_lineAt_10.1 (by decide) ?_
          refine iV (wr := [(nc, iA G 100 fnc), (nl, iA G 54 (upd (upd (upd (upd (upd fnl (6 * kl) 0) (6 * kl + 1) (nI (NVL bt ktp (NXT bt ktp ks)))) (6 * kl + 2) (-9)) (6 * kl + 3) (-9)) (6 * kl + 2) r6829)), (nF, sA G 5 (FCT K)), (nt, iA G 240 fnt)]) hC hK hl hP hD hS hA (m_numberF l G h0 7 nw nk mhasKept nt (nI ktp) nr mrowMany mroundOf mroundFrom mouts nm mfromHour mtoHour ns (nI (NXT bt ktp (NXT bt ktp (NXT bt ktp ks)))) (nI (TKE bt ktp (NXT bt ktp (NXT bt ktp (NXT bt ktp ks))))) (nI (TKN bt ktp (NXT bt ktp (NXT bt ktp (NXT bt ktp ks))))) 0 (nI kc) (nI kl) nl nc nF np ntr nb mbestCost nso nsi nit nsh nsf nss nrc mtraced mdealer mnumber mwhose msize misParted) si_X12_271 [4] [0, 1, 2, 3] sm_4 fm_4 nd_4 sm_0_1_2_3 nd_0_1_2_3 dj_4__0_1_2_3 rfl rfl rfl rfl rfl (Nat.le_of_ble_eq_true rfl) rm_32_5_5 ⟨Nat.le_of_ble_eq_true rfl, Nat.le_of_ble_eq_true rfl⟩ gX12_lineAt_10.2.1 (fun r6927 u6928 H locs hr6927 hP hD hS => ?_)
          refine Kpdr (ws := [(nc, iA G 100 fnc), (nl, iA G 54 (upd (upd (upd (upd (upd fnl (6 * kl) 0) (6 * kl + 1) (nI (NVL bt ktp (NXT bt ktp ks)))) (6 * kl + 2) (-9)) (6 * kl + 3) (-9)) (6 * kl + 2) r6829)), (nF, sA G 5 (FCT K)), (nt, iA G 240 fnt), (h0, oX12 nw nk mhasKept nt (nI ktp) nr mrowMany mroundOf mroundFrom mouts nm mfromHour mtoHour ns (nI (NXT bt ktp (NXT bt ktp (NXT bt ktp ks)))) (nI (TKE bt ktp (NXT bt ktp (NXT bt ktp (NXT bt ktp ks))))) (nI (TKN bt ktp (NXT bt ktp (NXT bt ktp (NXT bt ktp ks))))) 1 0 (nI kc) (nI kl) nl nc nF np ntr nb mbestCost nso nsi nit nsh nsf nss nrc mtraced mdealer mnumber mwhose msize misParted)]) hP hD (fun hP hD => ?_)
          obtain rfl := hr6927
          refine astN hC hK hP hD hS 1 (ws' := [(nc, iA G 100 fnc), (nl, iA G 54 (upd (upd (upd (upd (upd (upd fnl (6 * kl) 0) (6 * kl + 1) (nI (NVL bt ktp (NXT bt ktp ks)))) (6 * kl + 2) (-9)) (6 * kl + 3) (-9)) (6 * kl + 2) r6829) (6 * kl + 3) 0)), (nF, sA G 5 (FCT K)), (nt, iA G 240 fnt), (h0, oX12 nw nk mhasKept nt (nI ktp) nr mrowMany mroundOf mroundFrom mouts nm mfromHour mtoHour ns (nI (NXT bt ktp (NXT bt ktp (NXT bt ktp ks)))) (nI (TKE bt ktp (NXT bt ktp (NXT bt ktp (NXT bt ktp ks))))) (nI (TKN bt ktp (NXT bt ktp (NXT bt ktp (NXT bt ktp ks))))) 1 0 (nI kc) (nI kl) nl nc nF np ntr nb mbestCost nso nsi nit nsh nsf nss nrc mtraced mdealer mnumber mwhose msize misParted)]) rfl (k := (6 * kl + 3)) (by omega) (Nat.le_of_ble_eq_true rfl) (rfl) gX12_lineAt_10.2.2.1 (fun H locs hP hD hS => ?_)
          refine lv_iload_n hx hb gX12_lineAt_10.2.2.2.1 rfl (lv_at0 hl) ?_
          refine lv_iconst (v := 2) hx hb gX12_lineAt_10.2.2.2.2.1 (by decide) ?_
          refine lv_icmp_ne (tgt := 221) hx hb gX12_lineAt_10.2.2.2.2.2.1 (by decide) (fun _ => ?_) (fun c9 => absurd c9 (by decide))
          refine lv_aload_n hx hb gX12_lineAt_12.1 rfl (lv_at1 hl) ?_
          refine gf_X12_32 hC rfl hK hP 4 rfl rfl gX12_lineAt_12.2.1 ?_
          refine lv_iload_n hx hb gX12_lineAt_12.2.2.1 rfl (lv_at2 hl) ?_
          refine lv_iconst (v := 4) hx hb gX12_lineAt_12.2.2.2.1 (by decide) ?_
          refine lv_iadd hx hb gX12_lineAt_12.2.2.2.2.1 ?_
          refine eqi (x1 := nI (6 * kl + 4)) (nI_add (6 * kl) 4) ?_
          refine lv_aload_n hx hb gX12_lineAt_12.2.2.2.2.2.1 rfl (lv_at1 hl) ?_
          refine gf_X12_240 hC rfl hK hP 4 rfl rfl gX12_lineAt_12.2.2.2.2.2.2.1 ?_
          refine astN hC hK hP hD hS 1 (ws' := [(nc, iA G 100 fnc), (nl, iA G 54 (upd (upd (upd (upd (upd (upd (upd fnl (6 * kl) 0) (6 * kl + 1) (nI (NVL bt ktp (NXT bt ktp ks)))) (6 * kl + 2) (-9)) (6 * kl + 3) (-9)) (6 * kl + 2) r6829) (6 * kl + 3) 0) (6 * kl + 4) (nI kc))), (nF, sA G 5 (FCT K)), (nt, iA G 240 fnt), (h0, oX12 nw nk mhasKept nt (nI ktp) nr mrowMany mroundOf mroundFrom mouts nm mfromHour mtoHour ns (nI (NXT bt ktp (NXT bt ktp (NXT bt ktp ks)))) (nI (TKE bt ktp (NXT bt ktp (NXT bt ktp (NXT bt ktp ks))))) (nI (TKN bt ktp (NXT bt ktp (NXT bt ktp (NXT bt ktp ks))))) 1 0 (nI kc) (nI kl) nl nc nF np ntr nb mbestCost nso nsi nit nsh nsf nss nrc mtraced mdealer mnumber mwhose msize misParted)]) rfl (k := (6 * kl + 4)) (by omega) (Nat.le_of_ble_eq_true rfl) (rfl) gX12_lineAt_12.2.2.2.2.2.2.2.1 (fun H locs hP hD hS => ?_)
          refine lv_iload_n hx hb gX12_lineAt_12.2.2.2.2.2.2.2.2.1 rfl (lv_at0 hl) ?_
          refine lv_iconst (v := 3) hx hb gX12_lineAt_12.2.2.2.2.2.2.2.2.2 (by decide) ?_
          refine lv_icmp_eq (tgt := 256) hx hb gX12_lineAt_13.1 (by decide) (fun c9 => absurd c9 (by decide)) (fun _ => ?_)
          refine lv_aload_n hx hb gX12_lineAt_13.2.1 rfl (lv_at1 hl) ?_
          refine va_ldcSw (index := 287) (tx := "if") hx hb hown (hO.2.2 0 (by decide)) gX12_lineAt_13.2.2.1 ?_
          refine pVo hO hS hC hK hl hP hD (m_isNameF l G K 0 h0 nw nk mhasKept nt (nI ktp) nr mrowMany mroundOf mroundFrom mouts nm mfromHour mtoHour ns (nI (NXT bt ktp (NXT bt ktp (NXT bt ktp ks)))) (nI (TKE bt ktp (NXT bt ktp (NXT bt ktp (NXT bt ktp ks))))) (nI (TKN bt ktp (NXT bt ktp (NXT bt ktp (NXT bt ktp ks))))) 0 (nI kc) (nI kl) nl nc nF np ntr nb mbestCost nso nsi nit nsh nsf nss nrc mtraced mdealer mnumber mwhose msize misParted ((by decide))) si_X12_248 [4] sm_4 fm_4 nd_4 rfl rfl rfl rfl rfl (Nat.le_of_ble_eq_true rfl) rm_32_5_4 ⟨by first | exact Nat.le_of_ble_eq_true rfl | exact Nat.zero_le _, by first | exact Nat.le_of_ble_eq_true rfl | exact Nat.zero_le _⟩ gX12_lineAt_13.2.2.2.1 (Keqr ?_)
          refine lv_if_eq (tgt := 256) hx hb gX12_lineAt_13.2.2.2.2.1 (by decide) (fun _ => ?_) (fun c9 => absurd (by decide) c9)
          refine lv_aload_n hx hb gX12_lineAt_13.2.2.2.2.2.2.2.2.2 rfl (lv_at1 hl) ?_
          refine gf_X12_32 hC rfl hK hP 4 rfl rfl gX12_lineAt_14.1 ?_
          refine lv_iload_n hx hb gX12_lineAt_14.2.1 rfl (lv_at2 hl) ?_
          refine lv_iconst (v := 5) hx hb gX12_lineAt_14.2.2.1 (by decide) ?_
          refine lv_iadd hx hb gX12_lineAt_14.2.2.2.1 ?_
          refine eqi (x1 := nI (6 * kl + 5)) (nI_add (6 * kl) 5) ?_
          refine lv_aload_n hx hb gX12_lineAt_14.2.2.2.2.1 rfl (lv_at1 hl) ?_
          refine gf_X12_240 hC rfl hK hP 4 rfl rfl gX12_lineAt_14.2.2.2.2.2.1 ?_
          refine astN hC hK hP hD hS 1 (ws' := [(nc, iA G 100 fnc), (nl, iA G 54 (upd (upd (upd (upd (upd (upd (upd (upd fnl (6 * kl) 0) (6 * kl + 1) (nI (NVL bt ktp (NXT bt ktp ks)))) (6 * kl + 2) (-9)) (6 * kl + 3) (-9)) (6 * kl + 2) r6829) (6 * kl + 3) 0) (6 * kl + 4) (nI kc)) (6 * kl + 5) (nI kc))), (nF, sA G 5 (FCT K)), (nt, iA G 240 fnt), (h0, oX12 nw nk mhasKept nt (nI ktp) nr mrowMany mroundOf mroundFrom mouts nm mfromHour mtoHour ns (nI (NXT bt ktp (NXT bt ktp (NXT bt ktp ks)))) (nI (TKE bt ktp (NXT bt ktp (NXT bt ktp (NXT bt ktp ks))))) (nI (TKN bt ktp (NXT bt ktp (NXT bt ktp (NXT bt ktp ks))))) 1 0 (nI kc) (nI kl) nl nc nF np ntr nb mbestCost nso nsi nit nsh nsf nss nrc mtraced mdealer mnumber mwhose msize misParted)]) rfl (k := (6 * kl + 5)) (by omega) (Nat.le_of_ble_eq_true rfl) (rfl) gX12_lineAt_14.2.2.2.2.2.2.1 (fun H locs hP hD hS => ?_)
          refine lv_aload_n hx hb gX12_lineAt_14.2.2.2.2.2.2.2.1 rfl (lv_at1 hl) ?_
          refine lv_aload_n hx hb gX12_lineAt_14.2.2.2.2.2.2.2.2.1 rfl (lv_at1 hl) ?_
          refine lv_bipush (v := 59) hx hb gX12_lineAt_14.2.2.2.2.2.2.2.2.2 (by decide) ?_
          refine pV hC hK hl hP hD (m_isSignF l G h0 59 nw nk mhasKept nt (nI ktp) nr mrowMany mroundOf mroundFrom mouts nm mfromHour mtoHour ns (nI (NXT bt ktp (NXT bt ktp (NXT bt ktp ks)))) (nI (TKE bt ktp (NXT bt ktp (NXT bt ktp (NXT bt ktp ks))))) (nI (TKN bt ktp (NXT bt ktp (NXT bt ktp (NXT bt ktp ks))))) 0 (nI kc) (nI kl) nl nc nF np ntr nb mbestCost nso nsi nit nsh nsf nss nrc mtraced mdealer mnumber mwhose msize misParted) si_X12_262 [4] sm_4 fm_4 nd_4 rfl rfl rfl rfl rfl (Nat.le_of_ble_eq_true rfl) rm_32_1_2 ⟨by first | exact Nat.le_of_ble_eq_true rfl | exact Nat.zero_le _, by first | exact Nat.le_of_ble_eq_true rfl | exact Nat.zero_le _⟩ gX12_lineAt_15.1 (Keqr ?_)
          refine vV (wr := [(nc, iA G 100 fnc), (nl, iA G 54 (upd (upd (upd (upd (upd (upd (upd (upd fnl (6 * kl) 0) (6 * kl + 1) (nI (NVL bt ktp (NXT bt ktp ks)))) (6 * kl + 2) (-9)) (6 * kl + 3) (-9)) (6 * kl + 2) r6829) (6 * kl + 3) 0) (6 * kl + 4) (nI kc)) (6 * kl + 5) (nI kc))), (nF, sA G 5 (FCT K)), (nt, iA G 240 fnt)]) hC hK hl hP hD hS hA (m_needF l G h0 0 nw nk mhasKept nt (nI ktp) nr mrowMany mroundOf mroundFrom mouts nm mfromHour mtoHour ns (nI (NXT bt ktp (NXT bt ktp (NXT bt ktp ks)))) (nI (TKE bt ktp (NXT bt ktp (NXT bt ktp (NXT bt ktp ks))))) (nI (TKN bt ktp (NXT bt ktp (NXT bt ktp (NXT bt ktp ks))))) 0 (nI kc) (nI kl) nl nc nF np ntr nb mbestCost nso nsi nit nsh nsf nss nrc mtraced mdealer mnumber mwhose msize misParted) si_X12_236 [4] [0, 1, 2, 3] sm_4 fm_4 nd_4 sm_0_1_2_3 nd_0_1_2_3 dj_4__0_1_2_3 rfl rfl rfl rfl rfl (Nat.le_of_ble_eq_true rfl) rm_32_4_2 ⟨Nat.le_of_ble_eq_true rfl, Nat.le_of_ble_eq_true rfl⟩ gX12_lineAt_15.2.1 (fun u6935 H locs hr6934 hP hD hS => ?_)
          refine Kpdr (ws := [(nc, iA G 100 fnc), (nl, iA G 54 (upd (upd (upd (upd (upd (upd (upd (upd fnl (6 * kl) 0) (6 * kl + 1) (nI (NVL bt ktp (NXT bt ktp ks)))) (6 * kl + 2) (-9)) (6 * kl + 3) (-9)) (6 * kl + 2) r6829) (6 * kl + 3) 0) (6 * kl + 4) (nI kc)) (6 * kl + 5) (nI kc))), (nF, sA G 5 (FCT K)), (nt, iA G 240 fnt), (h0, oX12 nw nk mhasKept nt (nI ktp) nr mrowMany mroundOf mroundFrom mouts nm mfromHour mtoHour ns (nI (NXT bt ktp (NXT bt ktp (NXT bt ktp ks)))) (nI (TKE bt ktp (NXT bt ktp (NXT bt ktp (NXT bt ktp ks))))) (nI (TKN bt ktp (NXT bt ktp (NXT bt ktp (NXT bt ktp ks))))) 1 0 (nI kc) (nI kl) nl nc nF np ntr nb mbestCost nso nsi nit nsh nsf nss nrc mtraced mdealer mnumber mwhose msize misParted)]) hP hD (fun hP hD => ?_)
          refine toQ hQ0 ?_
          exact RV hC hP hD hS [4, 3, 0, 1, 2] (1, (NXT bt ktp (NXT bt ktp (NXT bt ktp ks))), kc, fnc, upd (upd (upd (upd (upd (upd (upd (upd fnl (6 * kl) 0) (6 * kl + 1) (nI (NVL bt ktp (NXT bt ktp ks)))) (6 * kl + 2) (-9)) (6 * kl + 3) (-9)) (6 * kl + 2) r6829) (6 * kl + 3) 0) (6 * kl + 4) (nI kc)) (6 * kl + 5) (nI kc), LN0, [], []) rfl rfl (by decide) (Or.inr ⟨rfl, Or.inr ⟨0, SRT.y (k := 0) (by decide) hq6808, Or.inl ⟨_, HDQ.t2 hq6820 hq6824 hq6922, rfl⟩⟩, by (try dsimp only); omega⟩) gX12_lineAt_15.2.2
      · have hq6936 := a6823
        refine vV (wr := [(nc, iA G 100 fnc), (nl, iA G 54 (upd (upd (upd (upd fnl (6 * kl) 0) (6 * kl + 1) (nI (NVL bt ktp (NXT bt ktp ks)))) (6 * kl + 2) (-9)) (6 * kl + 3) (-9))), (nF, sA G 5 (FCT K)), (nt, iA G 240 fnt)]) hC hK hl hP hD hS hA (m_need0 l G h0 nw nk mhasKept nt (nI ktp) nr mrowMany mroundOf mroundFrom mouts nm mfromHour mtoHour ns (nI (NXT bt ktp (NXT bt ktp ks))) (nI (TKE bt ktp (NXT bt ktp (NXT bt ktp ks)))) (nI (TKN bt ktp (NXT bt ktp (NXT bt ktp ks)))) 0 (nI kc) (nI kl) nl nc nF np ntr nb mbestCost nso nsi nit nsh nsf nss nrc mtraced mdealer mnumber mwhose msize misParted) si_X12_236 [3] [0, 1, 2, 4] sm_3 fm_3 nd_3 sm_0_1_2_4 nd_0_1_2_4 dj_3__0_1_2_4 rfl rfl rfl rfl rfl (Nat.le_of_ble_eq_true rfl) rm_32_4_2 ⟨Nat.le_of_ble_eq_true rfl, Nat.le_of_ble_eq_true rfl⟩ gX12_lineAt_7.2.2.2.2.2.2.2.2.2 (fun u6938 H locs hr6937 hP hD hS => ?_)
        refine Kpdr (ws := [(nc, iA G 100 fnc), (nl, iA G 54 (upd (upd (upd (upd fnl (6 * kl) 0) (6 * kl + 1) (nI (NVL bt ktp (NXT bt ktp ks)))) (6 * kl + 2) (-9)) (6 * kl + 3) (-9))), (nF, sA G 5 (FCT K)), (nt, iA G 240 fnt), (h0, oX12 nw nk mhasKept nt (nI ktp) nr mrowMany mroundOf mroundFrom mouts nm mfromHour mtoHour ns (nI (NXT bt ktp (NXT bt ktp ks))) (nI (TKE bt ktp (NXT bt ktp (NXT bt ktp ks)))) (nI (TKN bt ktp (NXT bt ktp (NXT bt ktp ks)))) 1 0 (nI kc) (nI kl) nl nc nF np ntr nb mbestCost nso nsi nit nsh nsf nss nrc mtraced mdealer mnumber mwhose msize misParted)]) hP hD (fun hP hD => ?_)
        refine lv_aload_n hx hb gX12_lineAt_8.1 rfl (lv_at1 hl) ?_
        refine gf_X12_32 hC rfl hK hP 4 rfl rfl gX12_lineAt_8.2.1 ?_
        refine lv_iload_n hx hb gX12_lineAt_8.2.2.1 rfl (lv_at2 hl) ?_
        refine lv_iconst (v := 2) hx hb gX12_lineAt_8.2.2.2.1 (by decide) ?_
        refine lv_iadd hx hb gX12_lineAt_8.2.2.2.2.1 ?_
        refine eqi (x1 := nI (6 * kl + 2)) (nI_add (6 * kl) 2) ?_
        refine lv_aload_n hx hb gX12_lineAt_8.2.2.2.2.2.1 rfl (lv_at1 hl) ?_
        refine lv_bipush (v := 7) hx hb gX12_lineAt_8.2.2.2.2.2.2.1 (by decide) ?_
        refine iV (wr := [(nc, iA G 100 fnc), (nl, iA G 54 (upd (upd (upd (upd fnl (6 * kl) 0) (6 * kl + 1) (nI (NVL bt ktp (NXT bt ktp ks)))) (6 * kl + 2) (-9)) (6 * kl + 3) (-9))), (nF, sA G 5 (FCT K)), (nt, iA G 240 fnt)]) hC hK hl hP hD hS hA (m_numberF l G h0 7 nw nk mhasKept nt (nI ktp) nr mrowMany mroundOf mroundFrom mouts nm mfromHour mtoHour ns (nI (NXT bt ktp (NXT bt ktp ks))) (nI (TKE bt ktp (NXT bt ktp (NXT bt ktp ks)))) (nI (TKN bt ktp (NXT bt ktp (NXT bt ktp ks)))) 0 (nI kc) (nI kl) nl nc nF np ntr nb mbestCost nso nsi nit nsh nsf nss nrc mtraced mdealer mnumber mwhose msize misParted) si_X12_271 [4] [0, 1, 2, 3] sm_4 fm_4 nd_4 sm_0_1_2_3 nd_0_1_2_3 dj_4__0_1_2_3 rfl rfl rfl rfl rfl (Nat.le_of_ble_eq_true rfl) rm_32_5_5 ⟨Nat.le_of_ble_eq_true rfl, Nat.le_of_ble_eq_true rfl⟩ gX12_lineAt_8.2.2.2.2.2.2.2.1 (fun r6939 u6940 H locs hr6939 hP hD hS => ?_)
        refine Kpdr (ws := [(nc, iA G 100 fnc), (nl, iA G 54 (upd (upd (upd (upd fnl (6 * kl) 0) (6 * kl + 1) (nI (NVL bt ktp (NXT bt ktp ks)))) (6 * kl + 2) (-9)) (6 * kl + 3) (-9))), (nF, sA G 5 (FCT K)), (nt, iA G 240 fnt), (h0, oX12 nw nk mhasKept nt (nI ktp) nr mrowMany mroundOf mroundFrom mouts nm mfromHour mtoHour ns (nI (NXT bt ktp (NXT bt ktp ks))) (nI (TKE bt ktp (NXT bt ktp (NXT bt ktp ks)))) (nI (TKN bt ktp (NXT bt ktp (NXT bt ktp ks)))) 1 0 (nI kc) (nI kl) nl nc nF np ntr nb mbestCost nso nsi nit nsh nsf nss nrc mtraced mdealer mnumber mwhose msize misParted)]) hP hD (fun hP hD => ?_)
        obtain rfl := hr6939
        refine astN hC hK hP hD hS 1 (ws' := [(nc, iA G 100 fnc), (nl, iA G 54 (upd (upd (upd (upd (upd fnl (6 * kl) 0) (6 * kl + 1) (nI (NVL bt ktp (NXT bt ktp ks)))) (6 * kl + 2) (-9)) (6 * kl + 3) (-9)) (6 * kl + 2) 0)), (nF, sA G 5 (FCT K)), (nt, iA G 240 fnt), (h0, oX12 nw nk mhasKept nt (nI ktp) nr mrowMany mroundOf mroundFrom mouts nm mfromHour mtoHour ns (nI (NXT bt ktp (NXT bt ktp ks))) (nI (TKE bt ktp (NXT bt ktp (NXT bt ktp ks)))) (nI (TKN bt ktp (NXT bt ktp (NXT bt ktp ks)))) 1 0 (nI kc) (nI kl) nl nc nF np ntr nb mbestCost nso nsi nit nsh nsf nss nrc mtraced mdealer mnumber mwhose msize misParted)]) rfl (k := (6 * kl + 2)) (by omega) (Nat.le_of_ble_eq_true rfl) (rfl) gX12_lineAt_8.2.2.2.2.2.2.2.2.1 (fun H locs hP hD hS => ?_)
        refine lv_aload_n hx hb gX12_lineAt_8.2.2.2.2.2.2.2.2.2 rfl (lv_at1 hl) ?_
        refine lv_aload_n hx hb gX12_lineAt_9.1 rfl (lv_at1 hl) ?_
        refine va_ldcSw (index := 284) (tx := "from") hx hb hown (hO.2.2 6 (by decide)) gX12_lineAt_9.2.1 ?_
        refine pVo hO hS hC hK hl hP hD (m_isNameF l G K 6 h0 nw nk mhasKept nt (nI ktp) nr mrowMany mroundOf mroundFrom mouts nm mfromHour mtoHour ns (nI (NXT bt ktp (NXT bt ktp ks))) (nI (TKE bt ktp (NXT bt ktp (NXT bt ktp ks)))) (nI (TKN bt ktp (NXT bt ktp (NXT bt ktp ks)))) 0 (nI kc) (nI kl) nl nc nF np ntr nb mbestCost nso nsi nit nsh nsf nss nrc mtraced mdealer mnumber mwhose msize misParted ((by decide))) si_X12_248 [4] sm_4 fm_4 nd_4 rfl rfl rfl rfl rfl (Nat.le_of_ble_eq_true rfl) rm_32_5_4 ⟨by first | exact Nat.le_of_ble_eq_true rfl | exact Nat.zero_le _, by first | exact Nat.le_of_ble_eq_true rfl | exact Nat.zero_le _⟩ gX12_lineAt_9.2.2.1 (Keqr ?_)
        refine vV (wr := [(nc, iA G 100 fnc), (nl, iA G 54 (upd (upd (upd (upd (upd fnl (6 * kl) 0) (6 * kl + 1) (nI (NVL bt ktp (NXT bt ktp ks)))) (6 * kl + 2) (-9)) (6 * kl + 3) (-9)) (6 * kl + 2) 0)), (nF, sA G 5 (FCT K)), (nt, iA G 240 fnt)]) hC hK hl hP hD hS hA (m_needF l G h0 0 nw nk mhasKept nt (nI ktp) nr mrowMany mroundOf mroundFrom mouts nm mfromHour mtoHour ns (nI (NXT bt ktp (NXT bt ktp ks))) (nI (TKE bt ktp (NXT bt ktp (NXT bt ktp ks)))) (nI (TKN bt ktp (NXT bt ktp (NXT bt ktp ks)))) 0 (nI kc) (nI kl) nl nc nF np ntr nb mbestCost nso nsi nit nsh nsf nss nrc mtraced mdealer mnumber mwhose msize misParted) si_X12_236 [4] [0, 1, 2, 3] sm_4 fm_4 nd_4 sm_0_1_2_3 nd_0_1_2_3 dj_4__0_1_2_3 rfl rfl rfl rfl rfl (Nat.le_of_ble_eq_true rfl) rm_32_4_2 ⟨Nat.le_of_ble_eq_true rfl, Nat.le_of_ble_eq_true rfl⟩ gX12_lineAt_9.2.2.2.1 (fun u6945 H locs hr6944 hP hD hS => ?_)
        refine Kpdr (ws := [(nc, iA G 100 fnc), (nl, iA G 54 (upd (upd (upd (upd (upd fnl (6 * kl) 0) (6 * kl + 1) (nI (NVL bt ktp (NXT bt ktp ks)))) (6 * kl + 2) (-9)) (6 * kl + 3) (-9)) (6 * kl + 2) 0)), (nF, sA G 5 (FCT K)), (nt, iA G 240 fnt), (h0, oX12 nw nk mhasKept nt (nI ktp) nr mrowMany mroundOf mroundFrom mouts nm mfromHour mtoHour ns (nI (NXT bt ktp (NXT bt ktp ks))) (nI (TKE bt ktp (NXT bt ktp (NXT bt ktp ks)))) (nI (TKN bt ktp (NXT bt ktp (NXT bt ktp ks)))) 1 0 (nI kc) (nI kl) nl nc nF np ntr nb mbestCost nso nsi nit nsh nsf nss nrc mtraced mdealer mnumber mwhose msize misParted)]) hP hD (fun hP hD => ?_)
        refine lv_aload_n hx hb gX12_lineAt_9.2.2.2.2.1 rfl (lv_at1 hl) ?_
        refine gf_X12_32 hC rfl hK hP 4 rfl rfl gX12_lineAt_9.2.2.2.2.2.1 ?_
        refine lv_iload_n hx hb gX12_lineAt_9.2.2.2.2.2.2.1 rfl (lv_at2 hl) ?_
        refine lv_iconst (v := 3) hx hb gX12_lineAt_9.2.2.2.2.2.2.2.1 (by decide) ?_
        refine lv_iadd hx hb gX12_lineAt_9.2.2.2.2.2.2.2.2.1 ?_
        refine eqi (x1 := nI (6 * kl + 3)) (nI_add (6 * kl) 3) ?_
        refine lv_aload_n hx hb gX12_lineAt_9.2.2.2.2.2.2.2.2.2 rfl (lv_at1 hl) ?_
        refine lv_bipush (v := 7) hx hb gX12_lineAt_10.1 (by decide) ?_
        refine iV (wr := [(nc, iA G 100 fnc), (nl, iA G 54 (upd (upd (upd (upd (upd fnl (6 * kl) 0) (6 * kl + 1) (nI (NVL bt ktp (NXT bt ktp ks)))) (6 * kl + 2) (-9)) (6 * kl + 3) (-9)) (6 * kl + 2) 0)), (nF, sA G 5 (FCT K)), (nt, iA G 240 fnt)]) hC hK hl hP hD hS hA (m_numberF l G h0 7 nw nk mhasKept nt (nI ktp) nr mrowMany mroundOf mroundFrom mouts nm mfromHour mtoHour ns (nI (NXT bt ktp (NXT bt ktp ks))) (nI (TKE bt ktp (NXT bt ktp (NXT bt ktp ks)))) (nI (TKN bt ktp (NXT bt ktp (NXT bt ktp ks)))) 0 (nI kc) (nI kl) nl nc nF np ntr nb mbestCost nso nsi nit nsh nsf nss nrc mtraced mdealer mnumber mwhose msize misParted) si_X12_271 [4] [0, 1, 2, 3] sm_4 fm_4 nd_4 sm_0_1_2_3 nd_0_1_2_3 dj_4__0_1_2_3 rfl rfl rfl rfl rfl (Nat.le_of_ble_eq_true rfl) rm_32_5_5 ⟨Nat.le_of_ble_eq_true rfl, Nat.le_of_ble_eq_true rfl⟩ gX12_lineAt_10.2.1 (fun r6946 u6947 H locs hr6946 hP hD hS => ?_)
        refine Kpdr (ws := [(nc, iA G 100 fnc), (nl, iA G 54 (upd (upd (upd (upd (upd fnl (6 * kl) 0) (6 * kl + 1) (nI (NVL bt ktp (NXT bt ktp ks)))) (6 * kl + 2) (-9)) (6 * kl + 3) (-9)) (6 * kl + 2) 0)), (nF, sA G 5 (FCT K)), (nt, iA G 240 fnt), (h0, oX12 nw nk mhasKept nt (nI ktp) nr mrowMany mroundOf mroundFrom mouts nm mfromHour mtoHour ns (nI (NXT bt ktp (NXT bt ktp ks))) (nI (TKE bt ktp (NXT bt ktp (NXT bt ktp ks)))) (nI (TKN bt ktp (NXT bt ktp (NXT bt ktp ks)))) 1 0 (nI kc) (nI kl) nl nc nF np ntr nb mbestCost nso nsi nit nsh nsf nss nrc mtraced mdealer mnumber mwhose msize misParted)]) hP hD (fun hP hD => ?_)
        obtain rfl := hr6946
        refine astN hC hK hP hD hS 1 (ws' := [(nc, iA G 100 fnc), (nl, iA G 54 (upd (upd (upd (upd (upd (upd fnl (6 * kl) 0) (6 * kl + 1) (nI (NVL bt ktp (NXT bt ktp ks)))) (6 * kl + 2) (-9)) (6 * kl + 3) (-9)) (6 * kl + 2) 0) (6 * kl + 3) 0)), (nF, sA G 5 (FCT K)), (nt, iA G 240 fnt), (h0, oX12 nw nk mhasKept nt (nI ktp) nr mrowMany mroundOf mroundFrom mouts nm mfromHour mtoHour ns (nI (NXT bt ktp (NXT bt ktp ks))) (nI (TKE bt ktp (NXT bt ktp (NXT bt ktp ks)))) (nI (TKN bt ktp (NXT bt ktp (NXT bt ktp ks)))) 1 0 (nI kc) (nI kl) nl nc nF np ntr nb mbestCost nso nsi nit nsh nsf nss nrc mtraced mdealer mnumber mwhose msize misParted)]) rfl (k := (6 * kl + 3)) (by omega) (Nat.le_of_ble_eq_true rfl) (rfl) gX12_lineAt_10.2.2.1 (fun H locs hP hD hS => ?_)
        refine lv_iload_n hx hb gX12_lineAt_10.2.2.2.1 rfl (lv_at0 hl) ?_
        refine lv_iconst (v := 2) hx hb gX12_lineAt_10.2.2.2.2.1 (by decide) ?_
        refine lv_icmp_ne (tgt := 221) hx hb gX12_lineAt_10.2.2.2.2.2.1 (by decide) (fun _ => ?_) (fun c9 => absurd c9 (by decide))
        refine lv_aload_n hx hb gX12_lineAt_12.1 rfl (lv_at1 hl) ?_
        refine gf_X12_32 hC rfl hK hP 4 rfl rfl gX12_lineAt_12.2.1 ?_
        refine lv_iload_n hx hb gX12_lineAt_12.2.2.1 rfl (lv_at2 hl) ?_
        refine lv_iconst (v := 4) hx hb gX12_lineAt_12.2.2.2.1 (by decide) ?_
        refine lv_iadd hx hb gX12_lineAt_12.2.2.2.2.1 ?_
        refine eqi (x1 := nI (6 * kl + 4)) (nI_add (6 * kl) 4) ?_
        refine lv_aload_n hx hb gX12_lineAt_12.2.2.2.2.2.1 rfl (lv_at1 hl) ?_
        refine gf_X12_240 hC rfl hK hP 4 rfl rfl gX12_lineAt_12.2.2.2.2.2.2.1 ?_
        refine astN hC hK hP hD hS 1 (ws' := [(nc, iA G 100 fnc), (nl, iA G 54 (upd (upd (upd (upd (upd (upd (upd fnl (6 * kl) 0) (6 * kl + 1) (nI (NVL bt ktp (NXT bt ktp ks)))) (6 * kl + 2) (-9)) (6 * kl + 3) (-9)) (6 * kl + 2) 0) (6 * kl + 3) 0) (6 * kl + 4) (nI kc))), (nF, sA G 5 (FCT K)), (nt, iA G 240 fnt), (h0, oX12 nw nk mhasKept nt (nI ktp) nr mrowMany mroundOf mroundFrom mouts nm mfromHour mtoHour ns (nI (NXT bt ktp (NXT bt ktp ks))) (nI (TKE bt ktp (NXT bt ktp (NXT bt ktp ks)))) (nI (TKN bt ktp (NXT bt ktp (NXT bt ktp ks)))) 1 0 (nI kc) (nI kl) nl nc nF np ntr nb mbestCost nso nsi nit nsh nsf nss nrc mtraced mdealer mnumber mwhose msize misParted)]) rfl (k := (6 * kl + 4)) (by omega) (Nat.le_of_ble_eq_true rfl) (rfl) gX12_lineAt_12.2.2.2.2.2.2.2.1 (fun H locs hP hD hS => ?_)
        refine lv_iload_n hx hb gX12_lineAt_12.2.2.2.2.2.2.2.2.1 rfl (lv_at0 hl) ?_
        refine lv_iconst (v := 3) hx hb gX12_lineAt_12.2.2.2.2.2.2.2.2.2 (by decide) ?_
        refine lv_icmp_eq (tgt := 256) hx hb gX12_lineAt_13.1 (by decide) (fun c9 => absurd c9 (by decide)) (fun _ => ?_)
        refine lv_aload_n hx hb gX12_lineAt_13.2.1 rfl (lv_at1 hl) ?_
        refine va_ldcSw (index := 287) (tx := "if") hx hb hown (hO.2.2 0 (by decide)) gX12_lineAt_13.2.2.1 ?_
        refine pVo hO hS hC hK hl hP hD (m_isNameF l G K 0 h0 nw nk mhasKept nt (nI ktp) nr mrowMany mroundOf mroundFrom mouts nm mfromHour mtoHour ns (nI (NXT bt ktp (NXT bt ktp ks))) (nI (TKE bt ktp (NXT bt ktp (NXT bt ktp ks)))) (nI (TKN bt ktp (NXT bt ktp (NXT bt ktp ks)))) 0 (nI kc) (nI kl) nl nc nF np ntr nb mbestCost nso nsi nit nsh nsf nss nrc mtraced mdealer mnumber mwhose msize misParted ((by decide))) si_X12_248 [4] sm_4 fm_4 nd_4 rfl rfl rfl rfl rfl (Nat.le_of_ble_eq_true rfl) rm_32_5_4 ⟨by first | exact Nat.le_of_ble_eq_true rfl | exact Nat.zero_le _, by first | exact Nat.le_of_ble_eq_true rfl | exact Nat.zero_le _⟩ gX12_lineAt_13.2.2.2.1 (Keqr ?_)
        refine lv_if_eq (tgt := 256) hx hb gX12_lineAt_13.2.2.2.2.1 (by decide) (fun _ => ?_) (fun c9 => absurd (by decide) c9)
        refine lv_aload_n hx hb gX12_lineAt_13.2.2.2.2.2.2.2.2.2 rfl (lv_at1 hl) ?_
        refine gf_X12_32 hC rfl hK hP 4 rfl rfl gX12_lineAt_14.1 ?_
        refine lv_iload_n hx hb gX12_lineAt_14.2.1 rfl (lv_at2 hl) ?_
        refine lv_iconst (v := 5) hx hb gX12_lineAt_14.2.2.1 (by decide) ?_
        refine lv_iadd hx hb gX12_lineAt_14.2.2.2.1 ?_
        refine eqi (x1 := nI (6 * kl + 5)) (nI_add (6 * kl) 5) ?_
        refine lv_aload_n hx hb gX12_lineAt_14.2.2.2.2.1 rfl (lv_at1 hl) ?_
        refine gf_X12_240 hC rfl hK hP 4 rfl rfl gX12_lineAt_14.2.2.2.2.2.1 ?_
        refine astN hC hK hP hD hS 1 (ws' := [(nc, iA G 100 fnc), (nl, iA G 54 (upd (upd (upd (upd (upd (upd (upd (upd fnl (6 * kl) 0) (6 * kl + 1) (nI (NVL bt ktp (NXT bt ktp ks)))) (6 * kl + 2) (-9)) (6 * kl + 3) (-9)) (6 * kl + 2) 0) (6 * kl + 3) 0) (6 * kl + 4) (nI kc)) (6 * kl + 5) (nI kc))), (nF, sA G 5 (FCT K)), (nt, iA G 240 fnt), (h0, oX12 nw nk mhasKept nt (nI ktp) nr mrowMany mroundOf mroundFrom mouts nm mfromHour mtoHour ns (nI (NXT bt ktp (NXT bt ktp ks))) (nI (TKE bt ktp (NXT bt ktp (NXT bt ktp ks)))) (nI (TKN bt ktp (NXT bt ktp (NXT bt ktp ks)))) 1 0 (nI kc) (nI kl) nl nc nF np ntr nb mbestCost nso nsi nit nsh nsf nss nrc mtraced mdealer mnumber mwhose msize misParted)]) rfl (k := (6 * kl + 5)) (by omega) (Nat.le_of_ble_eq_true rfl) (rfl) gX12_lineAt_14.2.2.2.2.2.2.1 (fun H locs hP hD hS => ?_)
        refine lv_aload_n hx hb gX12_lineAt_14.2.2.2.2.2.2.2.1 rfl (lv_at1 hl) ?_
        refine lv_aload_n hx hb gX12_lineAt_14.2.2.2.2.2.2.2.2.1 rfl (lv_at1 hl) ?_
        refine lv_bipush (v := 59) hx hb gX12_lineAt_14.2.2.2.2.2.2.2.2.2 (by decide) ?_
        refine pV hC hK hl hP hD (m_isSignF l G h0 59 nw nk mhasKept nt (nI ktp) nr mrowMany mroundOf mroundFrom mouts nm mfromHour mtoHour ns (nI (NXT bt ktp (NXT bt ktp ks))) (nI (TKE bt ktp (NXT bt ktp (NXT bt ktp ks)))) (nI (TKN bt ktp (NXT bt ktp (NXT bt ktp ks)))) 0 (nI kc) (nI kl) nl nc nF np ntr nb mbestCost nso nsi nit nsh nsf nss nrc mtraced mdealer mnumber mwhose msize misParted) si_X12_262 [4] sm_4 fm_4 nd_4 rfl rfl rfl rfl rfl (Nat.le_of_ble_eq_true rfl) rm_32_1_2 ⟨by first | exact Nat.le_of_ble_eq_true rfl | exact Nat.zero_le _, by first | exact Nat.le_of_ble_eq_true rfl | exact Nat.zero_le _⟩ gX12_lineAt_15.1 (Keqr ?_)
        refine vV (wr := [(nc, iA G 100 fnc), (nl, iA G 54 (upd (upd (upd (upd (upd (upd (upd (upd fnl (6 * kl) 0) (6 * kl + 1) (nI (NVL bt ktp (NXT bt ktp ks)))) (6 * kl + 2) (-9)) (6 * kl + 3) (-9)) (6 * kl + 2) 0) (6 * kl + 3) 0) (6 * kl + 4) (nI kc)) (6 * kl + 5) (nI kc))), (nF, sA G 5 (FCT K)), (nt, iA G 240 fnt)]) hC hK hl hP hD hS hA (m_needF l G h0 0 nw nk mhasKept nt (nI ktp) nr mrowMany mroundOf mroundFrom mouts nm mfromHour mtoHour ns (nI (NXT bt ktp (NXT bt ktp ks))) (nI (TKE bt ktp (NXT bt ktp (NXT bt ktp ks)))) (nI (TKN bt ktp (NXT bt ktp (NXT bt ktp ks)))) 0 (nI kc) (nI kl) nl nc nF np ntr nb mbestCost nso nsi nit nsh nsf nss nrc mtraced mdealer mnumber mwhose msize misParted) si_X12_236 [4] [0, 1, 2, 3] sm_4 fm_4 nd_4 sm_0_1_2_3 nd_0_1_2_3 dj_4__0_1_2_3 rfl rfl rfl rfl rfl (Nat.le_of_ble_eq_true rfl) rm_32_4_2 ⟨Nat.le_of_ble_eq_true rfl, Nat.le_of_ble_eq_true rfl⟩ gX12_lineAt_15.2.1 (fun u6954 H locs hr6953 hP hD hS => ?_)
        refine Kpdr (ws := [(nc, iA G 100 fnc), (nl, iA G 54 (upd (upd (upd (upd (upd (upd (upd (upd fnl (6 * kl) 0) (6 * kl + 1) (nI (NVL bt ktp (NXT bt ktp ks)))) (6 * kl + 2) (-9)) (6 * kl + 3) (-9)) (6 * kl + 2) 0) (6 * kl + 3) 0) (6 * kl + 4) (nI kc)) (6 * kl + 5) (nI kc))), (nF, sA G 5 (FCT K)), (nt, iA G 240 fnt), (h0, oX12 nw nk mhasKept nt (nI ktp) nr mrowMany mroundOf mroundFrom mouts nm mfromHour mtoHour ns (nI (NXT bt ktp (NXT bt ktp ks))) (nI (TKE bt ktp (NXT bt ktp (NXT bt ktp ks)))) (nI (TKN bt ktp (NXT bt ktp (NXT bt ktp ks)))) 1 0 (nI kc) (nI kl) nl nc nF np ntr nb mbestCost nso nsi nit nsh nsf nss nrc mtraced mdealer mnumber mwhose msize misParted)]) hP hD (fun hP hD => ?_)
        refine toQ hQ0 ?_
        exact RV hC hP hD hS [4, 3, 0, 1, 2] (1, (NXT bt ktp (NXT bt ktp ks)), kc, fnc, upd (upd (upd (upd (upd (upd (upd (upd fnl (6 * kl) 0) (6 * kl + 1) (nI (NVL bt ktp (NXT bt ktp ks)))) (6 * kl + 2) (-9)) (6 * kl + 3) (-9)) (6 * kl + 2) 0) (6 * kl + 3) 0) (6 * kl + 4) (nI kc)) (6 * kl + 5) (nI kc), LN0, [], []) rfl rfl (by decide) (Or.inr ⟨rfl, Or.inr ⟨0, SRT.y (k := 0) (by decide) hq6808, Or.inl ⟨_, HDQ.t1 hq6820 hq6936, rfl⟩⟩, by (try dsimp only); omega⟩) gX12_lineAt_15.2.2
    · obtain ⟨rfl, rfl, hq6955⟩ := v6819
      refine astN hC hK hP hD hS 1 (ws' := [(nc, iA G 100 fnc), (nl, iA G 54 (upd (upd fnl (6 * kl) 0) (6 * kl + 1) r6813)), (nF, sA G 5 (FCT K)), (h0, oX12 nw nk mhasKept nt (nI ktp) nr mrowMany mroundOf mroundFrom mouts nm mfromHour mtoHour ns (nI (NXT bt ktp ks)) (nI (TKE bt ktp (NXT bt ktp ks))) (nI (TKN bt ktp (NXT bt ktp ks))) 1 0 (nI kc) (nI kl) nl nc nF np ntr nb mbestCost nso nsi nit nsh nsf nss nrc mtraced mdealer mnumber mwhose msize misParted), (nt, iA G 240 fnt)]) rfl (k := (6 * kl + 1)) (by omega) (Nat.le_of_ble_eq_true rfl) (rfl) gX12_lineAt_5.2.2.2.2.2.2.2.2.1 (fun H locs hP hD hS => ?_)
      refine lv_aload_n hx hb gX12_lineAt_5.2.2.2.2.2.2.2.2.2 rfl (lv_at1 hl) ?_
      refine gf_X12_32 hC rfl hK hP 3 rfl rfl gX12_lineAt_6.1 ?_
      refine lv_iload_n hx hb gX12_lineAt_6.2.1 rfl (lv_at2 hl) ?_
      refine lv_iconst (v := 2) hx hb gX12_lineAt_6.2.2.1 (by decide) ?_
      refine lv_iadd hx hb gX12_lineAt_6.2.2.2.1 ?_
      refine eqi (x1 := nI (6 * kl + 2)) (nI_add (6 * kl) 2) ?_
      refine lv_bipush (v := (-9)) hx hb gX12_lineAt_6.2.2.2.2.1 (by decide) ?_
      refine astN hC hK hP hD hS 1 (ws' := [(nc, iA G 100 fnc), (nl, iA G 54 (upd (upd (upd fnl (6 * kl) 0) (6 * kl + 1) r6813) (6 * kl + 2) (-9))), (nF, sA G 5 (FCT K)), (h0, oX12 nw nk mhasKept nt (nI ktp) nr mrowMany mroundOf mroundFrom mouts nm mfromHour mtoHour ns (nI (NXT bt ktp ks)) (nI (TKE bt ktp (NXT bt ktp ks))) (nI (TKN bt ktp (NXT bt ktp ks))) 1 0 (nI kc) (nI kl) nl nc nF np ntr nb mbestCost nso nsi nit nsh nsf nss nrc mtraced mdealer mnumber mwhose msize misParted), (nt, iA G 240 fnt)]) rfl (k := (6 * kl + 2)) (by omega) (Nat.le_of_ble_eq_true rfl) (rfl) gX12_lineAt_6.2.2.2.2.2.1 (fun H locs hP hD hS => ?_)
      refine lv_aload_n hx hb gX12_lineAt_6.2.2.2.2.2.2.1 rfl (lv_at1 hl) ?_
      refine gf_X12_32 hC rfl hK hP 3 rfl rfl gX12_lineAt_6.2.2.2.2.2.2.2.1 ?_
      refine lv_iload_n hx hb gX12_lineAt_6.2.2.2.2.2.2.2.2.1 rfl (lv_at2 hl) ?_
      refine lv_iconst (v := 3) hx hb gX12_lineAt_6.2.2.2.2.2.2.2.2.2 (by decide) ?_
      refine lv_iadd hx hb gX12_lineAt_7.1 ?_
      refine eqi (x1 := nI (6 * kl + 3)) (nI_add (6 * kl) 3) ?_
      refine lv_bipush (v := (-9)) hx hb gX12_lineAt_7.2.1 (by decide) ?_
      refine astN hC hK hP hD hS 1 (ws' := [(nc, iA G 100 fnc), (nl, iA G 54 (upd (upd (upd (upd fnl (6 * kl) 0) (6 * kl + 1) r6813) (6 * kl + 2) (-9)) (6 * kl + 3) (-9))), (nF, sA G 5 (FCT K)), (h0, oX12 nw nk mhasKept nt (nI ktp) nr mrowMany mroundOf mroundFrom mouts nm mfromHour mtoHour ns (nI (NXT bt ktp ks)) (nI (TKE bt ktp (NXT bt ktp ks))) (nI (TKN bt ktp (NXT bt ktp ks))) 1 0 (nI kc) (nI kl) nl nc nF np ntr nb mbestCost nso nsi nit nsh nsf nss nrc mtraced mdealer mnumber mwhose msize misParted), (nt, iA G 240 fnt)]) rfl (k := (6 * kl + 3)) (by omega) (Nat.le_of_ble_eq_true rfl) (rfl) gX12_lineAt_7.2.2.1 (fun H locs hP hD hS => ?_)
      refine lv_iload_n hx hb gX12_lineAt_7.2.2.2.1 rfl (lv_at0 hl) ?_
      refine lv_if_ne (tgt := 190) hx hb gX12_lineAt_7.2.2.2.2.1 (by decide) (fun c9 => absurd (by decide) c9) (fun _ => ?_)
      refine lv_aload_n hx hb gX12_lineAt_7.2.2.2.2.2.1 rfl (lv_at1 hl) ?_
      refine lv_aload_n hx hb gX12_lineAt_7.2.2.2.2.2.2.1 rfl (lv_at1 hl) ?_
      refine va_ldcSw (index := 282) (tx := "of") hx hb hown (hO.2.2 5 (by decide)) gX12_lineAt_7.2.2.2.2.2.2.2.1 ?_
      refine pVo hO hS hC hK hl hP hD (m_isNameF l G K 5 h0 nw nk mhasKept nt (nI ktp) nr mrowMany mroundOf mroundFrom mouts nm mfromHour mtoHour ns (nI (NXT bt ktp ks)) (nI (TKE bt ktp (NXT bt ktp ks))) (nI (TKN bt ktp (NXT bt ktp ks))) 0 (nI kc) (nI kl) nl nc nF np ntr nb mbestCost nso nsi nit nsh nsf nss nrc mtraced mdealer mnumber mwhose msize misParted ((by decide))) si_X12_248 [3] sm_3 fm_3 nd_3 rfl rfl rfl rfl rfl (Nat.le_of_ble_eq_true rfl) rm_32_5_4 ⟨by first | exact Nat.le_of_ble_eq_true rfl | exact Nat.zero_le _, by first | exact Nat.le_of_ble_eq_true rfl | exact Nat.zero_le _⟩ gX12_lineAt_7.2.2.2.2.2.2.2.2.1 (Keqr ?_)
      refine vV (wr := [(nc, iA G 100 fnc), (nl, iA G 54 (upd (upd (upd (upd fnl (6 * kl) 0) (6 * kl + 1) r6813) (6 * kl + 2) (-9)) (6 * kl + 3) (-9))), (nF, sA G 5 (FCT K)), (nt, iA G 240 fnt)]) hC hK hl hP hD hS hA (m_needF l G h0 0 nw nk mhasKept nt (nI ktp) nr mrowMany mroundOf mroundFrom mouts nm mfromHour mtoHour ns (nI (NXT bt ktp ks)) (nI (TKE bt ktp (NXT bt ktp ks))) (nI (TKN bt ktp (NXT bt ktp ks))) 0 (nI kc) (nI kl) nl nc nF np ntr nb mbestCost nso nsi nit nsh nsf nss nrc mtraced mdealer mnumber mwhose msize misParted) si_X12_236 [3] [0, 1, 2, 4] sm_3 fm_3 nd_3 sm_0_1_2_4 nd_0_1_2_4 dj_3__0_1_2_4 rfl rfl rfl rfl rfl (Nat.le_of_ble_eq_true rfl) rm_32_4_2 ⟨Nat.le_of_ble_eq_true rfl, Nat.le_of_ble_eq_true rfl⟩ gX12_lineAt_7.2.2.2.2.2.2.2.2.2 (fun u6959 H locs hr6958 hP hD hS => ?_)
      refine Kpdr (ws := [(nc, iA G 100 fnc), (nl, iA G 54 (upd (upd (upd (upd fnl (6 * kl) 0) (6 * kl + 1) r6813) (6 * kl + 2) (-9)) (6 * kl + 3) (-9))), (nF, sA G 5 (FCT K)), (nt, iA G 240 fnt), (h0, oX12 nw nk mhasKept nt (nI ktp) nr mrowMany mroundOf mroundFrom mouts nm mfromHour mtoHour ns (nI (NXT bt ktp ks)) (nI (TKE bt ktp (NXT bt ktp ks))) (nI (TKN bt ktp (NXT bt ktp ks))) 1 0 (nI kc) (nI kl) nl nc nF np ntr nb mbestCost nso nsi nit nsh nsf nss nrc mtraced mdealer mnumber mwhose msize misParted)]) hP hD (fun hP hD => ?_)
      refine lv_aload_n hx hb gX12_lineAt_8.1 rfl (lv_at1 hl) ?_
      refine gf_X12_32 hC rfl hK hP 4 rfl rfl gX12_lineAt_8.2.1 ?_
      refine lv_iload_n hx hb gX12_lineAt_8.2.2.1 rfl (lv_at2 hl) ?_
      refine lv_iconst (v := 2) hx hb gX12_lineAt_8.2.2.2.1 (by decide) ?_
      refine lv_iadd hx hb gX12_lineAt_8.2.2.2.2.1 ?_
      refine eqi (x1 := nI (6 * kl + 2)) (nI_add (6 * kl) 2) ?_
      refine lv_aload_n hx hb gX12_lineAt_8.2.2.2.2.2.1 rfl (lv_at1 hl) ?_
      refine lv_bipush (v := 7) hx hb gX12_lineAt_8.2.2.2.2.2.2.1 (by decide) ?_
      refine iV (wr := [(nc, iA G 100 fnc), (nl, iA G 54 (upd (upd (upd (upd fnl (6 * kl) 0) (6 * kl + 1) r6813) (6 * kl + 2) (-9)) (6 * kl + 3) (-9))), (nF, sA G 5 (FCT K)), (nt, iA G 240 fnt)]) hC hK hl hP hD hS hA (m_numberF l G h0 7 nw nk mhasKept nt (nI ktp) nr mrowMany mroundOf mroundFrom mouts nm mfromHour mtoHour ns (nI (NXT bt ktp ks)) (nI (TKE bt ktp (NXT bt ktp ks))) (nI (TKN bt ktp (NXT bt ktp ks))) 0 (nI kc) (nI kl) nl nc nF np ntr nb mbestCost nso nsi nit nsh nsf nss nrc mtraced mdealer mnumber mwhose msize misParted) si_X12_271 [4] [0, 1, 2, 3] sm_4 fm_4 nd_4 sm_0_1_2_3 nd_0_1_2_3 dj_4__0_1_2_3 rfl rfl rfl rfl rfl (Nat.le_of_ble_eq_true rfl) rm_32_5_5 ⟨Nat.le_of_ble_eq_true rfl, Nat.le_of_ble_eq_true rfl⟩ gX12_lineAt_8.2.2.2.2.2.2.2.1 (fun r6960 u6961 H locs hr6960 hP hD hS => ?_)
      refine Kpdr (ws := [(nc, iA G 100 fnc), (nl, iA G 54 (upd (upd (upd (upd fnl (6 * kl) 0) (6 * kl + 1) r6813) (6 * kl + 2) (-9)) (6 * kl + 3) (-9))), (nF, sA G 5 (FCT K)), (nt, iA G 240 fnt), (h0, oX12 nw nk mhasKept nt (nI ktp) nr mrowMany mroundOf mroundFrom mouts nm mfromHour mtoHour ns (nI (NXT bt ktp ks)) (nI (TKE bt ktp (NXT bt ktp ks))) (nI (TKN bt ktp (NXT bt ktp ks))) 1 0 (nI kc) (nI kl) nl nc nF np ntr nb mbestCost nso nsi nit nsh nsf nss nrc mtraced mdealer mnumber mwhose msize misParted)]) hP hD (fun hP hD => ?_)
      obtain rfl := hr6960
      refine astN hC hK hP hD hS 1 (ws' := [(nc, iA G 100 fnc), (nl, iA G 54 (upd (upd (upd (upd (upd fnl (6 * kl) 0) (6 * kl + 1) r6813) (6 * kl + 2) (-9)) (6 * kl + 3) (-9)) (6 * kl + 2) 0)), (nF, sA G 5 (FCT K)), (nt, iA G 240 fnt), (h0, oX12 nw nk mhasKept nt (nI ktp) nr mrowMany mroundOf mroundFrom mouts nm mfromHour mtoHour ns (nI (NXT bt ktp ks)) (nI (TKE bt ktp (NXT bt ktp ks))) (nI (TKN bt ktp (NXT bt ktp ks))) 1 0 (nI kc) (nI kl) nl nc nF np ntr nb mbestCost nso nsi nit nsh nsf nss nrc mtraced mdealer mnumber mwhose msize misParted)]) rfl (k := (6 * kl + 2)) (by omega) (Nat.le_of_ble_eq_true rfl) (rfl) gX12_lineAt_8.2.2.2.2.2.2.2.2.1 (fun H locs hP hD hS => ?_)
      refine lv_aload_n hx hb gX12_lineAt_8.2.2.2.2.2.2.2.2.2 rfl (lv_at1 hl) ?_
      refine lv_aload_n hx hb gX12_lineAt_9.1 rfl (lv_at1 hl) ?_
      refine va_ldcSw (index := 284) (tx := "from") hx hb hown (hO.2.2 6 (by decide)) gX12_lineAt_9.2.1 ?_
      refine pVo hO hS hC hK hl hP hD (m_isNameF l G K 6 h0 nw nk mhasKept nt (nI ktp) nr mrowMany mroundOf mroundFrom mouts nm mfromHour mtoHour ns (nI (NXT bt ktp ks)) (nI (TKE bt ktp (NXT bt ktp ks))) (nI (TKN bt ktp (NXT bt ktp ks))) 0 (nI kc) (nI kl) nl nc nF np ntr nb mbestCost nso nsi nit nsh nsf nss nrc mtraced mdealer mnumber mwhose msize misParted ((by decide))) si_X12_248 [4] sm_4 fm_4 nd_4 rfl rfl rfl rfl rfl (Nat.le_of_ble_eq_true rfl) rm_32_5_4 ⟨by first | exact Nat.le_of_ble_eq_true rfl | exact Nat.zero_le _, by first | exact Nat.le_of_ble_eq_true rfl | exact Nat.zero_le _⟩ gX12_lineAt_9.2.2.1 (Keqr ?_)
      refine vV (wr := [(nc, iA G 100 fnc), (nl, iA G 54 (upd (upd (upd (upd (upd fnl (6 * kl) 0) (6 * kl + 1) r6813) (6 * kl + 2) (-9)) (6 * kl + 3) (-9)) (6 * kl + 2) 0)), (nF, sA G 5 (FCT K)), (nt, iA G 240 fnt)]) hC hK hl hP hD hS hA (m_needF l G h0 0 nw nk mhasKept nt (nI ktp) nr mrowMany mroundOf mroundFrom mouts nm mfromHour mtoHour ns (nI (NXT bt ktp ks)) (nI (TKE bt ktp (NXT bt ktp ks))) (nI (TKN bt ktp (NXT bt ktp ks))) 0 (nI kc) (nI kl) nl nc nF np ntr nb mbestCost nso nsi nit nsh nsf nss nrc mtraced mdealer mnumber mwhose msize misParted) si_X12_236 [4] [0, 1, 2, 3] sm_4 fm_4 nd_4 sm_0_1_2_3 nd_0_1_2_3 dj_4__0_1_2_3 rfl rfl rfl rfl rfl (Nat.le_of_ble_eq_true rfl) rm_32_4_2 ⟨Nat.le_of_ble_eq_true rfl, Nat.le_of_ble_eq_true rfl⟩ gX12_lineAt_9.2.2.2.1 (fun u6966 H locs hr6965 hP hD hS => ?_)
      refine Kpdr (ws := [(nc, iA G 100 fnc), (nl, iA G 54 (upd (upd (upd (upd (upd fnl (6 * kl) 0) (6 * kl + 1) r6813) (6 * kl + 2) (-9)) (6 * kl + 3) (-9)) (6 * kl + 2) 0)), (nF, sA G 5 (FCT K)), (nt, iA G 240 fnt), (h0, oX12 nw nk mhasKept nt (nI ktp) nr mrowMany mroundOf mroundFrom mouts nm mfromHour mtoHour ns (nI (NXT bt ktp ks)) (nI (TKE bt ktp (NXT bt ktp ks))) (nI (TKN bt ktp (NXT bt ktp ks))) 1 0 (nI kc) (nI kl) nl nc nF np ntr nb mbestCost nso nsi nit nsh nsf nss nrc mtraced mdealer mnumber mwhose msize misParted)]) hP hD (fun hP hD => ?_)
      refine lv_aload_n hx hb gX12_lineAt_9.2.2.2.2.1 rfl (lv_at1 hl) ?_
      refine gf_X12_32 hC rfl hK hP 4 rfl rfl gX12_lineAt_9.2.2.2.2.2.1 ?_
      refine lv_iload_n hx hb gX12_lineAt_9.2.2.2.2.2.2.1 rfl (lv_at2 hl) ?_
      refine lv_iconst (v := 3) hx hb gX12_lineAt_9.2.2.2.2.2.2.2.1 (by decide) ?_
      refine lv_iadd hx hb gX12_lineAt_9.2.2.2.2.2.2.2.2.1 ?_
      refine eqi (x1 := nI (6 * kl + 3)) (nI_add (6 * kl) 3) ?_
      refine lv_aload_n hx hb gX12_lineAt_9.2.2.2.2.2.2.2.2.2 rfl (lv_at1 hl) ?_
      refine lv_bipush (v := 7) hx hb gX12_lineAt_10.1 (by decide) ?_
      refine iV (wr := [(nc, iA G 100 fnc), (nl, iA G 54 (upd (upd (upd (upd (upd fnl (6 * kl) 0) (6 * kl + 1) r6813) (6 * kl + 2) (-9)) (6 * kl + 3) (-9)) (6 * kl + 2) 0)), (nF, sA G 5 (FCT K)), (nt, iA G 240 fnt)]) hC hK hl hP hD hS hA (m_numberF l G h0 7 nw nk mhasKept nt (nI ktp) nr mrowMany mroundOf mroundFrom mouts nm mfromHour mtoHour ns (nI (NXT bt ktp ks)) (nI (TKE bt ktp (NXT bt ktp ks))) (nI (TKN bt ktp (NXT bt ktp ks))) 0 (nI kc) (nI kl) nl nc nF np ntr nb mbestCost nso nsi nit nsh nsf nss nrc mtraced mdealer mnumber mwhose msize misParted) si_X12_271 [4] [0, 1, 2, 3] sm_4 fm_4 nd_4 sm_0_1_2_3 nd_0_1_2_3 dj_4__0_1_2_3 rfl rfl rfl rfl rfl (Nat.le_of_ble_eq_true rfl) rm_32_5_5 ⟨Nat.le_of_ble_eq_true rfl, Nat.le_of_ble_eq_true rfl⟩ gX12_lineAt_10.2.1 (fun r6967 u6968 H locs hr6967 hP hD hS => ?_)
      refine Kpdr (ws := [(nc, iA G 100 fnc), (nl, iA G 54 (upd (upd (upd (upd (upd fnl (6 * kl) 0) (6 * kl + 1) r6813) (6 * kl + 2) (-9)) (6 * kl + 3) (-9)) (6 * kl + 2) 0)), (nF, sA G 5 (FCT K)), (nt, iA G 240 fnt), (h0, oX12 nw nk mhasKept nt (nI ktp) nr mrowMany mroundOf mroundFrom mouts nm mfromHour mtoHour ns (nI (NXT bt ktp ks)) (nI (TKE bt ktp (NXT bt ktp ks))) (nI (TKN bt ktp (NXT bt ktp ks))) 1 0 (nI kc) (nI kl) nl nc nF np ntr nb mbestCost nso nsi nit nsh nsf nss nrc mtraced mdealer mnumber mwhose msize misParted)]) hP hD (fun hP hD => ?_)
      obtain rfl := hr6967
      refine astN hC hK hP hD hS 1 (ws' := [(nc, iA G 100 fnc), (nl, iA G 54 (upd (upd (upd (upd (upd (upd fnl (6 * kl) 0) (6 * kl + 1) r6813) (6 * kl + 2) (-9)) (6 * kl + 3) (-9)) (6 * kl + 2) 0) (6 * kl + 3) 0)), (nF, sA G 5 (FCT K)), (nt, iA G 240 fnt), (h0, oX12 nw nk mhasKept nt (nI ktp) nr mrowMany mroundOf mroundFrom mouts nm mfromHour mtoHour ns (nI (NXT bt ktp ks)) (nI (TKE bt ktp (NXT bt ktp ks))) (nI (TKN bt ktp (NXT bt ktp ks))) 1 0 (nI kc) (nI kl) nl nc nF np ntr nb mbestCost nso nsi nit nsh nsf nss nrc mtraced mdealer mnumber mwhose msize misParted)]) rfl (k := (6 * kl + 3)) (by omega) (Nat.le_of_ble_eq_true rfl) (rfl) gX12_lineAt_10.2.2.1 (fun H locs hP hD hS => ?_)
      refine lv_iload_n hx hb gX12_lineAt_10.2.2.2.1 rfl (lv_at0 hl) ?_
      refine lv_iconst (v := 2) hx hb gX12_lineAt_10.2.2.2.2.1 (by decide) ?_
      refine lv_icmp_ne (tgt := 221) hx hb gX12_lineAt_10.2.2.2.2.2.1 (by decide) (fun _ => ?_) (fun c9 => absurd c9 (by decide))
      refine lv_aload_n hx hb gX12_lineAt_12.1 rfl (lv_at1 hl) ?_
      refine gf_X12_32 hC rfl hK hP 4 rfl rfl gX12_lineAt_12.2.1 ?_
      refine lv_iload_n hx hb gX12_lineAt_12.2.2.1 rfl (lv_at2 hl) ?_
      refine lv_iconst (v := 4) hx hb gX12_lineAt_12.2.2.2.1 (by decide) ?_
      refine lv_iadd hx hb gX12_lineAt_12.2.2.2.2.1 ?_
      refine eqi (x1 := nI (6 * kl + 4)) (nI_add (6 * kl) 4) ?_
      refine lv_aload_n hx hb gX12_lineAt_12.2.2.2.2.2.1 rfl (lv_at1 hl) ?_
      refine gf_X12_240 hC rfl hK hP 4 rfl rfl gX12_lineAt_12.2.2.2.2.2.2.1 ?_
      refine astN hC hK hP hD hS 1 (ws' := [(nc, iA G 100 fnc), (nl, iA G 54 (upd (upd (upd (upd (upd (upd (upd fnl (6 * kl) 0) (6 * kl + 1) r6813) (6 * kl + 2) (-9)) (6 * kl + 3) (-9)) (6 * kl + 2) 0) (6 * kl + 3) 0) (6 * kl + 4) (nI kc))), (nF, sA G 5 (FCT K)), (nt, iA G 240 fnt), (h0, oX12 nw nk mhasKept nt (nI ktp) nr mrowMany mroundOf mroundFrom mouts nm mfromHour mtoHour ns (nI (NXT bt ktp ks)) (nI (TKE bt ktp (NXT bt ktp ks))) (nI (TKN bt ktp (NXT bt ktp ks))) 1 0 (nI kc) (nI kl) nl nc nF np ntr nb mbestCost nso nsi nit nsh nsf nss nrc mtraced mdealer mnumber mwhose msize misParted)]) rfl (k := (6 * kl + 4)) (by omega) (Nat.le_of_ble_eq_true rfl) (rfl) gX12_lineAt_12.2.2.2.2.2.2.2.1 (fun H locs hP hD hS => ?_)
      refine lv_iload_n hx hb gX12_lineAt_12.2.2.2.2.2.2.2.2.1 rfl (lv_at0 hl) ?_
      refine lv_iconst (v := 3) hx hb gX12_lineAt_12.2.2.2.2.2.2.2.2.2 (by decide) ?_
      refine lv_icmp_eq (tgt := 256) hx hb gX12_lineAt_13.1 (by decide) (fun c9 => absurd c9 (by decide)) (fun _ => ?_)
      refine lv_aload_n hx hb gX12_lineAt_13.2.1 rfl (lv_at1 hl) ?_
      refine va_ldcSw (index := 287) (tx := "if") hx hb hown (hO.2.2 0 (by decide)) gX12_lineAt_13.2.2.1 ?_
      refine pVo hO hS hC hK hl hP hD (m_isNameF l G K 0 h0 nw nk mhasKept nt (nI ktp) nr mrowMany mroundOf mroundFrom mouts nm mfromHour mtoHour ns (nI (NXT bt ktp ks)) (nI (TKE bt ktp (NXT bt ktp ks))) (nI (TKN bt ktp (NXT bt ktp ks))) 0 (nI kc) (nI kl) nl nc nF np ntr nb mbestCost nso nsi nit nsh nsf nss nrc mtraced mdealer mnumber mwhose msize misParted ((by decide))) si_X12_248 [4] sm_4 fm_4 nd_4 rfl rfl rfl rfl rfl (Nat.le_of_ble_eq_true rfl) rm_32_5_4 ⟨by first | exact Nat.le_of_ble_eq_true rfl | exact Nat.zero_le _, by first | exact Nat.le_of_ble_eq_true rfl | exact Nat.zero_le _⟩ gX12_lineAt_13.2.2.2.1 (Keqr ?_)
      refine lv_if_eq (tgt := 256) hx hb gX12_lineAt_13.2.2.2.2.1 (by decide) (fun _ => ?_) (fun c9 => absurd (by decide) c9)
      refine lv_aload_n hx hb gX12_lineAt_13.2.2.2.2.2.2.2.2.2 rfl (lv_at1 hl) ?_
      refine gf_X12_32 hC rfl hK hP 4 rfl rfl gX12_lineAt_14.1 ?_
      refine lv_iload_n hx hb gX12_lineAt_14.2.1 rfl (lv_at2 hl) ?_
      refine lv_iconst (v := 5) hx hb gX12_lineAt_14.2.2.1 (by decide) ?_
      refine lv_iadd hx hb gX12_lineAt_14.2.2.2.1 ?_
      refine eqi (x1 := nI (6 * kl + 5)) (nI_add (6 * kl) 5) ?_
      refine lv_aload_n hx hb gX12_lineAt_14.2.2.2.2.1 rfl (lv_at1 hl) ?_
      refine gf_X12_240 hC rfl hK hP 4 rfl rfl gX12_lineAt_14.2.2.2.2.2.1 ?_
      refine astN hC hK hP hD hS 1 (ws' := [(nc, iA G 100 fnc), (nl, iA G 54 (upd (upd (upd (upd (upd (upd (upd (upd fnl (6 * kl) 0) (6 * kl + 1) r6813) (6 * kl + 2) (-9)) (6 * kl + 3) (-9)) (6 * kl + 2) 0) (6 * kl + 3) 0) (6 * kl + 4) (nI kc)) (6 * kl + 5) (nI kc))), (nF, sA G 5 (FCT K)), (nt, iA G 240 fnt), (h0, oX12 nw nk mhasKept nt (nI ktp) nr mrowMany mroundOf mroundFrom mouts nm mfromHour mtoHour ns (nI (NXT bt ktp ks)) (nI (TKE bt ktp (NXT bt ktp ks))) (nI (TKN bt ktp (NXT bt ktp ks))) 1 0 (nI kc) (nI kl) nl nc nF np ntr nb mbestCost nso nsi nit nsh nsf nss nrc mtraced mdealer mnumber mwhose msize misParted)]) rfl (k := (6 * kl + 5)) (by omega) (Nat.le_of_ble_eq_true rfl) (rfl) gX12_lineAt_14.2.2.2.2.2.2.1 (fun H locs hP hD hS => ?_)
      refine lv_aload_n hx hb gX12_lineAt_14.2.2.2.2.2.2.2.1 rfl (lv_at1 hl) ?_
      refine lv_aload_n hx hb gX12_lineAt_14.2.2.2.2.2.2.2.2.1 rfl (lv_at1 hl) ?_
      refine lv_bipush (v := 59) hx hb gX12_lineAt_14.2.2.2.2.2.2.2.2.2 (by decide) ?_
      refine pV hC hK hl hP hD (m_isSignF l G h0 59 nw nk mhasKept nt (nI ktp) nr mrowMany mroundOf mroundFrom mouts nm mfromHour mtoHour ns (nI (NXT bt ktp ks)) (nI (TKE bt ktp (NXT bt ktp ks))) (nI (TKN bt ktp (NXT bt ktp ks))) 0 (nI kc) (nI kl) nl nc nF np ntr nb mbestCost nso nsi nit nsh nsf nss nrc mtraced mdealer mnumber mwhose msize misParted) si_X12_262 [4] sm_4 fm_4 nd_4 rfl rfl rfl rfl rfl (Nat.le_of_ble_eq_true rfl) rm_32_1_2 ⟨by first | exact Nat.le_of_ble_eq_true rfl | exact Nat.zero_le _, by first | exact Nat.le_of_ble_eq_true rfl | exact Nat.zero_le _⟩ gX12_lineAt_15.1 (Keqr ?_)
      refine vV (wr := [(nc, iA G 100 fnc), (nl, iA G 54 (upd (upd (upd (upd (upd (upd (upd (upd fnl (6 * kl) 0) (6 * kl + 1) r6813) (6 * kl + 2) (-9)) (6 * kl + 3) (-9)) (6 * kl + 2) 0) (6 * kl + 3) 0) (6 * kl + 4) (nI kc)) (6 * kl + 5) (nI kc))), (nF, sA G 5 (FCT K)), (nt, iA G 240 fnt)]) hC hK hl hP hD hS hA (m_needF l G h0 0 nw nk mhasKept nt (nI ktp) nr mrowMany mroundOf mroundFrom mouts nm mfromHour mtoHour ns (nI (NXT bt ktp ks)) (nI (TKE bt ktp (NXT bt ktp ks))) (nI (TKN bt ktp (NXT bt ktp ks))) 0 (nI kc) (nI kl) nl nc nF np ntr nb mbestCost nso nsi nit nsh nsf nss nrc mtraced mdealer mnumber mwhose msize misParted) si_X12_236 [4] [0, 1, 2, 3] sm_4 fm_4 nd_4 sm_0_1_2_3 nd_0_1_2_3 dj_4__0_1_2_3 rfl rfl rfl rfl rfl (Nat.le_of_ble_eq_true rfl) rm_32_4_2 ⟨Nat.le_of_ble_eq_true rfl, Nat.le_of_ble_eq_true rfl⟩ gX12_lineAt_15.2.1 (fun u6975 H locs hr6974 hP hD hS => ?_)
      refine Kpdr (ws := [(nc, iA G 100 fnc), (nl, iA G 54 (upd (upd (upd (upd (upd (upd (upd (upd fnl (6 * kl) 0) (6 * kl + 1) r6813) (6 * kl + 2) (-9)) (6 * kl + 3) (-9)) (6 * kl + 2) 0) (6 * kl + 3) 0) (6 * kl + 4) (nI kc)) (6 * kl + 5) (nI kc))), (nF, sA G 5 (FCT K)), (nt, iA G 240 fnt), (h0, oX12 nw nk mhasKept nt (nI ktp) nr mrowMany mroundOf mroundFrom mouts nm mfromHour mtoHour ns (nI (NXT bt ktp ks)) (nI (TKE bt ktp (NXT bt ktp ks))) (nI (TKN bt ktp (NXT bt ktp ks))) 1 0 (nI kc) (nI kl) nl nc nF np ntr nb mbestCost nso nsi nit nsh nsf nss nrc mtraced mdealer mnumber mwhose msize misParted)]) hP hD (fun hP hD => ?_)
      refine toQ hQ0 ?_
      exact RV hC hP hD hS [4, 3, 0, 1, 2] (1, (NXT bt ktp ks), kc, fnc, upd (upd (upd (upd (upd (upd (upd (upd fnl (6 * kl) 0) (6 * kl + 1) r6813) (6 * kl + 2) (-9)) (6 * kl + 3) (-9)) (6 * kl + 2) 0) (6 * kl + 3) 0) (6 * kl + 4) (nI kc)) (6 * kl + 5) (nI kc), LN0, [], []) rfl rfl (by decide) (Or.inr ⟨rfl, Or.inr ⟨0, SRT.y (k := 0) (by decide) hq6808, Or.inl ⟨_, HDQ.a0 (so := 0) (M := 99) rfl hq6955, rfl⟩⟩, by (try dsimp only); omega⟩) gX12_lineAt_15.2.2
  · have hq6976 := a6807
    refine lv_if_eq (tgt := 14) hx hb gX12_lineAt_0.2.2.2.1 (by decide) (fun _ => ?_) (fun c9 => absurd (by decide) c9)
    refine lv_aload_n hx hb gX12_lineAt_0.2.2.2.2.2.2.1 rfl (lv_at0 hl) ?_
    refine va_ldcSw (index := 276) (tx := "warn") hx hb hown (hO.2.2 2 (by decide)) gX12_lineAt_0.2.2.2.2.2.2.2.1 ?_
    refine pVo hO hS hC hK hl hP hD (m_isNameX l G K 2 h0 nw nk mhasKept nt ktp nr mrowMany mroundOf mroundFrom mouts nm mfromHour mtoHour ns ks 0 (nI kc) (nI kl) nl nc nF np ntr nb mbestCost nso nsi nit nsh nsf nss nrc mtraced mdealer mnumber mwhose msize misParted fnt bt (htp) (hks) (hFB) ((by decide))) si_X12_248 [0, 1] sm_0_1 fm_0_1 nd_0_1 rfl rfl rfl rfl rfl (Nat.le_of_ble_eq_true rfl) rm_32_5_4 ⟨by first | exact Nat.le_of_ble_eq_true rfl | exact Nat.zero_le _, by first | exact Nat.le_of_ble_eq_true rfl | exact Nat.zero_le _⟩ gX12_lineAt_0.2.2.2.2.2.2.2.2.1 (Kors (Keqa fun a6978 => ?_) (Keqa fun a6978 => ?_))
    · have hq6979 := a6978
      have xl6980 : ks + 4 ≤ NXT bt ktp ks ∧ NXT bt ktp ks ≤ ktp := WRD.len hq6979 (by omega)
      refine lv_if_eq (tgt := 28) hx hb gX12_lineAt_0.2.2.2.2.2.2.2.2.2 (by decide) (fun c9 => absurd c9 (by decide)) (fun _ => ?_)
      refine lv_iconst (v := 1) hx hb gX12_lineAt_1.1 (by decide) ?_
      refine lv_goto (tgt := 57) hx hb gX12_lineAt_1.2.1 (by decide) ?_
      refine lv_istore_n (lv' := [(2, .int 1), (0, .ref h0), (1, .int (nI (6 * kl)))]) hx hb gX12_lineAt_2.2.2.2.2.2.1 rfl hl (by decide) rfl (fun ls hl => ?_)
      refine lv_aload_n hx hb gX12_lineAt_2.2.2.2.2.2.2.1 rfl (lv_at1 hl) ?_
      refine lv_iload_n hx hb gX12_lineAt_2.2.2.2.2.2.2.2.1 rfl (lv_at0 hl) ?_
      refine lv_if_lt (tgt := 67) hx hb gX12_lineAt_2.2.2.2.2.2.2.2.2.1 (by decide) (fun c9 => absurd c9 (by decide)) (fun _ => ?_)
      refine lv_iconst (v := 1) hx hb gX12_lineAt_2.2.2.2.2.2.2.2.2.2 (by decide) ?_
      refine lv_goto (tgt := 68) hx hb gX12_lineAt_3.1 (by decide) ?_
      refine vV (wr := [(nc, iA G 100 fnc), (nl, iA G 54 fnl), (nF, sA G 5 (FCT K))]) hC hK hl hP hD hS hA (m_need1X l G h0 nw nk mhasKept nt ktp nr mrowMany mroundOf mroundFrom mouts nm mfromHour mtoHour ns ks 0 (nI kc) (nI kl) nl nc nF np ntr nb mbestCost nso nsi nit nsh nsf nss nrc mtraced mdealer mnumber mwhose msize misParted fnt bt (htp) (hks) (hFB)) si_X12_236 [0, 1] [2, 3, 4] sm_0_1 fm_0_1 nd_0_1 sm_2_3_4 nd_2_3_4 dj_0_1__2_3_4 rfl rfl rfl rfl rfl (Nat.le_of_ble_eq_true rfl) rm_32_4_2 ⟨Nat.le_of_ble_eq_true rfl, Nat.le_of_ble_eq_true rfl⟩ gX12_lineAt_3.2.2.1 (fun u6982 H locs hr6981 hP hD hS => ?_)
      refine Kpdr (ws := [(nc, iA G 100 fnc), (nl, iA G 54 fnl), (nF, sA G 5 (FCT K)), (h0, oX12 nw nk mhasKept nt (nI ktp) nr mrowMany mroundOf mroundFrom mouts nm mfromHour mtoHour ns (nI (NXT bt ktp ks)) (nI (TKE bt ktp (NXT bt ktp ks))) (nI (TKN bt ktp (NXT bt ktp ks))) 0 0 (nI kc) (nI kl) nl nc nF np ntr nb mbestCost nso nsi nit nsh nsf nss nrc mtraced mdealer mnumber mwhose msize misParted), (nt, iA G 240 fnt)]) hP hD (fun hP hD => ?_)
      have xn6983 := NXT.ge (bt := bt) (n := ktp) (s := ks) (by omega)
      refine lv_aload_n hx hb gX12_lineAt_3.2.2.2.1 rfl (lv_at1 hl) ?_
      refine gf_X12_32 hC rfl hK hP 3 rfl rfl gX12_lineAt_3.2.2.2.2.1 ?_
      refine lv_iload_n hx hb gX12_lineAt_3.2.2.2.2.2.1 rfl (lv_at2 hl) ?_
      refine lv_iload_n hx hb gX12_lineAt_3.2.2.2.2.2.2.1 rfl (lv_at0 hl) ?_
      refine astN hC hK hP hD hS 1 (ws' := [(nc, iA G 100 fnc), (nl, iA G 54 (upd fnl (6 * kl) 1)), (nF, sA G 5 (FCT K)), (h0, oX12 nw nk mhasKept nt (nI ktp) nr mrowMany mroundOf mroundFrom mouts nm mfromHour mtoHour ns (nI (NXT bt ktp ks)) (nI (TKE bt ktp (NXT bt ktp ks))) (nI (TKN bt ktp (NXT bt ktp ks))) 0 0 (nI kc) (nI kl) nl nc nF np ntr nb mbestCost nso nsi nit nsh nsf nss nrc mtraced mdealer mnumber mwhose msize misParted), (nt, iA G 240 fnt)]) rfl (k := (6 * kl)) (by omega) (Nat.le_of_ble_eq_true rfl) (rfl) gX12_lineAt_3.2.2.2.2.2.2.2.1 (fun H locs hP hD hS => ?_)
      refine lv_aload_n hx hb gX12_lineAt_3.2.2.2.2.2.2.2.2.1 rfl (lv_at1 hl) ?_
      refine gf_X12_32 hC rfl hK hP 3 rfl rfl gX12_lineAt_3.2.2.2.2.2.2.2.2.2 ?_
      refine lv_iload_n hx hb gX12_lineAt_4.1 rfl (lv_at2 hl) ?_
      refine lv_iconst (v := 1) hx hb gX12_lineAt_4.2.1 (by decide) ?_
      refine lv_iadd hx hb gX12_lineAt_4.2.2.1 ?_
      refine eqi (x1 := nI (6 * kl + 1)) (nI_add (6 * kl) 1) ?_
      refine lv_aload_n hx hb gX12_lineAt_4.2.2.2.1 rfl (lv_at1 hl) ?_
      refine lv_iload_n hx hb gX12_lineAt_4.2.2.2.2.1 rfl (lv_at0 hl) ?_
      refine lv_if_eq (tgt := 95) hx hb gX12_lineAt_4.2.2.2.2.2.1 (by decide) (fun c9 => absurd c9 (by decide)) (fun _ => ?_)
      refine lv_iload_n hx hb gX12_lineAt_4.2.2.2.2.2.2.1 rfl (lv_at0 hl) ?_
      refine lv_iconst (v := 1) hx hb gX12_lineAt_4.2.2.2.2.2.2.2.1 (by decide) ?_
      refine lv_icmp_ne (tgt := 100) hx hb gX12_lineAt_4.2.2.2.2.2.2.2.2.1 (by decide) (fun c9 => absurd (by decide) c9) (fun _ => ?_)
      refine lv_bipush (v := 99) hx hb gX12_lineAt_4.2.2.2.2.2.2.2.2.2 (by decide) ?_
      refine lv_goto (tgt := 112) hx hb gX12_lineAt_5.1 (by decide) ?_
      refine iV (wr := [(nc, iA G 100 fnc), (nl, iA G 54 (upd fnl (6 * kl) 1)), (nF, sA G 5 (FCT K))]) hC hK hl hP hD hS hA (m_numberX l G h0 99 nw nk mhasKept nt ktp nr mrowMany mroundOf mroundFrom mouts nm mfromHour mtoHour ns (NXT bt ktp ks) 0 (nI kc) (nI kl) nl nc nF np ntr nb mbestCost nso nsi nit nsh nsf nss nrc mtraced mdealer mnumber mwhose msize misParted fnt bt (htp) (by omega) (hFB) (by omega)) si_X12_271 [3, 4] [0, 1, 2] sm_3_4 fm_3_4 nd_3_4 sm_0_1_2 nd_0_1_2 dj_3_4__0_1_2 rfl rfl rfl rfl rfl (Nat.le_of_ble_eq_true rfl) rm_32_5_5 ⟨Nat.le_of_ble_eq_true rfl, Nat.le_of_ble_eq_true rfl⟩ gX12_lineAt_5.2.2.2.2.2.2.2.1 (fun r6984 => Ktu2 fun ff16986 ks16987 => ?_)
      intro H locs hr6984 hP hD hS
      try dsimp only at hr6984
      refine Kpdr (ws := [(nc, iA G 100 fnc), (nl, iA G 54 (upd fnl (6 * kl) 1)), (nF, sA G 5 (FCT K)), (h0, oX12 nw nk mhasKept nt (nI ktp) nr mrowMany mroundOf mroundFrom mouts nm mfromHour mtoHour ns (nI ks16987) (nI (TKE bt ktp ks16987)) (nI (TKN bt ktp ks16987)) ff16986 0 (nI kc) (nI kl) nl nc nF np ntr nb mbestCost nso nsi nit nsh nsf nss nrc mtraced mdealer mnumber mwhose msize misParted), (nt, iA G 240 fnt)]) hP hD (fun hP hD => ?_)
      obtain ⟨hr6984, w6988⟩ := hr6984
      rcases w6988 with v6989 | v6990
      · obtain ⟨rfl, rfl, rfl, hq6991⟩ := v6989
        have xl6992 := NML.len hq6991 (by omega)
        refine astN hC hK hP hD hS 1 (ws' := [(nc, iA G 100 fnc), (nl, iA G 54 (upd (upd fnl (6 * kl) 1) (6 * kl + 1) (nI (NVL bt ktp (NXT bt ktp ks))))), (nF, sA G 5 (FCT K)), (h0, oX12 nw nk mhasKept nt (nI ktp) nr mrowMany mroundOf mroundFrom mouts nm mfromHour mtoHour ns (nI (NXT bt ktp (NXT bt ktp ks))) (nI (TKE bt ktp (NXT bt ktp (NXT bt ktp ks)))) (nI (TKN bt ktp (NXT bt ktp (NXT bt ktp ks)))) 0 0 (nI kc) (nI kl) nl nc nF np ntr nb mbestCost nso nsi nit nsh nsf nss nrc mtraced mdealer mnumber mwhose msize misParted), (nt, iA G 240 fnt)]) rfl (k := (6 * kl + 1)) (by omega) (Nat.le_of_ble_eq_true rfl) (rfl) gX12_lineAt_5.2.2.2.2.2.2.2.2.1 (fun H locs hP hD hS => ?_)
        refine lv_aload_n hx hb gX12_lineAt_5.2.2.2.2.2.2.2.2.2 rfl (lv_at1 hl) ?_
        refine gf_X12_32 hC rfl hK hP 3 rfl rfl gX12_lineAt_6.1 ?_
        refine lv_iload_n hx hb gX12_lineAt_6.2.1 rfl (lv_at2 hl) ?_
        refine lv_iconst (v := 2) hx hb gX12_lineAt_6.2.2.1 (by decide) ?_
        refine lv_iadd hx hb gX12_lineAt_6.2.2.2.1 ?_
        refine eqi (x1 := nI (6 * kl + 2)) (nI_add (6 * kl) 2) ?_
        refine lv_bipush (v := (-9)) hx hb gX12_lineAt_6.2.2.2.2.1 (by decide) ?_
        refine astN hC hK hP hD hS 1 (ws' := [(nc, iA G 100 fnc), (nl, iA G 54 (upd (upd (upd fnl (6 * kl) 1) (6 * kl + 1) (nI (NVL bt ktp (NXT bt ktp ks)))) (6 * kl + 2) (-9))), (nF, sA G 5 (FCT K)), (h0, oX12 nw nk mhasKept nt (nI ktp) nr mrowMany mroundOf mroundFrom mouts nm mfromHour mtoHour ns (nI (NXT bt ktp (NXT bt ktp ks))) (nI (TKE bt ktp (NXT bt ktp (NXT bt ktp ks)))) (nI (TKN bt ktp (NXT bt ktp (NXT bt ktp ks)))) 0 0 (nI kc) (nI kl) nl nc nF np ntr nb mbestCost nso nsi nit nsh nsf nss nrc mtraced mdealer mnumber mwhose msize misParted), (nt, iA G 240 fnt)]) rfl (k := (6 * kl + 2)) (by omega) (Nat.le_of_ble_eq_true rfl) (rfl) gX12_lineAt_6.2.2.2.2.2.1 (fun H locs hP hD hS => ?_)
        refine lv_aload_n hx hb gX12_lineAt_6.2.2.2.2.2.2.1 rfl (lv_at1 hl) ?_
        refine gf_X12_32 hC rfl hK hP 3 rfl rfl gX12_lineAt_6.2.2.2.2.2.2.2.1 ?_
        refine lv_iload_n hx hb gX12_lineAt_6.2.2.2.2.2.2.2.2.1 rfl (lv_at2 hl) ?_
        refine lv_iconst (v := 3) hx hb gX12_lineAt_6.2.2.2.2.2.2.2.2.2 (by decide) ?_
        refine lv_iadd hx hb gX12_lineAt_7.1 ?_
        refine eqi (x1 := nI (6 * kl + 3)) (nI_add (6 * kl) 3) ?_
        refine lv_bipush (v := (-9)) hx hb gX12_lineAt_7.2.1 (by decide) ?_
        refine astN hC hK hP hD hS 1 (ws' := [(nc, iA G 100 fnc), (nl, iA G 54 (upd (upd (upd (upd fnl (6 * kl) 1) (6 * kl + 1) (nI (NVL bt ktp (NXT bt ktp ks)))) (6 * kl + 2) (-9)) (6 * kl + 3) (-9))), (nF, sA G 5 (FCT K)), (h0, oX12 nw nk mhasKept nt (nI ktp) nr mrowMany mroundOf mroundFrom mouts nm mfromHour mtoHour ns (nI (NXT bt ktp (NXT bt ktp ks))) (nI (TKE bt ktp (NXT bt ktp (NXT bt ktp ks)))) (nI (TKN bt ktp (NXT bt ktp (NXT bt ktp ks)))) 0 0 (nI kc) (nI kl) nl nc nF np ntr nb mbestCost nso nsi nit nsh nsf nss nrc mtraced mdealer mnumber mwhose msize misParted), (nt, iA G 240 fnt)]) rfl (k := (6 * kl + 3)) (by omega) (Nat.le_of_ble_eq_true rfl) (rfl) gX12_lineAt_7.2.2.1 (fun H locs hP hD hS => ?_)
        refine lv_iload_n hx hb gX12_lineAt_7.2.2.2.1 rfl (lv_at0 hl) ?_
        refine lv_if_ne (tgt := 190) hx hb gX12_lineAt_7.2.2.2.2.1 (by decide) (fun _ => ?_) (fun c9 => absurd c9 (by decide))
        refine lv_iload_n hx hb gX12_lineAt_10.2.2.2.1 rfl (lv_at0 hl) ?_
        refine lv_iconst (v := 2) hx hb gX12_lineAt_10.2.2.2.2.1 (by decide) ?_
        refine lv_icmp_ne (tgt := 221) hx hb gX12_lineAt_10.2.2.2.2.2.1 (by decide) (fun _ => ?_) (fun c9 => absurd c9 (by decide))
        refine lv_aload_n hx hb gX12_lineAt_12.1 rfl (lv_at1 hl) ?_
        refine gf_X12_32 hC rfl hK hP 3 rfl rfl gX12_lineAt_12.2.1 ?_
        refine lv_iload_n hx hb gX12_lineAt_12.2.2.1 rfl (lv_at2 hl) ?_
        refine lv_iconst (v := 4) hx hb gX12_lineAt_12.2.2.2.1 (by decide) ?_
        refine lv_iadd hx hb gX12_lineAt_12.2.2.2.2.1 ?_
        refine eqi (x1 := nI (6 * kl + 4)) (nI_add (6 * kl) 4) ?_
        refine lv_aload_n hx hb gX12_lineAt_12.2.2.2.2.2.1 rfl (lv_at1 hl) ?_
        refine gf_X12_240 hC rfl hK hP 3 rfl rfl gX12_lineAt_12.2.2.2.2.2.2.1 ?_
        refine astN hC hK hP hD hS 1 (ws' := [(nc, iA G 100 fnc), (nl, iA G 54 (upd (upd (upd (upd (upd fnl (6 * kl) 1) (6 * kl + 1) (nI (NVL bt ktp (NXT bt ktp ks)))) (6 * kl + 2) (-9)) (6 * kl + 3) (-9)) (6 * kl + 4) (nI kc))), (nF, sA G 5 (FCT K)), (h0, oX12 nw nk mhasKept nt (nI ktp) nr mrowMany mroundOf mroundFrom mouts nm mfromHour mtoHour ns (nI (NXT bt ktp (NXT bt ktp ks))) (nI (TKE bt ktp (NXT bt ktp (NXT bt ktp ks)))) (nI (TKN bt ktp (NXT bt ktp (NXT bt ktp ks)))) 0 0 (nI kc) (nI kl) nl nc nF np ntr nb mbestCost nso nsi nit nsh nsf nss nrc mtraced mdealer mnumber mwhose msize misParted), (nt, iA G 240 fnt)]) rfl (k := (6 * kl + 4)) (by omega) (Nat.le_of_ble_eq_true rfl) (rfl) gX12_lineAt_12.2.2.2.2.2.2.2.1 (fun H locs hP hD hS => ?_)
        refine lv_iload_n hx hb gX12_lineAt_12.2.2.2.2.2.2.2.2.1 rfl (lv_at0 hl) ?_
        refine lv_iconst (v := 3) hx hb gX12_lineAt_12.2.2.2.2.2.2.2.2.2 (by decide) ?_
        refine lv_icmp_eq (tgt := 256) hx hb gX12_lineAt_13.1 (by decide) (fun c9 => absurd c9 (by decide)) (fun _ => ?_)
        refine lv_aload_n hx hb gX12_lineAt_13.2.1 rfl (lv_at1 hl) ?_
        refine va_ldcSw (index := 287) (tx := "if") hx hb hown (hO.2.2 0 (by decide)) gX12_lineAt_13.2.2.1 ?_
        refine pVo hO hS hC hK hl hP hD (m_isNameX l G K 0 h0 nw nk mhasKept nt ktp nr mrowMany mroundOf mroundFrom mouts nm mfromHour mtoHour ns (NXT bt ktp (NXT bt ktp ks)) 0 (nI kc) (nI kl) nl nc nF np ntr nb mbestCost nso nsi nit nsh nsf nss nrc mtraced mdealer mnumber mwhose msize misParted fnt bt (htp) (by omega) (hFB) ((by decide))) si_X12_248 [3, 4] sm_3_4 fm_3_4 nd_3_4 rfl rfl rfl rfl rfl (Nat.le_of_ble_eq_true rfl) rm_32_5_4 ⟨by first | exact Nat.le_of_ble_eq_true rfl | exact Nat.zero_le _, by first | exact Nat.le_of_ble_eq_true rfl | exact Nat.zero_le _⟩ gX12_lineAt_13.2.2.2.1 (Kors (Keqa fun a6994 => ?_) (Keqa fun a6994 => ?_))
        · have hq6995 := a6994
          have xl6996 : (NXT bt ktp (NXT bt ktp ks)) + 2 ≤ NXT bt ktp (NXT bt ktp (NXT bt ktp ks)) ∧ NXT bt ktp (NXT bt ktp (NXT bt ktp ks)) ≤ ktp := WRD.len hq6995 (by omega)
          refine lv_if_eq (tgt := 256) hx hb gX12_lineAt_13.2.2.2.2.1 (by decide) (fun c9 => absurd c9 (by decide)) (fun _ => ?_)
          refine lv_aload_n hx hb gX12_lineAt_13.2.2.2.2.2.1 rfl (lv_at1 hl) ?_
          refine vV (wr := [(nc, iA G 100 fnc), (nl, iA G 54 (upd (upd (upd (upd (upd fnl (6 * kl) 1) (6 * kl + 1) (nI (NVL bt ktp (NXT bt ktp ks)))) (6 * kl + 2) (-9)) (6 * kl + 3) (-9)) (6 * kl + 4) (nI kc))), (nF, sA G 5 (FCT K))]) hC hK hl hP hD hS hA (m_nextT l G h0 nw nk mhasKept nt ktp nr mrowMany mroundOf mroundFrom mouts nm mfromHour mtoHour ns (NXT bt ktp (NXT bt ktp ks)) 0 0 (nI kc) (nI kl) nl nc nF np ntr nb mbestCost nso nsi nit nsh nsf nss nrc mtraced mdealer mnumber mwhose msize misParted fnt bt (htp) (by omega) (hFB)) si_X12_233 [3, 4] [0, 1, 2] sm_3_4 fm_3_4 nd_3_4 sm_0_1_2 nd_0_1_2 dj_3_4__0_1_2 rfl rfl rfl rfl rfl (Nat.le_of_ble_eq_true rfl) rm_32_3_1 ⟨Nat.le_of_ble_eq_true rfl, Nat.le_of_ble_eq_true rfl⟩ gX12_lineAt_13.2.2.2.2.2.2.1 (fun u6998 H locs hr6997 hP hD hS => ?_)
          refine Kpdr (ws := [(nc, iA G 100 fnc), (nl, iA G 54 (upd (upd (upd (upd (upd fnl (6 * kl) 1) (6 * kl + 1) (nI (NVL bt ktp (NXT bt ktp ks)))) (6 * kl + 2) (-9)) (6 * kl + 3) (-9)) (6 * kl + 4) (nI kc))), (nF, sA G 5 (FCT K)), (h0, oX12 nw nk mhasKept nt (nI ktp) nr mrowMany mroundOf mroundFrom mouts nm mfromHour mtoHour ns (nI (NXT bt ktp (NXT bt ktp (NXT bt ktp ks)))) (nI (TKE bt ktp (NXT bt ktp (NXT bt ktp (NXT bt ktp ks))))) (nI (TKN bt ktp (NXT bt ktp (NXT bt ktp (NXT bt ktp ks))))) 0 0 (nI kc) (nI kl) nl nc nF np ntr nb mbestCost nso nsi nit nsh nsf nss nrc mtraced mdealer mnumber mwhose msize misParted), (nt, iA G 240 fnt)]) hP hD (fun hP hD => ?_)
          have xn6999 := NXT.ge (bt := bt) (n := ktp) (s := (NXT bt ktp (NXT bt ktp ks))) (by omega)
          refine lv_aload_n hx hb gX12_lineAt_13.2.2.2.2.2.2.2.1 rfl (lv_at1 hl) ?_
          refine vVo (wr := [(nl, iA G 54 (upd (upd (upd (upd (upd fnl (6 * kl) 1) (6 * kl + 1) (nI (NVL bt ktp (NXT bt ktp ks)))) (6 * kl + 2) (-9)) (6 * kl + 3) (-9)) (6 * kl + 4) (nI kc)))]) hO hC hK hl hP hD hS hA (m_either l G K 4 h0 nw nk mhasKept nt ktp nr mrowMany mroundOf mroundFrom mouts nm mfromHour mtoHour ns (NXT bt ktp (NXT bt ktp (NXT bt ktp ks))) 0 kc (nI kl) nl nc nF np ntr nb mbestCost nso nsi nit nsh nsf nss nrc mtraced mdealer mnumber mwhose msize misParted fnt fnc bt cs rs (by omega) (by omega) (hFB) (hST) (by omega) (by omega)) si_X12_268 [3, 4, 0, 2] [1] sm_3_4_0_2 fm_3_4_0_2 nd_3_4_0_2 sm_1 nd_1 dj_3_4_0_2__1 rfl rfl rfl rfl rfl (Nat.le_of_ble_eq_true rfl) ⟨Nat.le_of_ble_eq_true rfl, Nat.le_of_ble_eq_true rfl⟩ ⟨Nat.le_of_ble_eq_true rfl, Nat.le_of_ble_eq_true rfl⟩ gX12_lineAt_13.2.2.2.2.2.2.2.2.1 (Ktu6 fun ff17002 ks17003 kc17004 gnc7005 c17006 r17007 => ?_)
          intro H locs hr7000 hP hD hS
          try dsimp only at hr7000
          refine Kpdr (ws := [(nl, iA G 54 (upd (upd (upd (upd (upd fnl (6 * kl) 1) (6 * kl + 1) (nI (NVL bt ktp (NXT bt ktp ks)))) (6 * kl + 2) (-9)) (6 * kl + 3) (-9)) (6 * kl + 4) (nI kc))), (h0, oX12 nw nk mhasKept nt (nI ktp) nr mrowMany mroundOf mroundFrom mouts nm mfromHour mtoHour ns (nI ks17003) (nI (TKE bt ktp ks17003)) (nI (TKN bt ktp ks17003)) ff17002 0 (nI kc17004) (nI kl) nl nc nF np ntr nb mbestCost nso nsi nit nsh nsf nss nrc mtraced mdealer mnumber mwhose msize misParted), (nt, iA G 240 fnt), (nc, iA G 100 gnc7005), (nF, sA G 5 (FCT K))]) hP hD (fun hP hD => ?_)
          have w7008 := hr7000
          rcases w7008 with v7009 | v7010
          · obtain ⟨rfl, hq7011, hq7012⟩ := v7009
            have xl7013 := RT.lem hq7011 (by decide) (by omega)
            have xl7014 := hq7012.1
            refine lv_aload_n hx hb gX12_lineAt_13.2.2.2.2.2.2.2.2.2 rfl (lv_at1 hl) ?_
            refine gf_X12_32 hC rfl hK hP 1 rfl rfl gX12_lineAt_14.1 ?_
            refine lv_iload_n hx hb gX12_lineAt_14.2.1 rfl (lv_at2 hl) ?_
            refine lv_iconst (v := 5) hx hb gX12_lineAt_14.2.2.1 (by decide) ?_
            refine lv_iadd hx hb gX12_lineAt_14.2.2.2.1 ?_
            refine eqi (x1 := nI (6 * kl + 5)) (nI_add (6 * kl) 5) ?_
            refine lv_aload_n hx hb gX12_lineAt_14.2.2.2.2.1 rfl (lv_at1 hl) ?_
            refine gf_X12_240 hC rfl hK hP 1 rfl rfl gX12_lineAt_14.2.2.2.2.2.1 ?_
            refine astN hC hK hP hD hS 0 (ws' := [(nl, iA G 54 (upd (upd (upd (upd (upd (upd fnl (6 * kl) 1) (6 * kl + 1) (nI (NVL bt ktp (NXT bt ktp ks)))) (6 * kl + 2) (-9)) (6 * kl + 3) (-9)) (6 * kl + 4) (nI kc)) (6 * kl + 5) (nI kc17004))), (h0, oX12 nw nk mhasKept nt (nI ktp) nr mrowMany mroundOf mroundFrom mouts nm mfromHour mtoHour ns (nI ks17003) (nI (TKE bt ktp ks17003)) (nI (TKN bt ktp ks17003)) 0 0 (nI kc17004) (nI kl) nl nc nF np ntr nb mbestCost nso nsi nit nsh nsf nss nrc mtraced mdealer mnumber mwhose msize misParted), (nt, iA G 240 fnt), (nc, iA G 100 gnc7005), (nF, sA G 5 (FCT K))]) rfl (k := (6 * kl + 5)) (by omega) (Nat.le_of_ble_eq_true rfl) (rfl) gX12_lineAt_14.2.2.2.2.2.2.1 (fun H locs hP hD hS => ?_)
            refine lv_aload_n hx hb gX12_lineAt_14.2.2.2.2.2.2.2.1 rfl (lv_at1 hl) ?_
            refine lv_aload_n hx hb gX12_lineAt_14.2.2.2.2.2.2.2.2.1 rfl (lv_at1 hl) ?_
            refine lv_bipush (v := 59) hx hb gX12_lineAt_14.2.2.2.2.2.2.2.2.2 (by decide) ?_
            refine pV hC hK hl hP hD (m_isSignX l G h0 59 nw nk mhasKept nt ktp nr mrowMany mroundOf mroundFrom mouts nm mfromHour mtoHour ns ks17003 0 (nI kc17004) (nI kl) nl nc nF np ntr nb mbestCost nso nsi nit nsh nsf nss nrc mtraced mdealer mnumber mwhose msize misParted fnt bt (htp) (by omega) (hFB)) si_X12_262 [1, 2] sm_1_2 fm_1_2 nd_1_2 rfl rfl rfl rfl rfl (Nat.le_of_ble_eq_true rfl) rm_32_1_2 ⟨by first | exact Nat.le_of_ble_eq_true rfl | exact Nat.zero_le _, by first | exact Nat.le_of_ble_eq_true rfl | exact Nat.zero_le _⟩ gX12_lineAt_15.1 (Kors (Keqa fun a7016 => ?_) (Keqa fun a7016 => ?_))
            · have hq7017 := a7016
              have xl7018 := SGN.len hq7017 (by omega)
              refine vV (wr := [(nl, iA G 54 (upd (upd (upd (upd (upd (upd fnl (6 * kl) 1) (6 * kl + 1) (nI (NVL bt ktp (NXT bt ktp ks)))) (6 * kl + 2) (-9)) (6 * kl + 3) (-9)) (6 * kl + 4) (nI kc)) (6 * kl + 5) (nI kc17004))), (nc, iA G 100 gnc7005), (nF, sA G 5 (FCT K))]) hC hK hl hP hD hS hA (m_need1X l G h0 nw nk mhasKept nt ktp nr mrowMany mroundOf mroundFrom mouts nm mfromHour mtoHour ns ks17003 0 (nI kc17004) (nI kl) nl nc nF np ntr nb mbestCost nso nsi nit nsh nsf nss nrc mtraced mdealer mnumber mwhose msize misParted fnt bt (htp) (by omega) (hFB)) si_X12_236 [1, 2] [0, 3, 4] sm_1_2 fm_1_2 nd_1_2 sm_0_3_4 nd_0_3_4 dj_1_2__0_3_4 rfl rfl rfl rfl rfl (Nat.le_of_ble_eq_true rfl) rm_32_4_2 ⟨Nat.le_of_ble_eq_true rfl, Nat.le_of_ble_eq_true rfl⟩ gX12_lineAt_15.2.1 (fun u7020 H locs hr7019 hP hD hS => ?_)
              refine Kpdr (ws := [(nl, iA G 54 (upd (upd (upd (upd (upd (upd fnl (6 * kl) 1) (6 * kl + 1) (nI (NVL bt ktp (NXT bt ktp ks)))) (6 * kl + 2) (-9)) (6 * kl + 3) (-9)) (6 * kl + 4) (nI kc)) (6 * kl + 5) (nI kc17004))), (nc, iA G 100 gnc7005), (nF, sA G 5 (FCT K)), (h0, oX12 nw nk mhasKept nt (nI ktp) nr mrowMany mroundOf mroundFrom mouts nm mfromHour mtoHour ns (nI (NXT bt ktp ks17003)) (nI (TKE bt ktp (NXT bt ktp ks17003))) (nI (TKN bt ktp (NXT bt ktp ks17003))) 0 0 (nI kc17004) (nI kl) nl nc nF np ntr nb mbestCost nso nsi nit nsh nsf nss nrc mtraced mdealer mnumber mwhose msize misParted), (nt, iA G 240 fnt)]) hP hD (fun hP hD => ?_)
              have xn7021 := NXT.ge (bt := bt) (n := ktp) (s := ks17003) (by omega)
              refine toQ hQ0 ?_
              exact RV hC hP hD hS [3, 4, 1, 0, 2] (0, (NXT bt ktp ks17003), kc17004, gnc7005, upd (upd (upd (upd (upd (upd fnl (6 * kl) 1) (6 * kl + 1) (nI (NVL bt ktp (NXT bt ktp ks)))) (6 * kl + 2) (-9)) (6 * kl + 3) (-9)) (6 * kl + 4) (nI kc)) (6 * kl + 5) (nI kc17004), (1, (nI (NVL bt ktp (NXT bt ktp ks))), (-9), (-9), 1, cs.length, c17006.length, rs.length, r17007.length), c17006, r17007) rfl rfl (by decide) (Or.inl ⟨rfl, Or.inr ⟨1, SRT.y (k := 1) (by decide) hq6979, Or.inr ⟨(NXT bt ktp (NXT bt ktp ks)), (nI (NVL bt ktp (NXT bt ktp ks))), (-9), (-9), HDQ.a1 (so := 1) (M := 99) rfl (by decide) hq6991, Or.inr ⟨⟨by decide, hq6995⟩, Or.inr ⟨ks17003, c17006, r17007, hq7011, Or.inr ⟨hq7017, rfl⟩⟩⟩⟩⟩, hq7012, (by rw [hs1, hq7012.1]; exact ⟨fun j hj => (upd_ne (by omega)).trans ((upd_ne (by omega)).trans ((upd_ne (by omega)).trans ((upd_ne (by omega)).trans ((upd_ne (by omega)).trans ((upd_ne (by omega)).trans (rfl)))))), (upd_ne (by omega)).trans ((upd_ne (by omega)).trans ((upd_ne (by omega)).trans ((upd_ne (by omega)).trans ((upd_ne (by omega)).trans (upd_eq (by omega)))))), (upd_ne (by omega)).trans ((upd_ne (by omega)).trans ((upd_ne (by omega)).trans ((upd_ne (by omega)).trans (upd_eq (by omega))))), (upd_ne (by omega)).trans ((upd_ne (by omega)).trans ((upd_ne (by omega)).trans (upd_eq (by omega)))), (upd_ne (by omega)).trans ((upd_ne (by omega)).trans (upd_eq (by omega))), (upd_ne (by omega)).trans (upd_eq (by omega)), upd_eq (by omega), fun h9 => absurd (show (1 : Nat) = 0 from h9) (by decide), fun _ => (by (try dsimp only); omega), Nat.le_refl _, (by (try dsimp only); omega)⟩), by (try dsimp only); omega, by (try dsimp only); omega⟩) gX12_lineAt_15.2.2
            · have hq7022 := a7016
              refine vV (wr := [(nl, iA G 54 (upd (upd (upd (upd (upd (upd fnl (6 * kl) 1) (6 * kl + 1) (nI (NVL bt ktp (NXT bt ktp ks)))) (6 * kl + 2) (-9)) (6 * kl + 3) (-9)) (6 * kl + 4) (nI kc)) (6 * kl + 5) (nI kc17004))), (nt, iA G 240 fnt), (nc, iA G 100 gnc7005), (nF, sA G 5 (FCT K))]) hC hK hl hP hD hS hA (m_need0 l G h0 nw nk mhasKept nt (nI ktp) nr mrowMany mroundOf mroundFrom mouts nm mfromHour mtoHour ns (nI ks17003) (nI (TKE bt ktp ks17003)) (nI (TKN bt ktp ks17003)) 0 (nI kc17004) (nI kl) nl nc nF np ntr nb mbestCost nso nsi nit nsh nsf nss nrc mtraced mdealer mnumber mwhose msize misParted) si_X12_236 [1] [0, 2, 3, 4] sm_1 fm_1 nd_1 sm_0_2_3_4 nd_0_2_3_4 dj_1__0_2_3_4 rfl rfl rfl rfl rfl (Nat.le_of_ble_eq_true rfl) rm_32_4_2 ⟨Nat.le_of_ble_eq_true rfl, Nat.le_of_ble_eq_true rfl⟩ gX12_lineAt_15.2.1 (fun u7024 H locs hr7023 hP hD hS => ?_)
              refine Kpdr (ws := [(nl, iA G 54 (upd (upd (upd (upd (upd (upd fnl (6 * kl) 1) (6 * kl + 1) (nI (NVL bt ktp (NXT bt ktp ks)))) (6 * kl + 2) (-9)) (6 * kl + 3) (-9)) (6 * kl + 4) (nI kc)) (6 * kl + 5) (nI kc17004))), (nt, iA G 240 fnt), (nc, iA G 100 gnc7005), (nF, sA G 5 (FCT K)), (h0, oX12 nw nk mhasKept nt (nI ktp) nr mrowMany mroundOf mroundFrom mouts nm mfromHour mtoHour ns (nI ks17003) (nI (TKE bt ktp ks17003)) (nI (TKN bt ktp ks17003)) 1 0 (nI kc17004) (nI kl) nl nc nF np ntr nb mbestCost nso nsi nit nsh nsf nss nrc mtraced mdealer mnumber mwhose msize misParted)]) hP hD (fun hP hD => ?_)
              refine toQ hQ0 ?_
              exact RV hC hP hD hS [4, 1, 2, 0, 3] (1, ks17003, kc17004, gnc7005, upd (upd (upd (upd (upd (upd fnl (6 * kl) 1) (6 * kl + 1) (nI (NVL bt ktp (NXT bt ktp ks)))) (6 * kl + 2) (-9)) (6 * kl + 3) (-9)) (6 * kl + 4) (nI kc)) (6 * kl + 5) (nI kc17004), LN0, [], []) rfl rfl (by decide) (Or.inr ⟨rfl, Or.inr ⟨1, SRT.y (k := 1) (by decide) hq6979, Or.inr ⟨(NXT bt ktp (NXT bt ktp ks)), (nI (NVL bt ktp (NXT bt ktp ks))), (-9), (-9), HDQ.a1 (so := 1) (M := 99) rfl (by decide) hq6991, Or.inr ⟨⟨by decide, hq6995⟩, Or.inr ⟨ks17003, c17006, r17007, hq7011, Or.inl ⟨hq7022, rfl⟩⟩⟩⟩⟩, by (try dsimp only); omega⟩) gX12_lineAt_15.2.2
          · obtain ⟨rfl, hq7025, hq7026⟩ := v7010
            refine lv_aload_n hx hb gX12_lineAt_13.2.2.2.2.2.2.2.2.2 rfl (lv_at1 hl) ?_
            refine gf_X12_32 hC rfl hK hP 1 rfl rfl gX12_lineAt_14.1 ?_
            refine lv_iload_n hx hb gX12_lineAt_14.2.1 rfl (lv_at2 hl) ?_
            refine lv_iconst (v := 5) hx hb gX12_lineAt_14.2.2.1 (by decide) ?_
            refine lv_iadd hx hb gX12_lineAt_14.2.2.2.1 ?_
            refine eqi (x1 := nI (6 * kl + 5)) (nI_add (6 * kl) 5) ?_
            refine lv_aload_n hx hb gX12_lineAt_14.2.2.2.2.1 rfl (lv_at1 hl) ?_
            refine gf_X12_240 hC rfl hK hP 1 rfl rfl gX12_lineAt_14.2.2.2.2.2.1 ?_
            refine astN hC hK hP hD hS 0 (ws' := [(nl, iA G 54 (upd (upd (upd (upd (upd (upd fnl (6 * kl) 1) (6 * kl + 1) (nI (NVL bt ktp (NXT bt ktp ks)))) (6 * kl + 2) (-9)) (6 * kl + 3) (-9)) (6 * kl + 4) (nI kc)) (6 * kl + 5) (nI kc17004))), (h0, oX12 nw nk mhasKept nt (nI ktp) nr mrowMany mroundOf mroundFrom mouts nm mfromHour mtoHour ns (nI ks17003) (nI (TKE bt ktp ks17003)) (nI (TKN bt ktp ks17003)) 1 0 (nI kc17004) (nI kl) nl nc nF np ntr nb mbestCost nso nsi nit nsh nsf nss nrc mtraced mdealer mnumber mwhose msize misParted), (nt, iA G 240 fnt), (nc, iA G 100 gnc7005), (nF, sA G 5 (FCT K))]) rfl (k := (6 * kl + 5)) (by omega) (Nat.le_of_ble_eq_true rfl) (rfl) gX12_lineAt_14.2.2.2.2.2.2.1 (fun H locs hP hD hS => ?_)
            refine lv_aload_n hx hb gX12_lineAt_14.2.2.2.2.2.2.2.1 rfl (lv_at1 hl) ?_
            refine lv_aload_n hx hb gX12_lineAt_14.2.2.2.2.2.2.2.2.1 rfl (lv_at1 hl) ?_
            refine lv_bipush (v := 59) hx hb gX12_lineAt_14.2.2.2.2.2.2.2.2.2 (by decide) ?_
            refine pV hC hK hl hP hD (m_isSignF l G h0 59 nw nk mhasKept nt (nI ktp) nr mrowMany mroundOf mroundFrom mouts nm mfromHour mtoHour ns (nI ks17003) (nI (TKE bt ktp ks17003)) (nI (TKN bt ktp ks17003)) 0 (nI kc17004) (nI kl) nl nc nF np ntr nb mbestCost nso nsi nit nsh nsf nss nrc mtraced mdealer mnumber mwhose msize misParted) si_X12_262 [1] sm_1 fm_1 nd_1 rfl rfl rfl rfl rfl (Nat.le_of_ble_eq_true rfl) rm_32_1_2 ⟨by first | exact Nat.le_of_ble_eq_true rfl | exact Nat.zero_le _, by first | exact Nat.le_of_ble_eq_true rfl | exact Nat.zero_le _⟩ gX12_lineAt_15.1 (Keqr ?_)
            refine vV (wr := [(nl, iA G 54 (upd (upd (upd (upd (upd (upd fnl (6 * kl) 1) (6 * kl + 1) (nI (NVL bt ktp (NXT bt ktp ks)))) (6 * kl + 2) (-9)) (6 * kl + 3) (-9)) (6 * kl + 4) (nI kc)) (6 * kl + 5) (nI kc17004))), (nt, iA G 240 fnt), (nc, iA G 100 gnc7005), (nF, sA G 5 (FCT K))]) hC hK hl hP hD hS hA (m_needF l G h0 0 nw nk mhasKept nt (nI ktp) nr mrowMany mroundOf mroundFrom mouts nm mfromHour mtoHour ns (nI ks17003) (nI (TKE bt ktp ks17003)) (nI (TKN bt ktp ks17003)) 0 (nI kc17004) (nI kl) nl nc nF np ntr nb mbestCost nso nsi nit nsh nsf nss nrc mtraced mdealer mnumber mwhose msize misParted) si_X12_236 [1] [0, 2, 3, 4] sm_1 fm_1 nd_1 sm_0_2_3_4 nd_0_2_3_4 dj_1__0_2_3_4 rfl rfl rfl rfl rfl (Nat.le_of_ble_eq_true rfl) rm_32_4_2 ⟨Nat.le_of_ble_eq_true rfl, Nat.le_of_ble_eq_true rfl⟩ gX12_lineAt_15.2.1 (fun u7030 H locs hr7029 hP hD hS => ?_)
            refine Kpdr (ws := [(nl, iA G 54 (upd (upd (upd (upd (upd (upd fnl (6 * kl) 1) (6 * kl + 1) (nI (NVL bt ktp (NXT bt ktp ks)))) (6 * kl + 2) (-9)) (6 * kl + 3) (-9)) (6 * kl + 4) (nI kc)) (6 * kl + 5) (nI kc17004))), (nt, iA G 240 fnt), (nc, iA G 100 gnc7005), (nF, sA G 5 (FCT K)), (h0, oX12 nw nk mhasKept nt (nI ktp) nr mrowMany mroundOf mroundFrom mouts nm mfromHour mtoHour ns (nI ks17003) (nI (TKE bt ktp ks17003)) (nI (TKN bt ktp ks17003)) 1 0 (nI kc17004) (nI kl) nl nc nF np ntr nb mbestCost nso nsi nit nsh nsf nss nrc mtraced mdealer mnumber mwhose msize misParted)]) hP hD (fun hP hD => ?_)
            refine toQ hQ0 ?_
            exact RV hC hP hD hS [4, 1, 2, 0, 3] (1, ks17003, kc17004, gnc7005, upd (upd (upd (upd (upd (upd fnl (6 * kl) 1) (6 * kl + 1) (nI (NVL bt ktp (NXT bt ktp ks)))) (6 * kl + 2) (-9)) (6 * kl + 3) (-9)) (6 * kl + 4) (nI kc)) (6 * kl + 5) (nI kc17004), LN0, [], []) rfl rfl (by decide) (Or.inr ⟨rfl, Or.inr ⟨1, SRT.y (k := 1) (by decide) hq6979, Or.inr ⟨(NXT bt ktp (NXT bt ktp ks)), (nI (NVL bt ktp (NXT bt ktp ks))), (-9), (-9), HDQ.a1 (so := 1) (M := 99) rfl (by decide) hq6991, Or.inr ⟨⟨by decide, hq6995⟩, Or.inl ⟨_, hq7025, rfl⟩⟩⟩⟩, by (try dsimp only); omega⟩) gX12_lineAt_15.2.2
        · have hq7031 := a6994
          refine lv_if_eq (tgt := 256) hx hb gX12_lineAt_13.2.2.2.2.1 (by decide) (fun _ => ?_) (fun c9 => absurd (by decide) c9)
          refine lv_aload_n hx hb gX12_lineAt_13.2.2.2.2.2.2.2.2.2 rfl (lv_at1 hl) ?_
          refine gf_X12_32 hC rfl hK hP 3 rfl rfl gX12_lineAt_14.1 ?_
          refine lv_iload_n hx hb gX12_lineAt_14.2.1 rfl (lv_at2 hl) ?_
          refine lv_iconst (v := 5) hx hb gX12_lineAt_14.2.2.1 (by decide) ?_
          refine lv_iadd hx hb gX12_lineAt_14.2.2.2.1 ?_
          refine eqi (x1 := nI (6 * kl + 5)) (nI_add (6 * kl) 5) ?_
          refine lv_aload_n hx hb gX12_lineAt_14.2.2.2.2.1 rfl (lv_at1 hl) ?_
          refine gf_X12_240 hC rfl hK hP 3 rfl rfl gX12_lineAt_14.2.2.2.2.2.1 ?_
          refine astN hC hK hP hD hS 1 (ws' := [(nc, iA G 100 fnc), (nl, iA G 54 (upd (upd (upd (upd (upd (upd fnl (6 * kl) 1) (6 * kl + 1) (nI (NVL bt ktp (NXT bt ktp ks)))) (6 * kl + 2) (-9)) (6 * kl + 3) (-9)) (6 * kl + 4) (nI kc)) (6 * kl + 5) (nI kc))), (nF, sA G 5 (FCT K)), (h0, oX12 nw nk mhasKept nt (nI ktp) nr mrowMany mroundOf mroundFrom mouts nm mfromHour mtoHour ns (nI (NXT bt ktp (NXT bt ktp ks))) (nI (TKE bt ktp (NXT bt ktp (NXT bt ktp ks)))) (nI (TKN bt ktp (NXT bt ktp (NXT bt ktp ks)))) 0 0 (nI kc) (nI kl) nl nc nF np ntr nb mbestCost nso nsi nit nsh nsf nss nrc mtraced mdealer mnumber mwhose msize misParted), (nt, iA G 240 fnt)]) rfl (k := (6 * kl + 5)) (by omega) (Nat.le_of_ble_eq_true rfl) (rfl) gX12_lineAt_14.2.2.2.2.2.2.1 (fun H locs hP hD hS => ?_)
          refine lv_aload_n hx hb gX12_lineAt_14.2.2.2.2.2.2.2.1 rfl (lv_at1 hl) ?_
          refine lv_aload_n hx hb gX12_lineAt_14.2.2.2.2.2.2.2.2.1 rfl (lv_at1 hl) ?_
          refine lv_bipush (v := 59) hx hb gX12_lineAt_14.2.2.2.2.2.2.2.2.2 (by decide) ?_
          refine pV hC hK hl hP hD (m_isSignX l G h0 59 nw nk mhasKept nt ktp nr mrowMany mroundOf mroundFrom mouts nm mfromHour mtoHour ns (NXT bt ktp (NXT bt ktp ks)) 0 (nI kc) (nI kl) nl nc nF np ntr nb mbestCost nso nsi nit nsh nsf nss nrc mtraced mdealer mnumber mwhose msize misParted fnt bt (htp) (by omega) (hFB)) si_X12_262 [3, 4] sm_3_4 fm_3_4 nd_3_4 rfl rfl rfl rfl rfl (Nat.le_of_ble_eq_true rfl) rm_32_1_2 ⟨by first | exact Nat.le_of_ble_eq_true rfl | exact Nat.zero_le _, by first | exact Nat.le_of_ble_eq_true rfl | exact Nat.zero_le _⟩ gX12_lineAt_15.1 (Kors (Keqa fun a7033 => ?_) (Keqa fun a7033 => ?_))
          · have hq7034 := a7033
            have xl7035 := SGN.len hq7034 (by omega)
            refine vV (wr := [(nc, iA G 100 fnc), (nl, iA G 54 (upd (upd (upd (upd (upd (upd fnl (6 * kl) 1) (6 * kl + 1) (nI (NVL bt ktp (NXT bt ktp ks)))) (6 * kl + 2) (-9)) (6 * kl + 3) (-9)) (6 * kl + 4) (nI kc)) (6 * kl + 5) (nI kc))), (nF, sA G 5 (FCT K))]) hC hK hl hP hD hS hA (m_need1X l G h0 nw nk mhasKept nt ktp nr mrowMany mroundOf mroundFrom mouts nm mfromHour mtoHour ns (NXT bt ktp (NXT bt ktp ks)) 0 (nI kc) (nI kl) nl nc nF np ntr nb mbestCost nso nsi nit nsh nsf nss nrc mtraced mdealer mnumber mwhose msize misParted fnt bt (htp) (by omega) (hFB)) si_X12_236 [3, 4] [0, 1, 2] sm_3_4 fm_3_4 nd_3_4 sm_0_1_2 nd_0_1_2 dj_3_4__0_1_2 rfl rfl rfl rfl rfl (Nat.le_of_ble_eq_true rfl) rm_32_4_2 ⟨Nat.le_of_ble_eq_true rfl, Nat.le_of_ble_eq_true rfl⟩ gX12_lineAt_15.2.1 (fun u7037 H locs hr7036 hP hD hS => ?_)
            refine Kpdr (ws := [(nc, iA G 100 fnc), (nl, iA G 54 (upd (upd (upd (upd (upd (upd fnl (6 * kl) 1) (6 * kl + 1) (nI (NVL bt ktp (NXT bt ktp ks)))) (6 * kl + 2) (-9)) (6 * kl + 3) (-9)) (6 * kl + 4) (nI kc)) (6 * kl + 5) (nI kc))), (nF, sA G 5 (FCT K)), (h0, oX12 nw nk mhasKept nt (nI ktp) nr mrowMany mroundOf mroundFrom mouts nm mfromHour mtoHour ns (nI (NXT bt ktp (NXT bt ktp (NXT bt ktp ks)))) (nI (TKE bt ktp (NXT bt ktp (NXT bt ktp (NXT bt ktp ks))))) (nI (TKN bt ktp (NXT bt ktp (NXT bt ktp (NXT bt ktp ks))))) 0 0 (nI kc) (nI kl) nl nc nF np ntr nb mbestCost nso nsi nit nsh nsf nss nrc mtraced mdealer mnumber mwhose msize misParted), (nt, iA G 240 fnt)]) hP hD (fun hP hD => ?_)
            have xn7038 := NXT.ge (bt := bt) (n := ktp) (s := (NXT bt ktp (NXT bt ktp ks))) (by omega)
            refine toQ hQ0 ?_
            exact RV hC hP hD hS [3, 4, 0, 1, 2] (0, (NXT bt ktp (NXT bt ktp (NXT bt ktp ks))), kc, fnc, upd (upd (upd (upd (upd (upd fnl (6 * kl) 1) (6 * kl + 1) (nI (NVL bt ktp (NXT bt ktp ks)))) (6 * kl + 2) (-9)) (6 * kl + 3) (-9)) (6 * kl + 4) (nI kc)) (6 * kl + 5) (nI kc), (1, (nI (NVL bt ktp (NXT bt ktp ks))), (-9), (-9), 0, cs.length, cs.length, rs.length, rs.length), cs, rs) rfl rfl (by decide) (Or.inl ⟨rfl, Or.inr ⟨1, SRT.y (k := 1) (by decide) hq6979, Or.inr ⟨(NXT bt ktp (NXT bt ktp ks)), (nI (NVL bt ktp (NXT bt ktp ks))), (-9), (-9), HDQ.a1 (so := 1) (M := 99) rfl (by decide) hq6991, Or.inl ⟨(fun h9 => hq7031 h9.2), Or.inr ⟨hq7034, rfl⟩⟩⟩⟩, hST, (by rw [hs1]; exact ⟨fun j hj => (upd_ne (by omega)).trans ((upd_ne (by omega)).trans ((upd_ne (by omega)).trans ((upd_ne (by omega)).trans ((upd_ne (by omega)).trans ((upd_ne (by omega)).trans (rfl)))))), (upd_ne (by omega)).trans ((upd_ne (by omega)).trans ((upd_ne (by omega)).trans ((upd_ne (by omega)).trans ((upd_ne (by omega)).trans (upd_eq (by omega)))))), (upd_ne (by omega)).trans ((upd_ne (by omega)).trans ((upd_ne (by omega)).trans ((upd_ne (by omega)).trans (upd_eq (by omega))))), (upd_ne (by omega)).trans ((upd_ne (by omega)).trans ((upd_ne (by omega)).trans (upd_eq (by omega)))), (upd_ne (by omega)).trans ((upd_ne (by omega)).trans (upd_eq (by omega))), (upd_ne (by omega)).trans (upd_eq (by omega)), upd_eq (by omega), fun _ => rfl, fun h9 => absurd (show (0 : Nat) = 1 from h9) (by decide), Nat.zero_le _, (by (try dsimp only); omega)⟩), by (try dsimp only); omega, by (try dsimp only); omega⟩) gX12_lineAt_15.2.2
          · have hq7039 := a7033
            refine vV (wr := [(nc, iA G 100 fnc), (nl, iA G 54 (upd (upd (upd (upd (upd (upd fnl (6 * kl) 1) (6 * kl + 1) (nI (NVL bt ktp (NXT bt ktp ks)))) (6 * kl + 2) (-9)) (6 * kl + 3) (-9)) (6 * kl + 4) (nI kc)) (6 * kl + 5) (nI kc))), (nF, sA G 5 (FCT K)), (nt, iA G 240 fnt)]) hC hK hl hP hD hS hA (m_need0 l G h0 nw nk mhasKept nt (nI ktp) nr mrowMany mroundOf mroundFrom mouts nm mfromHour mtoHour ns (nI (NXT bt ktp (NXT bt ktp ks))) (nI (TKE bt ktp (NXT bt ktp (NXT bt ktp ks)))) (nI (TKN bt ktp (NXT bt ktp (NXT bt ktp ks)))) 0 (nI kc) (nI kl) nl nc nF np ntr nb mbestCost nso nsi nit nsh nsf nss nrc mtraced mdealer mnumber mwhose msize misParted) si_X12_236 [3] [0, 1, 2, 4] sm_3 fm_3 nd_3 sm_0_1_2_4 nd_0_1_2_4 dj_3__0_1_2_4 rfl rfl rfl rfl rfl (Nat.le_of_ble_eq_true rfl) rm_32_4_2 ⟨Nat.le_of_ble_eq_true rfl, Nat.le_of_ble_eq_true rfl⟩ gX12_lineAt_15.2.1 (fun u7041 H locs hr7040 hP hD hS => ?_)
            refine Kpdr (ws := [(nc, iA G 100 fnc), (nl, iA G 54 (upd (upd (upd (upd (upd (upd fnl (6 * kl) 1) (6 * kl + 1) (nI (NVL bt ktp (NXT bt ktp ks)))) (6 * kl + 2) (-9)) (6 * kl + 3) (-9)) (6 * kl + 4) (nI kc)) (6 * kl + 5) (nI kc))), (nF, sA G 5 (FCT K)), (nt, iA G 240 fnt), (h0, oX12 nw nk mhasKept nt (nI ktp) nr mrowMany mroundOf mroundFrom mouts nm mfromHour mtoHour ns (nI (NXT bt ktp (NXT bt ktp ks))) (nI (TKE bt ktp (NXT bt ktp (NXT bt ktp ks)))) (nI (TKN bt ktp (NXT bt ktp (NXT bt ktp ks)))) 1 0 (nI kc) (nI kl) nl nc nF np ntr nb mbestCost nso nsi nit nsh nsf nss nrc mtraced mdealer mnumber mwhose msize misParted)]) hP hD (fun hP hD => ?_)
            refine toQ hQ0 ?_
            exact RV hC hP hD hS [4, 3, 0, 1, 2] (1, (NXT bt ktp (NXT bt ktp ks)), kc, fnc, upd (upd (upd (upd (upd (upd fnl (6 * kl) 1) (6 * kl + 1) (nI (NVL bt ktp (NXT bt ktp ks)))) (6 * kl + 2) (-9)) (6 * kl + 3) (-9)) (6 * kl + 4) (nI kc)) (6 * kl + 5) (nI kc), LN0, [], []) rfl rfl (by decide) (Or.inr ⟨rfl, Or.inr ⟨1, SRT.y (k := 1) (by decide) hq6979, Or.inr ⟨(NXT bt ktp (NXT bt ktp ks)), (nI (NVL bt ktp (NXT bt ktp ks))), (-9), (-9), HDQ.a1 (so := 1) (M := 99) rfl (by decide) hq6991, Or.inl ⟨(fun h9 => hq7031 h9.2), Or.inl ⟨hq7039, rfl⟩⟩⟩⟩, by (try dsimp only); omega⟩) gX12_lineAt_15.2.2
      · obtain ⟨rfl, rfl, hq7042⟩ := v6990
        refine astN hC hK hP hD hS 1 (ws' := [(nc, iA G 100 fnc), (nl, iA G 54 (upd (upd fnl (6 * kl) 1) (6 * kl + 1) r6984)), (nF, sA G 5 (FCT K)), (h0, oX12 nw nk mhasKept nt (nI ktp) nr mrowMany mroundOf mroundFrom mouts nm mfromHour mtoHour ns (nI (NXT bt ktp ks)) (nI (TKE bt ktp (NXT bt ktp ks))) (nI (TKN bt ktp (NXT bt ktp ks))) 1 0 (nI kc) (nI kl) nl nc nF np ntr nb mbestCost nso nsi nit nsh nsf nss nrc mtraced mdealer mnumber mwhose msize misParted), (nt, iA G 240 fnt)]) rfl (k := (6 * kl + 1)) (by omega) (Nat.le_of_ble_eq_true rfl) (rfl) gX12_lineAt_5.2.2.2.2.2.2.2.2.1 (fun H locs hP hD hS => ?_)
        refine lv_aload_n hx hb gX12_lineAt_5.2.2.2.2.2.2.2.2.2 rfl (lv_at1 hl) ?_
        refine gf_X12_32 hC rfl hK hP 3 rfl rfl gX12_lineAt_6.1 ?_
        refine lv_iload_n hx hb gX12_lineAt_6.2.1 rfl (lv_at2 hl) ?_
        refine lv_iconst (v := 2) hx hb gX12_lineAt_6.2.2.1 (by decide) ?_
        refine lv_iadd hx hb gX12_lineAt_6.2.2.2.1 ?_
        refine eqi (x1 := nI (6 * kl + 2)) (nI_add (6 * kl) 2) ?_
        refine lv_bipush (v := (-9)) hx hb gX12_lineAt_6.2.2.2.2.1 (by decide) ?_
        refine astN hC hK hP hD hS 1 (ws' := [(nc, iA G 100 fnc), (nl, iA G 54 (upd (upd (upd fnl (6 * kl) 1) (6 * kl + 1) r6984) (6 * kl + 2) (-9))), (nF, sA G 5 (FCT K)), (h0, oX12 nw nk mhasKept nt (nI ktp) nr mrowMany mroundOf mroundFrom mouts nm mfromHour mtoHour ns (nI (NXT bt ktp ks)) (nI (TKE bt ktp (NXT bt ktp ks))) (nI (TKN bt ktp (NXT bt ktp ks))) 1 0 (nI kc) (nI kl) nl nc nF np ntr nb mbestCost nso nsi nit nsh nsf nss nrc mtraced mdealer mnumber mwhose msize misParted), (nt, iA G 240 fnt)]) rfl (k := (6 * kl + 2)) (by omega) (Nat.le_of_ble_eq_true rfl) (rfl) gX12_lineAt_6.2.2.2.2.2.1 (fun H locs hP hD hS => ?_)
        refine lv_aload_n hx hb gX12_lineAt_6.2.2.2.2.2.2.1 rfl (lv_at1 hl) ?_
        refine gf_X12_32 hC rfl hK hP 3 rfl rfl gX12_lineAt_6.2.2.2.2.2.2.2.1 ?_
        refine lv_iload_n hx hb gX12_lineAt_6.2.2.2.2.2.2.2.2.1 rfl (lv_at2 hl) ?_
        refine lv_iconst (v := 3) hx hb gX12_lineAt_6.2.2.2.2.2.2.2.2.2 (by decide) ?_
        refine lv_iadd hx hb gX12_lineAt_7.1 ?_
        refine eqi (x1 := nI (6 * kl + 3)) (nI_add (6 * kl) 3) ?_
        refine lv_bipush (v := (-9)) hx hb gX12_lineAt_7.2.1 (by decide) ?_
        refine astN hC hK hP hD hS 1 (ws' := [(nc, iA G 100 fnc), (nl, iA G 54 (upd (upd (upd (upd fnl (6 * kl) 1) (6 * kl + 1) r6984) (6 * kl + 2) (-9)) (6 * kl + 3) (-9))), (nF, sA G 5 (FCT K)), (h0, oX12 nw nk mhasKept nt (nI ktp) nr mrowMany mroundOf mroundFrom mouts nm mfromHour mtoHour ns (nI (NXT bt ktp ks)) (nI (TKE bt ktp (NXT bt ktp ks))) (nI (TKN bt ktp (NXT bt ktp ks))) 1 0 (nI kc) (nI kl) nl nc nF np ntr nb mbestCost nso nsi nit nsh nsf nss nrc mtraced mdealer mnumber mwhose msize misParted), (nt, iA G 240 fnt)]) rfl (k := (6 * kl + 3)) (by omega) (Nat.le_of_ble_eq_true rfl) (rfl) gX12_lineAt_7.2.2.1 (fun H locs hP hD hS => ?_)
        refine lv_iload_n hx hb gX12_lineAt_7.2.2.2.1 rfl (lv_at0 hl) ?_
        refine lv_if_ne (tgt := 190) hx hb gX12_lineAt_7.2.2.2.2.1 (by decide) (fun _ => ?_) (fun c9 => absurd c9 (by decide))
        refine lv_iload_n hx hb gX12_lineAt_10.2.2.2.1 rfl (lv_at0 hl) ?_
        refine lv_iconst (v := 2) hx hb gX12_lineAt_10.2.2.2.2.1 (by decide) ?_
        refine lv_icmp_ne (tgt := 221) hx hb gX12_lineAt_10.2.2.2.2.2.1 (by decide) (fun _ => ?_) (fun c9 => absurd c9 (by decide))
        refine lv_aload_n hx hb gX12_lineAt_12.1 rfl (lv_at1 hl) ?_
        refine gf_X12_32 hC rfl hK hP 3 rfl rfl gX12_lineAt_12.2.1 ?_
        refine lv_iload_n hx hb gX12_lineAt_12.2.2.1 rfl (lv_at2 hl) ?_
        refine lv_iconst (v := 4) hx hb gX12_lineAt_12.2.2.2.1 (by decide) ?_
        refine lv_iadd hx hb gX12_lineAt_12.2.2.2.2.1 ?_
        refine eqi (x1 := nI (6 * kl + 4)) (nI_add (6 * kl) 4) ?_
        refine lv_aload_n hx hb gX12_lineAt_12.2.2.2.2.2.1 rfl (lv_at1 hl) ?_
        refine gf_X12_240 hC rfl hK hP 3 rfl rfl gX12_lineAt_12.2.2.2.2.2.2.1 ?_
        refine astN hC hK hP hD hS 1 (ws' := [(nc, iA G 100 fnc), (nl, iA G 54 (upd (upd (upd (upd (upd fnl (6 * kl) 1) (6 * kl + 1) r6984) (6 * kl + 2) (-9)) (6 * kl + 3) (-9)) (6 * kl + 4) (nI kc))), (nF, sA G 5 (FCT K)), (h0, oX12 nw nk mhasKept nt (nI ktp) nr mrowMany mroundOf mroundFrom mouts nm mfromHour mtoHour ns (nI (NXT bt ktp ks)) (nI (TKE bt ktp (NXT bt ktp ks))) (nI (TKN bt ktp (NXT bt ktp ks))) 1 0 (nI kc) (nI kl) nl nc nF np ntr nb mbestCost nso nsi nit nsh nsf nss nrc mtraced mdealer mnumber mwhose msize misParted), (nt, iA G 240 fnt)]) rfl (k := (6 * kl + 4)) (by omega) (Nat.le_of_ble_eq_true rfl) (rfl) gX12_lineAt_12.2.2.2.2.2.2.2.1 (fun H locs hP hD hS => ?_)
        refine lv_iload_n hx hb gX12_lineAt_12.2.2.2.2.2.2.2.2.1 rfl (lv_at0 hl) ?_
        refine lv_iconst (v := 3) hx hb gX12_lineAt_12.2.2.2.2.2.2.2.2.2 (by decide) ?_
        refine lv_icmp_eq (tgt := 256) hx hb gX12_lineAt_13.1 (by decide) (fun c9 => absurd c9 (by decide)) (fun _ => ?_)
        refine lv_aload_n hx hb gX12_lineAt_13.2.1 rfl (lv_at1 hl) ?_
        refine va_ldcSw (index := 287) (tx := "if") hx hb hown (hO.2.2 0 (by decide)) gX12_lineAt_13.2.2.1 ?_
        refine pVo hO hS hC hK hl hP hD (m_isNameF l G K 0 h0 nw nk mhasKept nt (nI ktp) nr mrowMany mroundOf mroundFrom mouts nm mfromHour mtoHour ns (nI (NXT bt ktp ks)) (nI (TKE bt ktp (NXT bt ktp ks))) (nI (TKN bt ktp (NXT bt ktp ks))) 0 (nI kc) (nI kl) nl nc nF np ntr nb mbestCost nso nsi nit nsh nsf nss nrc mtraced mdealer mnumber mwhose msize misParted ((by decide))) si_X12_248 [3] sm_3 fm_3 nd_3 rfl rfl rfl rfl rfl (Nat.le_of_ble_eq_true rfl) rm_32_5_4 ⟨by first | exact Nat.le_of_ble_eq_true rfl | exact Nat.zero_le _, by first | exact Nat.le_of_ble_eq_true rfl | exact Nat.zero_le _⟩ gX12_lineAt_13.2.2.2.1 (Keqr ?_)
        refine lv_if_eq (tgt := 256) hx hb gX12_lineAt_13.2.2.2.2.1 (by decide) (fun _ => ?_) (fun c9 => absurd (by decide) c9)
        refine lv_aload_n hx hb gX12_lineAt_13.2.2.2.2.2.2.2.2.2 rfl (lv_at1 hl) ?_
        refine gf_X12_32 hC rfl hK hP 3 rfl rfl gX12_lineAt_14.1 ?_
        refine lv_iload_n hx hb gX12_lineAt_14.2.1 rfl (lv_at2 hl) ?_
        refine lv_iconst (v := 5) hx hb gX12_lineAt_14.2.2.1 (by decide) ?_
        refine lv_iadd hx hb gX12_lineAt_14.2.2.2.1 ?_
        refine eqi (x1 := nI (6 * kl + 5)) (nI_add (6 * kl) 5) ?_
        refine lv_aload_n hx hb gX12_lineAt_14.2.2.2.2.1 rfl (lv_at1 hl) ?_
        refine gf_X12_240 hC rfl hK hP 3 rfl rfl gX12_lineAt_14.2.2.2.2.2.1 ?_
        refine astN hC hK hP hD hS 1 (ws' := [(nc, iA G 100 fnc), (nl, iA G 54 (upd (upd (upd (upd (upd (upd fnl (6 * kl) 1) (6 * kl + 1) r6984) (6 * kl + 2) (-9)) (6 * kl + 3) (-9)) (6 * kl + 4) (nI kc)) (6 * kl + 5) (nI kc))), (nF, sA G 5 (FCT K)), (h0, oX12 nw nk mhasKept nt (nI ktp) nr mrowMany mroundOf mroundFrom mouts nm mfromHour mtoHour ns (nI (NXT bt ktp ks)) (nI (TKE bt ktp (NXT bt ktp ks))) (nI (TKN bt ktp (NXT bt ktp ks))) 1 0 (nI kc) (nI kl) nl nc nF np ntr nb mbestCost nso nsi nit nsh nsf nss nrc mtraced mdealer mnumber mwhose msize misParted), (nt, iA G 240 fnt)]) rfl (k := (6 * kl + 5)) (by omega) (Nat.le_of_ble_eq_true rfl) (rfl) gX12_lineAt_14.2.2.2.2.2.2.1 (fun H locs hP hD hS => ?_)
        refine lv_aload_n hx hb gX12_lineAt_14.2.2.2.2.2.2.2.1 rfl (lv_at1 hl) ?_
        refine lv_aload_n hx hb gX12_lineAt_14.2.2.2.2.2.2.2.2.1 rfl (lv_at1 hl) ?_
        refine lv_bipush (v := 59) hx hb gX12_lineAt_14.2.2.2.2.2.2.2.2.2 (by decide) ?_
        refine pV hC hK hl hP hD (m_isSignF l G h0 59 nw nk mhasKept nt (nI ktp) nr mrowMany mroundOf mroundFrom mouts nm mfromHour mtoHour ns (nI (NXT bt ktp ks)) (nI (TKE bt ktp (NXT bt ktp ks))) (nI (TKN bt ktp (NXT bt ktp ks))) 0 (nI kc) (nI kl) nl nc nF np ntr nb mbestCost nso nsi nit nsh nsf nss nrc mtraced mdealer mnumber mwhose msize misParted) si_X12_262 [3] sm_3 fm_3 nd_3 rfl rfl rfl rfl rfl (Nat.le_of_ble_eq_true rfl) rm_32_1_2 ⟨by first | exact Nat.le_of_ble_eq_true rfl | exact Nat.zero_le _, by first | exact Nat.le_of_ble_eq_true rfl | exact Nat.zero_le _⟩ gX12_lineAt_15.1 (Keqr ?_)
        refine vV (wr := [(nc, iA G 100 fnc), (nl, iA G 54 (upd (upd (upd (upd (upd (upd fnl (6 * kl) 1) (6 * kl + 1) r6984) (6 * kl + 2) (-9)) (6 * kl + 3) (-9)) (6 * kl + 4) (nI kc)) (6 * kl + 5) (nI kc))), (nF, sA G 5 (FCT K)), (nt, iA G 240 fnt)]) hC hK hl hP hD hS hA (m_needF l G h0 0 nw nk mhasKept nt (nI ktp) nr mrowMany mroundOf mroundFrom mouts nm mfromHour mtoHour ns (nI (NXT bt ktp ks)) (nI (TKE bt ktp (NXT bt ktp ks))) (nI (TKN bt ktp (NXT bt ktp ks))) 0 (nI kc) (nI kl) nl nc nF np ntr nb mbestCost nso nsi nit nsh nsf nss nrc mtraced mdealer mnumber mwhose msize misParted) si_X12_236 [3] [0, 1, 2, 4] sm_3 fm_3 nd_3 sm_0_1_2_4 nd_0_1_2_4 dj_3__0_1_2_4 rfl rfl rfl rfl rfl (Nat.le_of_ble_eq_true rfl) rm_32_4_2 ⟨Nat.le_of_ble_eq_true rfl, Nat.le_of_ble_eq_true rfl⟩ gX12_lineAt_15.2.1 (fun u7048 H locs hr7047 hP hD hS => ?_)
        refine Kpdr (ws := [(nc, iA G 100 fnc), (nl, iA G 54 (upd (upd (upd (upd (upd (upd fnl (6 * kl) 1) (6 * kl + 1) r6984) (6 * kl + 2) (-9)) (6 * kl + 3) (-9)) (6 * kl + 4) (nI kc)) (6 * kl + 5) (nI kc))), (nF, sA G 5 (FCT K)), (nt, iA G 240 fnt), (h0, oX12 nw nk mhasKept nt (nI ktp) nr mrowMany mroundOf mroundFrom mouts nm mfromHour mtoHour ns (nI (NXT bt ktp ks)) (nI (TKE bt ktp (NXT bt ktp ks))) (nI (TKN bt ktp (NXT bt ktp ks))) 1 0 (nI kc) (nI kl) nl nc nF np ntr nb mbestCost nso nsi nit nsh nsf nss nrc mtraced mdealer mnumber mwhose msize misParted)]) hP hD (fun hP hD => ?_)
        refine toQ hQ0 ?_
        exact RV hC hP hD hS [4, 3, 0, 1, 2] (1, (NXT bt ktp ks), kc, fnc, upd (upd (upd (upd (upd (upd fnl (6 * kl) 1) (6 * kl + 1) r6984) (6 * kl + 2) (-9)) (6 * kl + 3) (-9)) (6 * kl + 4) (nI kc)) (6 * kl + 5) (nI kc), LN0, [], []) rfl rfl (by decide) (Or.inr ⟨rfl, Or.inr ⟨1, SRT.y (k := 1) (by decide) hq6979, Or.inl ⟨_, HDQ.a0 (so := 1) (M := 99) rfl hq7042, rfl⟩⟩, by (try dsimp only); omega⟩) gX12_lineAt_15.2.2
    · have hq7049 := a6978
      refine lv_if_eq (tgt := 28) hx hb gX12_lineAt_0.2.2.2.2.2.2.2.2.2 (by decide) (fun _ => ?_) (fun c9 => absurd (by decide) c9)
      refine lv_aload_n hx hb gX12_lineAt_1.2.2.1 rfl (lv_at0 hl) ?_
      refine va_ldcSw (index := 278) (tx := "ask") hx hb hown (hO.2.2 3 (by decide)) gX12_lineAt_1.2.2.2.1 ?_
      refine pVo hO hS hC hK hl hP hD (m_isNameX l G K 3 h0 nw nk mhasKept nt ktp nr mrowMany mroundOf mroundFrom mouts nm mfromHour mtoHour ns ks 0 (nI kc) (nI kl) nl nc nF np ntr nb mbestCost nso nsi nit nsh nsf nss nrc mtraced mdealer mnumber mwhose msize misParted fnt bt (htp) (hks) (hFB) ((by decide))) si_X12_248 [0, 1] sm_0_1 fm_0_1 nd_0_1 rfl rfl rfl rfl rfl (Nat.le_of_ble_eq_true rfl) rm_32_5_4 ⟨by first | exact Nat.le_of_ble_eq_true rfl | exact Nat.zero_le _, by first | exact Nat.le_of_ble_eq_true rfl | exact Nat.zero_le _⟩ gX12_lineAt_1.2.2.2.2.1 (Kors (Keqa fun a7051 => ?_) (Keqa fun a7051 => ?_))
      · have hq7052 := a7051
        have xl7053 : ks + 3 ≤ NXT bt ktp ks ∧ NXT bt ktp ks ≤ ktp := WRD.len hq7052 (by omega)
        refine lv_if_eq (tgt := 42) hx hb gX12_lineAt_1.2.2.2.2.2.1 (by decide) (fun c9 => absurd c9 (by decide)) (fun _ => ?_)
        refine lv_iconst (v := 2) hx hb gX12_lineAt_1.2.2.2.2.2.2.1 (by decide) ?_
        refine lv_goto (tgt := 57) hx hb gX12_lineAt_1.2.2.2.2.2.2.2.1 (by decide) ?_
        refine lv_istore_n (lv' := [(2, .int 2), (0, .ref h0), (1, .int (nI (6 * kl)))]) hx hb gX12_lineAt_2.2.2.2.2.2.1 rfl hl (by decide) rfl (fun ls hl => ?_)
        refine lv_aload_n hx hb gX12_lineAt_2.2.2.2.2.2.2.1 rfl (lv_at1 hl) ?_
        refine lv_iload_n hx hb gX12_lineAt_2.2.2.2.2.2.2.2.1 rfl (lv_at0 hl) ?_
        refine lv_if_lt (tgt := 67) hx hb gX12_lineAt_2.2.2.2.2.2.2.2.2.1 (by decide) (fun c9 => absurd c9 (by decide)) (fun _ => ?_)
        refine lv_iconst (v := 1) hx hb gX12_lineAt_2.2.2.2.2.2.2.2.2.2 (by decide) ?_
        refine lv_goto (tgt := 68) hx hb gX12_lineAt_3.1 (by decide) ?_
        refine vV (wr := [(nc, iA G 100 fnc), (nl, iA G 54 fnl), (nF, sA G 5 (FCT K))]) hC hK hl hP hD hS hA (m_need1X l G h0 nw nk mhasKept nt ktp nr mrowMany mroundOf mroundFrom mouts nm mfromHour mtoHour ns ks 0 (nI kc) (nI kl) nl nc nF np ntr nb mbestCost nso nsi nit nsh nsf nss nrc mtraced mdealer mnumber mwhose msize misParted fnt bt (htp) (hks) (hFB)) si_X12_236 [0, 1] [2, 3, 4] sm_0_1 fm_0_1 nd_0_1 sm_2_3_4 nd_2_3_4 dj_0_1__2_3_4 rfl rfl rfl rfl rfl (Nat.le_of_ble_eq_true rfl) rm_32_4_2 ⟨Nat.le_of_ble_eq_true rfl, Nat.le_of_ble_eq_true rfl⟩ gX12_lineAt_3.2.2.1 (fun u7055 H locs hr7054 hP hD hS => ?_)
        refine Kpdr (ws := [(nc, iA G 100 fnc), (nl, iA G 54 fnl), (nF, sA G 5 (FCT K)), (h0, oX12 nw nk mhasKept nt (nI ktp) nr mrowMany mroundOf mroundFrom mouts nm mfromHour mtoHour ns (nI (NXT bt ktp ks)) (nI (TKE bt ktp (NXT bt ktp ks))) (nI (TKN bt ktp (NXT bt ktp ks))) 0 0 (nI kc) (nI kl) nl nc nF np ntr nb mbestCost nso nsi nit nsh nsf nss nrc mtraced mdealer mnumber mwhose msize misParted), (nt, iA G 240 fnt)]) hP hD (fun hP hD => ?_)
        have xn7056 := NXT.ge (bt := bt) (n := ktp) (s := ks) (by omega)
        refine lv_aload_n hx hb gX12_lineAt_3.2.2.2.1 rfl (lv_at1 hl) ?_
        refine gf_X12_32 hC rfl hK hP 3 rfl rfl gX12_lineAt_3.2.2.2.2.1 ?_
        refine lv_iload_n hx hb gX12_lineAt_3.2.2.2.2.2.1 rfl (lv_at2 hl) ?_
        refine lv_iload_n hx hb gX12_lineAt_3.2.2.2.2.2.2.1 rfl (lv_at0 hl) ?_
        refine astN hC hK hP hD hS 1 (ws' := [(nc, iA G 100 fnc), (nl, iA G 54 (upd fnl (6 * kl) 2)), (nF, sA G 5 (FCT K)), (h0, oX12 nw nk mhasKept nt (nI ktp) nr mrowMany mroundOf mroundFrom mouts nm mfromHour mtoHour ns (nI (NXT bt ktp ks)) (nI (TKE bt ktp (NXT bt ktp ks))) (nI (TKN bt ktp (NXT bt ktp ks))) 0 0 (nI kc) (nI kl) nl nc nF np ntr nb mbestCost nso nsi nit nsh nsf nss nrc mtraced mdealer mnumber mwhose msize misParted), (nt, iA G 240 fnt)]) rfl (k := (6 * kl)) (by omega) (Nat.le_of_ble_eq_true rfl) (rfl) gX12_lineAt_3.2.2.2.2.2.2.2.1 (fun H locs hP hD hS => ?_)
        refine lv_aload_n hx hb gX12_lineAt_3.2.2.2.2.2.2.2.2.1 rfl (lv_at1 hl) ?_
        refine gf_X12_32 hC rfl hK hP 3 rfl rfl gX12_lineAt_3.2.2.2.2.2.2.2.2.2 ?_
        refine lv_iload_n hx hb gX12_lineAt_4.1 rfl (lv_at2 hl) ?_
        refine lv_iconst (v := 1) hx hb gX12_lineAt_4.2.1 (by decide) ?_
        refine lv_iadd hx hb gX12_lineAt_4.2.2.1 ?_
        refine eqi (x1 := nI (6 * kl + 1)) (nI_add (6 * kl) 1) ?_
        refine lv_aload_n hx hb gX12_lineAt_4.2.2.2.1 rfl (lv_at1 hl) ?_
        refine lv_iload_n hx hb gX12_lineAt_4.2.2.2.2.1 rfl (lv_at0 hl) ?_
        refine lv_if_eq (tgt := 95) hx hb gX12_lineAt_4.2.2.2.2.2.1 (by decide) (fun c9 => absurd c9 (by decide)) (fun _ => ?_)
        refine lv_iload_n hx hb gX12_lineAt_4.2.2.2.2.2.2.1 rfl (lv_at0 hl) ?_
        refine lv_iconst (v := 1) hx hb gX12_lineAt_4.2.2.2.2.2.2.2.1 (by decide) ?_
        refine lv_icmp_ne (tgt := 100) hx hb gX12_lineAt_4.2.2.2.2.2.2.2.2.1 (by decide) (fun _ => ?_) (fun c9 => absurd c9 (by decide))
        refine lv_iload_n hx hb gX12_lineAt_5.2.1 rfl (lv_at0 hl) ?_
        refine lv_iconst (v := 2) hx hb gX12_lineAt_5.2.2.1 (by decide) ?_
        refine lv_icmp_ne (tgt := 110) hx hb gX12_lineAt_5.2.2.2.1 (by decide) (fun c9 => absurd (by decide) c9) (fun _ => ?_)
        refine lv_bipush (v := 7) hx hb gX12_lineAt_5.2.2.2.2.1 (by decide) ?_
        refine lv_goto (tgt := 112) hx hb gX12_lineAt_5.2.2.2.2.2.1 (by decide) ?_
        refine iV (wr := [(nc, iA G 100 fnc), (nl, iA G 54 (upd fnl (6 * kl) 2)), (nF, sA G 5 (FCT K))]) hC hK hl hP hD hS hA (m_numberX l G h0 7 nw nk mhasKept nt ktp nr mrowMany mroundOf mroundFrom mouts nm mfromHour mtoHour ns (NXT bt ktp ks) 0 (nI kc) (nI kl) nl nc nF np ntr nb mbestCost nso nsi nit nsh nsf nss nrc mtraced mdealer mnumber mwhose msize misParted fnt bt (htp) (by omega) (hFB) (by omega)) si_X12_271 [3, 4] [0, 1, 2] sm_3_4 fm_3_4 nd_3_4 sm_0_1_2 nd_0_1_2 dj_3_4__0_1_2 rfl rfl rfl rfl rfl (Nat.le_of_ble_eq_true rfl) rm_32_5_5 ⟨Nat.le_of_ble_eq_true rfl, Nat.le_of_ble_eq_true rfl⟩ gX12_lineAt_5.2.2.2.2.2.2.2.1 (fun r7057 => Ktu2 fun ff17059 ks17060 => ?_)
        intro H locs hr7057 hP hD hS
        try dsimp only at hr7057
        refine Kpdr (ws := [(nc, iA G 100 fnc), (nl, iA G 54 (upd fnl (6 * kl) 2)), (nF, sA G 5 (FCT K)), (h0, oX12 nw nk mhasKept nt (nI ktp) nr mrowMany mroundOf mroundFrom mouts nm mfromHour mtoHour ns (nI ks17060) (nI (TKE bt ktp ks17060)) (nI (TKN bt ktp ks17060)) ff17059 0 (nI kc) (nI kl) nl nc nF np ntr nb mbestCost nso nsi nit nsh nsf nss nrc mtraced mdealer mnumber mwhose msize misParted), (nt, iA G 240 fnt)]) hP hD (fun hP hD => ?_)
        obtain ⟨hr7057, w7061⟩ := hr7057
        rcases w7061 with v7062 | v7063
        · obtain ⟨rfl, rfl, rfl, hq7064⟩ := v7062
          have xl7065 := NML.len hq7064 (by omega)
          refine astN hC hK hP hD hS 1 (ws' := [(nc, iA G 100 fnc), (nl, iA G 54 (upd (upd fnl (6 * kl) 2) (6 * kl + 1) (nI (NVL bt ktp (NXT bt ktp ks))))), (nF, sA G 5 (FCT K)), (h0, oX12 nw nk mhasKept nt (nI ktp) nr mrowMany mroundOf mroundFrom mouts nm mfromHour mtoHour ns (nI (NXT bt ktp (NXT bt ktp ks))) (nI (TKE bt ktp (NXT bt ktp (NXT bt ktp ks)))) (nI (TKN bt ktp (NXT bt ktp (NXT bt ktp ks)))) 0 0 (nI kc) (nI kl) nl nc nF np ntr nb mbestCost nso nsi nit nsh nsf nss nrc mtraced mdealer mnumber mwhose msize misParted), (nt, iA G 240 fnt)]) rfl (k := (6 * kl + 1)) (by omega) (Nat.le_of_ble_eq_true rfl) (rfl) gX12_lineAt_5.2.2.2.2.2.2.2.2.1 (fun H locs hP hD hS => ?_)
          refine lv_aload_n hx hb gX12_lineAt_5.2.2.2.2.2.2.2.2.2 rfl (lv_at1 hl) ?_
          refine gf_X12_32 hC rfl hK hP 3 rfl rfl gX12_lineAt_6.1 ?_
          refine lv_iload_n hx hb gX12_lineAt_6.2.1 rfl (lv_at2 hl) ?_
          refine lv_iconst (v := 2) hx hb gX12_lineAt_6.2.2.1 (by decide) ?_
          refine lv_iadd hx hb gX12_lineAt_6.2.2.2.1 ?_
          refine eqi (x1 := nI (6 * kl + 2)) (nI_add (6 * kl) 2) ?_
          refine lv_bipush (v := (-9)) hx hb gX12_lineAt_6.2.2.2.2.1 (by decide) ?_
          refine astN hC hK hP hD hS 1 (ws' := [(nc, iA G 100 fnc), (nl, iA G 54 (upd (upd (upd fnl (6 * kl) 2) (6 * kl + 1) (nI (NVL bt ktp (NXT bt ktp ks)))) (6 * kl + 2) (-9))), (nF, sA G 5 (FCT K)), (h0, oX12 nw nk mhasKept nt (nI ktp) nr mrowMany mroundOf mroundFrom mouts nm mfromHour mtoHour ns (nI (NXT bt ktp (NXT bt ktp ks))) (nI (TKE bt ktp (NXT bt ktp (NXT bt ktp ks)))) (nI (TKN bt ktp (NXT bt ktp (NXT bt ktp ks)))) 0 0 (nI kc) (nI kl) nl nc nF np ntr nb mbestCost nso nsi nit nsh nsf nss nrc mtraced mdealer mnumber mwhose msize misParted), (nt, iA G 240 fnt)]) rfl (k := (6 * kl + 2)) (by omega) (Nat.le_of_ble_eq_true rfl) (rfl) gX12_lineAt_6.2.2.2.2.2.1 (fun H locs hP hD hS => ?_)
          refine lv_aload_n hx hb gX12_lineAt_6.2.2.2.2.2.2.1 rfl (lv_at1 hl) ?_
          refine gf_X12_32 hC rfl hK hP 3 rfl rfl gX12_lineAt_6.2.2.2.2.2.2.2.1 ?_
          refine lv_iload_n hx hb gX12_lineAt_6.2.2.2.2.2.2.2.2.1 rfl (lv_at2 hl) ?_
          refine lv_iconst (v := 3) hx hb gX12_lineAt_6.2.2.2.2.2.2.2.2.2 (by decide) ?_
          refine lv_iadd hx hb gX12_lineAt_7.1 ?_
          refine eqi (x1 := nI (6 * kl + 3)) (nI_add (6 * kl) 3) ?_
          refine lv_bipush (v := (-9)) hx hb gX12_lineAt_7.2.1 (by decide) ?_
          refine astN hC hK hP hD hS 1 (ws' := [(nc, iA G 100 fnc), (nl, iA G 54 (upd (upd (upd (upd fnl (6 * kl) 2) (6 * kl + 1) (nI (NVL bt ktp (NXT bt ktp ks)))) (6 * kl + 2) (-9)) (6 * kl + 3) (-9))), (nF, sA G 5 (FCT K)), (h0, oX12 nw nk mhasKept nt (nI ktp) nr mrowMany mroundOf mroundFrom mouts nm mfromHour mtoHour ns (nI (NXT bt ktp (NXT bt ktp ks))) (nI (TKE bt ktp (NXT bt ktp (NXT bt ktp ks)))) (nI (TKN bt ktp (NXT bt ktp (NXT bt ktp ks)))) 0 0 (nI kc) (nI kl) nl nc nF np ntr nb mbestCost nso nsi nit nsh nsf nss nrc mtraced mdealer mnumber mwhose msize misParted), (nt, iA G 240 fnt)]) rfl (k := (6 * kl + 3)) (by omega) (Nat.le_of_ble_eq_true rfl) (rfl) gX12_lineAt_7.2.2.1 (fun H locs hP hD hS => ?_)
          refine lv_iload_n hx hb gX12_lineAt_7.2.2.2.1 rfl (lv_at0 hl) ?_
          refine lv_if_ne (tgt := 190) hx hb gX12_lineAt_7.2.2.2.2.1 (by decide) (fun _ => ?_) (fun c9 => absurd c9 (by decide))
          refine lv_iload_n hx hb gX12_lineAt_10.2.2.2.1 rfl (lv_at0 hl) ?_
          refine lv_iconst (v := 2) hx hb gX12_lineAt_10.2.2.2.2.1 (by decide) ?_
          refine lv_icmp_ne (tgt := 221) hx hb gX12_lineAt_10.2.2.2.2.2.1 (by decide) (fun c9 => absurd (by decide) c9) (fun _ => ?_)
          refine lv_aload_n hx hb gX12_lineAt_10.2.2.2.2.2.2.1 rfl (lv_at1 hl) ?_
          refine lv_aload_n hx hb gX12_lineAt_10.2.2.2.2.2.2.2.1 rfl (lv_at1 hl) ?_
          refine va_ldcSw (index := 285) (tx := "by") hx hb hown (hO.2.2 7 (by decide)) gX12_lineAt_10.2.2.2.2.2.2.2.2.1 ?_
          refine pVo hO hS hC hK hl hP hD (m_isNameX l G K 7 h0 nw nk mhasKept nt ktp nr mrowMany mroundOf mroundFrom mouts nm mfromHour mtoHour ns (NXT bt ktp (NXT bt ktp ks)) 0 (nI kc) (nI kl) nl nc nF np ntr nb mbestCost nso nsi nit nsh nsf nss nrc mtraced mdealer mnumber mwhose msize misParted fnt bt (htp) (by omega) (hFB) ((by decide))) si_X12_248 [3, 4] sm_3_4 fm_3_4 nd_3_4 rfl rfl rfl rfl rfl (Nat.le_of_ble_eq_true rfl) rm_32_5_4 ⟨by first | exact Nat.le_of_ble_eq_true rfl | exact Nat.zero_le _, by first | exact Nat.le_of_ble_eq_true rfl | exact Nat.zero_le _⟩ gX12_lineAt_10.2.2.2.2.2.2.2.2.2 (Kors (Keqa fun a7067 => ?_) (Keqa fun a7067 => ?_))
          · have hq7068 := a7067
            have xl7069 : (NXT bt ktp (NXT bt ktp ks)) + 2 ≤ NXT bt ktp (NXT bt ktp (NXT bt ktp ks)) ∧ NXT bt ktp (NXT bt ktp (NXT bt ktp ks)) ≤ ktp := WRD.len hq7068 (by omega)
            refine vV (wr := [(nc, iA G 100 fnc), (nl, iA G 54 (upd (upd (upd (upd fnl (6 * kl) 2) (6 * kl + 1) (nI (NVL bt ktp (NXT bt ktp ks)))) (6 * kl + 2) (-9)) (6 * kl + 3) (-9))), (nF, sA G 5 (FCT K))]) hC hK hl hP hD hS hA (m_need1X l G h0 nw nk mhasKept nt ktp nr mrowMany mroundOf mroundFrom mouts nm mfromHour mtoHour ns (NXT bt ktp (NXT bt ktp ks)) 0 (nI kc) (nI kl) nl nc nF np ntr nb mbestCost nso nsi nit nsh nsf nss nrc mtraced mdealer mnumber mwhose msize misParted fnt bt (htp) (by omega) (hFB)) si_X12_236 [3, 4] [0, 1, 2] sm_3_4 fm_3_4 nd_3_4 sm_0_1_2 nd_0_1_2 dj_3_4__0_1_2 rfl rfl rfl rfl rfl (Nat.le_of_ble_eq_true rfl) rm_32_4_2 ⟨Nat.le_of_ble_eq_true rfl, Nat.le_of_ble_eq_true rfl⟩ gX12_lineAt_11.1 (fun u7071 H locs hr7070 hP hD hS => ?_)
            refine Kpdr (ws := [(nc, iA G 100 fnc), (nl, iA G 54 (upd (upd (upd (upd fnl (6 * kl) 2) (6 * kl + 1) (nI (NVL bt ktp (NXT bt ktp ks)))) (6 * kl + 2) (-9)) (6 * kl + 3) (-9))), (nF, sA G 5 (FCT K)), (h0, oX12 nw nk mhasKept nt (nI ktp) nr mrowMany mroundOf mroundFrom mouts nm mfromHour mtoHour ns (nI (NXT bt ktp (NXT bt ktp (NXT bt ktp ks)))) (nI (TKE bt ktp (NXT bt ktp (NXT bt ktp (NXT bt ktp ks))))) (nI (TKN bt ktp (NXT bt ktp (NXT bt ktp (NXT bt ktp ks))))) 0 0 (nI kc) (nI kl) nl nc nF np ntr nb mbestCost nso nsi nit nsh nsf nss nrc mtraced mdealer mnumber mwhose msize misParted), (nt, iA G 240 fnt)]) hP hD (fun hP hD => ?_)
            have xn7072 := NXT.ge (bt := bt) (n := ktp) (s := (NXT bt ktp (NXT bt ktp ks))) (by omega)
            refine lv_aload_n hx hb gX12_lineAt_11.2.1 rfl (lv_at1 hl) ?_
            refine gf_X12_32 hC rfl hK hP 3 rfl rfl gX12_lineAt_11.2.2.1 ?_
            refine lv_iload_n hx hb gX12_lineAt_11.2.2.2.1 rfl (lv_at2 hl) ?_
            refine lv_iconst (v := 2) hx hb gX12_lineAt_11.2.2.2.2.1 (by decide) ?_
            refine lv_iadd hx hb gX12_lineAt_11.2.2.2.2.2.1 ?_
            refine eqi (x1 := nI (6 * kl + 2)) (nI_add (6 * kl) 2) ?_
            refine lv_aload_n hx hb gX12_lineAt_11.2.2.2.2.2.2.1 rfl (lv_at1 hl) ?_
            refine lv_sipush (v := 999) hx hb gX12_lineAt_11.2.2.2.2.2.2.2.1 (by decide) ?_
            refine iV (wr := [(nc, iA G 100 fnc), (nl, iA G 54 (upd (upd (upd (upd fnl (6 * kl) 2) (6 * kl + 1) (nI (NVL bt ktp (NXT bt ktp ks)))) (6 * kl + 2) (-9)) (6 * kl + 3) (-9))), (nF, sA G 5 (FCT K))]) hC hK hl hP hD hS hA (m_numberX l G h0 999 nw nk mhasKept nt ktp nr mrowMany mroundOf mroundFrom mouts nm mfromHour mtoHour ns (NXT bt ktp (NXT bt ktp (NXT bt ktp ks))) 0 (nI kc) (nI kl) nl nc nF np ntr nb mbestCost nso nsi nit nsh nsf nss nrc mtraced mdealer mnumber mwhose msize misParted fnt bt (htp) (by omega) (hFB) (by omega)) si_X12_271 [3, 4] [0, 1, 2] sm_3_4 fm_3_4 nd_3_4 sm_0_1_2 nd_0_1_2 dj_3_4__0_1_2 rfl rfl rfl rfl rfl (Nat.le_of_ble_eq_true rfl) rm_32_5_5 ⟨Nat.le_of_ble_eq_true rfl, Nat.le_of_ble_eq_true rfl⟩ gX12_lineAt_11.2.2.2.2.2.2.2.2.1 (fun r7073 => Ktu2 fun ff17075 ks17076 => ?_)
            intro H locs hr7073 hP hD hS
            try dsimp only at hr7073
            refine Kpdr (ws := [(nc, iA G 100 fnc), (nl, iA G 54 (upd (upd (upd (upd fnl (6 * kl) 2) (6 * kl + 1) (nI (NVL bt ktp (NXT bt ktp ks)))) (6 * kl + 2) (-9)) (6 * kl + 3) (-9))), (nF, sA G 5 (FCT K)), (h0, oX12 nw nk mhasKept nt (nI ktp) nr mrowMany mroundOf mroundFrom mouts nm mfromHour mtoHour ns (nI ks17076) (nI (TKE bt ktp ks17076)) (nI (TKN bt ktp ks17076)) ff17075 0 (nI kc) (nI kl) nl nc nF np ntr nb mbestCost nso nsi nit nsh nsf nss nrc mtraced mdealer mnumber mwhose msize misParted), (nt, iA G 240 fnt)]) hP hD (fun hP hD => ?_)
            obtain ⟨hr7073, w7077⟩ := hr7073
            rcases w7077 with v7078 | v7079
            · obtain ⟨rfl, rfl, rfl, hq7080⟩ := v7078
              have xl7081 := NML.len hq7080 (by omega)
              refine astN hC hK hP hD hS 1 (ws' := [(nc, iA G 100 fnc), (nl, iA G 54 (upd (upd (upd (upd (upd fnl (6 * kl) 2) (6 * kl + 1) (nI (NVL bt ktp (NXT bt ktp ks)))) (6 * kl + 2) (-9)) (6 * kl + 3) (-9)) (6 * kl + 2) (nI (NVL bt ktp (NXT bt ktp (NXT bt ktp (NXT bt ktp ks))))))), (nF, sA G 5 (FCT K)), (h0, oX12 nw nk mhasKept nt (nI ktp) nr mrowMany mroundOf mroundFrom mouts nm mfromHour mtoHour ns (nI (NXT bt ktp (NXT bt ktp (NXT bt ktp (NXT bt ktp ks))))) (nI (TKE bt ktp (NXT bt ktp (NXT bt ktp (NXT bt ktp (NXT bt ktp ks)))))) (nI (TKN bt ktp (NXT bt ktp (NXT bt ktp (NXT bt ktp (NXT bt ktp ks)))))) 0 0 (nI kc) (nI kl) nl nc nF np ntr nb mbestCost nso nsi nit nsh nsf nss nrc mtraced mdealer mnumber mwhose msize misParted), (nt, iA G 240 fnt)]) rfl (k := (6 * kl + 2)) (by omega) (Nat.le_of_ble_eq_true rfl) (rfl) gX12_lineAt_11.2.2.2.2.2.2.2.2.2 (fun H locs hP hD hS => ?_)
              refine lv_aload_n hx hb gX12_lineAt_12.1 rfl (lv_at1 hl) ?_
              refine gf_X12_32 hC rfl hK hP 3 rfl rfl gX12_lineAt_12.2.1 ?_
              refine lv_iload_n hx hb gX12_lineAt_12.2.2.1 rfl (lv_at2 hl) ?_
              refine lv_iconst (v := 4) hx hb gX12_lineAt_12.2.2.2.1 (by decide) ?_
              refine lv_iadd hx hb gX12_lineAt_12.2.2.2.2.1 ?_
              refine eqi (x1 := nI (6 * kl + 4)) (nI_add (6 * kl) 4) ?_
              refine lv_aload_n hx hb gX12_lineAt_12.2.2.2.2.2.1 rfl (lv_at1 hl) ?_
              refine gf_X12_240 hC rfl hK hP 3 rfl rfl gX12_lineAt_12.2.2.2.2.2.2.1 ?_
              refine astN hC hK hP hD hS 1 (ws' := [(nc, iA G 100 fnc), (nl, iA G 54 (upd (upd (upd (upd (upd (upd fnl (6 * kl) 2) (6 * kl + 1) (nI (NVL bt ktp (NXT bt ktp ks)))) (6 * kl + 2) (-9)) (6 * kl + 3) (-9)) (6 * kl + 2) (nI (NVL bt ktp (NXT bt ktp (NXT bt ktp (NXT bt ktp ks)))))) (6 * kl + 4) (nI kc))), (nF, sA G 5 (FCT K)), (h0, oX12 nw nk mhasKept nt (nI ktp) nr mrowMany mroundOf mroundFrom mouts nm mfromHour mtoHour ns (nI (NXT bt ktp (NXT bt ktp (NXT bt ktp (NXT bt ktp ks))))) (nI (TKE bt ktp (NXT bt ktp (NXT bt ktp (NXT bt ktp (NXT bt ktp ks)))))) (nI (TKN bt ktp (NXT bt ktp (NXT bt ktp (NXT bt ktp (NXT bt ktp ks)))))) 0 0 (nI kc) (nI kl) nl nc nF np ntr nb mbestCost nso nsi nit nsh nsf nss nrc mtraced mdealer mnumber mwhose msize misParted), (nt, iA G 240 fnt)]) rfl (k := (6 * kl + 4)) (by omega) (Nat.le_of_ble_eq_true rfl) (rfl) gX12_lineAt_12.2.2.2.2.2.2.2.1 (fun H locs hP hD hS => ?_)
              refine lv_iload_n hx hb gX12_lineAt_12.2.2.2.2.2.2.2.2.1 rfl (lv_at0 hl) ?_
              refine lv_iconst (v := 3) hx hb gX12_lineAt_12.2.2.2.2.2.2.2.2.2 (by decide) ?_
              refine lv_icmp_eq (tgt := 256) hx hb gX12_lineAt_13.1 (by decide) (fun c9 => absurd c9 (by decide)) (fun _ => ?_)
              refine lv_aload_n hx hb gX12_lineAt_13.2.1 rfl (lv_at1 hl) ?_
              refine va_ldcSw (index := 287) (tx := "if") hx hb hown (hO.2.2 0 (by decide)) gX12_lineAt_13.2.2.1 ?_
              refine pVo hO hS hC hK hl hP hD (m_isNameX l G K 0 h0 nw nk mhasKept nt ktp nr mrowMany mroundOf mroundFrom mouts nm mfromHour mtoHour ns (NXT bt ktp (NXT bt ktp (NXT bt ktp (NXT bt ktp ks)))) 0 (nI kc) (nI kl) nl nc nF np ntr nb mbestCost nso nsi nit nsh nsf nss nrc mtraced mdealer mnumber mwhose msize misParted fnt bt (htp) (by omega) (hFB) ((by decide))) si_X12_248 [3, 4] sm_3_4 fm_3_4 nd_3_4 rfl rfl rfl rfl rfl (Nat.le_of_ble_eq_true rfl) rm_32_5_4 ⟨by first | exact Nat.le_of_ble_eq_true rfl | exact Nat.zero_le _, by first | exact Nat.le_of_ble_eq_true rfl | exact Nat.zero_le _⟩ gX12_lineAt_13.2.2.2.1 (Kors (Keqa fun a7083 => ?_) (Keqa fun a7083 => ?_))
              · have hq7084 := a7083
                have xl7085 : (NXT bt ktp (NXT bt ktp (NXT bt ktp (NXT bt ktp ks)))) + 2 ≤ NXT bt ktp (NXT bt ktp (NXT bt ktp (NXT bt ktp (NXT bt ktp ks)))) ∧ NXT bt ktp (NXT bt ktp (NXT bt ktp (NXT bt ktp (NXT bt ktp ks)))) ≤ ktp := WRD.len hq7084 (by omega)
                refine lv_if_eq (tgt := 256) hx hb gX12_lineAt_13.2.2.2.2.1 (by decide) (fun c9 => absurd c9 (by decide)) (fun _ => ?_)
                refine lv_aload_n hx hb gX12_lineAt_13.2.2.2.2.2.1 rfl (lv_at1 hl) ?_
                refine vV (wr := [(nc, iA G 100 fnc), (nl, iA G 54 (upd (upd (upd (upd (upd (upd fnl (6 * kl) 2) (6 * kl + 1) (nI (NVL bt ktp (NXT bt ktp ks)))) (6 * kl + 2) (-9)) (6 * kl + 3) (-9)) (6 * kl + 2) (nI (NVL bt ktp (NXT bt ktp (NXT bt ktp (NXT bt ktp ks)))))) (6 * kl + 4) (nI kc))), (nF, sA G 5 (FCT K))]) hC hK hl hP hD hS hA (m_nextT l G h0 nw nk mhasKept nt ktp nr mrowMany mroundOf mroundFrom mouts nm mfromHour mtoHour ns (NXT bt ktp (NXT bt ktp (NXT bt ktp (NXT bt ktp ks)))) 0 0 (nI kc) (nI kl) nl nc nF np ntr nb mbestCost nso nsi nit nsh nsf nss nrc mtraced mdealer mnumber mwhose msize misParted fnt bt (htp) (by omega) (hFB)) si_X12_233 [3, 4] [0, 1, 2] sm_3_4 fm_3_4 nd_3_4 sm_0_1_2 nd_0_1_2 dj_3_4__0_1_2 rfl rfl rfl rfl rfl (Nat.le_of_ble_eq_true rfl) rm_32_3_1 ⟨Nat.le_of_ble_eq_true rfl, Nat.le_of_ble_eq_true rfl⟩ gX12_lineAt_13.2.2.2.2.2.2.1 (fun u7087 H locs hr7086 hP hD hS => ?_)
                refine Kpdr (ws := [(nc, iA G 100 fnc), (nl, iA G 54 (upd (upd (upd (upd (upd (upd fnl (6 * kl) 2) (6 * kl + 1) (nI (NVL bt ktp (NXT bt ktp ks)))) (6 * kl + 2) (-9)) (6 * kl + 3) (-9)) (6 * kl + 2) (nI (NVL bt ktp (NXT bt ktp (NXT bt ktp (NXT bt ktp ks)))))) (6 * kl + 4) (nI kc))), (nF, sA G 5 (FCT K)), (h0, oX12 nw nk mhasKept nt (nI ktp) nr mrowMany mroundOf mroundFrom mouts nm mfromHour mtoHour ns (nI (NXT bt ktp (NXT bt ktp (NXT bt ktp (NXT bt ktp (NXT bt ktp ks)))))) (nI (TKE bt ktp (NXT bt ktp (NXT bt ktp (NXT bt ktp (NXT bt ktp (NXT bt ktp ks))))))) (nI (TKN bt ktp (NXT bt ktp (NXT bt ktp (NXT bt ktp (NXT bt ktp (NXT bt ktp ks))))))) 0 0 (nI kc) (nI kl) nl nc nF np ntr nb mbestCost nso nsi nit nsh nsf nss nrc mtraced mdealer mnumber mwhose msize misParted), (nt, iA G 240 fnt)]) hP hD (fun hP hD => ?_)
                have xn7088 := NXT.ge (bt := bt) (n := ktp) (s := (NXT bt ktp (NXT bt ktp (NXT bt ktp (NXT bt ktp ks))))) (by omega)
                refine lv_aload_n hx hb gX12_lineAt_13.2.2.2.2.2.2.2.1 rfl (lv_at1 hl) ?_
                refine vVo (wr := [(nl, iA G 54 (upd (upd (upd (upd (upd (upd fnl (6 * kl) 2) (6 * kl + 1) (nI (NVL bt ktp (NXT bt ktp ks)))) (6 * kl + 2) (-9)) (6 * kl + 3) (-9)) (6 * kl + 2) (nI (NVL bt ktp (NXT bt ktp (NXT bt ktp (NXT bt ktp ks)))))) (6 * kl + 4) (nI kc)))]) hO hC hK hl hP hD hS hA (m_either l G K 4 h0 nw nk mhasKept nt ktp nr mrowMany mroundOf mroundFrom mouts nm mfromHour mtoHour ns (NXT bt ktp (NXT bt ktp (NXT bt ktp (NXT bt ktp (NXT bt ktp ks))))) 0 kc (nI kl) nl nc nF np ntr nb mbestCost nso nsi nit nsh nsf nss nrc mtraced mdealer mnumber mwhose msize misParted fnt fnc bt cs rs (by omega) (by omega) (hFB) (hST) (by omega) (by omega)) si_X12_268 [3, 4, 0, 2] [1] sm_3_4_0_2 fm_3_4_0_2 nd_3_4_0_2 sm_1 nd_1 dj_3_4_0_2__1 rfl rfl rfl rfl rfl (Nat.le_of_ble_eq_true rfl) ⟨Nat.le_of_ble_eq_true rfl, Nat.le_of_ble_eq_true rfl⟩ ⟨Nat.le_of_ble_eq_true rfl, Nat.le_of_ble_eq_true rfl⟩ gX12_lineAt_13.2.2.2.2.2.2.2.2.1 (Ktu6 fun ff17091 ks17092 kc17093 gnc7094 c17095 r17096 => ?_)
                intro H locs hr7089 hP hD hS
                try dsimp only at hr7089
                refine Kpdr (ws := [(nl, iA G 54 (upd (upd (upd (upd (upd (upd fnl (6 * kl) 2) (6 * kl + 1) (nI (NVL bt ktp (NXT bt ktp ks)))) (6 * kl + 2) (-9)) (6 * kl + 3) (-9)) (6 * kl + 2) (nI (NVL bt ktp (NXT bt ktp (NXT bt ktp (NXT bt ktp ks)))))) (6 * kl + 4) (nI kc))), (h0, oX12 nw nk mhasKept nt (nI ktp) nr mrowMany mroundOf mroundFrom mouts nm mfromHour mtoHour ns (nI ks17092) (nI (TKE bt ktp ks17092)) (nI (TKN bt ktp ks17092)) ff17091 0 (nI kc17093) (nI kl) nl nc nF np ntr nb mbestCost nso nsi nit nsh nsf nss nrc mtraced mdealer mnumber mwhose msize misParted), (nt, iA G 240 fnt), (nc, iA G 100 gnc7094), (nF, sA G 5 (FCT K))]) hP hD (fun hP hD => ?_)
                have w7097 := hr7089
                rcases w7097 with v7098 | v7099
                · obtain ⟨rfl, hq7100, hq7101⟩ := v7098
                  have xl7102 := RT.lem hq7100 (by decide) (by omega)
                  have xl7103 := hq7101.1
                  refine lv_aload_n hx hb gX12_lineAt_13.2.2.2.2.2.2.2.2.2 rfl (lv_at1 hl) ?_
                  refine gf_X12_32 hC rfl hK hP 1 rfl rfl gX12_lineAt_14.1 ?_
                  refine lv_iload_n hx hb gX12_lineAt_14.2.1 rfl (lv_at2 hl) ?_
                  refine lv_iconst (v := 5) hx hb gX12_lineAt_14.2.2.1 (by decide) ?_
                  refine lv_iadd hx hb gX12_lineAt_14.2.2.2.1 ?_
                  refine eqi (x1 := nI (6 * kl + 5)) (nI_add (6 * kl) 5) ?_
                  refine lv_aload_n hx hb gX12_lineAt_14.2.2.2.2.1 rfl (lv_at1 hl) ?_
                  refine gf_X12_240 hC rfl hK hP 1 rfl rfl gX12_lineAt_14.2.2.2.2.2.1 ?_
                  refine astN hC hK hP hD hS 0 (ws' := [(nl, iA G 54 (upd (upd (upd (upd (upd (upd (upd fnl (6 * kl) 2) (6 * kl + 1) (nI (NVL bt ktp (NXT bt ktp ks)))) (6 * kl + 2) (-9)) (6 * kl + 3) (-9)) (6 * kl + 2) (nI (NVL bt ktp (NXT bt ktp (NXT bt ktp (NXT bt ktp ks)))))) (6 * kl + 4) (nI kc)) (6 * kl + 5) (nI kc17093))), (h0, oX12 nw nk mhasKept nt (nI ktp) nr mrowMany mroundOf mroundFrom mouts nm mfromHour mtoHour ns (nI ks17092) (nI (TKE bt ktp ks17092)) (nI (TKN bt ktp ks17092)) 0 0 (nI kc17093) (nI kl) nl nc nF np ntr nb mbestCost nso nsi nit nsh nsf nss nrc mtraced mdealer mnumber mwhose msize misParted), (nt, iA G 240 fnt), (nc, iA G 100 gnc7094), (nF, sA G 5 (FCT K))]) rfl (k := (6 * kl + 5)) (by omega) (Nat.le_of_ble_eq_true rfl) (rfl) gX12_lineAt_14.2.2.2.2.2.2.1 (fun H locs hP hD hS => ?_)
                  refine lv_aload_n hx hb gX12_lineAt_14.2.2.2.2.2.2.2.1 rfl (lv_at1 hl) ?_
                  refine lv_aload_n hx hb gX12_lineAt_14.2.2.2.2.2.2.2.2.1 rfl (lv_at1 hl) ?_
                  refine lv_bipush (v := 59) hx hb gX12_lineAt_14.2.2.2.2.2.2.2.2.2 (by decide) ?_
                  refine pV hC hK hl hP hD (m_isSignX l G h0 59 nw nk mhasKept nt ktp nr mrowMany mroundOf mroundFrom mouts nm mfromHour mtoHour ns ks17092 0 (nI kc17093) (nI kl) nl nc nF np ntr nb mbestCost nso nsi nit nsh nsf nss nrc mtraced mdealer mnumber mwhose msize misParted fnt bt (htp) (by omega) (hFB)) si_X12_262 [1, 2] sm_1_2 fm_1_2 nd_1_2 rfl rfl rfl rfl rfl (Nat.le_of_ble_eq_true rfl) rm_32_1_2 ⟨by first | exact Nat.le_of_ble_eq_true rfl | exact Nat.zero_le _, by first | exact Nat.le_of_ble_eq_true rfl | exact Nat.zero_le _⟩ gX12_lineAt_15.1 (Kors (Keqa fun a7105 => ?_) (Keqa fun a7105 => ?_))
                  · have hq7106 := a7105
                    have xl7107 := SGN.len hq7106 (by omega)
                    refine vV (wr := [(nl, iA G 54 (upd (upd (upd (upd (upd (upd (upd fnl (6 * kl) 2) (6 * kl + 1) (nI (NVL bt ktp (NXT bt ktp ks)))) (6 * kl + 2) (-9)) (6 * kl + 3) (-9)) (6 * kl + 2) (nI (NVL bt ktp (NXT bt ktp (NXT bt ktp (NXT bt ktp ks)))))) (6 * kl + 4) (nI kc)) (6 * kl + 5) (nI kc17093))), (nc, iA G 100 gnc7094), (nF, sA G 5 (FCT K))]) hC hK hl hP hD hS hA (m_need1X l G h0 nw nk mhasKept nt ktp nr mrowMany mroundOf mroundFrom mouts nm mfromHour mtoHour ns ks17092 0 (nI kc17093) (nI kl) nl nc nF np ntr nb mbestCost nso nsi nit nsh nsf nss nrc mtraced mdealer mnumber mwhose msize misParted fnt bt (htp) (by omega) (hFB)) si_X12_236 [1, 2] [0, 3, 4] sm_1_2 fm_1_2 nd_1_2 sm_0_3_4 nd_0_3_4 dj_1_2__0_3_4 rfl rfl rfl rfl rfl (Nat.le_of_ble_eq_true rfl) rm_32_4_2 ⟨Nat.le_of_ble_eq_true rfl, Nat.le_of_ble_eq_true rfl⟩ gX12_lineAt_15.2.1 (fun u7109 H locs hr7108 hP hD hS => ?_)
                    refine Kpdr (ws := [(nl, iA G 54 (upd (upd (upd (upd (upd (upd (upd fnl (6 * kl) 2) (6 * kl + 1) (nI (NVL bt ktp (NXT bt ktp ks)))) (6 * kl + 2) (-9)) (6 * kl + 3) (-9)) (6 * kl + 2) (nI (NVL bt ktp (NXT bt ktp (NXT bt ktp (NXT bt ktp ks)))))) (6 * kl + 4) (nI kc)) (6 * kl + 5) (nI kc17093))), (nc, iA G 100 gnc7094), (nF, sA G 5 (FCT K)), (h0, oX12 nw nk mhasKept nt (nI ktp) nr mrowMany mroundOf mroundFrom mouts nm mfromHour mtoHour ns (nI (NXT bt ktp ks17092)) (nI (TKE bt ktp (NXT bt ktp ks17092))) (nI (TKN bt ktp (NXT bt ktp ks17092))) 0 0 (nI kc17093) (nI kl) nl nc nF np ntr nb mbestCost nso nsi nit nsh nsf nss nrc mtraced mdealer mnumber mwhose msize misParted), (nt, iA G 240 fnt)]) hP hD (fun hP hD => ?_)
                    have xn7110 := NXT.ge (bt := bt) (n := ktp) (s := ks17092) (by omega)
                    refine toQ hQ0 ?_
                    exact RV hC hP hD hS [3, 4, 1, 0, 2] (0, (NXT bt ktp ks17092), kc17093, gnc7094, upd (upd (upd (upd (upd (upd (upd fnl (6 * kl) 2) (6 * kl + 1) (nI (NVL bt ktp (NXT bt ktp ks)))) (6 * kl + 2) (-9)) (6 * kl + 3) (-9)) (6 * kl + 2) (nI (NVL bt ktp (NXT bt ktp (NXT bt ktp (NXT bt ktp ks)))))) (6 * kl + 4) (nI kc)) (6 * kl + 5) (nI kc17093), (2, (nI (NVL bt ktp (NXT bt ktp ks))), (nI (NVL bt ktp (NXT bt ktp (NXT bt ktp (NXT bt ktp ks))))), (-9), 1, cs.length, c17095.length, rs.length, r17096.length), c17095, r17096) rfl rfl (by decide) (Or.inl ⟨rfl, Or.inr ⟨2, SRT.y (k := 2) (by decide) hq7052, Or.inr ⟨(NXT bt ktp (NXT bt ktp (NXT bt ktp (NXT bt ktp ks)))), (nI (NVL bt ktp (NXT bt ktp ks))), (nI (NVL bt ktp (NXT bt ktp (NXT bt ktp (NXT bt ktp ks))))), (-9), HDQ.q3 hq7064 hq7068 hq7080, Or.inr ⟨⟨by decide, hq7084⟩, Or.inr ⟨ks17092, c17095, r17096, hq7100, Or.inr ⟨hq7106, rfl⟩⟩⟩⟩⟩, hq7101, (by rw [hs1, hq7101.1]; exact ⟨fun j hj => (upd_ne (by omega)).trans ((upd_ne (by omega)).trans ((upd_ne (by omega)).trans ((upd_ne (by omega)).trans ((upd_ne (by omega)).trans ((upd_ne (by omega)).trans ((upd_ne (by omega)).trans (rfl))))))), (upd_ne (by omega)).trans ((upd_ne (by omega)).trans ((upd_ne (by omega)).trans ((upd_ne (by omega)).trans ((upd_ne (by omega)).trans ((upd_ne (by omega)).trans (upd_eq (by omega))))))), (upd_ne (by omega)).trans ((upd_ne (by omega)).trans ((upd_ne (by omega)).trans ((upd_ne (by omega)).trans ((upd_ne (by omega)).trans (upd_eq (by omega)))))), (upd_ne (by omega)).trans ((upd_ne (by omega)).trans (upd_eq (by omega))), (upd_ne (by omega)).trans ((upd_ne (by omega)).trans ((upd_ne (by omega)).trans (upd_eq (by omega)))), (upd_ne (by omega)).trans (upd_eq (by omega)), upd_eq (by omega), fun h9 => absurd (show (1 : Nat) = 0 from h9) (by decide), fun _ => (by (try dsimp only); omega), Nat.le_refl _, (by (try dsimp only); omega)⟩), by (try dsimp only); omega, by (try dsimp only); omega⟩) gX12_lineAt_15.2.2
                  · have hq7111 := a7105
                    refine vV (wr := [(nl, iA G 54 (upd (upd (upd (upd (upd (upd (upd fnl (6 * kl) 2) (6 * kl + 1) (nI (NVL bt ktp (NXT bt ktp ks)))) (6 * kl + 2) (-9)) (6 * kl + 3) (-9)) (6 * kl + 2) (nI (NVL bt ktp (NXT bt ktp (NXT bt ktp (NXT bt ktp ks)))))) (6 * kl + 4) (nI kc)) (6 * kl + 5) (nI kc17093))), (nt, iA G 240 fnt), (nc, iA G 100 gnc7094), (nF, sA G 5 (FCT K))]) hC hK hl hP hD hS hA (m_need0 l G h0 nw nk mhasKept nt (nI ktp) nr mrowMany mroundOf mroundFrom mouts nm mfromHour mtoHour ns (nI ks17092) (nI (TKE bt ktp ks17092)) (nI (TKN bt ktp ks17092)) 0 (nI kc17093) (nI kl) nl nc nF np ntr nb mbestCost nso nsi nit nsh nsf nss nrc mtraced mdealer mnumber mwhose msize misParted) si_X12_236 [1] [0, 2, 3, 4] sm_1 fm_1 nd_1 sm_0_2_3_4 nd_0_2_3_4 dj_1__0_2_3_4 rfl rfl rfl rfl rfl (Nat.le_of_ble_eq_true rfl) rm_32_4_2 ⟨Nat.le_of_ble_eq_true rfl, Nat.le_of_ble_eq_true rfl⟩ gX12_lineAt_15.2.1 (fun u7113 H locs hr7112 hP hD hS => ?_)
                    refine Kpdr (ws := [(nl, iA G 54 (upd (upd (upd (upd (upd (upd (upd fnl (6 * kl) 2) (6 * kl + 1) (nI (NVL bt ktp (NXT bt ktp ks)))) (6 * kl + 2) (-9)) (6 * kl + 3) (-9)) (6 * kl + 2) (nI (NVL bt ktp (NXT bt ktp (NXT bt ktp (NXT bt ktp ks)))))) (6 * kl + 4) (nI kc)) (6 * kl + 5) (nI kc17093))), (nt, iA G 240 fnt), (nc, iA G 100 gnc7094), (nF, sA G 5 (FCT K)), (h0, oX12 nw nk mhasKept nt (nI ktp) nr mrowMany mroundOf mroundFrom mouts nm mfromHour mtoHour ns (nI ks17092) (nI (TKE bt ktp ks17092)) (nI (TKN bt ktp ks17092)) 1 0 (nI kc17093) (nI kl) nl nc nF np ntr nb mbestCost nso nsi nit nsh nsf nss nrc mtraced mdealer mnumber mwhose msize misParted)]) hP hD (fun hP hD => ?_)
                    refine toQ hQ0 ?_
                    exact RV hC hP hD hS [4, 1, 2, 0, 3] (1, ks17092, kc17093, gnc7094, upd (upd (upd (upd (upd (upd (upd fnl (6 * kl) 2) (6 * kl + 1) (nI (NVL bt ktp (NXT bt ktp ks)))) (6 * kl + 2) (-9)) (6 * kl + 3) (-9)) (6 * kl + 2) (nI (NVL bt ktp (NXT bt ktp (NXT bt ktp (NXT bt ktp ks)))))) (6 * kl + 4) (nI kc)) (6 * kl + 5) (nI kc17093), LN0, [], []) rfl rfl (by decide) (Or.inr ⟨rfl, Or.inr ⟨2, SRT.y (k := 2) (by decide) hq7052, Or.inr ⟨(NXT bt ktp (NXT bt ktp (NXT bt ktp (NXT bt ktp ks)))), (nI (NVL bt ktp (NXT bt ktp ks))), (nI (NVL bt ktp (NXT bt ktp (NXT bt ktp (NXT bt ktp ks))))), (-9), HDQ.q3 hq7064 hq7068 hq7080, Or.inr ⟨⟨by decide, hq7084⟩, Or.inr ⟨ks17092, c17095, r17096, hq7100, Or.inl ⟨hq7111, rfl⟩⟩⟩⟩⟩, by (try dsimp only); omega⟩) gX12_lineAt_15.2.2
                · obtain ⟨rfl, hq7114, hq7115⟩ := v7099
                  refine lv_aload_n hx hb gX12_lineAt_13.2.2.2.2.2.2.2.2.2 rfl (lv_at1 hl) ?_
                  refine gf_X12_32 hC rfl hK hP 1 rfl rfl gX12_lineAt_14.1 ?_
                  refine lv_iload_n hx hb gX12_lineAt_14.2.1 rfl (lv_at2 hl) ?_
                  refine lv_iconst (v := 5) hx hb gX12_lineAt_14.2.2.1 (by decide) ?_
                  refine lv_iadd hx hb gX12_lineAt_14.2.2.2.1 ?_
                  refine eqi (x1 := nI (6 * kl + 5)) (nI_add (6 * kl) 5) ?_
                  refine lv_aload_n hx hb gX12_lineAt_14.2.2.2.2.1 rfl (lv_at1 hl) ?_
                  refine gf_X12_240 hC rfl hK hP 1 rfl rfl gX12_lineAt_14.2.2.2.2.2.1 ?_
                  refine astN hC hK hP hD hS 0 (ws' := [(nl, iA G 54 (upd (upd (upd (upd (upd (upd (upd fnl (6 * kl) 2) (6 * kl + 1) (nI (NVL bt ktp (NXT bt ktp ks)))) (6 * kl + 2) (-9)) (6 * kl + 3) (-9)) (6 * kl + 2) (nI (NVL bt ktp (NXT bt ktp (NXT bt ktp (NXT bt ktp ks)))))) (6 * kl + 4) (nI kc)) (6 * kl + 5) (nI kc17093))), (h0, oX12 nw nk mhasKept nt (nI ktp) nr mrowMany mroundOf mroundFrom mouts nm mfromHour mtoHour ns (nI ks17092) (nI (TKE bt ktp ks17092)) (nI (TKN bt ktp ks17092)) 1 0 (nI kc17093) (nI kl) nl nc nF np ntr nb mbestCost nso nsi nit nsh nsf nss nrc mtraced mdealer mnumber mwhose msize misParted), (nt, iA G 240 fnt), (nc, iA G 100 gnc7094), (nF, sA G 5 (FCT K))]) rfl (k := (6 * kl + 5)) (by omega) (Nat.le_of_ble_eq_true rfl) (rfl) gX12_lineAt_14.2.2.2.2.2.2.1 (fun H locs hP hD hS => ?_)
                  refine lv_aload_n hx hb gX12_lineAt_14.2.2.2.2.2.2.2.1 rfl (lv_at1 hl) ?_
                  refine lv_aload_n hx hb gX12_lineAt_14.2.2.2.2.2.2.2.2.1 rfl (lv_at1 hl) ?_
                  refine lv_bipush (v := 59) hx hb gX12_lineAt_14.2.2.2.2.2.2.2.2.2 (by decide) ?_
                  refine pV hC hK hl hP hD (m_isSignF l G h0 59 nw nk mhasKept nt (nI ktp) nr mrowMany mroundOf mroundFrom mouts nm mfromHour mtoHour ns (nI ks17092) (nI (TKE bt ktp ks17092)) (nI (TKN bt ktp ks17092)) 0 (nI kc17093) (nI kl) nl nc nF np ntr nb mbestCost nso nsi nit nsh nsf nss nrc mtraced mdealer mnumber mwhose msize misParted) si_X12_262 [1] sm_1 fm_1 nd_1 rfl rfl rfl rfl rfl (Nat.le_of_ble_eq_true rfl) rm_32_1_2 ⟨by first | exact Nat.le_of_ble_eq_true rfl | exact Nat.zero_le _, by first | exact Nat.le_of_ble_eq_true rfl | exact Nat.zero_le _⟩ gX12_lineAt_15.1 (Keqr ?_)
                  refine vV (wr := [(nl, iA G 54 (upd (upd (upd (upd (upd (upd (upd fnl (6 * kl) 2) (6 * kl + 1) (nI (NVL bt ktp (NXT bt ktp ks)))) (6 * kl + 2) (-9)) (6 * kl + 3) (-9)) (6 * kl + 2) (nI (NVL bt ktp (NXT bt ktp (NXT bt ktp (NXT bt ktp ks)))))) (6 * kl + 4) (nI kc)) (6 * kl + 5) (nI kc17093))), (nt, iA G 240 fnt), (nc, iA G 100 gnc7094), (nF, sA G 5 (FCT K))]) hC hK hl hP hD hS hA (m_needF l G h0 0 nw nk mhasKept nt (nI ktp) nr mrowMany mroundOf mroundFrom mouts nm mfromHour mtoHour ns (nI ks17092) (nI (TKE bt ktp ks17092)) (nI (TKN bt ktp ks17092)) 0 (nI kc17093) (nI kl) nl nc nF np ntr nb mbestCost nso nsi nit nsh nsf nss nrc mtraced mdealer mnumber mwhose msize misParted) si_X12_236 [1] [0, 2, 3, 4] sm_1 fm_1 nd_1 sm_0_2_3_4 nd_0_2_3_4 dj_1__0_2_3_4 rfl rfl rfl rfl rfl (Nat.le_of_ble_eq_true rfl) rm_32_4_2 ⟨Nat.le_of_ble_eq_true rfl, Nat.le_of_ble_eq_true rfl⟩ gX12_lineAt_15.2.1 (fun u7119 H locs hr7118 hP hD hS => ?_)
                  refine Kpdr (ws := [(nl, iA G 54 (upd (upd (upd (upd (upd (upd (upd fnl (6 * kl) 2) (6 * kl + 1) (nI (NVL bt ktp (NXT bt ktp ks)))) (6 * kl + 2) (-9)) (6 * kl + 3) (-9)) (6 * kl + 2) (nI (NVL bt ktp (NXT bt ktp (NXT bt ktp (NXT bt ktp ks)))))) (6 * kl + 4) (nI kc)) (6 * kl + 5) (nI kc17093))), (nt, iA G 240 fnt), (nc, iA G 100 gnc7094), (nF, sA G 5 (FCT K)), (h0, oX12 nw nk mhasKept nt (nI ktp) nr mrowMany mroundOf mroundFrom mouts nm mfromHour mtoHour ns (nI ks17092) (nI (TKE bt ktp ks17092)) (nI (TKN bt ktp ks17092)) 1 0 (nI kc17093) (nI kl) nl nc nF np ntr nb mbestCost nso nsi nit nsh nsf nss nrc mtraced mdealer mnumber mwhose msize misParted)]) hP hD (fun hP hD => ?_)
                  refine toQ hQ0 ?_
                  exact RV hC hP hD hS [4, 1, 2, 0, 3] (1, ks17092, kc17093, gnc7094, upd (upd (upd (upd (upd (upd (upd fnl (6 * kl) 2) (6 * kl + 1) (nI (NVL bt ktp (NXT bt ktp ks)))) (6 * kl + 2) (-9)) (6 * kl + 3) (-9)) (6 * kl + 2) (nI (NVL bt ktp (NXT bt ktp (NXT bt ktp (NXT bt ktp ks)))))) (6 * kl + 4) (nI kc)) (6 * kl + 5) (nI kc17093), LN0, [], []) rfl rfl (by decide) (Or.inr ⟨rfl, Or.inr ⟨2, SRT.y (k := 2) (by decide) hq7052, Or.inr ⟨(NXT bt ktp (NXT bt ktp (NXT bt ktp (NXT bt ktp ks)))), (nI (NVL bt ktp (NXT bt ktp ks))), (nI (NVL bt ktp (NXT bt ktp (NXT bt ktp (NXT bt ktp ks))))), (-9), HDQ.q3 hq7064 hq7068 hq7080, Or.inr ⟨⟨by decide, hq7084⟩, Or.inl ⟨_, hq7114, rfl⟩⟩⟩⟩, by (try dsimp only); omega⟩) gX12_lineAt_15.2.2
              · have hq7120 := a7083
                refine lv_if_eq (tgt := 256) hx hb gX12_lineAt_13.2.2.2.2.1 (by decide) (fun _ => ?_) (fun c9 => absurd (by decide) c9)
                refine lv_aload_n hx hb gX12_lineAt_13.2.2.2.2.2.2.2.2.2 rfl (lv_at1 hl) ?_
                refine gf_X12_32 hC rfl hK hP 3 rfl rfl gX12_lineAt_14.1 ?_
                refine lv_iload_n hx hb gX12_lineAt_14.2.1 rfl (lv_at2 hl) ?_
                refine lv_iconst (v := 5) hx hb gX12_lineAt_14.2.2.1 (by decide) ?_
                refine lv_iadd hx hb gX12_lineAt_14.2.2.2.1 ?_
                refine eqi (x1 := nI (6 * kl + 5)) (nI_add (6 * kl) 5) ?_
                refine lv_aload_n hx hb gX12_lineAt_14.2.2.2.2.1 rfl (lv_at1 hl) ?_
                refine gf_X12_240 hC rfl hK hP 3 rfl rfl gX12_lineAt_14.2.2.2.2.2.1 ?_
                refine astN hC hK hP hD hS 1 (ws' := [(nc, iA G 100 fnc), (nl, iA G 54 (upd (upd (upd (upd (upd (upd (upd fnl (6 * kl) 2) (6 * kl + 1) (nI (NVL bt ktp (NXT bt ktp ks)))) (6 * kl + 2) (-9)) (6 * kl + 3) (-9)) (6 * kl + 2) (nI (NVL bt ktp (NXT bt ktp (NXT bt ktp (NXT bt ktp ks)))))) (6 * kl + 4) (nI kc)) (6 * kl + 5) (nI kc))), (nF, sA G 5 (FCT K)), (h0, oX12 nw nk mhasKept nt (nI ktp) nr mrowMany mroundOf mroundFrom mouts nm mfromHour mtoHour ns (nI (NXT bt ktp (NXT bt ktp (NXT bt ktp (NXT bt ktp ks))))) (nI (TKE bt ktp (NXT bt ktp (NXT bt ktp (NXT bt ktp (NXT bt ktp ks)))))) (nI (TKN bt ktp (NXT bt ktp (NXT bt ktp (NXT bt ktp (NXT bt ktp ks)))))) 0 0 (nI kc) (nI kl) nl nc nF np ntr nb mbestCost nso nsi nit nsh nsf nss nrc mtraced mdealer mnumber mwhose msize misParted), (nt, iA G 240 fnt)]) rfl (k := (6 * kl + 5)) (by omega) (Nat.le_of_ble_eq_true rfl) (rfl) gX12_lineAt_14.2.2.2.2.2.2.1 (fun H locs hP hD hS => ?_)
                refine lv_aload_n hx hb gX12_lineAt_14.2.2.2.2.2.2.2.1 rfl (lv_at1 hl) ?_
                refine lv_aload_n hx hb gX12_lineAt_14.2.2.2.2.2.2.2.2.1 rfl (lv_at1 hl) ?_
                refine lv_bipush (v := 59) hx hb gX12_lineAt_14.2.2.2.2.2.2.2.2.2 (by decide) ?_
                refine pV hC hK hl hP hD (m_isSignX l G h0 59 nw nk mhasKept nt ktp nr mrowMany mroundOf mroundFrom mouts nm mfromHour mtoHour ns (NXT bt ktp (NXT bt ktp (NXT bt ktp (NXT bt ktp ks)))) 0 (nI kc) (nI kl) nl nc nF np ntr nb mbestCost nso nsi nit nsh nsf nss nrc mtraced mdealer mnumber mwhose msize misParted fnt bt (htp) (by omega) (hFB)) si_X12_262 [3, 4] sm_3_4 fm_3_4 nd_3_4 rfl rfl rfl rfl rfl (Nat.le_of_ble_eq_true rfl) rm_32_1_2 ⟨by first | exact Nat.le_of_ble_eq_true rfl | exact Nat.zero_le _, by first | exact Nat.le_of_ble_eq_true rfl | exact Nat.zero_le _⟩ gX12_lineAt_15.1 (Kors (Keqa fun a7122 => ?_) (Keqa fun a7122 => ?_))
                · have hq7123 := a7122
                  have xl7124 := SGN.len hq7123 (by omega)
                  refine vV (wr := [(nc, iA G 100 fnc), (nl, iA G 54 (upd (upd (upd (upd (upd (upd (upd fnl (6 * kl) 2) (6 * kl + 1) (nI (NVL bt ktp (NXT bt ktp ks)))) (6 * kl + 2) (-9)) (6 * kl + 3) (-9)) (6 * kl + 2) (nI (NVL bt ktp (NXT bt ktp (NXT bt ktp (NXT bt ktp ks)))))) (6 * kl + 4) (nI kc)) (6 * kl + 5) (nI kc))), (nF, sA G 5 (FCT K))]) hC hK hl hP hD hS hA (m_need1X l G h0 nw nk mhasKept nt ktp nr mrowMany mroundOf mroundFrom mouts nm mfromHour mtoHour ns (NXT bt ktp (NXT bt ktp (NXT bt ktp (NXT bt ktp ks)))) 0 (nI kc) (nI kl) nl nc nF np ntr nb mbestCost nso nsi nit nsh nsf nss nrc mtraced mdealer mnumber mwhose msize misParted fnt bt (htp) (by omega) (hFB)) si_X12_236 [3, 4] [0, 1, 2] sm_3_4 fm_3_4 nd_3_4 sm_0_1_2 nd_0_1_2 dj_3_4__0_1_2 rfl rfl rfl rfl rfl (Nat.le_of_ble_eq_true rfl) rm_32_4_2 ⟨Nat.le_of_ble_eq_true rfl, Nat.le_of_ble_eq_true rfl⟩ gX12_lineAt_15.2.1 (fun u7126 H locs hr7125 hP hD hS => ?_)
                  refine Kpdr (ws := [(nc, iA G 100 fnc), (nl, iA G 54 (upd (upd (upd (upd (upd (upd (upd fnl (6 * kl) 2) (6 * kl + 1) (nI (NVL bt ktp (NXT bt ktp ks)))) (6 * kl + 2) (-9)) (6 * kl + 3) (-9)) (6 * kl + 2) (nI (NVL bt ktp (NXT bt ktp (NXT bt ktp (NXT bt ktp ks)))))) (6 * kl + 4) (nI kc)) (6 * kl + 5) (nI kc))), (nF, sA G 5 (FCT K)), (h0, oX12 nw nk mhasKept nt (nI ktp) nr mrowMany mroundOf mroundFrom mouts nm mfromHour mtoHour ns (nI (NXT bt ktp (NXT bt ktp (NXT bt ktp (NXT bt ktp (NXT bt ktp ks)))))) (nI (TKE bt ktp (NXT bt ktp (NXT bt ktp (NXT bt ktp (NXT bt ktp (NXT bt ktp ks))))))) (nI (TKN bt ktp (NXT bt ktp (NXT bt ktp (NXT bt ktp (NXT bt ktp (NXT bt ktp ks))))))) 0 0 (nI kc) (nI kl) nl nc nF np ntr nb mbestCost nso nsi nit nsh nsf nss nrc mtraced mdealer mnumber mwhose msize misParted), (nt, iA G 240 fnt)]) hP hD (fun hP hD => ?_)
                  have xn7127 := NXT.ge (bt := bt) (n := ktp) (s := (NXT bt ktp (NXT bt ktp (NXT bt ktp (NXT bt ktp ks))))) (by omega)
                  refine toQ hQ0 ?_
                  exact RV hC hP hD hS [3, 4, 0, 1, 2] (0, (NXT bt ktp (NXT bt ktp (NXT bt ktp (NXT bt ktp (NXT bt ktp ks))))), kc, fnc, upd (upd (upd (upd (upd (upd (upd fnl (6 * kl) 2) (6 * kl + 1) (nI (NVL bt ktp (NXT bt ktp ks)))) (6 * kl + 2) (-9)) (6 * kl + 3) (-9)) (6 * kl + 2) (nI (NVL bt ktp (NXT bt ktp (NXT bt ktp (NXT bt ktp ks)))))) (6 * kl + 4) (nI kc)) (6 * kl + 5) (nI kc), (2, (nI (NVL bt ktp (NXT bt ktp ks))), (nI (NVL bt ktp (NXT bt ktp (NXT bt ktp (NXT bt ktp ks))))), (-9), 0, cs.length, cs.length, rs.length, rs.length), cs, rs) rfl rfl (by decide) (Or.inl ⟨rfl, Or.inr ⟨2, SRT.y (k := 2) (by decide) hq7052, Or.inr ⟨(NXT bt ktp (NXT bt ktp (NXT bt ktp (NXT bt ktp ks)))), (nI (NVL bt ktp (NXT bt ktp ks))), (nI (NVL bt ktp (NXT bt ktp (NXT bt ktp (NXT bt ktp ks))))), (-9), HDQ.q3 hq7064 hq7068 hq7080, Or.inl ⟨(fun h9 => hq7120 h9.2), Or.inr ⟨hq7123, rfl⟩⟩⟩⟩, hST, (by rw [hs1]; exact ⟨fun j hj => (upd_ne (by omega)).trans ((upd_ne (by omega)).trans ((upd_ne (by omega)).trans ((upd_ne (by omega)).trans ((upd_ne (by omega)).trans ((upd_ne (by omega)).trans ((upd_ne (by omega)).trans (rfl))))))), (upd_ne (by omega)).trans ((upd_ne (by omega)).trans ((upd_ne (by omega)).trans ((upd_ne (by omega)).trans ((upd_ne (by omega)).trans ((upd_ne (by omega)).trans (upd_eq (by omega))))))), (upd_ne (by omega)).trans ((upd_ne (by omega)).trans ((upd_ne (by omega)).trans ((upd_ne (by omega)).trans ((upd_ne (by omega)).trans (upd_eq (by omega)))))), (upd_ne (by omega)).trans ((upd_ne (by omega)).trans (upd_eq (by omega))), (upd_ne (by omega)).trans ((upd_ne (by omega)).trans ((upd_ne (by omega)).trans (upd_eq (by omega)))), (upd_ne (by omega)).trans (upd_eq (by omega)), upd_eq (by omega), fun _ => rfl, fun h9 => absurd (show (0 : Nat) = 1 from h9) (by decide), Nat.zero_le _, (by (try dsimp only); omega)⟩), by (try dsimp only); omega, by (try dsimp only); omega⟩) gX12_lineAt_15.2.2
                · have hq7128 := a7122
                  refine vV (wr := [(nc, iA G 100 fnc), (nl, iA G 54 (upd (upd (upd (upd (upd (upd (upd fnl (6 * kl) 2) (6 * kl + 1) (nI (NVL bt ktp (NXT bt ktp ks)))) (6 * kl + 2) (-9)) (6 * kl + 3) (-9)) (6 * kl + 2) (nI (NVL bt ktp (NXT bt ktp (NXT bt ktp (NXT bt ktp ks)))))) (6 * kl + 4) (nI kc)) (6 * kl + 5) (nI kc))), (nF, sA G 5 (FCT K)), (nt, iA G 240 fnt)]) hC hK hl hP hD hS hA (m_need0 l G h0 nw nk mhasKept nt (nI ktp) nr mrowMany mroundOf mroundFrom mouts nm mfromHour mtoHour ns (nI (NXT bt ktp (NXT bt ktp (NXT bt ktp (NXT bt ktp ks))))) (nI (TKE bt ktp (NXT bt ktp (NXT bt ktp (NXT bt ktp (NXT bt ktp ks)))))) (nI (TKN bt ktp (NXT bt ktp (NXT bt ktp (NXT bt ktp (NXT bt ktp ks)))))) 0 (nI kc) (nI kl) nl nc nF np ntr nb mbestCost nso nsi nit nsh nsf nss nrc mtraced mdealer mnumber mwhose msize misParted) si_X12_236 [3] [0, 1, 2, 4] sm_3 fm_3 nd_3 sm_0_1_2_4 nd_0_1_2_4 dj_3__0_1_2_4 rfl rfl rfl rfl rfl (Nat.le_of_ble_eq_true rfl) rm_32_4_2 ⟨Nat.le_of_ble_eq_true rfl, Nat.le_of_ble_eq_true rfl⟩ gX12_lineAt_15.2.1 (fun u7130 H locs hr7129 hP hD hS => ?_)
                  refine Kpdr (ws := [(nc, iA G 100 fnc), (nl, iA G 54 (upd (upd (upd (upd (upd (upd (upd fnl (6 * kl) 2) (6 * kl + 1) (nI (NVL bt ktp (NXT bt ktp ks)))) (6 * kl + 2) (-9)) (6 * kl + 3) (-9)) (6 * kl + 2) (nI (NVL bt ktp (NXT bt ktp (NXT bt ktp (NXT bt ktp ks)))))) (6 * kl + 4) (nI kc)) (6 * kl + 5) (nI kc))), (nF, sA G 5 (FCT K)), (nt, iA G 240 fnt), (h0, oX12 nw nk mhasKept nt (nI ktp) nr mrowMany mroundOf mroundFrom mouts nm mfromHour mtoHour ns (nI (NXT bt ktp (NXT bt ktp (NXT bt ktp (NXT bt ktp ks))))) (nI (TKE bt ktp (NXT bt ktp (NXT bt ktp (NXT bt ktp (NXT bt ktp ks)))))) (nI (TKN bt ktp (NXT bt ktp (NXT bt ktp (NXT bt ktp (NXT bt ktp ks)))))) 1 0 (nI kc) (nI kl) nl nc nF np ntr nb mbestCost nso nsi nit nsh nsf nss nrc mtraced mdealer mnumber mwhose msize misParted)]) hP hD (fun hP hD => ?_)
                  refine toQ hQ0 ?_
                  exact RV hC hP hD hS [4, 3, 0, 1, 2] (1, (NXT bt ktp (NXT bt ktp (NXT bt ktp (NXT bt ktp ks)))), kc, fnc, upd (upd (upd (upd (upd (upd (upd fnl (6 * kl) 2) (6 * kl + 1) (nI (NVL bt ktp (NXT bt ktp ks)))) (6 * kl + 2) (-9)) (6 * kl + 3) (-9)) (6 * kl + 2) (nI (NVL bt ktp (NXT bt ktp (NXT bt ktp (NXT bt ktp ks)))))) (6 * kl + 4) (nI kc)) (6 * kl + 5) (nI kc), LN0, [], []) rfl rfl (by decide) (Or.inr ⟨rfl, Or.inr ⟨2, SRT.y (k := 2) (by decide) hq7052, Or.inr ⟨(NXT bt ktp (NXT bt ktp (NXT bt ktp (NXT bt ktp ks)))), (nI (NVL bt ktp (NXT bt ktp ks))), (nI (NVL bt ktp (NXT bt ktp (NXT bt ktp (NXT bt ktp ks))))), (-9), HDQ.q3 hq7064 hq7068 hq7080, Or.inl ⟨(fun h9 => hq7120 h9.2), Or.inl ⟨hq7128, rfl⟩⟩⟩⟩, by (try dsimp only); omega⟩) gX12_lineAt_15.2.2
            · obtain ⟨rfl, rfl, hq7131⟩ := v7079
              refine astN hC hK hP hD hS 1 (ws' := [(nc, iA G 100 fnc), (nl, iA G 54 (upd (upd (upd (upd (upd fnl (6 * kl) 2) (6 * kl + 1) (nI (NVL bt ktp (NXT bt ktp ks)))) (6 * kl + 2) (-9)) (6 * kl + 3) (-9)) (6 * kl + 2) r7073)), (nF, sA G 5 (FCT K)), (h0, oX12 nw nk mhasKept nt (nI ktp) nr mrowMany mroundOf mroundFrom mouts nm mfromHour mtoHour ns (nI (NXT bt ktp (NXT bt ktp (NXT bt ktp ks)))) (nI (TKE bt ktp (NXT bt ktp (NXT bt ktp (NXT bt ktp ks))))) (nI (TKN bt ktp (NXT bt ktp (NXT bt ktp (NXT bt ktp ks))))) 1 0 (nI kc) (nI kl) nl nc nF np ntr nb mbestCost nso nsi nit nsh nsf nss nrc mtraced mdealer mnumber mwhose msize misParted), (nt, iA G 240 fnt)]) rfl (k := (6 * kl + 2)) (by omega) (Nat.le_of_ble_eq_true rfl) (rfl) gX12_lineAt_11.2.2.2.2.2.2.2.2.2 (fun H locs hP hD hS => ?_)
              refine lv_aload_n hx hb gX12_lineAt_12.1 rfl (lv_at1 hl) ?_
              refine gf_X12_32 hC rfl hK hP 3 rfl rfl gX12_lineAt_12.2.1 ?_
              refine lv_iload_n hx hb gX12_lineAt_12.2.2.1 rfl (lv_at2 hl) ?_
              refine lv_iconst (v := 4) hx hb gX12_lineAt_12.2.2.2.1 (by decide) ?_
              refine lv_iadd hx hb gX12_lineAt_12.2.2.2.2.1 ?_
              refine eqi (x1 := nI (6 * kl + 4)) (nI_add (6 * kl) 4) ?_
              refine lv_aload_n hx hb gX12_lineAt_12.2.2.2.2.2.1 rfl (lv_at1 hl) ?_
              refine gf_X12_240 hC rfl hK hP 3 rfl rfl gX12_lineAt_12.2.2.2.2.2.2.1 ?_
              refine astN hC hK hP hD hS 1 (ws' := [(nc, iA G 100 fnc), (nl, iA G 54 (upd (upd (upd (upd (upd (upd fnl (6 * kl) 2) (6 * kl + 1) (nI (NVL bt ktp (NXT bt ktp ks)))) (6 * kl + 2) (-9)) (6 * kl + 3) (-9)) (6 * kl + 2) r7073) (6 * kl + 4) (nI kc))), (nF, sA G 5 (FCT K)), (h0, oX12 nw nk mhasKept nt (nI ktp) nr mrowMany mroundOf mroundFrom mouts nm mfromHour mtoHour ns (nI (NXT bt ktp (NXT bt ktp (NXT bt ktp ks)))) (nI (TKE bt ktp (NXT bt ktp (NXT bt ktp (NXT bt ktp ks))))) (nI (TKN bt ktp (NXT bt ktp (NXT bt ktp (NXT bt ktp ks))))) 1 0 (nI kc) (nI kl) nl nc nF np ntr nb mbestCost nso nsi nit nsh nsf nss nrc mtraced mdealer mnumber mwhose msize misParted), (nt, iA G 240 fnt)]) rfl (k := (6 * kl + 4)) (by omega) (Nat.le_of_ble_eq_true rfl) (rfl) gX12_lineAt_12.2.2.2.2.2.2.2.1 (fun H locs hP hD hS => ?_)
              refine lv_iload_n hx hb gX12_lineAt_12.2.2.2.2.2.2.2.2.1 rfl (lv_at0 hl) ?_
              refine lv_iconst (v := 3) hx hb gX12_lineAt_12.2.2.2.2.2.2.2.2.2 (by decide) ?_
              refine lv_icmp_eq (tgt := 256) hx hb gX12_lineAt_13.1 (by decide) (fun c9 => absurd c9 (by decide)) (fun _ => ?_)
              refine lv_aload_n hx hb gX12_lineAt_13.2.1 rfl (lv_at1 hl) ?_
              refine va_ldcSw (index := 287) (tx := "if") hx hb hown (hO.2.2 0 (by decide)) gX12_lineAt_13.2.2.1 ?_
              refine pVo hO hS hC hK hl hP hD (m_isNameF l G K 0 h0 nw nk mhasKept nt (nI ktp) nr mrowMany mroundOf mroundFrom mouts nm mfromHour mtoHour ns (nI (NXT bt ktp (NXT bt ktp (NXT bt ktp ks)))) (nI (TKE bt ktp (NXT bt ktp (NXT bt ktp (NXT bt ktp ks))))) (nI (TKN bt ktp (NXT bt ktp (NXT bt ktp (NXT bt ktp ks))))) 0 (nI kc) (nI kl) nl nc nF np ntr nb mbestCost nso nsi nit nsh nsf nss nrc mtraced mdealer mnumber mwhose msize misParted ((by decide))) si_X12_248 [3] sm_3 fm_3 nd_3 rfl rfl rfl rfl rfl (Nat.le_of_ble_eq_true rfl) rm_32_5_4 ⟨by first | exact Nat.le_of_ble_eq_true rfl | exact Nat.zero_le _, by first | exact Nat.le_of_ble_eq_true rfl | exact Nat.zero_le _⟩ gX12_lineAt_13.2.2.2.1 (Keqr ?_)
              refine lv_if_eq (tgt := 256) hx hb gX12_lineAt_13.2.2.2.2.1 (by decide) (fun _ => ?_) (fun c9 => absurd (by decide) c9)
              refine lv_aload_n hx hb gX12_lineAt_13.2.2.2.2.2.2.2.2.2 rfl (lv_at1 hl) ?_
              refine gf_X12_32 hC rfl hK hP 3 rfl rfl gX12_lineAt_14.1 ?_
              refine lv_iload_n hx hb gX12_lineAt_14.2.1 rfl (lv_at2 hl) ?_
              refine lv_iconst (v := 5) hx hb gX12_lineAt_14.2.2.1 (by decide) ?_
              refine lv_iadd hx hb gX12_lineAt_14.2.2.2.1 ?_
              refine eqi (x1 := nI (6 * kl + 5)) (nI_add (6 * kl) 5) ?_
              refine lv_aload_n hx hb gX12_lineAt_14.2.2.2.2.1 rfl (lv_at1 hl) ?_
              refine gf_X12_240 hC rfl hK hP 3 rfl rfl gX12_lineAt_14.2.2.2.2.2.1 ?_
              refine astN hC hK hP hD hS 1 (ws' := [(nc, iA G 100 fnc), (nl, iA G 54 (upd (upd (upd (upd (upd (upd (upd fnl (6 * kl) 2) (6 * kl + 1) (nI (NVL bt ktp (NXT bt ktp ks)))) (6 * kl + 2) (-9)) (6 * kl + 3) (-9)) (6 * kl + 2) r7073) (6 * kl + 4) (nI kc)) (6 * kl + 5) (nI kc))), (nF, sA G 5 (FCT K)), (h0, oX12 nw nk mhasKept nt (nI ktp) nr mrowMany mroundOf mroundFrom mouts nm mfromHour mtoHour ns (nI (NXT bt ktp (NXT bt ktp (NXT bt ktp ks)))) (nI (TKE bt ktp (NXT bt ktp (NXT bt ktp (NXT bt ktp ks))))) (nI (TKN bt ktp (NXT bt ktp (NXT bt ktp (NXT bt ktp ks))))) 1 0 (nI kc) (nI kl) nl nc nF np ntr nb mbestCost nso nsi nit nsh nsf nss nrc mtraced mdealer mnumber mwhose msize misParted), (nt, iA G 240 fnt)]) rfl (k := (6 * kl + 5)) (by omega) (Nat.le_of_ble_eq_true rfl) (rfl) gX12_lineAt_14.2.2.2.2.2.2.1 (fun H locs hP hD hS => ?_)
              refine lv_aload_n hx hb gX12_lineAt_14.2.2.2.2.2.2.2.1 rfl (lv_at1 hl) ?_
              refine lv_aload_n hx hb gX12_lineAt_14.2.2.2.2.2.2.2.2.1 rfl (lv_at1 hl) ?_
              refine lv_bipush (v := 59) hx hb gX12_lineAt_14.2.2.2.2.2.2.2.2.2 (by decide) ?_
              refine pV hC hK hl hP hD (m_isSignF l G h0 59 nw nk mhasKept nt (nI ktp) nr mrowMany mroundOf mroundFrom mouts nm mfromHour mtoHour ns (nI (NXT bt ktp (NXT bt ktp (NXT bt ktp ks)))) (nI (TKE bt ktp (NXT bt ktp (NXT bt ktp (NXT bt ktp ks))))) (nI (TKN bt ktp (NXT bt ktp (NXT bt ktp (NXT bt ktp ks))))) 0 (nI kc) (nI kl) nl nc nF np ntr nb mbestCost nso nsi nit nsh nsf nss nrc mtraced mdealer mnumber mwhose msize misParted) si_X12_262 [3] sm_3 fm_3 nd_3 rfl rfl rfl rfl rfl (Nat.le_of_ble_eq_true rfl) rm_32_1_2 ⟨by first | exact Nat.le_of_ble_eq_true rfl | exact Nat.zero_le _, by first | exact Nat.le_of_ble_eq_true rfl | exact Nat.zero_le _⟩ gX12_lineAt_15.1 (Keqr ?_)
              refine vV (wr := [(nc, iA G 100 fnc), (nl, iA G 54 (upd (upd (upd (upd (upd (upd (upd fnl (6 * kl) 2) (6 * kl + 1) (nI (NVL bt ktp (NXT bt ktp ks)))) (6 * kl + 2) (-9)) (6 * kl + 3) (-9)) (6 * kl + 2) r7073) (6 * kl + 4) (nI kc)) (6 * kl + 5) (nI kc))), (nF, sA G 5 (FCT K)), (nt, iA G 240 fnt)]) hC hK hl hP hD hS hA (m_needF l G h0 0 nw nk mhasKept nt (nI ktp) nr mrowMany mroundOf mroundFrom mouts nm mfromHour mtoHour ns (nI (NXT bt ktp (NXT bt ktp (NXT bt ktp ks)))) (nI (TKE bt ktp (NXT bt ktp (NXT bt ktp (NXT bt ktp ks))))) (nI (TKN bt ktp (NXT bt ktp (NXT bt ktp (NXT bt ktp ks))))) 0 (nI kc) (nI kl) nl nc nF np ntr nb mbestCost nso nsi nit nsh nsf nss nrc mtraced mdealer mnumber mwhose msize misParted) si_X12_236 [3] [0, 1, 2, 4] sm_3 fm_3 nd_3 sm_0_1_2_4 nd_0_1_2_4 dj_3__0_1_2_4 rfl rfl rfl rfl rfl (Nat.le_of_ble_eq_true rfl) rm_32_4_2 ⟨Nat.le_of_ble_eq_true rfl, Nat.le_of_ble_eq_true rfl⟩ gX12_lineAt_15.2.1 (fun u7137 H locs hr7136 hP hD hS => ?_)
              refine Kpdr (ws := [(nc, iA G 100 fnc), (nl, iA G 54 (upd (upd (upd (upd (upd (upd (upd fnl (6 * kl) 2) (6 * kl + 1) (nI (NVL bt ktp (NXT bt ktp ks)))) (6 * kl + 2) (-9)) (6 * kl + 3) (-9)) (6 * kl + 2) r7073) (6 * kl + 4) (nI kc)) (6 * kl + 5) (nI kc))), (nF, sA G 5 (FCT K)), (nt, iA G 240 fnt), (h0, oX12 nw nk mhasKept nt (nI ktp) nr mrowMany mroundOf mroundFrom mouts nm mfromHour mtoHour ns (nI (NXT bt ktp (NXT bt ktp (NXT bt ktp ks)))) (nI (TKE bt ktp (NXT bt ktp (NXT bt ktp (NXT bt ktp ks))))) (nI (TKN bt ktp (NXT bt ktp (NXT bt ktp (NXT bt ktp ks))))) 1 0 (nI kc) (nI kl) nl nc nF np ntr nb mbestCost nso nsi nit nsh nsf nss nrc mtraced mdealer mnumber mwhose msize misParted)]) hP hD (fun hP hD => ?_)
              refine toQ hQ0 ?_
              exact RV hC hP hD hS [4, 3, 0, 1, 2] (1, (NXT bt ktp (NXT bt ktp (NXT bt ktp ks))), kc, fnc, upd (upd (upd (upd (upd (upd (upd fnl (6 * kl) 2) (6 * kl + 1) (nI (NVL bt ktp (NXT bt ktp ks)))) (6 * kl + 2) (-9)) (6 * kl + 3) (-9)) (6 * kl + 2) r7073) (6 * kl + 4) (nI kc)) (6 * kl + 5) (nI kc), LN0, [], []) rfl rfl (by decide) (Or.inr ⟨rfl, Or.inr ⟨2, SRT.y (k := 2) (by decide) hq7052, Or.inl ⟨_, HDQ.q2 hq7064 hq7068 hq7131, rfl⟩⟩, by (try dsimp only); omega⟩) gX12_lineAt_15.2.2
          · have hq7138 := a7067
            refine vV (wr := [(nc, iA G 100 fnc), (nl, iA G 54 (upd (upd (upd (upd fnl (6 * kl) 2) (6 * kl + 1) (nI (NVL bt ktp (NXT bt ktp ks)))) (6 * kl + 2) (-9)) (6 * kl + 3) (-9))), (nF, sA G 5 (FCT K)), (nt, iA G 240 fnt)]) hC hK hl hP hD hS hA (m_need0 l G h0 nw nk mhasKept nt (nI ktp) nr mrowMany mroundOf mroundFrom mouts nm mfromHour mtoHour ns (nI (NXT bt ktp (NXT bt ktp ks))) (nI (TKE bt ktp (NXT bt ktp (NXT bt ktp ks)))) (nI (TKN bt ktp (NXT bt ktp (NXT bt ktp ks)))) 0 (nI kc) (nI kl) nl nc nF np ntr nb mbestCost nso nsi nit nsh nsf nss nrc mtraced mdealer mnumber mwhose msize misParted) si_X12_236 [3] [0, 1, 2, 4] sm_3 fm_3 nd_3 sm_0_1_2_4 nd_0_1_2_4 dj_3__0_1_2_4 rfl rfl rfl rfl rfl (Nat.le_of_ble_eq_true rfl) rm_32_4_2 ⟨Nat.le_of_ble_eq_true rfl, Nat.le_of_ble_eq_true rfl⟩ gX12_lineAt_11.1 (fun u7140 H locs hr7139 hP hD hS => ?_)
            refine Kpdr (ws := [(nc, iA G 100 fnc), (nl, iA G 54 (upd (upd (upd (upd fnl (6 * kl) 2) (6 * kl + 1) (nI (NVL bt ktp (NXT bt ktp ks)))) (6 * kl + 2) (-9)) (6 * kl + 3) (-9))), (nF, sA G 5 (FCT K)), (nt, iA G 240 fnt), (h0, oX12 nw nk mhasKept nt (nI ktp) nr mrowMany mroundOf mroundFrom mouts nm mfromHour mtoHour ns (nI (NXT bt ktp (NXT bt ktp ks))) (nI (TKE bt ktp (NXT bt ktp (NXT bt ktp ks)))) (nI (TKN bt ktp (NXT bt ktp (NXT bt ktp ks)))) 1 0 (nI kc) (nI kl) nl nc nF np ntr nb mbestCost nso nsi nit nsh nsf nss nrc mtraced mdealer mnumber mwhose msize misParted)]) hP hD (fun hP hD => ?_)
            refine lv_aload_n hx hb gX12_lineAt_11.2.1 rfl (lv_at1 hl) ?_
            refine gf_X12_32 hC rfl hK hP 4 rfl rfl gX12_lineAt_11.2.2.1 ?_
            refine lv_iload_n hx hb gX12_lineAt_11.2.2.2.1 rfl (lv_at2 hl) ?_
            refine lv_iconst (v := 2) hx hb gX12_lineAt_11.2.2.2.2.1 (by decide) ?_
            refine lv_iadd hx hb gX12_lineAt_11.2.2.2.2.2.1 ?_
            refine eqi (x1 := nI (6 * kl + 2)) (nI_add (6 * kl) 2) ?_
            refine lv_aload_n hx hb gX12_lineAt_11.2.2.2.2.2.2.1 rfl (lv_at1 hl) ?_
            refine lv_sipush (v := 999) hx hb gX12_lineAt_11.2.2.2.2.2.2.2.1 (by decide) ?_
            refine iV (wr := [(nc, iA G 100 fnc), (nl, iA G 54 (upd (upd (upd (upd fnl (6 * kl) 2) (6 * kl + 1) (nI (NVL bt ktp (NXT bt ktp ks)))) (6 * kl + 2) (-9)) (6 * kl + 3) (-9))), (nF, sA G 5 (FCT K)), (nt, iA G 240 fnt)]) hC hK hl hP hD hS hA (m_numberF l G h0 999 nw nk mhasKept nt (nI ktp) nr mrowMany mroundOf mroundFrom mouts nm mfromHour mtoHour ns (nI (NXT bt ktp (NXT bt ktp ks))) (nI (TKE bt ktp (NXT bt ktp (NXT bt ktp ks)))) (nI (TKN bt ktp (NXT bt ktp (NXT bt ktp ks)))) 0 (nI kc) (nI kl) nl nc nF np ntr nb mbestCost nso nsi nit nsh nsf nss nrc mtraced mdealer mnumber mwhose msize misParted) si_X12_271 [4] [0, 1, 2, 3] sm_4 fm_4 nd_4 sm_0_1_2_3 nd_0_1_2_3 dj_4__0_1_2_3 rfl rfl rfl rfl rfl (Nat.le_of_ble_eq_true rfl) rm_32_5_5 ⟨Nat.le_of_ble_eq_true rfl, Nat.le_of_ble_eq_true rfl⟩ gX12_lineAt_11.2.2.2.2.2.2.2.2.1 (fun r7141 u7142 H locs hr7141 hP hD hS => ?_)
            refine Kpdr (ws := [(nc, iA G 100 fnc), (nl, iA G 54 (upd (upd (upd (upd fnl (6 * kl) 2) (6 * kl + 1) (nI (NVL bt ktp (NXT bt ktp ks)))) (6 * kl + 2) (-9)) (6 * kl + 3) (-9))), (nF, sA G 5 (FCT K)), (nt, iA G 240 fnt), (h0, oX12 nw nk mhasKept nt (nI ktp) nr mrowMany mroundOf mroundFrom mouts nm mfromHour mtoHour ns (nI (NXT bt ktp (NXT bt ktp ks))) (nI (TKE bt ktp (NXT bt ktp (NXT bt ktp ks)))) (nI (TKN bt ktp (NXT bt ktp (NXT bt ktp ks)))) 1 0 (nI kc) (nI kl) nl nc nF np ntr nb mbestCost nso nsi nit nsh nsf nss nrc mtraced mdealer mnumber mwhose msize misParted)]) hP hD (fun hP hD => ?_)
            obtain rfl := hr7141
            refine astN hC hK hP hD hS 1 (ws' := [(nc, iA G 100 fnc), (nl, iA G 54 (upd (upd (upd (upd (upd fnl (6 * kl) 2) (6 * kl + 1) (nI (NVL bt ktp (NXT bt ktp ks)))) (6 * kl + 2) (-9)) (6 * kl + 3) (-9)) (6 * kl + 2) 0)), (nF, sA G 5 (FCT K)), (nt, iA G 240 fnt), (h0, oX12 nw nk mhasKept nt (nI ktp) nr mrowMany mroundOf mroundFrom mouts nm mfromHour mtoHour ns (nI (NXT bt ktp (NXT bt ktp ks))) (nI (TKE bt ktp (NXT bt ktp (NXT bt ktp ks)))) (nI (TKN bt ktp (NXT bt ktp (NXT bt ktp ks)))) 1 0 (nI kc) (nI kl) nl nc nF np ntr nb mbestCost nso nsi nit nsh nsf nss nrc mtraced mdealer mnumber mwhose msize misParted)]) rfl (k := (6 * kl + 2)) (by omega) (Nat.le_of_ble_eq_true rfl) (rfl) gX12_lineAt_11.2.2.2.2.2.2.2.2.2 (fun H locs hP hD hS => ?_)
            refine lv_aload_n hx hb gX12_lineAt_12.1 rfl (lv_at1 hl) ?_
            refine gf_X12_32 hC rfl hK hP 4 rfl rfl gX12_lineAt_12.2.1 ?_
            refine lv_iload_n hx hb gX12_lineAt_12.2.2.1 rfl (lv_at2 hl) ?_
            refine lv_iconst (v := 4) hx hb gX12_lineAt_12.2.2.2.1 (by decide) ?_
            refine lv_iadd hx hb gX12_lineAt_12.2.2.2.2.1 ?_
            refine eqi (x1 := nI (6 * kl + 4)) (nI_add (6 * kl) 4) ?_
            refine lv_aload_n hx hb gX12_lineAt_12.2.2.2.2.2.1 rfl (lv_at1 hl) ?_
            refine gf_X12_240 hC rfl hK hP 4 rfl rfl gX12_lineAt_12.2.2.2.2.2.2.1 ?_
            refine astN hC hK hP hD hS 1 (ws' := [(nc, iA G 100 fnc), (nl, iA G 54 (upd (upd (upd (upd (upd (upd fnl (6 * kl) 2) (6 * kl + 1) (nI (NVL bt ktp (NXT bt ktp ks)))) (6 * kl + 2) (-9)) (6 * kl + 3) (-9)) (6 * kl + 2) 0) (6 * kl + 4) (nI kc))), (nF, sA G 5 (FCT K)), (nt, iA G 240 fnt), (h0, oX12 nw nk mhasKept nt (nI ktp) nr mrowMany mroundOf mroundFrom mouts nm mfromHour mtoHour ns (nI (NXT bt ktp (NXT bt ktp ks))) (nI (TKE bt ktp (NXT bt ktp (NXT bt ktp ks)))) (nI (TKN bt ktp (NXT bt ktp (NXT bt ktp ks)))) 1 0 (nI kc) (nI kl) nl nc nF np ntr nb mbestCost nso nsi nit nsh nsf nss nrc mtraced mdealer mnumber mwhose msize misParted)]) rfl (k := (6 * kl + 4)) (by omega) (Nat.le_of_ble_eq_true rfl) (rfl) gX12_lineAt_12.2.2.2.2.2.2.2.1 (fun H locs hP hD hS => ?_)
            refine lv_iload_n hx hb gX12_lineAt_12.2.2.2.2.2.2.2.2.1 rfl (lv_at0 hl) ?_
            refine lv_iconst (v := 3) hx hb gX12_lineAt_12.2.2.2.2.2.2.2.2.2 (by decide) ?_
            refine lv_icmp_eq (tgt := 256) hx hb gX12_lineAt_13.1 (by decide) (fun c9 => absurd c9 (by decide)) (fun _ => ?_)
            refine lv_aload_n hx hb gX12_lineAt_13.2.1 rfl (lv_at1 hl) ?_
            refine va_ldcSw (index := 287) (tx := "if") hx hb hown (hO.2.2 0 (by decide)) gX12_lineAt_13.2.2.1 ?_
            refine pVo hO hS hC hK hl hP hD (m_isNameF l G K 0 h0 nw nk mhasKept nt (nI ktp) nr mrowMany mroundOf mroundFrom mouts nm mfromHour mtoHour ns (nI (NXT bt ktp (NXT bt ktp ks))) (nI (TKE bt ktp (NXT bt ktp (NXT bt ktp ks)))) (nI (TKN bt ktp (NXT bt ktp (NXT bt ktp ks)))) 0 (nI kc) (nI kl) nl nc nF np ntr nb mbestCost nso nsi nit nsh nsf nss nrc mtraced mdealer mnumber mwhose msize misParted ((by decide))) si_X12_248 [4] sm_4 fm_4 nd_4 rfl rfl rfl rfl rfl (Nat.le_of_ble_eq_true rfl) rm_32_5_4 ⟨by first | exact Nat.le_of_ble_eq_true rfl | exact Nat.zero_le _, by first | exact Nat.le_of_ble_eq_true rfl | exact Nat.zero_le _⟩ gX12_lineAt_13.2.2.2.1 (Keqr ?_)
            refine lv_if_eq (tgt := 256) hx hb gX12_lineAt_13.2.2.2.2.1 (by decide) (fun _ => ?_) (fun c9 => absurd (by decide) c9)
            refine lv_aload_n hx hb gX12_lineAt_13.2.2.2.2.2.2.2.2.2 rfl (lv_at1 hl) ?_
            refine gf_X12_32 hC rfl hK hP 4 rfl rfl gX12_lineAt_14.1 ?_
            refine lv_iload_n hx hb gX12_lineAt_14.2.1 rfl (lv_at2 hl) ?_
            refine lv_iconst (v := 5) hx hb gX12_lineAt_14.2.2.1 (by decide) ?_
            refine lv_iadd hx hb gX12_lineAt_14.2.2.2.1 ?_
            refine eqi (x1 := nI (6 * kl + 5)) (nI_add (6 * kl) 5) ?_
            refine lv_aload_n hx hb gX12_lineAt_14.2.2.2.2.1 rfl (lv_at1 hl) ?_
            refine gf_X12_240 hC rfl hK hP 4 rfl rfl gX12_lineAt_14.2.2.2.2.2.1 ?_
            refine astN hC hK hP hD hS 1 (ws' := [(nc, iA G 100 fnc), (nl, iA G 54 (upd (upd (upd (upd (upd (upd (upd fnl (6 * kl) 2) (6 * kl + 1) (nI (NVL bt ktp (NXT bt ktp ks)))) (6 * kl + 2) (-9)) (6 * kl + 3) (-9)) (6 * kl + 2) 0) (6 * kl + 4) (nI kc)) (6 * kl + 5) (nI kc))), (nF, sA G 5 (FCT K)), (nt, iA G 240 fnt), (h0, oX12 nw nk mhasKept nt (nI ktp) nr mrowMany mroundOf mroundFrom mouts nm mfromHour mtoHour ns (nI (NXT bt ktp (NXT bt ktp ks))) (nI (TKE bt ktp (NXT bt ktp (NXT bt ktp ks)))) (nI (TKN bt ktp (NXT bt ktp (NXT bt ktp ks)))) 1 0 (nI kc) (nI kl) nl nc nF np ntr nb mbestCost nso nsi nit nsh nsf nss nrc mtraced mdealer mnumber mwhose msize misParted)]) rfl (k := (6 * kl + 5)) (by omega) (Nat.le_of_ble_eq_true rfl) (rfl) gX12_lineAt_14.2.2.2.2.2.2.1 (fun H locs hP hD hS => ?_)
            refine lv_aload_n hx hb gX12_lineAt_14.2.2.2.2.2.2.2.1 rfl (lv_at1 hl) ?_
            refine lv_aload_n hx hb gX12_lineAt_14.2.2.2.2.2.2.2.2.1 rfl (lv_at1 hl) ?_
            refine lv_bipush (v := 59) hx hb gX12_lineAt_14.2.2.2.2.2.2.2.2.2 (by decide) ?_
            refine pV hC hK hl hP hD (m_isSignF l G h0 59 nw nk mhasKept nt (nI ktp) nr mrowMany mroundOf mroundFrom mouts nm mfromHour mtoHour ns (nI (NXT bt ktp (NXT bt ktp ks))) (nI (TKE bt ktp (NXT bt ktp (NXT bt ktp ks)))) (nI (TKN bt ktp (NXT bt ktp (NXT bt ktp ks)))) 0 (nI kc) (nI kl) nl nc nF np ntr nb mbestCost nso nsi nit nsh nsf nss nrc mtraced mdealer mnumber mwhose msize misParted) si_X12_262 [4] sm_4 fm_4 nd_4 rfl rfl rfl rfl rfl (Nat.le_of_ble_eq_true rfl) rm_32_1_2 ⟨by first | exact Nat.le_of_ble_eq_true rfl | exact Nat.zero_le _, by first | exact Nat.le_of_ble_eq_true rfl | exact Nat.zero_le _⟩ gX12_lineAt_15.1 (Keqr ?_)
            refine vV (wr := [(nc, iA G 100 fnc), (nl, iA G 54 (upd (upd (upd (upd (upd (upd (upd fnl (6 * kl) 2) (6 * kl + 1) (nI (NVL bt ktp (NXT bt ktp ks)))) (6 * kl + 2) (-9)) (6 * kl + 3) (-9)) (6 * kl + 2) 0) (6 * kl + 4) (nI kc)) (6 * kl + 5) (nI kc))), (nF, sA G 5 (FCT K)), (nt, iA G 240 fnt)]) hC hK hl hP hD hS hA (m_needF l G h0 0 nw nk mhasKept nt (nI ktp) nr mrowMany mroundOf mroundFrom mouts nm mfromHour mtoHour ns (nI (NXT bt ktp (NXT bt ktp ks))) (nI (TKE bt ktp (NXT bt ktp (NXT bt ktp ks)))) (nI (TKN bt ktp (NXT bt ktp (NXT bt ktp ks)))) 0 (nI kc) (nI kl) nl nc nF np ntr nb mbestCost nso nsi nit nsh nsf nss nrc mtraced mdealer mnumber mwhose msize misParted) si_X12_236 [4] [0, 1, 2, 3] sm_4 fm_4 nd_4 sm_0_1_2_3 nd_0_1_2_3 dj_4__0_1_2_3 rfl rfl rfl rfl rfl (Nat.le_of_ble_eq_true rfl) rm_32_4_2 ⟨Nat.le_of_ble_eq_true rfl, Nat.le_of_ble_eq_true rfl⟩ gX12_lineAt_15.2.1 (fun u7149 H locs hr7148 hP hD hS => ?_)
            refine Kpdr (ws := [(nc, iA G 100 fnc), (nl, iA G 54 (upd (upd (upd (upd (upd (upd (upd fnl (6 * kl) 2) (6 * kl + 1) (nI (NVL bt ktp (NXT bt ktp ks)))) (6 * kl + 2) (-9)) (6 * kl + 3) (-9)) (6 * kl + 2) 0) (6 * kl + 4) (nI kc)) (6 * kl + 5) (nI kc))), (nF, sA G 5 (FCT K)), (nt, iA G 240 fnt), (h0, oX12 nw nk mhasKept nt (nI ktp) nr mrowMany mroundOf mroundFrom mouts nm mfromHour mtoHour ns (nI (NXT bt ktp (NXT bt ktp ks))) (nI (TKE bt ktp (NXT bt ktp (NXT bt ktp ks)))) (nI (TKN bt ktp (NXT bt ktp (NXT bt ktp ks)))) 1 0 (nI kc) (nI kl) nl nc nF np ntr nb mbestCost nso nsi nit nsh nsf nss nrc mtraced mdealer mnumber mwhose msize misParted)]) hP hD (fun hP hD => ?_)
            refine toQ hQ0 ?_
            exact RV hC hP hD hS [4, 3, 0, 1, 2] (1, (NXT bt ktp (NXT bt ktp ks)), kc, fnc, upd (upd (upd (upd (upd (upd (upd fnl (6 * kl) 2) (6 * kl + 1) (nI (NVL bt ktp (NXT bt ktp ks)))) (6 * kl + 2) (-9)) (6 * kl + 3) (-9)) (6 * kl + 2) 0) (6 * kl + 4) (nI kc)) (6 * kl + 5) (nI kc), LN0, [], []) rfl rfl (by decide) (Or.inr ⟨rfl, Or.inr ⟨2, SRT.y (k := 2) (by decide) hq7052, Or.inl ⟨_, HDQ.q1 hq7064 hq7138, rfl⟩⟩, by (try dsimp only); omega⟩) gX12_lineAt_15.2.2
        · obtain ⟨rfl, rfl, hq7150⟩ := v7063
          refine astN hC hK hP hD hS 1 (ws' := [(nc, iA G 100 fnc), (nl, iA G 54 (upd (upd fnl (6 * kl) 2) (6 * kl + 1) r7057)), (nF, sA G 5 (FCT K)), (h0, oX12 nw nk mhasKept nt (nI ktp) nr mrowMany mroundOf mroundFrom mouts nm mfromHour mtoHour ns (nI (NXT bt ktp ks)) (nI (TKE bt ktp (NXT bt ktp ks))) (nI (TKN bt ktp (NXT bt ktp ks))) 1 0 (nI kc) (nI kl) nl nc nF np ntr nb mbestCost nso nsi nit nsh nsf nss nrc mtraced mdealer mnumber mwhose msize misParted), (nt, iA G 240 fnt)]) rfl (k := (6 * kl + 1)) (by omega) (Nat.le_of_ble_eq_true rfl) (rfl) gX12_lineAt_5.2.2.2.2.2.2.2.2.1 (fun H locs hP hD hS => ?_)
          refine lv_aload_n hx hb gX12_lineAt_5.2.2.2.2.2.2.2.2.2 rfl (lv_at1 hl) ?_
          refine gf_X12_32 hC rfl hK hP 3 rfl rfl gX12_lineAt_6.1 ?_
          refine lv_iload_n hx hb gX12_lineAt_6.2.1 rfl (lv_at2 hl) ?_
          refine lv_iconst (v := 2) hx hb gX12_lineAt_6.2.2.1 (by decide) ?_
          refine lv_iadd hx hb gX12_lineAt_6.2.2.2.1 ?_
          refine eqi (x1 := nI (6 * kl + 2)) (nI_add (6 * kl) 2) ?_
          refine lv_bipush (v := (-9)) hx hb gX12_lineAt_6.2.2.2.2.1 (by decide) ?_
          refine astN hC hK hP hD hS 1 (ws' := [(nc, iA G 100 fnc), (nl, iA G 54 (upd (upd (upd fnl (6 * kl) 2) (6 * kl + 1) r7057) (6 * kl + 2) (-9))), (nF, sA G 5 (FCT K)), (h0, oX12 nw nk mhasKept nt (nI ktp) nr mrowMany mroundOf mroundFrom mouts nm mfromHour mtoHour ns (nI (NXT bt ktp ks)) (nI (TKE bt ktp (NXT bt ktp ks))) (nI (TKN bt ktp (NXT bt ktp ks))) 1 0 (nI kc) (nI kl) nl nc nF np ntr nb mbestCost nso nsi nit nsh nsf nss nrc mtraced mdealer mnumber mwhose msize misParted), (nt, iA G 240 fnt)]) rfl (k := (6 * kl + 2)) (by omega) (Nat.le_of_ble_eq_true rfl) (rfl) gX12_lineAt_6.2.2.2.2.2.1 (fun H locs hP hD hS => ?_)
          refine lv_aload_n hx hb gX12_lineAt_6.2.2.2.2.2.2.1 rfl (lv_at1 hl) ?_
          refine gf_X12_32 hC rfl hK hP 3 rfl rfl gX12_lineAt_6.2.2.2.2.2.2.2.1 ?_
          refine lv_iload_n hx hb gX12_lineAt_6.2.2.2.2.2.2.2.2.1 rfl (lv_at2 hl) ?_
          refine lv_iconst (v := 3) hx hb gX12_lineAt_6.2.2.2.2.2.2.2.2.2 (by decide) ?_
          refine lv_iadd hx hb gX12_lineAt_7.1 ?_
          refine eqi (x1 := nI (6 * kl + 3)) (nI_add (6 * kl) 3) ?_
          refine lv_bipush (v := (-9)) hx hb gX12_lineAt_7.2.1 (by decide) ?_
          refine astN hC hK hP hD hS 1 (ws' := [(nc, iA G 100 fnc), (nl, iA G 54 (upd (upd (upd (upd fnl (6 * kl) 2) (6 * kl + 1) r7057) (6 * kl + 2) (-9)) (6 * kl + 3) (-9))), (nF, sA G 5 (FCT K)), (h0, oX12 nw nk mhasKept nt (nI ktp) nr mrowMany mroundOf mroundFrom mouts nm mfromHour mtoHour ns (nI (NXT bt ktp ks)) (nI (TKE bt ktp (NXT bt ktp ks))) (nI (TKN bt ktp (NXT bt ktp ks))) 1 0 (nI kc) (nI kl) nl nc nF np ntr nb mbestCost nso nsi nit nsh nsf nss nrc mtraced mdealer mnumber mwhose msize misParted), (nt, iA G 240 fnt)]) rfl (k := (6 * kl + 3)) (by omega) (Nat.le_of_ble_eq_true rfl) (rfl) gX12_lineAt_7.2.2.1 (fun H locs hP hD hS => ?_)
          refine lv_iload_n hx hb gX12_lineAt_7.2.2.2.1 rfl (lv_at0 hl) ?_
          refine lv_if_ne (tgt := 190) hx hb gX12_lineAt_7.2.2.2.2.1 (by decide) (fun _ => ?_) (fun c9 => absurd c9 (by decide))
          refine lv_iload_n hx hb gX12_lineAt_10.2.2.2.1 rfl (lv_at0 hl) ?_
          refine lv_iconst (v := 2) hx hb gX12_lineAt_10.2.2.2.2.1 (by decide) ?_
          refine lv_icmp_ne (tgt := 221) hx hb gX12_lineAt_10.2.2.2.2.2.1 (by decide) (fun c9 => absurd (by decide) c9) (fun _ => ?_)
          refine lv_aload_n hx hb gX12_lineAt_10.2.2.2.2.2.2.1 rfl (lv_at1 hl) ?_
          refine lv_aload_n hx hb gX12_lineAt_10.2.2.2.2.2.2.2.1 rfl (lv_at1 hl) ?_
          refine va_ldcSw (index := 285) (tx := "by") hx hb hown (hO.2.2 7 (by decide)) gX12_lineAt_10.2.2.2.2.2.2.2.2.1 ?_
          refine pVo hO hS hC hK hl hP hD (m_isNameF l G K 7 h0 nw nk mhasKept nt (nI ktp) nr mrowMany mroundOf mroundFrom mouts nm mfromHour mtoHour ns (nI (NXT bt ktp ks)) (nI (TKE bt ktp (NXT bt ktp ks))) (nI (TKN bt ktp (NXT bt ktp ks))) 0 (nI kc) (nI kl) nl nc nF np ntr nb mbestCost nso nsi nit nsh nsf nss nrc mtraced mdealer mnumber mwhose msize misParted ((by decide))) si_X12_248 [3] sm_3 fm_3 nd_3 rfl rfl rfl rfl rfl (Nat.le_of_ble_eq_true rfl) rm_32_5_4 ⟨by first | exact Nat.le_of_ble_eq_true rfl | exact Nat.zero_le _, by first | exact Nat.le_of_ble_eq_true rfl | exact Nat.zero_le _⟩ gX12_lineAt_10.2.2.2.2.2.2.2.2.2 (Keqr ?_)
          refine vV (wr := [(nc, iA G 100 fnc), (nl, iA G 54 (upd (upd (upd (upd fnl (6 * kl) 2) (6 * kl + 1) r7057) (6 * kl + 2) (-9)) (6 * kl + 3) (-9))), (nF, sA G 5 (FCT K)), (nt, iA G 240 fnt)]) hC hK hl hP hD hS hA (m_needF l G h0 0 nw nk mhasKept nt (nI ktp) nr mrowMany mroundOf mroundFrom mouts nm mfromHour mtoHour ns (nI (NXT bt ktp ks)) (nI (TKE bt ktp (NXT bt ktp ks))) (nI (TKN bt ktp (NXT bt ktp ks))) 0 (nI kc) (nI kl) nl nc nF np ntr nb mbestCost nso nsi nit nsh nsf nss nrc mtraced mdealer mnumber mwhose msize misParted) si_X12_236 [3] [0, 1, 2, 4] sm_3 fm_3 nd_3 sm_0_1_2_4 nd_0_1_2_4 dj_3__0_1_2_4 rfl rfl rfl rfl rfl (Nat.le_of_ble_eq_true rfl) rm_32_4_2 ⟨Nat.le_of_ble_eq_true rfl, Nat.le_of_ble_eq_true rfl⟩ gX12_lineAt_11.1 (fun u7154 H locs hr7153 hP hD hS => ?_)
          refine Kpdr (ws := [(nc, iA G 100 fnc), (nl, iA G 54 (upd (upd (upd (upd fnl (6 * kl) 2) (6 * kl + 1) r7057) (6 * kl + 2) (-9)) (6 * kl + 3) (-9))), (nF, sA G 5 (FCT K)), (nt, iA G 240 fnt), (h0, oX12 nw nk mhasKept nt (nI ktp) nr mrowMany mroundOf mroundFrom mouts nm mfromHour mtoHour ns (nI (NXT bt ktp ks)) (nI (TKE bt ktp (NXT bt ktp ks))) (nI (TKN bt ktp (NXT bt ktp ks))) 1 0 (nI kc) (nI kl) nl nc nF np ntr nb mbestCost nso nsi nit nsh nsf nss nrc mtraced mdealer mnumber mwhose msize misParted)]) hP hD (fun hP hD => ?_)
          refine lv_aload_n hx hb gX12_lineAt_11.2.1 rfl (lv_at1 hl) ?_
          refine gf_X12_32 hC rfl hK hP 4 rfl rfl gX12_lineAt_11.2.2.1 ?_
          refine lv_iload_n hx hb gX12_lineAt_11.2.2.2.1 rfl (lv_at2 hl) ?_
          refine lv_iconst (v := 2) hx hb gX12_lineAt_11.2.2.2.2.1 (by decide) ?_
          refine lv_iadd hx hb gX12_lineAt_11.2.2.2.2.2.1 ?_
          refine eqi (x1 := nI (6 * kl + 2)) (nI_add (6 * kl) 2) ?_
          refine lv_aload_n hx hb gX12_lineAt_11.2.2.2.2.2.2.1 rfl (lv_at1 hl) ?_
          refine lv_sipush (v := 999) hx hb gX12_lineAt_11.2.2.2.2.2.2.2.1 (by decide) ?_
          refine iV (wr := [(nc, iA G 100 fnc), (nl, iA G 54 (upd (upd (upd (upd fnl (6 * kl) 2) (6 * kl + 1) r7057) (6 * kl + 2) (-9)) (6 * kl + 3) (-9))), (nF, sA G 5 (FCT K)), (nt, iA G 240 fnt)]) hC hK hl hP hD hS hA (m_numberF l G h0 999 nw nk mhasKept nt (nI ktp) nr mrowMany mroundOf mroundFrom mouts nm mfromHour mtoHour ns (nI (NXT bt ktp ks)) (nI (TKE bt ktp (NXT bt ktp ks))) (nI (TKN bt ktp (NXT bt ktp ks))) 0 (nI kc) (nI kl) nl nc nF np ntr nb mbestCost nso nsi nit nsh nsf nss nrc mtraced mdealer mnumber mwhose msize misParted) si_X12_271 [4] [0, 1, 2, 3] sm_4 fm_4 nd_4 sm_0_1_2_3 nd_0_1_2_3 dj_4__0_1_2_3 rfl rfl rfl rfl rfl (Nat.le_of_ble_eq_true rfl) rm_32_5_5 ⟨Nat.le_of_ble_eq_true rfl, Nat.le_of_ble_eq_true rfl⟩ gX12_lineAt_11.2.2.2.2.2.2.2.2.1 (fun r7155 u7156 H locs hr7155 hP hD hS => ?_)
          refine Kpdr (ws := [(nc, iA G 100 fnc), (nl, iA G 54 (upd (upd (upd (upd fnl (6 * kl) 2) (6 * kl + 1) r7057) (6 * kl + 2) (-9)) (6 * kl + 3) (-9))), (nF, sA G 5 (FCT K)), (nt, iA G 240 fnt), (h0, oX12 nw nk mhasKept nt (nI ktp) nr mrowMany mroundOf mroundFrom mouts nm mfromHour mtoHour ns (nI (NXT bt ktp ks)) (nI (TKE bt ktp (NXT bt ktp ks))) (nI (TKN bt ktp (NXT bt ktp ks))) 1 0 (nI kc) (nI kl) nl nc nF np ntr nb mbestCost nso nsi nit nsh nsf nss nrc mtraced mdealer mnumber mwhose msize misParted)]) hP hD (fun hP hD => ?_)
          obtain rfl := hr7155
          refine astN hC hK hP hD hS 1 (ws' := [(nc, iA G 100 fnc), (nl, iA G 54 (upd (upd (upd (upd (upd fnl (6 * kl) 2) (6 * kl + 1) r7057) (6 * kl + 2) (-9)) (6 * kl + 3) (-9)) (6 * kl + 2) 0)), (nF, sA G 5 (FCT K)), (nt, iA G 240 fnt), (h0, oX12 nw nk mhasKept nt (nI ktp) nr mrowMany mroundOf mroundFrom mouts nm mfromHour mtoHour ns (nI (NXT bt ktp ks)) (nI (TKE bt ktp (NXT bt ktp ks))) (nI (TKN bt ktp (NXT bt ktp ks))) 1 0 (nI kc) (nI kl) nl nc nF np ntr nb mbestCost nso nsi nit nsh nsf nss nrc mtraced mdealer mnumber mwhose msize misParted)]) rfl (k := (6 * kl + 2)) (by omega) (Nat.le_of_ble_eq_true rfl) (rfl) gX12_lineAt_11.2.2.2.2.2.2.2.2.2 (fun H locs hP hD hS => ?_)
          refine lv_aload_n hx hb gX12_lineAt_12.1 rfl (lv_at1 hl) ?_
          refine gf_X12_32 hC rfl hK hP 4 rfl rfl gX12_lineAt_12.2.1 ?_
          refine lv_iload_n hx hb gX12_lineAt_12.2.2.1 rfl (lv_at2 hl) ?_
          refine lv_iconst (v := 4) hx hb gX12_lineAt_12.2.2.2.1 (by decide) ?_
          refine lv_iadd hx hb gX12_lineAt_12.2.2.2.2.1 ?_
          refine eqi (x1 := nI (6 * kl + 4)) (nI_add (6 * kl) 4) ?_
          refine lv_aload_n hx hb gX12_lineAt_12.2.2.2.2.2.1 rfl (lv_at1 hl) ?_
          refine gf_X12_240 hC rfl hK hP 4 rfl rfl gX12_lineAt_12.2.2.2.2.2.2.1 ?_
          refine astN hC hK hP hD hS 1 (ws' := [(nc, iA G 100 fnc), (nl, iA G 54 (upd (upd (upd (upd (upd (upd fnl (6 * kl) 2) (6 * kl + 1) r7057) (6 * kl + 2) (-9)) (6 * kl + 3) (-9)) (6 * kl + 2) 0) (6 * kl + 4) (nI kc))), (nF, sA G 5 (FCT K)), (nt, iA G 240 fnt), (h0, oX12 nw nk mhasKept nt (nI ktp) nr mrowMany mroundOf mroundFrom mouts nm mfromHour mtoHour ns (nI (NXT bt ktp ks)) (nI (TKE bt ktp (NXT bt ktp ks))) (nI (TKN bt ktp (NXT bt ktp ks))) 1 0 (nI kc) (nI kl) nl nc nF np ntr nb mbestCost nso nsi nit nsh nsf nss nrc mtraced mdealer mnumber mwhose msize misParted)]) rfl (k := (6 * kl + 4)) (by omega) (Nat.le_of_ble_eq_true rfl) (rfl) gX12_lineAt_12.2.2.2.2.2.2.2.1 (fun H locs hP hD hS => ?_)
          refine lv_iload_n hx hb gX12_lineAt_12.2.2.2.2.2.2.2.2.1 rfl (lv_at0 hl) ?_
          refine lv_iconst (v := 3) hx hb gX12_lineAt_12.2.2.2.2.2.2.2.2.2 (by decide) ?_
          refine lv_icmp_eq (tgt := 256) hx hb gX12_lineAt_13.1 (by decide) (fun c9 => absurd c9 (by decide)) (fun _ => ?_)
          refine lv_aload_n hx hb gX12_lineAt_13.2.1 rfl (lv_at1 hl) ?_
          refine va_ldcSw (index := 287) (tx := "if") hx hb hown (hO.2.2 0 (by decide)) gX12_lineAt_13.2.2.1 ?_
          refine pVo hO hS hC hK hl hP hD (m_isNameF l G K 0 h0 nw nk mhasKept nt (nI ktp) nr mrowMany mroundOf mroundFrom mouts nm mfromHour mtoHour ns (nI (NXT bt ktp ks)) (nI (TKE bt ktp (NXT bt ktp ks))) (nI (TKN bt ktp (NXT bt ktp ks))) 0 (nI kc) (nI kl) nl nc nF np ntr nb mbestCost nso nsi nit nsh nsf nss nrc mtraced mdealer mnumber mwhose msize misParted ((by decide))) si_X12_248 [4] sm_4 fm_4 nd_4 rfl rfl rfl rfl rfl (Nat.le_of_ble_eq_true rfl) rm_32_5_4 ⟨by first | exact Nat.le_of_ble_eq_true rfl | exact Nat.zero_le _, by first | exact Nat.le_of_ble_eq_true rfl | exact Nat.zero_le _⟩ gX12_lineAt_13.2.2.2.1 (Keqr ?_)
          refine lv_if_eq (tgt := 256) hx hb gX12_lineAt_13.2.2.2.2.1 (by decide) (fun _ => ?_) (fun c9 => absurd (by decide) c9)
          refine lv_aload_n hx hb gX12_lineAt_13.2.2.2.2.2.2.2.2.2 rfl (lv_at1 hl) ?_
          refine gf_X12_32 hC rfl hK hP 4 rfl rfl gX12_lineAt_14.1 ?_
          refine lv_iload_n hx hb gX12_lineAt_14.2.1 rfl (lv_at2 hl) ?_
          refine lv_iconst (v := 5) hx hb gX12_lineAt_14.2.2.1 (by decide) ?_
          refine lv_iadd hx hb gX12_lineAt_14.2.2.2.1 ?_
          refine eqi (x1 := nI (6 * kl + 5)) (nI_add (6 * kl) 5) ?_
          refine lv_aload_n hx hb gX12_lineAt_14.2.2.2.2.1 rfl (lv_at1 hl) ?_
          refine gf_X12_240 hC rfl hK hP 4 rfl rfl gX12_lineAt_14.2.2.2.2.2.1 ?_
          refine astN hC hK hP hD hS 1 (ws' := [(nc, iA G 100 fnc), (nl, iA G 54 (upd (upd (upd (upd (upd (upd (upd fnl (6 * kl) 2) (6 * kl + 1) r7057) (6 * kl + 2) (-9)) (6 * kl + 3) (-9)) (6 * kl + 2) 0) (6 * kl + 4) (nI kc)) (6 * kl + 5) (nI kc))), (nF, sA G 5 (FCT K)), (nt, iA G 240 fnt), (h0, oX12 nw nk mhasKept nt (nI ktp) nr mrowMany mroundOf mroundFrom mouts nm mfromHour mtoHour ns (nI (NXT bt ktp ks)) (nI (TKE bt ktp (NXT bt ktp ks))) (nI (TKN bt ktp (NXT bt ktp ks))) 1 0 (nI kc) (nI kl) nl nc nF np ntr nb mbestCost nso nsi nit nsh nsf nss nrc mtraced mdealer mnumber mwhose msize misParted)]) rfl (k := (6 * kl + 5)) (by omega) (Nat.le_of_ble_eq_true rfl) (rfl) gX12_lineAt_14.2.2.2.2.2.2.1 (fun H locs hP hD hS => ?_)
          refine lv_aload_n hx hb gX12_lineAt_14.2.2.2.2.2.2.2.1 rfl (lv_at1 hl) ?_
          refine lv_aload_n hx hb gX12_lineAt_14.2.2.2.2.2.2.2.2.1 rfl (lv_at1 hl) ?_
          refine lv_bipush (v := 59) hx hb gX12_lineAt_14.2.2.2.2.2.2.2.2.2 (by decide) ?_
          refine pV hC hK hl hP hD (m_isSignF l G h0 59 nw nk mhasKept nt (nI ktp) nr mrowMany mroundOf mroundFrom mouts nm mfromHour mtoHour ns (nI (NXT bt ktp ks)) (nI (TKE bt ktp (NXT bt ktp ks))) (nI (TKN bt ktp (NXT bt ktp ks))) 0 (nI kc) (nI kl) nl nc nF np ntr nb mbestCost nso nsi nit nsh nsf nss nrc mtraced mdealer mnumber mwhose msize misParted) si_X12_262 [4] sm_4 fm_4 nd_4 rfl rfl rfl rfl rfl (Nat.le_of_ble_eq_true rfl) rm_32_1_2 ⟨by first | exact Nat.le_of_ble_eq_true rfl | exact Nat.zero_le _, by first | exact Nat.le_of_ble_eq_true rfl | exact Nat.zero_le _⟩ gX12_lineAt_15.1 (Keqr ?_)
          refine vV (wr := [(nc, iA G 100 fnc), (nl, iA G 54 (upd (upd (upd (upd (upd (upd (upd fnl (6 * kl) 2) (6 * kl + 1) r7057) (6 * kl + 2) (-9)) (6 * kl + 3) (-9)) (6 * kl + 2) 0) (6 * kl + 4) (nI kc)) (6 * kl + 5) (nI kc))), (nF, sA G 5 (FCT K)), (nt, iA G 240 fnt)]) hC hK hl hP hD hS hA (m_needF l G h0 0 nw nk mhasKept nt (nI ktp) nr mrowMany mroundOf mroundFrom mouts nm mfromHour mtoHour ns (nI (NXT bt ktp ks)) (nI (TKE bt ktp (NXT bt ktp ks))) (nI (TKN bt ktp (NXT bt ktp ks))) 0 (nI kc) (nI kl) nl nc nF np ntr nb mbestCost nso nsi nit nsh nsf nss nrc mtraced mdealer mnumber mwhose msize misParted) si_X12_236 [4] [0, 1, 2, 3] sm_4 fm_4 nd_4 sm_0_1_2_3 nd_0_1_2_3 dj_4__0_1_2_3 rfl rfl rfl rfl rfl (Nat.le_of_ble_eq_true rfl) rm_32_4_2 ⟨Nat.le_of_ble_eq_true rfl, Nat.le_of_ble_eq_true rfl⟩ gX12_lineAt_15.2.1 (fun u7163 H locs hr7162 hP hD hS => ?_)
          refine Kpdr (ws := [(nc, iA G 100 fnc), (nl, iA G 54 (upd (upd (upd (upd (upd (upd (upd fnl (6 * kl) 2) (6 * kl + 1) r7057) (6 * kl + 2) (-9)) (6 * kl + 3) (-9)) (6 * kl + 2) 0) (6 * kl + 4) (nI kc)) (6 * kl + 5) (nI kc))), (nF, sA G 5 (FCT K)), (nt, iA G 240 fnt), (h0, oX12 nw nk mhasKept nt (nI ktp) nr mrowMany mroundOf mroundFrom mouts nm mfromHour mtoHour ns (nI (NXT bt ktp ks)) (nI (TKE bt ktp (NXT bt ktp ks))) (nI (TKN bt ktp (NXT bt ktp ks))) 1 0 (nI kc) (nI kl) nl nc nF np ntr nb mbestCost nso nsi nit nsh nsf nss nrc mtraced mdealer mnumber mwhose msize misParted)]) hP hD (fun hP hD => ?_)
          refine toQ hQ0 ?_
          exact RV hC hP hD hS [4, 3, 0, 1, 2] (1, (NXT bt ktp ks), kc, fnc, upd (upd (upd (upd (upd (upd (upd fnl (6 * kl) 2) (6 * kl + 1) r7057) (6 * kl + 2) (-9)) (6 * kl + 3) (-9)) (6 * kl + 2) 0) (6 * kl + 4) (nI kc)) (6 * kl + 5) (nI kc), LN0, [], []) rfl rfl (by decide) (Or.inr ⟨rfl, Or.inr ⟨2, SRT.y (k := 2) (by decide) hq7052, Or.inl ⟨_, HDQ.a0 (so := 2) (M := 7) rfl hq7150, rfl⟩⟩, by (try dsimp only); omega⟩) gX12_lineAt_15.2.2
      · have hq7164 := a7051
        refine lv_if_eq (tgt := 42) hx hb gX12_lineAt_1.2.2.2.2.2.1 (by decide) (fun _ => ?_) (fun c9 => absurd (by decide) c9)
        refine lv_aload_n hx hb gX12_lineAt_1.2.2.2.2.2.2.2.2.1 rfl (lv_at0 hl) ?_
        refine va_ldcSw (index := 280) (tx := "heard") hx hb hown (hO.2.2 4 (by decide)) gX12_lineAt_1.2.2.2.2.2.2.2.2.2 ?_
        refine pVo hO hS hC hK hl hP hD (m_isNameX l G K 4 h0 nw nk mhasKept nt ktp nr mrowMany mroundOf mroundFrom mouts nm mfromHour mtoHour ns ks 0 (nI kc) (nI kl) nl nc nF np ntr nb mbestCost nso nsi nit nsh nsf nss nrc mtraced mdealer mnumber mwhose msize misParted fnt bt (htp) (hks) (hFB) ((by decide))) si_X12_248 [0, 1] sm_0_1 fm_0_1 nd_0_1 rfl rfl rfl rfl rfl (Nat.le_of_ble_eq_true rfl) rm_32_5_4 ⟨by first | exact Nat.le_of_ble_eq_true rfl | exact Nat.zero_le _, by first | exact Nat.le_of_ble_eq_true rfl | exact Nat.zero_le _⟩ gX12_lineAt_2.1 (Kors (Keqa fun a7166 => ?_) (Keqa fun a7166 => ?_))
        · have hq7167 := a7166
          have xl7168 : ks + 5 ≤ NXT bt ktp ks ∧ NXT bt ktp ks ≤ ktp := WRD.len hq7167 (by omega)
          refine lv_if_eq (tgt := 56) hx hb gX12_lineAt_2.2.1 (by decide) (fun c9 => absurd c9 (by decide)) (fun _ => ?_)
          refine lv_iconst (v := 3) hx hb gX12_lineAt_2.2.2.1 (by decide) ?_
          refine lv_goto (tgt := 57) hx hb gX12_lineAt_2.2.2.2.1 (by decide) ?_
          refine lv_istore_n (lv' := [(2, .int 3), (0, .ref h0), (1, .int (nI (6 * kl)))]) hx hb gX12_lineAt_2.2.2.2.2.2.1 rfl hl (by decide) rfl (fun ls hl => ?_)
          refine lv_aload_n hx hb gX12_lineAt_2.2.2.2.2.2.2.1 rfl (lv_at1 hl) ?_
          refine lv_iload_n hx hb gX12_lineAt_2.2.2.2.2.2.2.2.1 rfl (lv_at0 hl) ?_
          refine lv_if_lt (tgt := 67) hx hb gX12_lineAt_2.2.2.2.2.2.2.2.2.1 (by decide) (fun c9 => absurd c9 (by decide)) (fun _ => ?_)
          refine lv_iconst (v := 1) hx hb gX12_lineAt_2.2.2.2.2.2.2.2.2.2 (by decide) ?_
          refine lv_goto (tgt := 68) hx hb gX12_lineAt_3.1 (by decide) ?_
          refine vV (wr := [(nc, iA G 100 fnc), (nl, iA G 54 fnl), (nF, sA G 5 (FCT K))]) hC hK hl hP hD hS hA (m_need1X l G h0 nw nk mhasKept nt ktp nr mrowMany mroundOf mroundFrom mouts nm mfromHour mtoHour ns ks 0 (nI kc) (nI kl) nl nc nF np ntr nb mbestCost nso nsi nit nsh nsf nss nrc mtraced mdealer mnumber mwhose msize misParted fnt bt (htp) (hks) (hFB)) si_X12_236 [0, 1] [2, 3, 4] sm_0_1 fm_0_1 nd_0_1 sm_2_3_4 nd_2_3_4 dj_0_1__2_3_4 rfl rfl rfl rfl rfl (Nat.le_of_ble_eq_true rfl) rm_32_4_2 ⟨Nat.le_of_ble_eq_true rfl, Nat.le_of_ble_eq_true rfl⟩ gX12_lineAt_3.2.2.1 (fun u7170 H locs hr7169 hP hD hS => ?_)
          refine Kpdr (ws := [(nc, iA G 100 fnc), (nl, iA G 54 fnl), (nF, sA G 5 (FCT K)), (h0, oX12 nw nk mhasKept nt (nI ktp) nr mrowMany mroundOf mroundFrom mouts nm mfromHour mtoHour ns (nI (NXT bt ktp ks)) (nI (TKE bt ktp (NXT bt ktp ks))) (nI (TKN bt ktp (NXT bt ktp ks))) 0 0 (nI kc) (nI kl) nl nc nF np ntr nb mbestCost nso nsi nit nsh nsf nss nrc mtraced mdealer mnumber mwhose msize misParted), (nt, iA G 240 fnt)]) hP hD (fun hP hD => ?_)
          have xn7171 := NXT.ge (bt := bt) (n := ktp) (s := ks) (by omega)
          refine lv_aload_n hx hb gX12_lineAt_3.2.2.2.1 rfl (lv_at1 hl) ?_
          refine gf_X12_32 hC rfl hK hP 3 rfl rfl gX12_lineAt_3.2.2.2.2.1 ?_
          refine lv_iload_n hx hb gX12_lineAt_3.2.2.2.2.2.1 rfl (lv_at2 hl) ?_
          refine lv_iload_n hx hb gX12_lineAt_3.2.2.2.2.2.2.1 rfl (lv_at0 hl) ?_
          refine astN hC hK hP hD hS 1 (ws' := [(nc, iA G 100 fnc), (nl, iA G 54 (upd fnl (6 * kl) 3)), (nF, sA G 5 (FCT K)), (h0, oX12 nw nk mhasKept nt (nI ktp) nr mrowMany mroundOf mroundFrom mouts nm mfromHour mtoHour ns (nI (NXT bt ktp ks)) (nI (TKE bt ktp (NXT bt ktp ks))) (nI (TKN bt ktp (NXT bt ktp ks))) 0 0 (nI kc) (nI kl) nl nc nF np ntr nb mbestCost nso nsi nit nsh nsf nss nrc mtraced mdealer mnumber mwhose msize misParted), (nt, iA G 240 fnt)]) rfl (k := (6 * kl)) (by omega) (Nat.le_of_ble_eq_true rfl) (rfl) gX12_lineAt_3.2.2.2.2.2.2.2.1 (fun H locs hP hD hS => ?_)
          refine lv_aload_n hx hb gX12_lineAt_3.2.2.2.2.2.2.2.2.1 rfl (lv_at1 hl) ?_
          refine gf_X12_32 hC rfl hK hP 3 rfl rfl gX12_lineAt_3.2.2.2.2.2.2.2.2.2 ?_
          refine lv_iload_n hx hb gX12_lineAt_4.1 rfl (lv_at2 hl) ?_
          refine lv_iconst (v := 1) hx hb gX12_lineAt_4.2.1 (by decide) ?_
          refine lv_iadd hx hb gX12_lineAt_4.2.2.1 ?_
          refine eqi (x1 := nI (6 * kl + 1)) (nI_add (6 * kl) 1) ?_
          refine lv_aload_n hx hb gX12_lineAt_4.2.2.2.1 rfl (lv_at1 hl) ?_
          refine lv_iload_n hx hb gX12_lineAt_4.2.2.2.2.1 rfl (lv_at0 hl) ?_
          refine lv_if_eq (tgt := 95) hx hb gX12_lineAt_4.2.2.2.2.2.1 (by decide) (fun c9 => absurd c9 (by decide)) (fun _ => ?_)
          refine lv_iload_n hx hb gX12_lineAt_4.2.2.2.2.2.2.1 rfl (lv_at0 hl) ?_
          refine lv_iconst (v := 1) hx hb gX12_lineAt_4.2.2.2.2.2.2.2.1 (by decide) ?_
          refine lv_icmp_ne (tgt := 100) hx hb gX12_lineAt_4.2.2.2.2.2.2.2.2.1 (by decide) (fun _ => ?_) (fun c9 => absurd c9 (by decide))
          refine lv_iload_n hx hb gX12_lineAt_5.2.1 rfl (lv_at0 hl) ?_
          refine lv_iconst (v := 2) hx hb gX12_lineAt_5.2.2.1 (by decide) ?_
          refine lv_icmp_ne (tgt := 110) hx hb gX12_lineAt_5.2.2.2.1 (by decide) (fun _ => ?_) (fun c9 => absurd c9 (by decide))
          refine lv_bipush (v := 9) hx hb gX12_lineAt_5.2.2.2.2.2.2.1 (by decide) ?_
          refine iV (wr := [(nc, iA G 100 fnc), (nl, iA G 54 (upd fnl (6 * kl) 3)), (nF, sA G 5 (FCT K))]) hC hK hl hP hD hS hA (m_numberX l G h0 9 nw nk mhasKept nt ktp nr mrowMany mroundOf mroundFrom mouts nm mfromHour mtoHour ns (NXT bt ktp ks) 0 (nI kc) (nI kl) nl nc nF np ntr nb mbestCost nso nsi nit nsh nsf nss nrc mtraced mdealer mnumber mwhose msize misParted fnt bt (htp) (by omega) (hFB) (by omega)) si_X12_271 [3, 4] [0, 1, 2] sm_3_4 fm_3_4 nd_3_4 sm_0_1_2 nd_0_1_2 dj_3_4__0_1_2 rfl rfl rfl rfl rfl (Nat.le_of_ble_eq_true rfl) rm_32_5_5 ⟨Nat.le_of_ble_eq_true rfl, Nat.le_of_ble_eq_true rfl⟩ gX12_lineAt_5.2.2.2.2.2.2.2.1 (fun r7172 => Ktu2 fun ff17174 ks17175 => ?_)
          intro H locs hr7172 hP hD hS
          try dsimp only at hr7172
          refine Kpdr (ws := [(nc, iA G 100 fnc), (nl, iA G 54 (upd fnl (6 * kl) 3)), (nF, sA G 5 (FCT K)), (h0, oX12 nw nk mhasKept nt (nI ktp) nr mrowMany mroundOf mroundFrom mouts nm mfromHour mtoHour ns (nI ks17175) (nI (TKE bt ktp ks17175)) (nI (TKN bt ktp ks17175)) ff17174 0 (nI kc) (nI kl) nl nc nF np ntr nb mbestCost nso nsi nit nsh nsf nss nrc mtraced mdealer mnumber mwhose msize misParted), (nt, iA G 240 fnt)]) hP hD (fun hP hD => ?_)
          obtain ⟨hr7172, w7176⟩ := hr7172
          rcases w7176 with v7177 | v7178
          · obtain ⟨rfl, rfl, rfl, hq7179⟩ := v7177
            have xl7180 := NML.len hq7179 (by omega)
            refine astN hC hK hP hD hS 1 (ws' := [(nc, iA G 100 fnc), (nl, iA G 54 (upd (upd fnl (6 * kl) 3) (6 * kl + 1) (nI (NVL bt ktp (NXT bt ktp ks))))), (nF, sA G 5 (FCT K)), (h0, oX12 nw nk mhasKept nt (nI ktp) nr mrowMany mroundOf mroundFrom mouts nm mfromHour mtoHour ns (nI (NXT bt ktp (NXT bt ktp ks))) (nI (TKE bt ktp (NXT bt ktp (NXT bt ktp ks)))) (nI (TKN bt ktp (NXT bt ktp (NXT bt ktp ks)))) 0 0 (nI kc) (nI kl) nl nc nF np ntr nb mbestCost nso nsi nit nsh nsf nss nrc mtraced mdealer mnumber mwhose msize misParted), (nt, iA G 240 fnt)]) rfl (k := (6 * kl + 1)) (by omega) (Nat.le_of_ble_eq_true rfl) (rfl) gX12_lineAt_5.2.2.2.2.2.2.2.2.1 (fun H locs hP hD hS => ?_)
            refine lv_aload_n hx hb gX12_lineAt_5.2.2.2.2.2.2.2.2.2 rfl (lv_at1 hl) ?_
            refine gf_X12_32 hC rfl hK hP 3 rfl rfl gX12_lineAt_6.1 ?_
            refine lv_iload_n hx hb gX12_lineAt_6.2.1 rfl (lv_at2 hl) ?_
            refine lv_iconst (v := 2) hx hb gX12_lineAt_6.2.2.1 (by decide) ?_
            refine lv_iadd hx hb gX12_lineAt_6.2.2.2.1 ?_
            refine eqi (x1 := nI (6 * kl + 2)) (nI_add (6 * kl) 2) ?_
            refine lv_bipush (v := (-9)) hx hb gX12_lineAt_6.2.2.2.2.1 (by decide) ?_
            refine astN hC hK hP hD hS 1 (ws' := [(nc, iA G 100 fnc), (nl, iA G 54 (upd (upd (upd fnl (6 * kl) 3) (6 * kl + 1) (nI (NVL bt ktp (NXT bt ktp ks)))) (6 * kl + 2) (-9))), (nF, sA G 5 (FCT K)), (h0, oX12 nw nk mhasKept nt (nI ktp) nr mrowMany mroundOf mroundFrom mouts nm mfromHour mtoHour ns (nI (NXT bt ktp (NXT bt ktp ks))) (nI (TKE bt ktp (NXT bt ktp (NXT bt ktp ks)))) (nI (TKN bt ktp (NXT bt ktp (NXT bt ktp ks)))) 0 0 (nI kc) (nI kl) nl nc nF np ntr nb mbestCost nso nsi nit nsh nsf nss nrc mtraced mdealer mnumber mwhose msize misParted), (nt, iA G 240 fnt)]) rfl (k := (6 * kl + 2)) (by omega) (Nat.le_of_ble_eq_true rfl) (rfl) gX12_lineAt_6.2.2.2.2.2.1 (fun H locs hP hD hS => ?_)
            refine lv_aload_n hx hb gX12_lineAt_6.2.2.2.2.2.2.1 rfl (lv_at1 hl) ?_
            refine gf_X12_32 hC rfl hK hP 3 rfl rfl gX12_lineAt_6.2.2.2.2.2.2.2.1 ?_
            refine lv_iload_n hx hb gX12_lineAt_6.2.2.2.2.2.2.2.2.1 rfl (lv_at2 hl) ?_
            refine lv_iconst (v := 3) hx hb gX12_lineAt_6.2.2.2.2.2.2.2.2.2 (by decide) ?_
            refine lv_iadd hx hb gX12_lineAt_7.1 ?_
            refine eqi (x1 := nI (6 * kl + 3)) (nI_add (6 * kl) 3) ?_
            refine lv_bipush (v := (-9)) hx hb gX12_lineAt_7.2.1 (by decide) ?_
            refine astN hC hK hP hD hS 1 (ws' := [(nc, iA G 100 fnc), (nl, iA G 54 (upd (upd (upd (upd fnl (6 * kl) 3) (6 * kl + 1) (nI (NVL bt ktp (NXT bt ktp ks)))) (6 * kl + 2) (-9)) (6 * kl + 3) (-9))), (nF, sA G 5 (FCT K)), (h0, oX12 nw nk mhasKept nt (nI ktp) nr mrowMany mroundOf mroundFrom mouts nm mfromHour mtoHour ns (nI (NXT bt ktp (NXT bt ktp ks))) (nI (TKE bt ktp (NXT bt ktp (NXT bt ktp ks)))) (nI (TKN bt ktp (NXT bt ktp (NXT bt ktp ks)))) 0 0 (nI kc) (nI kl) nl nc nF np ntr nb mbestCost nso nsi nit nsh nsf nss nrc mtraced mdealer mnumber mwhose msize misParted), (nt, iA G 240 fnt)]) rfl (k := (6 * kl + 3)) (by omega) (Nat.le_of_ble_eq_true rfl) (rfl) gX12_lineAt_7.2.2.1 (fun H locs hP hD hS => ?_)
            refine lv_iload_n hx hb gX12_lineAt_7.2.2.2.1 rfl (lv_at0 hl) ?_
            refine lv_if_ne (tgt := 190) hx hb gX12_lineAt_7.2.2.2.2.1 (by decide) (fun _ => ?_) (fun c9 => absurd c9 (by decide))
            refine lv_iload_n hx hb gX12_lineAt_10.2.2.2.1 rfl (lv_at0 hl) ?_
            refine lv_iconst (v := 2) hx hb gX12_lineAt_10.2.2.2.2.1 (by decide) ?_
            refine lv_icmp_ne (tgt := 221) hx hb gX12_lineAt_10.2.2.2.2.2.1 (by decide) (fun _ => ?_) (fun c9 => absurd c9 (by decide))
            refine lv_aload_n hx hb gX12_lineAt_12.1 rfl (lv_at1 hl) ?_
            refine gf_X12_32 hC rfl hK hP 3 rfl rfl gX12_lineAt_12.2.1 ?_
            refine lv_iload_n hx hb gX12_lineAt_12.2.2.1 rfl (lv_at2 hl) ?_
            refine lv_iconst (v := 4) hx hb gX12_lineAt_12.2.2.2.1 (by decide) ?_
            refine lv_iadd hx hb gX12_lineAt_12.2.2.2.2.1 ?_
            refine eqi (x1 := nI (6 * kl + 4)) (nI_add (6 * kl) 4) ?_
            refine lv_aload_n hx hb gX12_lineAt_12.2.2.2.2.2.1 rfl (lv_at1 hl) ?_
            refine gf_X12_240 hC rfl hK hP 3 rfl rfl gX12_lineAt_12.2.2.2.2.2.2.1 ?_
            refine astN hC hK hP hD hS 1 (ws' := [(nc, iA G 100 fnc), (nl, iA G 54 (upd (upd (upd (upd (upd fnl (6 * kl) 3) (6 * kl + 1) (nI (NVL bt ktp (NXT bt ktp ks)))) (6 * kl + 2) (-9)) (6 * kl + 3) (-9)) (6 * kl + 4) (nI kc))), (nF, sA G 5 (FCT K)), (h0, oX12 nw nk mhasKept nt (nI ktp) nr mrowMany mroundOf mroundFrom mouts nm mfromHour mtoHour ns (nI (NXT bt ktp (NXT bt ktp ks))) (nI (TKE bt ktp (NXT bt ktp (NXT bt ktp ks)))) (nI (TKN bt ktp (NXT bt ktp (NXT bt ktp ks)))) 0 0 (nI kc) (nI kl) nl nc nF np ntr nb mbestCost nso nsi nit nsh nsf nss nrc mtraced mdealer mnumber mwhose msize misParted), (nt, iA G 240 fnt)]) rfl (k := (6 * kl + 4)) (by omega) (Nat.le_of_ble_eq_true rfl) (rfl) gX12_lineAt_12.2.2.2.2.2.2.2.1 (fun H locs hP hD hS => ?_)
            refine lv_iload_n hx hb gX12_lineAt_12.2.2.2.2.2.2.2.2.1 rfl (lv_at0 hl) ?_
            refine lv_iconst (v := 3) hx hb gX12_lineAt_12.2.2.2.2.2.2.2.2.2 (by decide) ?_
            refine lv_icmp_eq (tgt := 256) hx hb gX12_lineAt_13.1 (by decide) (fun _ => ?_) (fun c9 => absurd (by decide) c9)
            refine lv_aload_n hx hb gX12_lineAt_13.2.2.2.2.2.2.2.2.2 rfl (lv_at1 hl) ?_
            refine gf_X12_32 hC rfl hK hP 3 rfl rfl gX12_lineAt_14.1 ?_
            refine lv_iload_n hx hb gX12_lineAt_14.2.1 rfl (lv_at2 hl) ?_
            refine lv_iconst (v := 5) hx hb gX12_lineAt_14.2.2.1 (by decide) ?_
            refine lv_iadd hx hb gX12_lineAt_14.2.2.2.1 ?_
            refine eqi (x1 := nI (6 * kl + 5)) (nI_add (6 * kl) 5) ?_
            refine lv_aload_n hx hb gX12_lineAt_14.2.2.2.2.1 rfl (lv_at1 hl) ?_
            refine gf_X12_240 hC rfl hK hP 3 rfl rfl gX12_lineAt_14.2.2.2.2.2.1 ?_
            refine astN hC hK hP hD hS 1 (ws' := [(nc, iA G 100 fnc), (nl, iA G 54 (upd (upd (upd (upd (upd (upd fnl (6 * kl) 3) (6 * kl + 1) (nI (NVL bt ktp (NXT bt ktp ks)))) (6 * kl + 2) (-9)) (6 * kl + 3) (-9)) (6 * kl + 4) (nI kc)) (6 * kl + 5) (nI kc))), (nF, sA G 5 (FCT K)), (h0, oX12 nw nk mhasKept nt (nI ktp) nr mrowMany mroundOf mroundFrom mouts nm mfromHour mtoHour ns (nI (NXT bt ktp (NXT bt ktp ks))) (nI (TKE bt ktp (NXT bt ktp (NXT bt ktp ks)))) (nI (TKN bt ktp (NXT bt ktp (NXT bt ktp ks)))) 0 0 (nI kc) (nI kl) nl nc nF np ntr nb mbestCost nso nsi nit nsh nsf nss nrc mtraced mdealer mnumber mwhose msize misParted), (nt, iA G 240 fnt)]) rfl (k := (6 * kl + 5)) (by omega) (Nat.le_of_ble_eq_true rfl) (rfl) gX12_lineAt_14.2.2.2.2.2.2.1 (fun H locs hP hD hS => ?_)
            refine lv_aload_n hx hb gX12_lineAt_14.2.2.2.2.2.2.2.1 rfl (lv_at1 hl) ?_
            refine lv_aload_n hx hb gX12_lineAt_14.2.2.2.2.2.2.2.2.1 rfl (lv_at1 hl) ?_
            refine lv_bipush (v := 59) hx hb gX12_lineAt_14.2.2.2.2.2.2.2.2.2 (by decide) ?_
            refine pV hC hK hl hP hD (m_isSignX l G h0 59 nw nk mhasKept nt ktp nr mrowMany mroundOf mroundFrom mouts nm mfromHour mtoHour ns (NXT bt ktp (NXT bt ktp ks)) 0 (nI kc) (nI kl) nl nc nF np ntr nb mbestCost nso nsi nit nsh nsf nss nrc mtraced mdealer mnumber mwhose msize misParted fnt bt (htp) (by omega) (hFB)) si_X12_262 [3, 4] sm_3_4 fm_3_4 nd_3_4 rfl rfl rfl rfl rfl (Nat.le_of_ble_eq_true rfl) rm_32_1_2 ⟨by first | exact Nat.le_of_ble_eq_true rfl | exact Nat.zero_le _, by first | exact Nat.le_of_ble_eq_true rfl | exact Nat.zero_le _⟩ gX12_lineAt_15.1 (Kors (Keqa fun a7182 => ?_) (Keqa fun a7182 => ?_))
            · have hq7183 := a7182
              have xl7184 := SGN.len hq7183 (by omega)
              refine vV (wr := [(nc, iA G 100 fnc), (nl, iA G 54 (upd (upd (upd (upd (upd (upd fnl (6 * kl) 3) (6 * kl + 1) (nI (NVL bt ktp (NXT bt ktp ks)))) (6 * kl + 2) (-9)) (6 * kl + 3) (-9)) (6 * kl + 4) (nI kc)) (6 * kl + 5) (nI kc))), (nF, sA G 5 (FCT K))]) hC hK hl hP hD hS hA (m_need1X l G h0 nw nk mhasKept nt ktp nr mrowMany mroundOf mroundFrom mouts nm mfromHour mtoHour ns (NXT bt ktp (NXT bt ktp ks)) 0 (nI kc) (nI kl) nl nc nF np ntr nb mbestCost nso nsi nit nsh nsf nss nrc mtraced mdealer mnumber mwhose msize misParted fnt bt (htp) (by omega) (hFB)) si_X12_236 [3, 4] [0, 1, 2] sm_3_4 fm_3_4 nd_3_4 sm_0_1_2 nd_0_1_2 dj_3_4__0_1_2 rfl rfl rfl rfl rfl (Nat.le_of_ble_eq_true rfl) rm_32_4_2 ⟨Nat.le_of_ble_eq_true rfl, Nat.le_of_ble_eq_true rfl⟩ gX12_lineAt_15.2.1 (fun u7186 H locs hr7185 hP hD hS => ?_)
              refine Kpdr (ws := [(nc, iA G 100 fnc), (nl, iA G 54 (upd (upd (upd (upd (upd (upd fnl (6 * kl) 3) (6 * kl + 1) (nI (NVL bt ktp (NXT bt ktp ks)))) (6 * kl + 2) (-9)) (6 * kl + 3) (-9)) (6 * kl + 4) (nI kc)) (6 * kl + 5) (nI kc))), (nF, sA G 5 (FCT K)), (h0, oX12 nw nk mhasKept nt (nI ktp) nr mrowMany mroundOf mroundFrom mouts nm mfromHour mtoHour ns (nI (NXT bt ktp (NXT bt ktp (NXT bt ktp ks)))) (nI (TKE bt ktp (NXT bt ktp (NXT bt ktp (NXT bt ktp ks))))) (nI (TKN bt ktp (NXT bt ktp (NXT bt ktp (NXT bt ktp ks))))) 0 0 (nI kc) (nI kl) nl nc nF np ntr nb mbestCost nso nsi nit nsh nsf nss nrc mtraced mdealer mnumber mwhose msize misParted), (nt, iA G 240 fnt)]) hP hD (fun hP hD => ?_)
              have xn7187 := NXT.ge (bt := bt) (n := ktp) (s := (NXT bt ktp (NXT bt ktp ks))) (by omega)
              refine toQ hQ0 ?_
              exact RV hC hP hD hS [3, 4, 0, 1, 2] (0, (NXT bt ktp (NXT bt ktp (NXT bt ktp ks))), kc, fnc, upd (upd (upd (upd (upd (upd fnl (6 * kl) 3) (6 * kl + 1) (nI (NVL bt ktp (NXT bt ktp ks)))) (6 * kl + 2) (-9)) (6 * kl + 3) (-9)) (6 * kl + 4) (nI kc)) (6 * kl + 5) (nI kc), (3, (nI (NVL bt ktp (NXT bt ktp ks))), (-9), (-9), 0, cs.length, cs.length, rs.length, rs.length), cs, rs) rfl rfl (by decide) (Or.inl ⟨rfl, Or.inr ⟨3, SRT.y (k := 3) (by decide) hq7167, Or.inr ⟨(NXT bt ktp (NXT bt ktp ks)), (nI (NVL bt ktp (NXT bt ktp ks))), (-9), (-9), HDQ.a1 (so := 3) (M := 9) rfl (by decide) hq7179, Or.inl ⟨(fun h9 => h9.1 rfl), Or.inr ⟨hq7183, rfl⟩⟩⟩⟩, hST, (by rw [hs1]; exact ⟨fun j hj => (upd_ne (by omega)).trans ((upd_ne (by omega)).trans ((upd_ne (by omega)).trans ((upd_ne (by omega)).trans ((upd_ne (by omega)).trans ((upd_ne (by omega)).trans (rfl)))))), (upd_ne (by omega)).trans ((upd_ne (by omega)).trans ((upd_ne (by omega)).trans ((upd_ne (by omega)).trans ((upd_ne (by omega)).trans (upd_eq (by omega)))))), (upd_ne (by omega)).trans ((upd_ne (by omega)).trans ((upd_ne (by omega)).trans ((upd_ne (by omega)).trans (upd_eq (by omega))))), (upd_ne (by omega)).trans ((upd_ne (by omega)).trans ((upd_ne (by omega)).trans (upd_eq (by omega)))), (upd_ne (by omega)).trans ((upd_ne (by omega)).trans (upd_eq (by omega))), (upd_ne (by omega)).trans (upd_eq (by omega)), upd_eq (by omega), fun _ => rfl, fun h9 => absurd (show (0 : Nat) = 1 from h9) (by decide), Nat.zero_le _, (by (try dsimp only); omega)⟩), by (try dsimp only); omega, by (try dsimp only); omega⟩) gX12_lineAt_15.2.2
            · have hq7188 := a7182
              refine vV (wr := [(nc, iA G 100 fnc), (nl, iA G 54 (upd (upd (upd (upd (upd (upd fnl (6 * kl) 3) (6 * kl + 1) (nI (NVL bt ktp (NXT bt ktp ks)))) (6 * kl + 2) (-9)) (6 * kl + 3) (-9)) (6 * kl + 4) (nI kc)) (6 * kl + 5) (nI kc))), (nF, sA G 5 (FCT K)), (nt, iA G 240 fnt)]) hC hK hl hP hD hS hA (m_need0 l G h0 nw nk mhasKept nt (nI ktp) nr mrowMany mroundOf mroundFrom mouts nm mfromHour mtoHour ns (nI (NXT bt ktp (NXT bt ktp ks))) (nI (TKE bt ktp (NXT bt ktp (NXT bt ktp ks)))) (nI (TKN bt ktp (NXT bt ktp (NXT bt ktp ks)))) 0 (nI kc) (nI kl) nl nc nF np ntr nb mbestCost nso nsi nit nsh nsf nss nrc mtraced mdealer mnumber mwhose msize misParted) si_X12_236 [3] [0, 1, 2, 4] sm_3 fm_3 nd_3 sm_0_1_2_4 nd_0_1_2_4 dj_3__0_1_2_4 rfl rfl rfl rfl rfl (Nat.le_of_ble_eq_true rfl) rm_32_4_2 ⟨Nat.le_of_ble_eq_true rfl, Nat.le_of_ble_eq_true rfl⟩ gX12_lineAt_15.2.1 (fun u7190 H locs hr7189 hP hD hS => ?_)
              refine Kpdr (ws := [(nc, iA G 100 fnc), (nl, iA G 54 (upd (upd (upd (upd (upd (upd fnl (6 * kl) 3) (6 * kl + 1) (nI (NVL bt ktp (NXT bt ktp ks)))) (6 * kl + 2) (-9)) (6 * kl + 3) (-9)) (6 * kl + 4) (nI kc)) (6 * kl + 5) (nI kc))), (nF, sA G 5 (FCT K)), (nt, iA G 240 fnt), (h0, oX12 nw nk mhasKept nt (nI ktp) nr mrowMany mroundOf mroundFrom mouts nm mfromHour mtoHour ns (nI (NXT bt ktp (NXT bt ktp ks))) (nI (TKE bt ktp (NXT bt ktp (NXT bt ktp ks)))) (nI (TKN bt ktp (NXT bt ktp (NXT bt ktp ks)))) 1 0 (nI kc) (nI kl) nl nc nF np ntr nb mbestCost nso nsi nit nsh nsf nss nrc mtraced mdealer mnumber mwhose msize misParted)]) hP hD (fun hP hD => ?_)
              refine toQ hQ0 ?_
              exact RV hC hP hD hS [4, 3, 0, 1, 2] (1, (NXT bt ktp (NXT bt ktp ks)), kc, fnc, upd (upd (upd (upd (upd (upd fnl (6 * kl) 3) (6 * kl + 1) (nI (NVL bt ktp (NXT bt ktp ks)))) (6 * kl + 2) (-9)) (6 * kl + 3) (-9)) (6 * kl + 4) (nI kc)) (6 * kl + 5) (nI kc), LN0, [], []) rfl rfl (by decide) (Or.inr ⟨rfl, Or.inr ⟨3, SRT.y (k := 3) (by decide) hq7167, Or.inr ⟨(NXT bt ktp (NXT bt ktp ks)), (nI (NVL bt ktp (NXT bt ktp ks))), (-9), (-9), HDQ.a1 (so := 3) (M := 9) rfl (by decide) hq7179, Or.inl ⟨(fun h9 => h9.1 rfl), Or.inl ⟨hq7188, rfl⟩⟩⟩⟩, by (try dsimp only); omega⟩) gX12_lineAt_15.2.2
          · obtain ⟨rfl, rfl, hq7191⟩ := v7178
            refine astN hC hK hP hD hS 1 (ws' := [(nc, iA G 100 fnc), (nl, iA G 54 (upd (upd fnl (6 * kl) 3) (6 * kl + 1) r7172)), (nF, sA G 5 (FCT K)), (h0, oX12 nw nk mhasKept nt (nI ktp) nr mrowMany mroundOf mroundFrom mouts nm mfromHour mtoHour ns (nI (NXT bt ktp ks)) (nI (TKE bt ktp (NXT bt ktp ks))) (nI (TKN bt ktp (NXT bt ktp ks))) 1 0 (nI kc) (nI kl) nl nc nF np ntr nb mbestCost nso nsi nit nsh nsf nss nrc mtraced mdealer mnumber mwhose msize misParted), (nt, iA G 240 fnt)]) rfl (k := (6 * kl + 1)) (by omega) (Nat.le_of_ble_eq_true rfl) (rfl) gX12_lineAt_5.2.2.2.2.2.2.2.2.1 (fun H locs hP hD hS => ?_)
            refine lv_aload_n hx hb gX12_lineAt_5.2.2.2.2.2.2.2.2.2 rfl (lv_at1 hl) ?_
            refine gf_X12_32 hC rfl hK hP 3 rfl rfl gX12_lineAt_6.1 ?_
            refine lv_iload_n hx hb gX12_lineAt_6.2.1 rfl (lv_at2 hl) ?_
            refine lv_iconst (v := 2) hx hb gX12_lineAt_6.2.2.1 (by decide) ?_
            refine lv_iadd hx hb gX12_lineAt_6.2.2.2.1 ?_
            refine eqi (x1 := nI (6 * kl + 2)) (nI_add (6 * kl) 2) ?_
            refine lv_bipush (v := (-9)) hx hb gX12_lineAt_6.2.2.2.2.1 (by decide) ?_
            refine astN hC hK hP hD hS 1 (ws' := [(nc, iA G 100 fnc), (nl, iA G 54 (upd (upd (upd fnl (6 * kl) 3) (6 * kl + 1) r7172) (6 * kl + 2) (-9))), (nF, sA G 5 (FCT K)), (h0, oX12 nw nk mhasKept nt (nI ktp) nr mrowMany mroundOf mroundFrom mouts nm mfromHour mtoHour ns (nI (NXT bt ktp ks)) (nI (TKE bt ktp (NXT bt ktp ks))) (nI (TKN bt ktp (NXT bt ktp ks))) 1 0 (nI kc) (nI kl) nl nc nF np ntr nb mbestCost nso nsi nit nsh nsf nss nrc mtraced mdealer mnumber mwhose msize misParted), (nt, iA G 240 fnt)]) rfl (k := (6 * kl + 2)) (by omega) (Nat.le_of_ble_eq_true rfl) (rfl) gX12_lineAt_6.2.2.2.2.2.1 (fun H locs hP hD hS => ?_)
            refine lv_aload_n hx hb gX12_lineAt_6.2.2.2.2.2.2.1 rfl (lv_at1 hl) ?_
            refine gf_X12_32 hC rfl hK hP 3 rfl rfl gX12_lineAt_6.2.2.2.2.2.2.2.1 ?_
            refine lv_iload_n hx hb gX12_lineAt_6.2.2.2.2.2.2.2.2.1 rfl (lv_at2 hl) ?_
            refine lv_iconst (v := 3) hx hb gX12_lineAt_6.2.2.2.2.2.2.2.2.2 (by decide) ?_
            refine lv_iadd hx hb gX12_lineAt_7.1 ?_
            refine eqi (x1 := nI (6 * kl + 3)) (nI_add (6 * kl) 3) ?_
            refine lv_bipush (v := (-9)) hx hb gX12_lineAt_7.2.1 (by decide) ?_
            refine astN hC hK hP hD hS 1 (ws' := [(nc, iA G 100 fnc), (nl, iA G 54 (upd (upd (upd (upd fnl (6 * kl) 3) (6 * kl + 1) r7172) (6 * kl + 2) (-9)) (6 * kl + 3) (-9))), (nF, sA G 5 (FCT K)), (h0, oX12 nw nk mhasKept nt (nI ktp) nr mrowMany mroundOf mroundFrom mouts nm mfromHour mtoHour ns (nI (NXT bt ktp ks)) (nI (TKE bt ktp (NXT bt ktp ks))) (nI (TKN bt ktp (NXT bt ktp ks))) 1 0 (nI kc) (nI kl) nl nc nF np ntr nb mbestCost nso nsi nit nsh nsf nss nrc mtraced mdealer mnumber mwhose msize misParted), (nt, iA G 240 fnt)]) rfl (k := (6 * kl + 3)) (by omega) (Nat.le_of_ble_eq_true rfl) (rfl) gX12_lineAt_7.2.2.1 (fun H locs hP hD hS => ?_)
            refine lv_iload_n hx hb gX12_lineAt_7.2.2.2.1 rfl (lv_at0 hl) ?_
            refine lv_if_ne (tgt := 190) hx hb gX12_lineAt_7.2.2.2.2.1 (by decide) (fun _ => ?_) (fun c9 => absurd c9 (by decide))
            refine lv_iload_n hx hb gX12_lineAt_10.2.2.2.1 rfl (lv_at0 hl) ?_
            refine lv_iconst (v := 2) hx hb gX12_lineAt_10.2.2.2.2.1 (by decide) ?_
            refine lv_icmp_ne (tgt := 221) hx hb gX12_lineAt_10.2.2.2.2.2.1 (by decide) (fun _ => ?_) (fun c9 => absurd c9 (by decide))
            refine lv_aload_n hx hb gX12_lineAt_12.1 rfl (lv_at1 hl) ?_
            refine gf_X12_32 hC rfl hK hP 3 rfl rfl gX12_lineAt_12.2.1 ?_
            refine lv_iload_n hx hb gX12_lineAt_12.2.2.1 rfl (lv_at2 hl) ?_
            refine lv_iconst (v := 4) hx hb gX12_lineAt_12.2.2.2.1 (by decide) ?_
            refine lv_iadd hx hb gX12_lineAt_12.2.2.2.2.1 ?_
            refine eqi (x1 := nI (6 * kl + 4)) (nI_add (6 * kl) 4) ?_
            refine lv_aload_n hx hb gX12_lineAt_12.2.2.2.2.2.1 rfl (lv_at1 hl) ?_
            refine gf_X12_240 hC rfl hK hP 3 rfl rfl gX12_lineAt_12.2.2.2.2.2.2.1 ?_
            refine astN hC hK hP hD hS 1 (ws' := [(nc, iA G 100 fnc), (nl, iA G 54 (upd (upd (upd (upd (upd fnl (6 * kl) 3) (6 * kl + 1) r7172) (6 * kl + 2) (-9)) (6 * kl + 3) (-9)) (6 * kl + 4) (nI kc))), (nF, sA G 5 (FCT K)), (h0, oX12 nw nk mhasKept nt (nI ktp) nr mrowMany mroundOf mroundFrom mouts nm mfromHour mtoHour ns (nI (NXT bt ktp ks)) (nI (TKE bt ktp (NXT bt ktp ks))) (nI (TKN bt ktp (NXT bt ktp ks))) 1 0 (nI kc) (nI kl) nl nc nF np ntr nb mbestCost nso nsi nit nsh nsf nss nrc mtraced mdealer mnumber mwhose msize misParted), (nt, iA G 240 fnt)]) rfl (k := (6 * kl + 4)) (by omega) (Nat.le_of_ble_eq_true rfl) (rfl) gX12_lineAt_12.2.2.2.2.2.2.2.1 (fun H locs hP hD hS => ?_)
            refine lv_iload_n hx hb gX12_lineAt_12.2.2.2.2.2.2.2.2.1 rfl (lv_at0 hl) ?_
            refine lv_iconst (v := 3) hx hb gX12_lineAt_12.2.2.2.2.2.2.2.2.2 (by decide) ?_
            refine lv_icmp_eq (tgt := 256) hx hb gX12_lineAt_13.1 (by decide) (fun _ => ?_) (fun c9 => absurd (by decide) c9)
            refine lv_aload_n hx hb gX12_lineAt_13.2.2.2.2.2.2.2.2.2 rfl (lv_at1 hl) ?_
            refine gf_X12_32 hC rfl hK hP 3 rfl rfl gX12_lineAt_14.1 ?_
            refine lv_iload_n hx hb gX12_lineAt_14.2.1 rfl (lv_at2 hl) ?_
            refine lv_iconst (v := 5) hx hb gX12_lineAt_14.2.2.1 (by decide) ?_
            refine lv_iadd hx hb gX12_lineAt_14.2.2.2.1 ?_
            refine eqi (x1 := nI (6 * kl + 5)) (nI_add (6 * kl) 5) ?_
            refine lv_aload_n hx hb gX12_lineAt_14.2.2.2.2.1 rfl (lv_at1 hl) ?_
            refine gf_X12_240 hC rfl hK hP 3 rfl rfl gX12_lineAt_14.2.2.2.2.2.1 ?_
            refine astN hC hK hP hD hS 1 (ws' := [(nc, iA G 100 fnc), (nl, iA G 54 (upd (upd (upd (upd (upd (upd fnl (6 * kl) 3) (6 * kl + 1) r7172) (6 * kl + 2) (-9)) (6 * kl + 3) (-9)) (6 * kl + 4) (nI kc)) (6 * kl + 5) (nI kc))), (nF, sA G 5 (FCT K)), (h0, oX12 nw nk mhasKept nt (nI ktp) nr mrowMany mroundOf mroundFrom mouts nm mfromHour mtoHour ns (nI (NXT bt ktp ks)) (nI (TKE bt ktp (NXT bt ktp ks))) (nI (TKN bt ktp (NXT bt ktp ks))) 1 0 (nI kc) (nI kl) nl nc nF np ntr nb mbestCost nso nsi nit nsh nsf nss nrc mtraced mdealer mnumber mwhose msize misParted), (nt, iA G 240 fnt)]) rfl (k := (6 * kl + 5)) (by omega) (Nat.le_of_ble_eq_true rfl) (rfl) gX12_lineAt_14.2.2.2.2.2.2.1 (fun H locs hP hD hS => ?_)
            refine lv_aload_n hx hb gX12_lineAt_14.2.2.2.2.2.2.2.1 rfl (lv_at1 hl) ?_
            refine lv_aload_n hx hb gX12_lineAt_14.2.2.2.2.2.2.2.2.1 rfl (lv_at1 hl) ?_
            refine lv_bipush (v := 59) hx hb gX12_lineAt_14.2.2.2.2.2.2.2.2.2 (by decide) ?_
            refine pV hC hK hl hP hD (m_isSignF l G h0 59 nw nk mhasKept nt (nI ktp) nr mrowMany mroundOf mroundFrom mouts nm mfromHour mtoHour ns (nI (NXT bt ktp ks)) (nI (TKE bt ktp (NXT bt ktp ks))) (nI (TKN bt ktp (NXT bt ktp ks))) 0 (nI kc) (nI kl) nl nc nF np ntr nb mbestCost nso nsi nit nsh nsf nss nrc mtraced mdealer mnumber mwhose msize misParted) si_X12_262 [3] sm_3 fm_3 nd_3 rfl rfl rfl rfl rfl (Nat.le_of_ble_eq_true rfl) rm_32_1_2 ⟨by first | exact Nat.le_of_ble_eq_true rfl | exact Nat.zero_le _, by first | exact Nat.le_of_ble_eq_true rfl | exact Nat.zero_le _⟩ gX12_lineAt_15.1 (Keqr ?_)
            refine vV (wr := [(nc, iA G 100 fnc), (nl, iA G 54 (upd (upd (upd (upd (upd (upd fnl (6 * kl) 3) (6 * kl + 1) r7172) (6 * kl + 2) (-9)) (6 * kl + 3) (-9)) (6 * kl + 4) (nI kc)) (6 * kl + 5) (nI kc))), (nF, sA G 5 (FCT K)), (nt, iA G 240 fnt)]) hC hK hl hP hD hS hA (m_needF l G h0 0 nw nk mhasKept nt (nI ktp) nr mrowMany mroundOf mroundFrom mouts nm mfromHour mtoHour ns (nI (NXT bt ktp ks)) (nI (TKE bt ktp (NXT bt ktp ks))) (nI (TKN bt ktp (NXT bt ktp ks))) 0 (nI kc) (nI kl) nl nc nF np ntr nb mbestCost nso nsi nit nsh nsf nss nrc mtraced mdealer mnumber mwhose msize misParted) si_X12_236 [3] [0, 1, 2, 4] sm_3 fm_3 nd_3 sm_0_1_2_4 nd_0_1_2_4 dj_3__0_1_2_4 rfl rfl rfl rfl rfl (Nat.le_of_ble_eq_true rfl) rm_32_4_2 ⟨Nat.le_of_ble_eq_true rfl, Nat.le_of_ble_eq_true rfl⟩ gX12_lineAt_15.2.1 (fun u7195 H locs hr7194 hP hD hS => ?_)
            refine Kpdr (ws := [(nc, iA G 100 fnc), (nl, iA G 54 (upd (upd (upd (upd (upd (upd fnl (6 * kl) 3) (6 * kl + 1) r7172) (6 * kl + 2) (-9)) (6 * kl + 3) (-9)) (6 * kl + 4) (nI kc)) (6 * kl + 5) (nI kc))), (nF, sA G 5 (FCT K)), (nt, iA G 240 fnt), (h0, oX12 nw nk mhasKept nt (nI ktp) nr mrowMany mroundOf mroundFrom mouts nm mfromHour mtoHour ns (nI (NXT bt ktp ks)) (nI (TKE bt ktp (NXT bt ktp ks))) (nI (TKN bt ktp (NXT bt ktp ks))) 1 0 (nI kc) (nI kl) nl nc nF np ntr nb mbestCost nso nsi nit nsh nsf nss nrc mtraced mdealer mnumber mwhose msize misParted)]) hP hD (fun hP hD => ?_)
            refine toQ hQ0 ?_
            exact RV hC hP hD hS [4, 3, 0, 1, 2] (1, (NXT bt ktp ks), kc, fnc, upd (upd (upd (upd (upd (upd fnl (6 * kl) 3) (6 * kl + 1) r7172) (6 * kl + 2) (-9)) (6 * kl + 3) (-9)) (6 * kl + 4) (nI kc)) (6 * kl + 5) (nI kc), LN0, [], []) rfl rfl (by decide) (Or.inr ⟨rfl, Or.inr ⟨3, SRT.y (k := 3) (by decide) hq7167, Or.inl ⟨_, HDQ.a0 (so := 3) (M := 9) rfl hq7191, rfl⟩⟩, by (try dsimp only); omega⟩) gX12_lineAt_15.2.2
        · have hq7196 := a7166
          refine lv_if_eq (tgt := 56) hx hb gX12_lineAt_2.2.1 (by decide) (fun _ => ?_) (fun c9 => absurd (by decide) c9)
          refine lv_iconst (v := (-1)) hx hb gX12_lineAt_2.2.2.2.2.1 (by decide) ?_
          refine lv_istore_n (lv' := [(2, .int (-1)), (0, .ref h0), (1, .int (nI (6 * kl)))]) hx hb gX12_lineAt_2.2.2.2.2.2.1 rfl hl (by decide) rfl (fun ls hl => ?_)
          refine lv_aload_n hx hb gX12_lineAt_2.2.2.2.2.2.2.1 rfl (lv_at1 hl) ?_
          refine lv_iload_n hx hb gX12_lineAt_2.2.2.2.2.2.2.2.1 rfl (lv_at0 hl) ?_
          refine lv_if_lt (tgt := 67) hx hb gX12_lineAt_2.2.2.2.2.2.2.2.2.1 (by decide) (fun _ => ?_) (fun c9 => absurd (by decide) c9)
          refine lv_iconst (v := 0) hx hb gX12_lineAt_3.2.1 (by decide) ?_
          refine vV (wr := [(nt, iA G 240 fnt), (nc, iA G 100 fnc), (nl, iA G 54 fnl), (nF, sA G 5 (FCT K))]) hC hK hl hP hD hS hA (m_need0 l G h0 nw nk mhasKept nt (nI ktp) nr mrowMany mroundOf mroundFrom mouts nm mfromHour mtoHour ns (nI ks) (nI (TKE bt ktp ks)) (nI (TKN bt ktp ks)) 0 (nI kc) (nI kl) nl nc nF np ntr nb mbestCost nso nsi nit nsh nsf nss nrc mtraced mdealer mnumber mwhose msize misParted) si_X12_236 [0] [1, 2, 3, 4] sm_0 fm_0 nd_0 sm_1_2_3_4 nd_1_2_3_4 dj_0__1_2_3_4 rfl rfl rfl rfl rfl (Nat.le_of_ble_eq_true rfl) rm_32_4_2 ⟨Nat.le_of_ble_eq_true rfl, Nat.le_of_ble_eq_true rfl⟩ gX12_lineAt_3.2.2.1 (fun u7198 H locs hr7197 hP hD hS => ?_)
          refine Kpdr (ws := [(nt, iA G 240 fnt), (nc, iA G 100 fnc), (nl, iA G 54 fnl), (nF, sA G 5 (FCT K)), (h0, oX12 nw nk mhasKept nt (nI ktp) nr mrowMany mroundOf mroundFrom mouts nm mfromHour mtoHour ns (nI ks) (nI (TKE bt ktp ks)) (nI (TKN bt ktp ks)) 1 0 (nI kc) (nI kl) nl nc nF np ntr nb mbestCost nso nsi nit nsh nsf nss nrc mtraced mdealer mnumber mwhose msize misParted)]) hP hD (fun hP hD => ?_)
          refine lv_aload_n hx hb gX12_lineAt_3.2.2.2.1 rfl (lv_at1 hl) ?_
          refine gf_X12_32 hC rfl hK hP 4 rfl rfl gX12_lineAt_3.2.2.2.2.1 ?_
          refine lv_iload_n hx hb gX12_lineAt_3.2.2.2.2.2.1 rfl (lv_at2 hl) ?_
          refine lv_iload_n hx hb gX12_lineAt_3.2.2.2.2.2.2.1 rfl (lv_at0 hl) ?_
          refine astN hC hK hP hD hS 2 (ws' := [(nt, iA G 240 fnt), (nc, iA G 100 fnc), (nl, iA G 54 (upd fnl (6 * kl) (-1))), (nF, sA G 5 (FCT K)), (h0, oX12 nw nk mhasKept nt (nI ktp) nr mrowMany mroundOf mroundFrom mouts nm mfromHour mtoHour ns (nI ks) (nI (TKE bt ktp ks)) (nI (TKN bt ktp ks)) 1 0 (nI kc) (nI kl) nl nc nF np ntr nb mbestCost nso nsi nit nsh nsf nss nrc mtraced mdealer mnumber mwhose msize misParted)]) rfl (k := (6 * kl)) (by omega) (Nat.le_of_ble_eq_true rfl) (rfl) gX12_lineAt_3.2.2.2.2.2.2.2.1 (fun H locs hP hD hS => ?_)
          refine lv_aload_n hx hb gX12_lineAt_3.2.2.2.2.2.2.2.2.1 rfl (lv_at1 hl) ?_
          refine gf_X12_32 hC rfl hK hP 4 rfl rfl gX12_lineAt_3.2.2.2.2.2.2.2.2.2 ?_
          refine lv_iload_n hx hb gX12_lineAt_4.1 rfl (lv_at2 hl) ?_
          refine lv_iconst (v := 1) hx hb gX12_lineAt_4.2.1 (by decide) ?_
          refine lv_iadd hx hb gX12_lineAt_4.2.2.1 ?_
          refine eqi (x1 := nI (6 * kl + 1)) (nI_add (6 * kl) 1) ?_
          refine lv_aload_n hx hb gX12_lineAt_4.2.2.2.1 rfl (lv_at1 hl) ?_
          refine lv_iload_n hx hb gX12_lineAt_4.2.2.2.2.1 rfl (lv_at0 hl) ?_
          refine lv_if_eq (tgt := 95) hx hb gX12_lineAt_4.2.2.2.2.2.1 (by decide) (fun c9 => absurd c9 (by decide)) (fun _ => ?_)
          refine lv_iload_n hx hb gX12_lineAt_4.2.2.2.2.2.2.1 rfl (lv_at0 hl) ?_
          refine lv_iconst (v := 1) hx hb gX12_lineAt_4.2.2.2.2.2.2.2.1 (by decide) ?_
          refine lv_icmp_ne (tgt := 100) hx hb gX12_lineAt_4.2.2.2.2.2.2.2.2.1 (by decide) (fun _ => ?_) (fun c9 => absurd c9 (by decide))
          refine lv_iload_n hx hb gX12_lineAt_5.2.1 rfl (lv_at0 hl) ?_
          refine lv_iconst (v := 2) hx hb gX12_lineAt_5.2.2.1 (by decide) ?_
          refine lv_icmp_ne (tgt := 110) hx hb gX12_lineAt_5.2.2.2.1 (by decide) (fun _ => ?_) (fun c9 => absurd c9 (by decide))
          refine lv_bipush (v := 9) hx hb gX12_lineAt_5.2.2.2.2.2.2.1 (by decide) ?_
          refine iV (wr := [(nt, iA G 240 fnt), (nc, iA G 100 fnc), (nl, iA G 54 (upd fnl (6 * kl) (-1))), (nF, sA G 5 (FCT K))]) hC hK hl hP hD hS hA (m_numberF l G h0 9 nw nk mhasKept nt (nI ktp) nr mrowMany mroundOf mroundFrom mouts nm mfromHour mtoHour ns (nI ks) (nI (TKE bt ktp ks)) (nI (TKN bt ktp ks)) 0 (nI kc) (nI kl) nl nc nF np ntr nb mbestCost nso nsi nit nsh nsf nss nrc mtraced mdealer mnumber mwhose msize misParted) si_X12_271 [4] [0, 1, 2, 3] sm_4 fm_4 nd_4 sm_0_1_2_3 nd_0_1_2_3 dj_4__0_1_2_3 rfl rfl rfl rfl rfl (Nat.le_of_ble_eq_true rfl) rm_32_5_5 ⟨Nat.le_of_ble_eq_true rfl, Nat.le_of_ble_eq_true rfl⟩ gX12_lineAt_5.2.2.2.2.2.2.2.1 (fun r7199 u7200 H locs hr7199 hP hD hS => ?_)
          refine Kpdr (ws := [(nt, iA G 240 fnt), (nc, iA G 100 fnc), (nl, iA G 54 (upd fnl (6 * kl) (-1))), (nF, sA G 5 (FCT K)), (h0, oX12 nw nk mhasKept nt (nI ktp) nr mrowMany mroundOf mroundFrom mouts nm mfromHour mtoHour ns (nI ks) (nI (TKE bt ktp ks)) (nI (TKN bt ktp ks)) 1 0 (nI kc) (nI kl) nl nc nF np ntr nb mbestCost nso nsi nit nsh nsf nss nrc mtraced mdealer mnumber mwhose msize misParted)]) hP hD (fun hP hD => ?_)
          obtain rfl := hr7199
          refine astN hC hK hP hD hS 2 (ws' := [(nt, iA G 240 fnt), (nc, iA G 100 fnc), (nl, iA G 54 (upd (upd fnl (6 * kl) (-1)) (6 * kl + 1) 0)), (nF, sA G 5 (FCT K)), (h0, oX12 nw nk mhasKept nt (nI ktp) nr mrowMany mroundOf mroundFrom mouts nm mfromHour mtoHour ns (nI ks) (nI (TKE bt ktp ks)) (nI (TKN bt ktp ks)) 1 0 (nI kc) (nI kl) nl nc nF np ntr nb mbestCost nso nsi nit nsh nsf nss nrc mtraced mdealer mnumber mwhose msize misParted)]) rfl (k := (6 * kl + 1)) (by omega) (Nat.le_of_ble_eq_true rfl) (rfl) gX12_lineAt_5.2.2.2.2.2.2.2.2.1 (fun H locs hP hD hS => ?_)
          refine lv_aload_n hx hb gX12_lineAt_5.2.2.2.2.2.2.2.2.2 rfl (lv_at1 hl) ?_
          refine gf_X12_32 hC rfl hK hP 4 rfl rfl gX12_lineAt_6.1 ?_
          refine lv_iload_n hx hb gX12_lineAt_6.2.1 rfl (lv_at2 hl) ?_
          refine lv_iconst (v := 2) hx hb gX12_lineAt_6.2.2.1 (by decide) ?_
          refine lv_iadd hx hb gX12_lineAt_6.2.2.2.1 ?_
          refine eqi (x1 := nI (6 * kl + 2)) (nI_add (6 * kl) 2) ?_
          refine lv_bipush (v := (-9)) hx hb gX12_lineAt_6.2.2.2.2.1 (by decide) ?_
          refine astN hC hK hP hD hS 2 (ws' := [(nt, iA G 240 fnt), (nc, iA G 100 fnc), (nl, iA G 54 (upd (upd (upd fnl (6 * kl) (-1)) (6 * kl + 1) 0) (6 * kl + 2) (-9))), (nF, sA G 5 (FCT K)), (h0, oX12 nw nk mhasKept nt (nI ktp) nr mrowMany mroundOf mroundFrom mouts nm mfromHour mtoHour ns (nI ks) (nI (TKE bt ktp ks)) (nI (TKN bt ktp ks)) 1 0 (nI kc) (nI kl) nl nc nF np ntr nb mbestCost nso nsi nit nsh nsf nss nrc mtraced mdealer mnumber mwhose msize misParted)]) rfl (k := (6 * kl + 2)) (by omega) (Nat.le_of_ble_eq_true rfl) (rfl) gX12_lineAt_6.2.2.2.2.2.1 (fun H locs hP hD hS => ?_)
          refine lv_aload_n hx hb gX12_lineAt_6.2.2.2.2.2.2.1 rfl (lv_at1 hl) ?_
          refine gf_X12_32 hC rfl hK hP 4 rfl rfl gX12_lineAt_6.2.2.2.2.2.2.2.1 ?_
          refine lv_iload_n hx hb gX12_lineAt_6.2.2.2.2.2.2.2.2.1 rfl (lv_at2 hl) ?_
          refine lv_iconst (v := 3) hx hb gX12_lineAt_6.2.2.2.2.2.2.2.2.2 (by decide) ?_
          refine lv_iadd hx hb gX12_lineAt_7.1 ?_
          refine eqi (x1 := nI (6 * kl + 3)) (nI_add (6 * kl) 3) ?_
          refine lv_bipush (v := (-9)) hx hb gX12_lineAt_7.2.1 (by decide) ?_
          refine astN hC hK hP hD hS 2 (ws' := [(nt, iA G 240 fnt), (nc, iA G 100 fnc), (nl, iA G 54 (upd (upd (upd (upd fnl (6 * kl) (-1)) (6 * kl + 1) 0) (6 * kl + 2) (-9)) (6 * kl + 3) (-9))), (nF, sA G 5 (FCT K)), (h0, oX12 nw nk mhasKept nt (nI ktp) nr mrowMany mroundOf mroundFrom mouts nm mfromHour mtoHour ns (nI ks) (nI (TKE bt ktp ks)) (nI (TKN bt ktp ks)) 1 0 (nI kc) (nI kl) nl nc nF np ntr nb mbestCost nso nsi nit nsh nsf nss nrc mtraced mdealer mnumber mwhose msize misParted)]) rfl (k := (6 * kl + 3)) (by omega) (Nat.le_of_ble_eq_true rfl) (rfl) gX12_lineAt_7.2.2.1 (fun H locs hP hD hS => ?_)
          refine lv_iload_n hx hb gX12_lineAt_7.2.2.2.1 rfl (lv_at0 hl) ?_
          refine lv_if_ne (tgt := 190) hx hb gX12_lineAt_7.2.2.2.2.1 (by decide) (fun _ => ?_) (fun c9 => absurd c9 (by decide))
          refine lv_iload_n hx hb gX12_lineAt_10.2.2.2.1 rfl (lv_at0 hl) ?_
          refine lv_iconst (v := 2) hx hb gX12_lineAt_10.2.2.2.2.1 (by decide) ?_
          refine lv_icmp_ne (tgt := 221) hx hb gX12_lineAt_10.2.2.2.2.2.1 (by decide) (fun _ => ?_) (fun c9 => absurd c9 (by decide))
          refine lv_aload_n hx hb gX12_lineAt_12.1 rfl (lv_at1 hl) ?_
          refine gf_X12_32 hC rfl hK hP 4 rfl rfl gX12_lineAt_12.2.1 ?_
          refine lv_iload_n hx hb gX12_lineAt_12.2.2.1 rfl (lv_at2 hl) ?_
          refine lv_iconst (v := 4) hx hb gX12_lineAt_12.2.2.2.1 (by decide) ?_
          refine lv_iadd hx hb gX12_lineAt_12.2.2.2.2.1 ?_
          refine eqi (x1 := nI (6 * kl + 4)) (nI_add (6 * kl) 4) ?_
          refine lv_aload_n hx hb gX12_lineAt_12.2.2.2.2.2.1 rfl (lv_at1 hl) ?_
          refine gf_X12_240 hC rfl hK hP 4 rfl rfl gX12_lineAt_12.2.2.2.2.2.2.1 ?_
          refine astN hC hK hP hD hS 2 (ws' := [(nt, iA G 240 fnt), (nc, iA G 100 fnc), (nl, iA G 54 (upd (upd (upd (upd (upd fnl (6 * kl) (-1)) (6 * kl + 1) 0) (6 * kl + 2) (-9)) (6 * kl + 3) (-9)) (6 * kl + 4) (nI kc))), (nF, sA G 5 (FCT K)), (h0, oX12 nw nk mhasKept nt (nI ktp) nr mrowMany mroundOf mroundFrom mouts nm mfromHour mtoHour ns (nI ks) (nI (TKE bt ktp ks)) (nI (TKN bt ktp ks)) 1 0 (nI kc) (nI kl) nl nc nF np ntr nb mbestCost nso nsi nit nsh nsf nss nrc mtraced mdealer mnumber mwhose msize misParted)]) rfl (k := (6 * kl + 4)) (by omega) (Nat.le_of_ble_eq_true rfl) (rfl) gX12_lineAt_12.2.2.2.2.2.2.2.1 (fun H locs hP hD hS => ?_)
          refine lv_iload_n hx hb gX12_lineAt_12.2.2.2.2.2.2.2.2.1 rfl (lv_at0 hl) ?_
          refine lv_iconst (v := 3) hx hb gX12_lineAt_12.2.2.2.2.2.2.2.2.2 (by decide) ?_
          refine lv_icmp_eq (tgt := 256) hx hb gX12_lineAt_13.1 (by decide) (fun c9 => absurd c9 (by decide)) (fun _ => ?_)
          refine lv_aload_n hx hb gX12_lineAt_13.2.1 rfl (lv_at1 hl) ?_
          refine va_ldcSw (index := 287) (tx := "if") hx hb hown (hO.2.2 0 (by decide)) gX12_lineAt_13.2.2.1 ?_
          refine pVo hO hS hC hK hl hP hD (m_isNameF l G K 0 h0 nw nk mhasKept nt (nI ktp) nr mrowMany mroundOf mroundFrom mouts nm mfromHour mtoHour ns (nI ks) (nI (TKE bt ktp ks)) (nI (TKN bt ktp ks)) 0 (nI kc) (nI kl) nl nc nF np ntr nb mbestCost nso nsi nit nsh nsf nss nrc mtraced mdealer mnumber mwhose msize misParted ((by decide))) si_X12_248 [4] sm_4 fm_4 nd_4 rfl rfl rfl rfl rfl (Nat.le_of_ble_eq_true rfl) rm_32_5_4 ⟨by first | exact Nat.le_of_ble_eq_true rfl | exact Nat.zero_le _, by first | exact Nat.le_of_ble_eq_true rfl | exact Nat.zero_le _⟩ gX12_lineAt_13.2.2.2.1 (Keqr ?_)
          refine lv_if_eq (tgt := 256) hx hb gX12_lineAt_13.2.2.2.2.1 (by decide) (fun _ => ?_) (fun c9 => absurd (by decide) c9)
          refine lv_aload_n hx hb gX12_lineAt_13.2.2.2.2.2.2.2.2.2 rfl (lv_at1 hl) ?_
          refine gf_X12_32 hC rfl hK hP 4 rfl rfl gX12_lineAt_14.1 ?_
          refine lv_iload_n hx hb gX12_lineAt_14.2.1 rfl (lv_at2 hl) ?_
          refine lv_iconst (v := 5) hx hb gX12_lineAt_14.2.2.1 (by decide) ?_
          refine lv_iadd hx hb gX12_lineAt_14.2.2.2.1 ?_
          refine eqi (x1 := nI (6 * kl + 5)) (nI_add (6 * kl) 5) ?_
          refine lv_aload_n hx hb gX12_lineAt_14.2.2.2.2.1 rfl (lv_at1 hl) ?_
          refine gf_X12_240 hC rfl hK hP 4 rfl rfl gX12_lineAt_14.2.2.2.2.2.1 ?_
          refine astN hC hK hP hD hS 2 (ws' := [(nt, iA G 240 fnt), (nc, iA G 100 fnc), (nl, iA G 54 (upd (upd (upd (upd (upd (upd fnl (6 * kl) (-1)) (6 * kl + 1) 0) (6 * kl + 2) (-9)) (6 * kl + 3) (-9)) (6 * kl + 4) (nI kc)) (6 * kl + 5) (nI kc))), (nF, sA G 5 (FCT K)), (h0, oX12 nw nk mhasKept nt (nI ktp) nr mrowMany mroundOf mroundFrom mouts nm mfromHour mtoHour ns (nI ks) (nI (TKE bt ktp ks)) (nI (TKN bt ktp ks)) 1 0 (nI kc) (nI kl) nl nc nF np ntr nb mbestCost nso nsi nit nsh nsf nss nrc mtraced mdealer mnumber mwhose msize misParted)]) rfl (k := (6 * kl + 5)) (by omega) (Nat.le_of_ble_eq_true rfl) (rfl) gX12_lineAt_14.2.2.2.2.2.2.1 (fun H locs hP hD hS => ?_)
          refine lv_aload_n hx hb gX12_lineAt_14.2.2.2.2.2.2.2.1 rfl (lv_at1 hl) ?_
          refine lv_aload_n hx hb gX12_lineAt_14.2.2.2.2.2.2.2.2.1 rfl (lv_at1 hl) ?_
          refine lv_bipush (v := 59) hx hb gX12_lineAt_14.2.2.2.2.2.2.2.2.2 (by decide) ?_
          refine pV hC hK hl hP hD (m_isSignF l G h0 59 nw nk mhasKept nt (nI ktp) nr mrowMany mroundOf mroundFrom mouts nm mfromHour mtoHour ns (nI ks) (nI (TKE bt ktp ks)) (nI (TKN bt ktp ks)) 0 (nI kc) (nI kl) nl nc nF np ntr nb mbestCost nso nsi nit nsh nsf nss nrc mtraced mdealer mnumber mwhose msize misParted) si_X12_262 [4] sm_4 fm_4 nd_4 rfl rfl rfl rfl rfl (Nat.le_of_ble_eq_true rfl) rm_32_1_2 ⟨by first | exact Nat.le_of_ble_eq_true rfl | exact Nat.zero_le _, by first | exact Nat.le_of_ble_eq_true rfl | exact Nat.zero_le _⟩ gX12_lineAt_15.1 (Keqr ?_)
          refine vV (wr := [(nt, iA G 240 fnt), (nc, iA G 100 fnc), (nl, iA G 54 (upd (upd (upd (upd (upd (upd fnl (6 * kl) (-1)) (6 * kl + 1) 0) (6 * kl + 2) (-9)) (6 * kl + 3) (-9)) (6 * kl + 4) (nI kc)) (6 * kl + 5) (nI kc))), (nF, sA G 5 (FCT K))]) hC hK hl hP hD hS hA (m_needF l G h0 0 nw nk mhasKept nt (nI ktp) nr mrowMany mroundOf mroundFrom mouts nm mfromHour mtoHour ns (nI ks) (nI (TKE bt ktp ks)) (nI (TKN bt ktp ks)) 0 (nI kc) (nI kl) nl nc nF np ntr nb mbestCost nso nsi nit nsh nsf nss nrc mtraced mdealer mnumber mwhose msize misParted) si_X12_236 [4] [0, 1, 2, 3] sm_4 fm_4 nd_4 sm_0_1_2_3 nd_0_1_2_3 dj_4__0_1_2_3 rfl rfl rfl rfl rfl (Nat.le_of_ble_eq_true rfl) rm_32_4_2 ⟨Nat.le_of_ble_eq_true rfl, Nat.le_of_ble_eq_true rfl⟩ gX12_lineAt_15.2.1 (fun u7207 H locs hr7206 hP hD hS => ?_)
          refine Kpdr (ws := [(nt, iA G 240 fnt), (nc, iA G 100 fnc), (nl, iA G 54 (upd (upd (upd (upd (upd (upd fnl (6 * kl) (-1)) (6 * kl + 1) 0) (6 * kl + 2) (-9)) (6 * kl + 3) (-9)) (6 * kl + 4) (nI kc)) (6 * kl + 5) (nI kc))), (nF, sA G 5 (FCT K)), (h0, oX12 nw nk mhasKept nt (nI ktp) nr mrowMany mroundOf mroundFrom mouts nm mfromHour mtoHour ns (nI ks) (nI (TKE bt ktp ks)) (nI (TKN bt ktp ks)) 1 0 (nI kc) (nI kl) nl nc nF np ntr nb mbestCost nso nsi nit nsh nsf nss nrc mtraced mdealer mnumber mwhose msize misParted)]) hP hD (fun hP hD => ?_)
          refine toQ hQ0 ?_
          exact RV hC hP hD hS [4, 0, 1, 2, 3] (1, ks, kc, fnc, upd (upd (upd (upd (upd (upd fnl (6 * kl) (-1)) (6 * kl + 1) 0) (6 * kl + 2) (-9)) (6 * kl + 3) (-9)) (6 * kl + 4) (nI kc)) (6 * kl + 5) (nI kc), LN0, [], []) rfl rfl (by decide) (Or.inr ⟨rfl, Or.inl ⟨SRT.n4 hq6976 hq7049 hq7164 hq7196, rfl⟩, by (try dsimp only); omega⟩) gX12_lineAt_15.2.2
def K_w_read (l : Launch) (G : GG) (K : OO) (k7 : Nat) (h0 : Nat) (nw : Nat) (nk : Nat) (mhasKept : Int32) (nt : Nat) (ktp : Nat) (nr : Nat) (mrowMany : Int32) (mroundOf : Int32) (mroundFrom : Int32) (mouts : Int32) (nm : Nat) (mfromHour : Int32) (mtoHour : Int32) (ns : Nat) (mfrom : Int32) (mto : Int32) (msort : Int32) (misFault : Int32) (mdeep : Int32) (mcoded : Int32) (mlines : Int32) (nl : Nat) (nc : Nat) (nF : Nat) (np : Nat) (ntr : Nat) (nb : Nat) (mbestCost : Int32) (nso : Nat) (nsi : Nat) (nit : Nat) (nsh : Nat) (nsf : Nat) (nss : Nat) (nrc : Nat) (mtraced : Int32) (mdealer : Int32) (mnumber : Int32) (mwhose : Int32) (msize : Int32) (misParted : Int32) (fnw : Nat → Int32) (fnt : Nat → Int32) (fnc : Nat → Int32) (fnl : Nat → Int32) (bt : Nat → Int32) : Prop := MIo l G K yX12_read cX12_read 5 (some .int) 33 0 0 [.ref h0] [(h0, oX12 nw nk mhasKept nt (nI ktp) nr mrowMany mroundOf mroundFrom mouts nm mfromHour mtoHour ns mfrom mto msort misFault mdeep mcoded mlines nl nc nF np ntr nb mbestCost nso nsi nit nsh nsf nss nrc mtraced mdealer mnumber mwhose msize misParted), (nw, iA G 1662 fnw), (nt, iA G 240 fnt), (nc, iA G 100 fnc), (nl, iA G 54 fnl), (nF, sA G 5 (FCT K))] (fun (r : Int32) (u : Int32 × Int32 × Int32 × Int32 × Int32 × Int32 × (Nat → Int32) × (Nat → Int32) × (Nat → Int32)) => (∃ (rq:Int32), (RDQ bt ktp k7 rq ∧ u.2.2.2.2.2.2.1 7 = ifc (rq = fnw 7) (fnw 7 + 1) (fnw 7) ∧ MRD bt ktp rq k7 fnw u.2.2.2.2.2.2.1) ∧ r = rq) ∧ (NI u.2.2.2.2.2.2.1 ∧ VI u.2.2.2.2.2.2.1 ∧ SCX u.2.2.2.2.2.2.1 (fnw 0) (fnw 1) (fnw 2) (fnw 3) (fnw 4) (fnw 5) (fnw 6) (fnw 8) (fnw 9) (fnw 10) (fnw 11) ∧ FRV u.2.2.2.2.2.2.1 fnw 176 1424)) (fun u : Int32 × Int32 × Int32 × Int32 × Int32 × Int32 × (Nat → Int32) × (Nat → Int32) × (Nat → Int32) => [(h0, oX12 nw nk mhasKept nt 0 nr mrowMany mroundOf mroundFrom mouts nm mfromHour mtoHour ns u.2.1 u.2.2.1 u.2.2.2.1 u.1 0 u.2.2.2.2.1 u.2.2.2.2.2.1 nl nc nF np ntr nb mbestCost nso nsi nit nsh nsf nss nrc mtraced mdealer mnumber mwhose msize misParted), (nw, iA G 1662 u.2.2.2.2.2.2.1), (nt, iA G 240 fnt), (nc, iA G 100 u.2.2.2.2.2.2.2.1), (nl, iA G 54 u.2.2.2.2.2.2.2.2), (nF, sA G 5 (FCT K))])
set_option maxHeartbeats 4000000 in
set_option maxRecDepth 100000 in
theorem w_read (l : Launch) (G : GG) (K : OO) (k7 : Nat) (h0 : Nat) (nw : Nat) (nk : Nat) (mhasKept : Int32) (nt : Nat) (ktp : Nat) (nr : Nat) (mrowMany : Int32) (mroundOf : Int32) (mroundFrom : Int32) (mouts : Int32) (nm : Nat) (mfromHour : Int32) (mtoHour : Int32) (ns : Nat) (mfrom : Int32) (mto : Int32) (msort : Int32) (misFault : Int32) (mdeep : Int32) (mcoded : Int32) (mlines : Int32) (nl : Nat) (nc : Nat) (nF : Nat) (np : Nat) (ntr : Nat) (nb : Nat) (mbestCost : Int32) (nso : Nat) (nsi : Nat) (nit : Nat) (nsh : Nat) (nsf : Nat) (nss : Nat) (nrc : Nat) (mtraced : Int32) (mdealer : Int32) (mnumber : Int32) (mwhose : Int32) (msize : Int32) (misParted : Int32) (fnw : Nat → Int32) (fnt : Nat → Int32) (fnc : Nat → Int32) (fnl : Nat → Int32) (bt : Nat → Int32) (hN : NI fnw) (hV : VI fnw) (htp : ktp ≤ 240) (hFB : FBT fnt bt ktp) (ek7 : fnw 7 = nI k7) (hk7 : k7 ≤ 8) : K_w_read l G K k7 h0 nw nk mhasKept nt ktp nr mrowMany mroundOf mroundFrom mouts nm mfromHour mtoHour ns mfrom mto msort misFault mdeep mcoded mlines nl nc nF np ntr nb mbestCost nso nsi nit nsh nsf nss nrc mtraced mdealer mnumber mwhose msize misParted fnw fnt fnc fnl bt := by
  refine MIo.start (by decide +kernel) (Nat.le_of_ble_eq_true rfl) ?_
  intro p e s m below meth c A ls hC hK hP hD hS hA hl hO
  refine absQ (fun Q0 hQ0 => ?_)
  have hl : lv_has ls 5 [(0, .ref h0)] := hl
  refine Kan8 hC (fun hx hb hr hml hB hown hlocks hnm => ?_)
  refine lv_aload_n hx hb gX12_read_0.1 rfl (lv_at0 hl) ?_
  refine lv_iconst (v := 0) hx hb gX12_read_0.2.1 (by decide) ?_
  refine pf_X12_211 hC rfl hK hP hD hS 0 (ws' := [(h0, oX12 nw nk mhasKept nt (nI ktp) nr mrowMany mroundOf mroundFrom mouts nm mfromHour mtoHour ns mfrom 0 msort misFault mdeep mcoded mlines nl nc nF np ntr nb mbestCost nso nsi nit nsh nsf nss nrc mtraced mdealer mnumber mwhose msize misParted), (nw, iA G 1662 fnw), (nt, iA G 240 fnt), (nc, iA G 100 fnc), (nl, iA G 54 fnl), (nF, sA G 5 (FCT K))]) rfl (Nat.le_of_ble_eq_true rfl) rfl rfl rfl gX12_read_0.2.2.1 (fun H locs hP hD hS => ?_)
  refine lv_aload_n hx hb gX12_read_0.2.2.2.1 rfl (lv_at0 hl) ?_
  refine lv_iconst (v := 0) hx hb gX12_read_0.2.2.2.2.1 (by decide) ?_
  refine pf_X12_222 hC rfl hK hP hD hS 0 (ws' := [(h0, oX12 nw nk mhasKept nt (nI ktp) nr mrowMany mroundOf mroundFrom mouts nm mfromHour mtoHour ns mfrom 0 msort 0 mdeep mcoded mlines nl nc nF np ntr nb mbestCost nso nsi nit nsh nsf nss nrc mtraced mdealer mnumber mwhose msize misParted), (nw, iA G 1662 fnw), (nt, iA G 240 fnt), (nc, iA G 100 fnc), (nl, iA G 54 fnl), (nF, sA G 5 (FCT K))]) rfl (Nat.le_of_ble_eq_true rfl) rfl (by decide +kernel) (by decide +kernel) gX12_read_0.2.2.2.2.2.1 (fun H locs hP hD hS => ?_)
  refine lv_aload_n hx hb gX12_read_0.2.2.2.2.2.2.1 rfl (lv_at0 hl) ?_
  refine lv_iconst (v := 0) hx hb gX12_read_0.2.2.2.2.2.2.2.1 (by decide) ?_
  refine pf_X12_265 hC rfl hK hP hD hS 0 (ws' := [(h0, oX12 nw nk mhasKept nt (nI ktp) nr mrowMany mroundOf mroundFrom mouts nm mfromHour mtoHour ns mfrom 0 msort 0 0 mcoded mlines nl nc nF np ntr nb mbestCost nso nsi nit nsh nsf nss nrc mtraced mdealer mnumber mwhose msize misParted), (nw, iA G 1662 fnw), (nt, iA G 240 fnt), (nc, iA G 100 fnc), (nl, iA G 54 fnl), (nF, sA G 5 (FCT K))]) rfl (Nat.le_of_ble_eq_true rfl) rfl rfl rfl gX12_read_0.2.2.2.2.2.2.2.2.1 (fun H locs hP hD hS => ?_)
  refine lv_aload_n hx hb gX12_read_0.2.2.2.2.2.2.2.2.2 rfl (lv_at0 hl) ?_
  refine lv_iconst (v := 0) hx hb gX12_read_1.1 (by decide) ?_
  refine pf_X12_240 hC rfl hK hP hD hS 0 (ws' := [(h0, oX12 nw nk mhasKept nt (nI ktp) nr mrowMany mroundOf mroundFrom mouts nm mfromHour mtoHour ns mfrom 0 msort 0 0 0 mlines nl nc nF np ntr nb mbestCost nso nsi nit nsh nsf nss nrc mtraced mdealer mnumber mwhose msize misParted), (nw, iA G 1662 fnw), (nt, iA G 240 fnt), (nc, iA G 100 fnc), (nl, iA G 54 fnl), (nF, sA G 5 (FCT K))]) rfl (Nat.le_of_ble_eq_true rfl) rfl rfl rfl gX12_read_1.2.1 (fun H locs hP hD hS => ?_)
  refine lv_aload_n hx hb gX12_read_1.2.2.1 rfl (lv_at0 hl) ?_
  refine lv_iconst (v := 0) hx hb gX12_read_1.2.2.2.1 (by decide) ?_
  refine pf_X12_289 hC rfl hK hP hD hS 0 (ws' := [(h0, oX12 nw nk mhasKept nt (nI ktp) nr mrowMany mroundOf mroundFrom mouts nm mfromHour mtoHour ns mfrom 0 msort 0 0 0 0 nl nc nF np ntr nb mbestCost nso nsi nit nsh nsf nss nrc mtraced mdealer mnumber mwhose msize misParted), (nw, iA G 1662 fnw), (nt, iA G 240 fnt), (nc, iA G 100 fnc), (nl, iA G 54 fnl), (nF, sA G 5 (FCT K))]) rfl (Nat.le_of_ble_eq_true rfl) rfl rfl rfl gX12_read_1.2.2.2.2.1 (fun H locs hP hD hS => ?_)
  refine lv_aload_n hx hb gX12_read_1.2.2.2.2.2.1 rfl (lv_at0 hl) ?_
  refine vV (wr := [(nw, iA G 1662 fnw), (nc, iA G 100 fnc), (nl, iA G 54 fnl), (nF, sA G 5 (FCT K))]) hC hK hl hP hD hS hA (m_nextX l G h0 nw nk mhasKept nt ktp nr mrowMany mroundOf mroundFrom mouts nm mfromHour mtoHour ns mfrom 0 msort 0 0 0 0 nl nc nF np ntr nb mbestCost nso nsi nit nsh nsf nss nrc mtraced mdealer mnumber mwhose msize misParted fnt bt (by omega) (htp) (hFB)) si_X12_233 [0, 2] [1, 3, 4, 5] sm_0_2 fm_0_2 nd_0_2 sm_1_3_4_5 nd_1_3_4_5 dj_0_2__1_3_4_5 rfl rfl rfl rfl rfl (Nat.le_of_ble_eq_true rfl) rm_33_3_1 ⟨Nat.le_of_ble_eq_true rfl, Nat.le_of_ble_eq_true rfl⟩ gX12_read_1.2.2.2.2.2.2.1 (fun u7209 H locs hr7208 hP hD hS => ?_)
  refine Kpdr (ws := [(nw, iA G 1662 fnw), (nc, iA G 100 fnc), (nl, iA G 54 fnl), (nF, sA G 5 (FCT K)), (h0, oX12 nw nk mhasKept nt (nI ktp) nr mrowMany mroundOf mroundFrom mouts nm mfromHour mtoHour ns (nI (SK bt ktp 0)) (nI (TKE bt ktp (SK bt ktp 0))) (nI (TKN bt ktp (SK bt ktp 0))) 0 0 0 0 nl nc nF np ntr nb mbestCost nso nsi nit nsh nsf nss nrc mtraced mdealer mnumber mwhose msize misParted), (nt, iA G 240 fnt)]) hP hD (fun hP hD => ?_)
  have hsk0 := (SK.sp (bt := bt) (n := ktp) (i := 0) (Nat.zero_le _)).2.1
  have keyR : ∀ (nR : Nat) (vks : Nat) (vff : Int32) (vc : Nat) (vl : Nat) (vL : Nat → Int32) (vC : Nat → Int32) (H : Heap) (locs : List Loc) (ls : Array Slot), ((vff = 1 ∧ TXT bt ktp 9 (SK bt ktp 0) [] [] [] (0, vks, [], [], []) ∧ vks ≤ ktp) ∨ (vff = 0 ∧ TXM bt ktp (SK bt ktp 0) vl vks vc vL vC ∧ LKB vL vC vc vl ∧ vl ≤ 9 ∧ 3 * vc ≤ vks ∧ vks ≤ ktp ∧ 10 ≤ vl + nR)) → va_PD G A [(nw, iA G 1662 fnw), (nc, iA G 100 vC), (nl, iA G 54 vL), (nF, sA G 5 (FCT K)), (h0, oX12 nw nk mhasKept nt (nI ktp) nr mrowMany mroundOf mroundFrom mouts nm mfromHour mtoHour ns (nI vks) (nI (TKE bt ktp vks)) (nI (TKN bt ktp vks)) vff 0 (nI vc) (nI vl) nl nc nF np ntr nb mbestCost nso nsi nit nsh nsf nss nrc mtraced mdealer mnumber mwhose msize misParted), (nt, iA G 240 fnt)] H → va_S A s.heap H locs → lv_has ls 5 [(0, .ref h0)] → W p l e (RM 33 0 0) s m ([.ref h0] : List Value).toArray below meth c H locs 0 0 Q0 (F0 m 29 ls []) := by
    intro nR
    induction nR with
    | zero =>
      intro vks vff vc vl vL vC H locs ls hiR hPD hS hl
      refine Kan2 hPD (fun hP hD => ?_)
      rcases hiR with ⟨rfl, hT0, hk0⟩ | ⟨rfl, hrw, hLK, hR1, hR2, hR3, hR4⟩
      · refine lv_aload_n hx hb gX12_read_1.2.2.2.2.2.2.2.1 rfl (lv_at0 hl) ?_
        refine gf_X12_222 hC rfl hK hP 4 rfl rfl gX12_read_1.2.2.2.2.2.2.2.2.1 ?_
        refine lv_if_ne (tgt := 92) hx hb gX12_read_1.2.2.2.2.2.2.2.2.2 (by decide) (fun _ => ?_) (fun c9 => absurd c9 (by decide))
        refine lv_aload_n hx hb gX12_read_4.2.2.2.2.2.2.2.2.1 rfl (lv_at0 hl) ?_
        refine gf_X12_214 hC rfl hK hP 4 rfl rfl gX12_read_4.2.2.2.2.2.2.2.2.2 ?_
        refine lv_istore_n (lv' := [(1, .int (nI vks)), (0, .ref h0)]) hx hb gX12_read_5.1 rfl hl (by decide) rfl (fun ls hl => ?_)
        refine lv_aload_n hx hb gX12_read_5.2.1 rfl (lv_at1 hl) ?_
        refine lv_iconst (v := 0) hx hb gX12_read_5.2.2.1 (by decide) ?_
        refine pf_X12_206 hC rfl hK hP hD hS 4 (ws' := [(nw, iA G 1662 fnw), (nc, iA G 100 vC), (nl, iA G 54 vL), (nF, sA G 5 (FCT K)), (h0, oX12 nw nk mhasKept nt 0 nr mrowMany mroundOf mroundFrom mouts nm mfromHour mtoHour ns (nI vks) (nI (TKE bt ktp vks)) (nI (TKN bt ktp vks)) 1 0 (nI vc) (nI vl) nl nc nF np ntr nb mbestCost nso nsi nit nsh nsf nss nrc mtraced mdealer mnumber mwhose msize misParted), (nt, iA G 240 fnt)]) rfl (Nat.le_of_ble_eq_true rfl) rfl rfl rfl gX12_read_5.2.2.2.1 (fun H locs hP hD hS => ?_)
        refine lv_aload_n hx hb gX12_read_5.2.2.2.2.1 rfl (lv_at1 hl) ?_
        refine gf_X12_222 hC rfl hK hP 4 rfl rfl gX12_read_5.2.2.2.2.2.1 ?_
        refine lv_if_eq (tgt := 114) hx hb gX12_read_5.2.2.2.2.2.2.1 (by decide) (fun c9 => absurd c9 (by decide)) (fun _ => ?_)
        refine lv_bipush (v := (-100)) hx hb gX12_read_5.2.2.2.2.2.2.2.1 (by decide) ?_
        refine lv_iload_n hx hb gX12_read_5.2.2.2.2.2.2.2.2.1 rfl (lv_at0 hl) ?_
        refine lv_isub hx hb gX12_read_5.2.2.2.2.2.2.2.2.2 ?_
        refine toQ hQ0 ?_
        exact RI (v := (-100) - (nI vks)) hC hP hD hS [4, 0, 5, 1, 2, 3] (1, nI vks, nI (TKE bt ktp vks), nI (TKN bt ktp vks), nI vc, nI vl, fnw, vC, vL) rfl rfl (by decide) (⟨⟨_, ⟨Or.inl ⟨vks, hT0, rfl⟩, (ifc_f (by rw [ek7]; exact RDQ.nf (by omega) (by omega))).symm, MRD.n (RDQ.nf (by omega) (by omega))⟩, rfl⟩, ⟨hN, hV, SCX.rf, FRV.rf⟩⟩) rfl gX12_read_6.1
      · exact (show False by omega).elim
    | succ nR ihR =>
      intro vks vff vc vl vL vC H locs ls hiR hPD hS hl
      refine Kan2 hPD (fun hP hD => ?_)
      rcases hiR with ⟨rfl, hT0, hk0⟩ | ⟨rfl, hrw, hLK, hR1, hR2, hR3, hR4⟩
      · refine lv_aload_n hx hb gX12_read_1.2.2.2.2.2.2.2.1 rfl (lv_at0 hl) ?_
        refine gf_X12_222 hC rfl hK hP 4 rfl rfl gX12_read_1.2.2.2.2.2.2.2.2.1 ?_
        refine lv_if_ne (tgt := 92) hx hb gX12_read_1.2.2.2.2.2.2.2.2.2 (by decide) (fun _ => ?_) (fun c9 => absurd c9 (by decide))
        refine lv_aload_n hx hb gX12_read_4.2.2.2.2.2.2.2.2.1 rfl (lv_at0 hl) ?_
        refine gf_X12_214 hC rfl hK hP 4 rfl rfl gX12_read_4.2.2.2.2.2.2.2.2.2 ?_
        refine lv_istore_n (lv' := [(1, .int (nI vks)), (0, .ref h0)]) hx hb gX12_read_5.1 rfl hl (by decide) rfl (fun ls hl => ?_)
        refine lv_aload_n hx hb gX12_read_5.2.1 rfl (lv_at1 hl) ?_
        refine lv_iconst (v := 0) hx hb gX12_read_5.2.2.1 (by decide) ?_
        refine pf_X12_206 hC rfl hK hP hD hS 4 (ws' := [(nw, iA G 1662 fnw), (nc, iA G 100 vC), (nl, iA G 54 vL), (nF, sA G 5 (FCT K)), (h0, oX12 nw nk mhasKept nt 0 nr mrowMany mroundOf mroundFrom mouts nm mfromHour mtoHour ns (nI vks) (nI (TKE bt ktp vks)) (nI (TKN bt ktp vks)) 1 0 (nI vc) (nI vl) nl nc nF np ntr nb mbestCost nso nsi nit nsh nsf nss nrc mtraced mdealer mnumber mwhose msize misParted), (nt, iA G 240 fnt)]) rfl (Nat.le_of_ble_eq_true rfl) rfl rfl rfl gX12_read_5.2.2.2.1 (fun H locs hP hD hS => ?_)
        refine lv_aload_n hx hb gX12_read_5.2.2.2.2.1 rfl (lv_at1 hl) ?_
        refine gf_X12_222 hC rfl hK hP 4 rfl rfl gX12_read_5.2.2.2.2.2.1 ?_
        refine lv_if_eq (tgt := 114) hx hb gX12_read_5.2.2.2.2.2.2.1 (by decide) (fun c9 => absurd c9 (by decide)) (fun _ => ?_)
        refine lv_bipush (v := (-100)) hx hb gX12_read_5.2.2.2.2.2.2.2.1 (by decide) ?_
        refine lv_iload_n hx hb gX12_read_5.2.2.2.2.2.2.2.2.1 rfl (lv_at0 hl) ?_
        refine lv_isub hx hb gX12_read_5.2.2.2.2.2.2.2.2.2 ?_
        refine toQ hQ0 ?_
        exact RI (v := (-100) - (nI vks)) hC hP hD hS [4, 0, 5, 1, 2, 3] (1, nI vks, nI (TKE bt ktp vks), nI (TKN bt ktp vks), nI vc, nI vl, fnw, vC, vL) rfl rfl (by decide) (⟨⟨_, ⟨Or.inl ⟨vks, hT0, rfl⟩, (ifc_f (by rw [ek7]; exact RDQ.nf (by omega) (by omega))).symm, MRD.n (RDQ.nf (by omega) (by omega))⟩, rfl⟩, ⟨hN, hV, SCX.rf, FRV.rf⟩⟩) rfl gX12_read_6.1
      · have tkv := TKE.ge (bt := bt) (n := ktp) (s := vks) (by omega)
        have tk3v := TKN.le3 bt ktp vks
        obtain ⟨l9, c9, q9, hln9, hst9, hco9⟩ := hrw
        have hsl9 := hst9.1
        refine lv_aload_n hx hb gX12_read_1.2.2.2.2.2.2.2.1 rfl (lv_at0 hl) ?_
        refine gf_X12_222 hC rfl hK hP 4 rfl rfl gX12_read_1.2.2.2.2.2.2.2.2.1 ?_
        refine lv_if_ne (tgt := 92) hx hb gX12_read_1.2.2.2.2.2.2.2.2.2 (by decide) (fun c9 => absurd (by decide) c9) (fun _ => ?_)
        refine lv_aload_n hx hb gX12_read_2.1 rfl (lv_at0 hl) ?_
        refine gf_X12_217 hC rfl hK hP 4 rfl rfl gX12_read_2.2.1 ?_
        refine lv_if_eq (tgt := 92) hx hb gX12_read_2.2.2.1 (by decide) (fun c_40_7210 => ?_) (fun c_40_7210 => ?_)
        · have nb7211 : (TKN bt ktp vks) = 0 := (nI_eq (a := (TKN bt ktp vks)) (b := 0) (by omega) (by omega)).mp c_40_7210
          refine lv_aload_n hx hb gX12_read_4.2.2.2.2.2.2.2.2.1 rfl (lv_at0 hl) ?_
          refine gf_X12_214 hC rfl hK hP 4 rfl rfl gX12_read_4.2.2.2.2.2.2.2.2.2 ?_
          refine lv_istore_n (lv' := [(1, .int (nI vks)), (0, .ref h0)]) hx hb gX12_read_5.1 rfl hl (by decide) rfl (fun ls hl => ?_)
          refine lv_aload_n hx hb gX12_read_5.2.1 rfl (lv_at1 hl) ?_
          refine lv_iconst (v := 0) hx hb gX12_read_5.2.2.1 (by decide) ?_
          refine pf_X12_206 hC rfl hK hP hD hS 4 (ws' := [(nw, iA G 1662 fnw), (nc, iA G 100 vC), (nl, iA G 54 vL), (nF, sA G 5 (FCT K)), (h0, oX12 nw nk mhasKept nt 0 nr mrowMany mroundOf mroundFrom mouts nm mfromHour mtoHour ns (nI vks) (nI (TKE bt ktp vks)) (nI (TKN bt ktp vks)) 0 0 (nI vc) (nI vl) nl nc nF np ntr nb mbestCost nso nsi nit nsh nsf nss nrc mtraced mdealer mnumber mwhose msize misParted), (nt, iA G 240 fnt)]) rfl (Nat.le_of_ble_eq_true rfl) rfl rfl rfl gX12_read_5.2.2.2.1 (fun H locs hP hD hS => ?_)
          refine lv_aload_n hx hb gX12_read_5.2.2.2.2.1 rfl (lv_at1 hl) ?_
          refine gf_X12_222 hC rfl hK hP 4 rfl rfl gX12_read_5.2.2.2.2.2.1 ?_
          refine lv_if_eq (tgt := 114) hx hb gX12_read_5.2.2.2.2.2.2.1 (by decide) (fun _ => ?_) (fun c9 => absurd (by decide) c9)
          refine lv_aload_n hx hb gX12_read_6.2.1 rfl (lv_at1 hl) ?_
          refine gf_X12_9 hC rfl hK hP 4 rfl rfl gX12_read_6.2.2.1 ?_
          refine lv_bipush (v := 7) hx hb gX12_read_6.2.2.2.1 (by decide) ?_
          refine ald hC hK hP 0 rfl (vin (by decide +kernel)) (k := 7) (by decide +kernel) (v := nI k7) (ek7) gX12_read_6.2.2.2.2.1 ?_
          refine lv_istore_n (lv' := [(2, .int (nI k7)), (1, .int (nI vks)), (0, .ref h0)]) hx hb gX12_read_6.2.2.2.2.2.1 rfl hl (by decide) rfl (fun ls hl => ?_)
          refine lv_iload_n hx hb gX12_read_6.2.2.2.2.2.2.1 rfl (lv_at0 hl) ?_
          refine lv_bipush (v := 8) hx hb gX12_read_6.2.2.2.2.2.2.2.1 (by decide) ?_
          refine lv_icmp_ne (tgt := 131) hx hb gX12_read_6.2.2.2.2.2.2.2.2.1 (by decide) (fun c_125_7213 => ?_) (fun c_125_7213 => ?_)
          · have nb7214 : ¬ k7 = 8 := fun h9 => c_125_7213 ((nI_eq (a := k7) (b := 8) (by omega) (by omega)).mpr h9)
            refine lv_sipush (v := 176) hx hb gX12_read_7.2.1 (by decide) ?_
            refine lv_sipush (v := 156) hx hb gX12_read_7.2.2.1 (by decide) ?_
            refine lv_iload_n hx hb gX12_read_7.2.2.2.1 rfl (lv_at0 hl) ?_
            refine lv_imul hx hb gX12_read_7.2.2.2.2.1 ?_
            refine eqi (x1 := nI (156 * k7)) (nI_mul 156 k7) ?_
            refine lv_iadd hx hb gX12_read_7.2.2.2.2.2.1 ?_
            refine eqi (x1 := nI (176 + 156 * k7)) (nI_add 176 (156 * k7)) ?_
            refine lv_istore_n (lv' := [(3, .int (nI (176 + 156 * k7))), (2, .int (nI k7)), (1, .int (nI vks)), (0, .ref h0)]) hx hb gX12_read_7.2.2.2.2.2.2.1 rfl hl (by decide) rfl (fun ls hl => ?_)
            refine lv_aload_n hx hb gX12_read_7.2.2.2.2.2.2.2.1 rfl (lv_at3 hl) ?_
            refine gf_X12_9 hC rfl hK hP 4 rfl rfl gX12_read_7.2.2.2.2.2.2.2.2.1 ?_
            refine lv_iload_n hx hb gX12_read_7.2.2.2.2.2.2.2.2.2 rfl (lv_at0 hl) ?_
            refine lv_iconst (v := 0) hx hb gX12_read_8.1 (by decide) ?_
            refine lv_iadd hx hb gX12_read_8.2.1 ?_
            refine eqi (x1 := nI (176 + 156 * k7 + 0)) (nI_add (176 + 156 * k7) 0) ?_
            refine lv_aload_n hx hb gX12_read_8.2.2.1 rfl (lv_at3 hl) ?_
            refine gf_X12_9 hC rfl hK hP 4 rfl rfl gX12_read_8.2.2.2.1 ?_
            refine lv_iconst (v := 0) hx hb gX12_read_8.2.2.2.2.1 (by decide) ?_
            refine ald hC hK hP 0 rfl (vin (by decide +kernel)) (k := 0) (by decide +kernel) (v := fnw 0) (rfl) gX12_read_8.2.2.2.2.2.1 ?_
            refine astN hC hK hP hD hS 0 (ws' := [(nw, iA G 1662 (upd fnw (176 + 156 * k7 + 0) (fnw 0))), (nc, iA G 100 vC), (nl, iA G 54 vL), (nF, sA G 5 (FCT K)), (h0, oX12 nw nk mhasKept nt 0 nr mrowMany mroundOf mroundFrom mouts nm mfromHour mtoHour ns (nI vks) (nI (TKE bt ktp vks)) (nI (TKN bt ktp vks)) 0 0 (nI vc) (nI vl) nl nc nF np ntr nb mbestCost nso nsi nit nsh nsf nss nrc mtraced mdealer mnumber mwhose msize misParted), (nt, iA G 240 fnt)]) rfl (k := (176 + 156 * k7 + 0)) (by omega) (Nat.le_of_ble_eq_true rfl) (rfl) gX12_read_8.2.2.2.2.2.2.1 (fun H locs hP hD hS => ?_)
            refine lv_aload_n hx hb gX12_read_8.2.2.2.2.2.2.2.1 rfl (lv_at3 hl) ?_
            refine gf_X12_9 hC rfl hK hP 4 rfl rfl gX12_read_8.2.2.2.2.2.2.2.2.1 ?_
            refine lv_iload_n hx hb gX12_read_8.2.2.2.2.2.2.2.2.2 rfl (lv_at0 hl) ?_
            refine lv_iconst (v := 1) hx hb gX12_read_9.1 (by decide) ?_
            refine lv_iadd hx hb gX12_read_9.2.1 ?_
            refine eqi (x1 := nI (176 + 156 * k7 + 1)) (nI_add (176 + 156 * k7) 1) ?_
            refine lv_aload_n hx hb gX12_read_9.2.2.1 rfl (lv_at3 hl) ?_
            refine gf_X12_289 hC rfl hK hP 4 rfl rfl gX12_read_9.2.2.2.1 ?_
            refine astN hC hK hP hD hS 0 (ws' := [(nw, iA G 1662 (upd (upd fnw (176 + 156 * k7 + 0) (fnw 0)) (176 + 156 * k7 + 1) (nI vl))), (nc, iA G 100 vC), (nl, iA G 54 vL), (nF, sA G 5 (FCT K)), (h0, oX12 nw nk mhasKept nt 0 nr mrowMany mroundOf mroundFrom mouts nm mfromHour mtoHour ns (nI vks) (nI (TKE bt ktp vks)) (nI (TKN bt ktp vks)) 0 0 (nI vc) (nI vl) nl nc nF np ntr nb mbestCost nso nsi nit nsh nsf nss nrc mtraced mdealer mnumber mwhose msize misParted), (nt, iA G 240 fnt)]) rfl (k := (176 + 156 * k7 + 1)) (by omega) (Nat.le_of_ble_eq_true rfl) (rfl) gX12_read_9.2.2.2.2.1 (fun H locs hP hD hS => ?_)
            refine lv_iconst (v := 0) hx hb gX12_read_9.2.2.2.2.2.1 (by decide) ?_
            refine lv_istore (lv' := [(4, .int 0), (3, .int (nI (176 + 156 * k7))), (2, .int (nI k7)), (1, .int (nI vks)), (0, .ref h0)]) hx hb gX12_read_9.2.2.2.2.2.2.1 hl (by decide) rfl (fun ls hl => ?_)
            have hNF : NI (upd (upd fnw (176 + 156 * k7 + 0) (fnw 0)) (176 + 156 * k7 + 1) (nI vl)) := (hN.setA (bnd_ver (by omega) (by omega))).setA (bnd_ver (by omega) (by omega))
            have keyP : ∀ (nP kP : Nat) (vW : Nat → Int32) (H : Heap) (locs : List Loc) (ls : Array Slot), kP + nP = 54 → (CP (upd (upd fnw (176 + 156 * k7 + 0) (fnw 0)) (176 + 156 * k7 + 1) (nI vl)) vW (176 + 156 * k7 + 2) kP vL) → va_PD G A [(nw, iA G 1662 vW), (nc, iA G 100 vC), (nl, iA G 54 vL), (nF, sA G 5 (FCT K)), (h0, oX12 nw nk mhasKept nt 0 nr mrowMany mroundOf mroundFrom mouts nm mfromHour mtoHour ns (nI vks) (nI (TKE bt ktp vks)) (nI (TKN bt ktp vks)) 0 0 (nI vc) (nI vl) nl nc nF np ntr nb mbestCost nso nsi nit nsh nsf nss nrc mtraced mdealer mnumber mwhose msize misParted), (nt, iA G 240 fnt)] H → va_S A s.heap H locs → lv_has ls 5 [(4, .int (nI kP)), (3, .int (nI (176 + 156 * k7))), (2, .int (nI k7)), (1, .int (nI vks)), (0, .ref h0)] → W p l e (RM 33 0 0) s m ([.ref h0] : List Value).toArray below meth c H locs 0 0 Q0 (F0 m 170 ls []) := by
              intro nP
              induction nP with
              | zero =>
                intro kP vW H locs ls hkP hcp hPD hS hl
                refine Kan2 hPD (fun hP hD => ?_)
                obtain rfl : 54 = kP := by omega
                have hl : lv_has ls 5 [(4, .int 54), (3, .int (nI (176 + 156 * k7))), (2, .int (nI k7)), (1, .int (nI vks)), (0, .ref h0)] := hl
                refine lv_iload hx hb gX12_read_9.2.2.2.2.2.2.2.1 (lv_at0 hl) ?_
                refine lv_bipush (v := 54) hx hb gX12_read_9.2.2.2.2.2.2.2.2.1 (by decide) ?_
                refine lv_icmp_ge (tgt := 201) hx hb gX12_read_9.2.2.2.2.2.2.2.2.2 (by decide) (fun _ => ?_) (fun c9 => absurd (by decide) c9)
                refine lv_iconst (v := 0) hx hb gX12_read_11.2.2.2.2.1 (by decide) ?_
                refine lv_istore (lv' := [(4, .int 0), (3, .int (nI (176 + 156 * k7))), (2, .int (nI k7)), (1, .int (nI vks)), (0, .ref h0)]) hx hb gX12_read_11.2.2.2.2.2.1 hl (by decide) rfl (fun ls hl => ?_)
                have keyQ : ∀ (nQ kQ : Nat) (vX : Nat → Int32) (H : Heap) (locs : List Loc) (ls : Array Slot), kQ + nQ = vc → (CP vW vX (176 + 156 * k7 + 56) kQ vC) → va_PD G A [(nw, iA G 1662 vX), (nc, iA G 100 vC), (nl, iA G 54 vL), (nF, sA G 5 (FCT K)), (h0, oX12 nw nk mhasKept nt 0 nr mrowMany mroundOf mroundFrom mouts nm mfromHour mtoHour ns (nI vks) (nI (TKE bt ktp vks)) (nI (TKN bt ktp vks)) 0 0 (nI vc) (nI vl) nl nc nF np ntr nb mbestCost nso nsi nit nsh nsf nss nrc mtraced mdealer mnumber mwhose msize misParted), (nt, iA G 240 fnt)] H → va_S A s.heap H locs → lv_has ls 5 [(4, .int (nI kQ)), (3, .int (nI (176 + 156 * k7))), (2, .int (nI k7)), (1, .int (nI vks)), (0, .ref h0)] → W p l e (RM 33 0 0) s m ([.ref h0] : List Value).toArray below meth c H locs 0 0 Q0 (F0 m 204 ls []) := by
                  intro nQ
                  induction nQ with
                  | zero =>
                    intro kQ vX H locs ls hkQ hcq hPD hS hl
                    refine Kan2 hPD (fun hP hD => ?_)
                    obtain rfl : vc = kQ := by omega
                    have hl : lv_has ls 5 [(4, .int (nI vc)), (3, .int (nI (176 + 156 * k7))), (2, .int (nI k7)), (1, .int (nI vks)), (0, .ref h0)] := hl
                    refine lv_iload hx hb gX12_read_11.2.2.2.2.2.2.1 (lv_at0 hl) ?_
                    refine lv_aload_n hx hb gX12_read_11.2.2.2.2.2.2.2.1 rfl (lv_at4 hl) ?_
                    refine gf_X12_240 hC rfl hK hP 4 rfl rfl gX12_read_11.2.2.2.2.2.2.2.2.1 ?_
                    refine lv_icmp_ge (tgt := 238) hx hb gX12_read_11.2.2.2.2.2.2.2.2.2 (by decide) (fun _ => ?_) (fun c9 => absurd (Int32.le_refl _) c9)
                    have e7X : vX 7 = nI k7 := (hcq.2.1 7 (by omega)).trans ((hcp.2.1 7 (by omega)).trans ((upd_ne (by omega)).trans ((upd_ne (by omega)).trans ek7)))
                    refine lv_aload_n hx hb gX12_read_13.2.2.2.2.1 rfl (lv_at4 hl) ?_
                    refine gf_X12_9 hC rfl hK hP 4 rfl rfl gX12_read_13.2.2.2.2.2.1 ?_
                    refine lv_bipush (v := 7) hx hb gX12_read_13.2.2.2.2.2.2.1 (by decide) ?_
                    refine lv_dup2_11 hx hb gX12_read_13.2.2.2.2.2.2.2.1 rfl rfl ?_
                    refine ald hC hK hP 0 rfl (vin (by decide +kernel)) (k := 7) (by decide +kernel) (v := nI k7) (e7X) gX12_read_13.2.2.2.2.2.2.2.2.1 ?_
                    refine lv_iconst (v := 1) hx hb gX12_read_13.2.2.2.2.2.2.2.2.2 (by decide) ?_
                    refine lv_iadd hx hb gX12_read_14.1 ?_
                    refine eqi (x1 := nI (k7 + 1)) (nI_add k7 1) ?_
                    refine ast hC hK hP hD hS 0 (ws' := [(nw, iA G 1662 (upd vX 7 (nI (k7 + 1)))), (nc, iA G 100 vC), (nl, iA G 54 vL), (nF, sA G 5 (FCT K)), (h0, oX12 nw nk mhasKept nt 0 nr mrowMany mroundOf mroundFrom mouts nm mfromHour mtoHour ns (nI vks) (nI (TKE bt ktp vks)) (nI (TKN bt ktp vks)) 0 0 (nI vc) (nI vl) nl nc nF np ntr nb mbestCost nso nsi nit nsh nsf nss nrc mtraced mdealer mnumber mwhose msize misParted), (nt, iA G 240 fnt)]) rfl (vin (by decide +kernel)) (k := 7) (by decide +kernel) (rfl) gX12_read_14.2.1 (fun H locs hP hD hS => ?_)
                    refine lv_iload_n hx hb gX12_read_14.2.2.1 rfl (lv_at2 hl) ?_
                    refine toQ hQ0 ?_
                    exact RI (v := nI k7) hC hP hD hS [4, 0, 5, 1, 2, 3] (0, nI vks, nI (TKE bt ktp vks), nI (TKN bt ktp vks), nI vc, nI vl, upd vX 7 (nI (k7 + 1)), vC, vL) rfl rfl (by decide) (⟨⟨_, ⟨Or.inr ⟨l9, c9, q9, hco9 _ (TXT.end (by omega) _), Or.inr ⟨by omega, rfl⟩⟩, (show (upd vX 7 (nI (k7 + 1))) 7 = ifc (nI k7 = fnw 7) (fnw 7 + 1) (fnw 7) from (upd_eq rfl).trans (by rw [ek7, ifc_t rfl]; exact (nI_1 k7).symm)), MRD.y (hco9 _ (TXT.end (by omega) _)) hln9 (by omega) hcp hcq⟩, rfl⟩, ⟨hcq.1.setN (B := 8) (show bnd 7 = (0, ((8 : Nat) : Int)) from by decide +kernel) (by omega) (by decide), VI.newrow hV (by omega) (by omega) (by omega) hcp hcq hLK, (hcq.SC (by omega) (hcp.SC (by omega) ((SCX.rf.set (by omega)).set (by omega)))).set (by omega), (hcq.FV (by omega) (by omega) (hcp.FV (by omega) (by omega) ((FRV.rf.set (by omega)).set (by omega)))).set (by omega)⟩⟩) rfl gX12_read_14.2.2.2
                  | succ nQ ihQ =>
                    intro kQ vX H locs ls hkQ hcq hPD hS hl
                    refine Kan2 hPD (fun hP hD => ?_)
                    refine lv_iload hx hb gX12_read_11.2.2.2.2.2.2.1 (lv_at0 hl) ?_
                    refine lv_aload_n hx hb gX12_read_11.2.2.2.2.2.2.2.1 rfl (lv_at4 hl) ?_
                    refine gf_X12_240 hC rfl hK hP 4 rfl rfl gX12_read_11.2.2.2.2.2.2.2.2.1 ?_
                    refine lv_icmp_ge (tgt := 238) hx hb gX12_read_11.2.2.2.2.2.2.2.2.2 (by decide) (fun c9 => absurd c9 (nI_ge (a := kQ) (b := vc) (by omega) (by omega))) (fun _ => ?_)
                    refine lv_aload_n hx hb gX12_read_12.1 rfl (lv_at4 hl) ?_
                    refine gf_X12_9 hC rfl hK hP 4 rfl rfl gX12_read_12.2.1 ?_
                    refine lv_iload_n hx hb gX12_read_12.2.2.1 rfl (lv_at1 hl) ?_
                    refine lv_bipush (v := 56) hx hb gX12_read_12.2.2.2.1 (by decide) ?_
                    refine lv_iadd hx hb gX12_read_12.2.2.2.2.1 ?_
                    refine eqi (x1 := nI (176 + 156 * k7 + 56)) (nI_add (176 + 156 * k7) 56) ?_
                    refine lv_iload hx hb gX12_read_12.2.2.2.2.2.1 (lv_at0 hl) ?_
                    refine lv_iadd hx hb gX12_read_12.2.2.2.2.2.2.1 ?_
                    refine eqi (x1 := nI (176 + 156 * k7 + 56 + kQ)) (nI_add (176 + 156 * k7 + 56) kQ) ?_
                    refine lv_aload_n hx hb gX12_read_12.2.2.2.2.2.2.2.1 rfl (lv_at4 hl) ?_
                    refine gf_X12_35 hC rfl hK hP 4 rfl rfl gX12_read_12.2.2.2.2.2.2.2.2.1 ?_
                    refine lv_iload hx hb gX12_read_12.2.2.2.2.2.2.2.2.2 (lv_at0 hl) ?_
                    refine aldN hC hK hP 1 rfl (k := kQ) (by omega) (Nat.le_of_ble_eq_true rfl) (v := vC kQ) rfl gX12_read_13.1 ?_
                    refine astN hC hK hP hD hS 0 (ws' := [(nw, iA G 1662 (upd vX (176 + 156 * k7 + 56 + kQ) (vC kQ))), (nc, iA G 100 vC), (nl, iA G 54 vL), (nF, sA G 5 (FCT K)), (h0, oX12 nw nk mhasKept nt 0 nr mrowMany mroundOf mroundFrom mouts nm mfromHour mtoHour ns (nI vks) (nI (TKE bt ktp vks)) (nI (TKN bt ktp vks)) 0 0 (nI vc) (nI vl) nl nc nF np ntr nb mbestCost nso nsi nit nsh nsf nss nrc mtraced mdealer mnumber mwhose msize misParted), (nt, iA G 240 fnt)]) rfl (k := (176 + 156 * k7 + 56 + kQ)) (by omega) (Nat.le_of_ble_eq_true rfl) (rfl) gX12_read_13.2.1 (fun H locs hP hD hS => ?_)
                    refine lv_iinc (v := nI (kQ + 1)) (lv' := [(4, .int (nI (kQ + 1))), (3, .int (nI (176 + 156 * k7))), (2, .int (nI k7)), (1, .int (nI vks)), (0, .ref h0)]) hx hb gX12_read_13.2.2.1 hl (k := 0) rfl (nI_1 _) (by decide) rfl (fun ls hl => ?_)
                    refine lv_goto (tgt := 204) hx hb gX12_read_13.2.2.2.1 (by decide) ?_
                    exact ihQ (kQ + 1) (upd vX (176 + 156 * k7 + 56 + kQ) (vC kQ)) _ _ _ (by omega) (by first | assumption | exact Or.inl rfl | exact Or.inr rfl | exact CP.zero hcp.1 | exact CP.next hcq (by first | rfl | assumption) (bnd_ver (by omega) (by omega))) (And.intro hP hD) hS (lv_sub hl [0, 1, 2, 3, 4] rfl)
                exact keyQ vc 0 vW _ _ _ (by omega) (by first | assumption | exact Or.inl rfl | exact Or.inr rfl | exact CP.zero hcp.1 | exact CP.next hcq (by first | rfl | assumption) (bnd_ver (by omega) (by omega))) (And.intro hP hD) hS (lv_sub hl [0, 1, 2, 3, 4] rfl)
              | succ nP ihP =>
                intro kP vW H locs ls hkP hcp hPD hS hl
                refine Kan2 hPD (fun hP hD => ?_)
                refine lv_iload hx hb gX12_read_9.2.2.2.2.2.2.2.1 (lv_at0 hl) ?_
                refine lv_bipush (v := 54) hx hb gX12_read_9.2.2.2.2.2.2.2.2.1 (by decide) ?_
                refine lv_icmp_ge (tgt := 201) hx hb gX12_read_9.2.2.2.2.2.2.2.2.2 (by decide) (fun c9 => absurd c9 (nI_ge (a := kP) (b := 54) (by omega) (by omega))) (fun _ => ?_)
                refine lv_aload_n hx hb gX12_read_10.1 rfl (lv_at4 hl) ?_
                refine gf_X12_9 hC rfl hK hP 4 rfl rfl gX12_read_10.2.1 ?_
                refine lv_iload_n hx hb gX12_read_10.2.2.1 rfl (lv_at1 hl) ?_
                refine lv_iconst (v := 2) hx hb gX12_read_10.2.2.2.1 (by decide) ?_
                refine lv_iadd hx hb gX12_read_10.2.2.2.2.1 ?_
                refine eqi (x1 := nI (176 + 156 * k7 + 2)) (nI_add (176 + 156 * k7) 2) ?_
                refine lv_iload hx hb gX12_read_10.2.2.2.2.2.1 (lv_at0 hl) ?_
                refine lv_iadd hx hb gX12_read_10.2.2.2.2.2.2.1 ?_
                refine eqi (x1 := nI (176 + 156 * k7 + 2 + kP)) (nI_add (176 + 156 * k7 + 2) kP) ?_
                refine lv_aload_n hx hb gX12_read_10.2.2.2.2.2.2.2.1 rfl (lv_at4 hl) ?_
                refine gf_X12_32 hC rfl hK hP 4 rfl rfl gX12_read_10.2.2.2.2.2.2.2.2.1 ?_
                refine lv_iload hx hb gX12_read_10.2.2.2.2.2.2.2.2.2 (lv_at0 hl) ?_
                refine aldN hC hK hP 2 rfl (k := kP) (by omega) (Nat.le_of_ble_eq_true rfl) (v := vL kP) rfl gX12_read_11.1 ?_
                refine astN hC hK hP hD hS 0 (ws' := [(nw, iA G 1662 (upd vW (176 + 156 * k7 + 2 + kP) (vL kP))), (nc, iA G 100 vC), (nl, iA G 54 vL), (nF, sA G 5 (FCT K)), (h0, oX12 nw nk mhasKept nt 0 nr mrowMany mroundOf mroundFrom mouts nm mfromHour mtoHour ns (nI vks) (nI (TKE bt ktp vks)) (nI (TKN bt ktp vks)) 0 0 (nI vc) (nI vl) nl nc nF np ntr nb mbestCost nso nsi nit nsh nsf nss nrc mtraced mdealer mnumber mwhose msize misParted), (nt, iA G 240 fnt)]) rfl (k := (176 + 156 * k7 + 2 + kP)) (by omega) (Nat.le_of_ble_eq_true rfl) (rfl) gX12_read_11.2.1 (fun H locs hP hD hS => ?_)
                refine lv_iinc (v := nI (kP + 1)) (lv' := [(4, .int (nI (kP + 1))), (3, .int (nI (176 + 156 * k7))), (2, .int (nI k7)), (1, .int (nI vks)), (0, .ref h0)]) hx hb gX12_read_11.2.2.1 hl (k := 0) rfl (nI_1 _) (by decide) rfl (fun ls hl => ?_)
                refine lv_goto (tgt := 170) hx hb gX12_read_11.2.2.2.1 (by decide) ?_
                exact ihP (kP + 1) (upd vW (176 + 156 * k7 + 2 + kP) (vL kP)) _ _ _ (by omega) (by first | assumption | exact Or.inl rfl | exact Or.inr rfl | exact CP.zero hNF | exact CP.next hcp (by first | rfl | assumption) (bnd_ver (by omega) (by omega))) (And.intro hP hD) hS (lv_sub hl [0, 1, 2, 3, 4] rfl)
            exact keyP 54 0 (upd (upd fnw (176 + 156 * k7 + 0) (fnw 0)) (176 + 156 * k7 + 1) (nI vl)) _ _ _ (by omega) (by first | assumption | exact Or.inl rfl | exact Or.inr rfl | exact CP.zero hNF | exact CP.next hcp (by first | rfl | assumption) (bnd_ver (by omega) (by omega))) (And.intro hP hD) hS (lv_sub hl [0, 1, 2, 3, 4] rfl)
          · have nb7215 : k7 = 8 := (nI_eq (a := k7) (b := 8) (by omega) (by omega)).mp c_125_7213
            refine lv_bipush (v := (-2)) hx hb gX12_read_6.2.2.2.2.2.2.2.2.2 (by decide) ?_
            refine toQ hQ0 ?_
            exact RI (v := (-2)) hC hP hD hS [4, 0, 5, 1, 2, 3] (0, nI vks, nI (TKE bt ktp vks), nI (TKN bt ktp vks), nI vc, nI vl, fnw, vC, vL) rfl rfl (by decide) (⟨⟨_, ⟨Or.inr ⟨l9, c9, q9, hco9 _ (TXT.end (by omega) _), Or.inl ⟨by omega, rfl⟩⟩, (ifc_f (by rw [ek7]; exact RDQ.n8 (by omega))).symm, MRD.n (RDQ.n8 (by omega))⟩, rfl⟩, ⟨hN, hV, SCX.rf, FRV.rf⟩⟩) rfl gX12_read_7.1
        · have nb7212 : ¬ (TKN bt ktp vks) = 0 := fun h9 => c_40_7210 ((nI_eq (a := (TKN bt ktp vks)) (b := 0) (by omega) (by omega)).mpr h9)
          refine lv_aload_n hx hb gX12_read_2.2.2.2.1 rfl (lv_at0 hl) ?_
          refine lv_aload_n hx hb gX12_read_2.2.2.2.2.1 rfl (lv_at0 hl) ?_
          refine gf_X12_289 hC rfl hK hP 4 rfl rfl gX12_read_2.2.2.2.2.2.1 ?_
          refine lv_bipush (v := 9) hx hb gX12_read_2.2.2.2.2.2.2.1 (by decide) ?_
          refine lv_icmp_ne (tgt := 57) hx hb gX12_read_2.2.2.2.2.2.2.2.1 (by decide) (fun c_50_7216 => ?_) (fun c_50_7216 => ?_)
          · have nb7217 : ¬ vl = 9 := fun h9 => c_50_7216 ((nI_eq (a := vl) (b := 9) (by omega) (by omega)).mpr h9)
            refine lv_iconst (v := 0) hx hb gX12_read_3.1 (by decide) ?_
            refine pf_X12_222 hC rfl hK hP hD hS 4 (ws' := [(nw, iA G 1662 fnw), (nc, iA G 100 vC), (nl, iA G 54 vL), (nF, sA G 5 (FCT K)), (h0, oX12 nw nk mhasKept nt (nI ktp) nr mrowMany mroundOf mroundFrom mouts nm mfromHour mtoHour ns (nI vks) (nI (TKE bt ktp vks)) (nI (TKN bt ktp vks)) 0 0 (nI vc) (nI vl) nl nc nF np ntr nb mbestCost nso nsi nit nsh nsf nss nrc mtraced mdealer mnumber mwhose msize misParted), (nt, iA G 240 fnt)]) rfl (Nat.le_of_ble_eq_true rfl) rfl (by decide +kernel) (by decide +kernel) gX12_read_3.2.1 (fun H locs hP hD hS => ?_)
            refine lv_aload_n hx hb gX12_read_3.2.2.1 rfl (lv_at0 hl) ?_
            refine gf_X12_222 hC rfl hK hP 4 rfl rfl gX12_read_3.2.2.2.1 ?_
            refine lv_if_ne (tgt := 29) hx hb gX12_read_3.2.2.2.2.1 (by decide) (fun c9 => absurd (by decide) c9) (fun _ => ?_)
            refine lv_aload_n hx hb gX12_read_3.2.2.2.2.2.1 rfl (lv_at0 hl) ?_
            refine lv_bipush (v := 6) hx hb gX12_read_3.2.2.2.2.2.2.1 (by decide) ?_
            refine lv_aload_n hx hb gX12_read_3.2.2.2.2.2.2.2.1 rfl (lv_at0 hl) ?_
            refine gf_X12_289 hC rfl hK hP 4 rfl rfl gX12_read_3.2.2.2.2.2.2.2.2.1 ?_
            refine lv_imul hx hb gX12_read_3.2.2.2.2.2.2.2.2.2 ?_
            refine eqi (x1 := nI (6 * vl)) (nI_mul 6 vl) ?_
            refine vVo (wr := [(nw, iA G 1662 fnw)]) hO hC hK hl hP hD hS hA (m_lineAt l G K h0 nw nk mhasKept nt ktp nr mrowMany mroundOf mroundFrom mouts nm mfromHour mtoHour ns vks vc vl nl nc nF np ntr nb mbestCost nso nsi nit nsh nsf nss nrc mtraced mdealer mnumber mwhose msize misParted fnt vC vL bt c9 q9 (htp) (by omega) (hFB) (hst9) (by omega) (by omega)) si_X12_292 [4, 5, 1, 2, 3] [0] sm_4_5_1_2_3 fm_4_5_1_2_3 nd_4_5_1_2_3 sm_0 nd_0 dj_4_5_1_2_3__0 rfl rfl rfl rfl rfl (Nat.le_of_ble_eq_true rfl) rm_33_32_3 ⟨Nat.le_of_ble_eq_true rfl, Nat.le_of_ble_eq_true rfl⟩ gX12_read_4.1 (Ktu8 fun ff17221 ks17222 kc17223 gnc7224 gnl7225 ln7226 c17227 r17228 => ?_)
            intro H locs hr7219 hP hD hS
            try dsimp only at hr7219
            refine Kpdr (ws := [(nw, iA G 1662 fnw), (h0, oX12 nw nk mhasKept nt (nI ktp) nr mrowMany mroundOf mroundFrom mouts nm mfromHour mtoHour ns (nI ks17222) (nI (TKE bt ktp ks17222)) (nI (TKN bt ktp ks17222)) ff17221 0 (nI kc17223) (nI vl) nl nc nF np ntr nb mbestCost nso nsi nit nsh nsf nss nrc mtraced mdealer mnumber mwhose msize misParted), (nt, iA G 240 fnt), (nc, iA G 100 gnc7224), (nl, iA G 54 gnl7225), (nF, sA G 5 (FCT K))]) hP hD (fun hP hD => ?_)
            have w7229 := hr7219
            rcases w7229 with v7230 | v7231
            · obtain ⟨rfl, hq7232, hq7233, hq7234, hq7235, hq7236⟩ := v7230
              have xl7237 := hq7233.1
              refine lv_aload_n hx hb gX12_read_4.2.1 rfl (lv_at0 hl) ?_
              refine lv_dup hx hb gX12_read_4.2.2.1 rfl ?_
              refine gf_X12_289 hC rfl hK hP 1 rfl rfl gX12_read_4.2.2.2.1 ?_
              refine lv_iconst (v := 1) hx hb gX12_read_4.2.2.2.2.1 (by decide) ?_
              refine lv_iadd hx hb gX12_read_4.2.2.2.2.2.1 ?_
              refine eqi (x1 := nI (vl + 1)) (nI_add vl 1) ?_
              refine pf_X12_289 hC rfl hK hP hD hS 1 (ws' := [(nw, iA G 1662 fnw), (h0, oX12 nw nk mhasKept nt (nI ktp) nr mrowMany mroundOf mroundFrom mouts nm mfromHour mtoHour ns (nI ks17222) (nI (TKE bt ktp ks17222)) (nI (TKN bt ktp ks17222)) 0 0 (nI kc17223) (nI (vl + 1)) nl nc nF np ntr nb mbestCost nso nsi nit nsh nsf nss nrc mtraced mdealer mnumber mwhose msize misParted), (nt, iA G 240 fnt), (nc, iA G 100 gnc7224), (nl, iA G 54 gnl7225), (nF, sA G 5 (FCT K))]) rfl (Nat.le_of_ble_eq_true rfl) rfl rfl rfl gX12_read_4.2.2.2.2.2.2.1 (fun H locs hP hD hS => ?_)
              refine lv_goto (tgt := 29) hx hb gX12_read_4.2.2.2.2.2.2.2.1 (by decide) ?_
              refine Kpds (ws' := [(nw, iA G 1662 fnw), (nc, iA G 100 gnc7224), (nl, iA G 54 gnl7225), (nF, sA G 5 (FCT K)), (h0, oX12 nw nk mhasKept nt (nI ktp) nr mrowMany mroundOf mroundFrom mouts nm mfromHour mtoHour ns (nI ks17222) (nI (TKE bt ktp ks17222)) (nI (TKN bt ktp ks17222)) 0 0 (nI kc17223) (nI (vl + 1)) nl nc nF np ntr nb mbestCost nso nsi nit nsh nsf nss nrc mtraced mdealer mnumber mwhose msize misParted), (nt, iA G 240 fnt)]) hP hD [0, 3, 4, 5, 1, 2] fm_0_3_4_5_1_2 nd_0_3_4_5_1_2 sm_0_3_4_5_1_2 (fun hP hD => ?_)
              exact ihR ks17222 0 kc17223 (vl + 1) gnl7225 gnc7224 _ _ _ (Or.inr ⟨rfl, ⟨_, _, _, LNZ.push hln9 hq7234, hq7233, fun q h9 => hco9 q (TXT.step (by omega) (by omega) hq7232 h9)⟩, LKB.next hLK hq7232 hst9 hq7233 hq7234, by omega, by omega, by omega, by omega⟩) (And.intro hP hD) hS (lv_sub hl [0] rfl)
            · obtain ⟨rfl, hq7238, hq7239⟩ := v7231
              refine lv_aload_n hx hb gX12_read_4.2.1 rfl (lv_at0 hl) ?_
              refine lv_dup hx hb gX12_read_4.2.2.1 rfl ?_
              refine gf_X12_289 hC rfl hK hP 1 rfl rfl gX12_read_4.2.2.2.1 ?_
              refine lv_iconst (v := 1) hx hb gX12_read_4.2.2.2.2.1 (by decide) ?_
              refine lv_iadd hx hb gX12_read_4.2.2.2.2.2.1 ?_
              refine eqi (x1 := nI (vl + 1)) (nI_add vl 1) ?_
              refine pf_X12_289 hC rfl hK hP hD hS 1 (ws' := [(nw, iA G 1662 fnw), (h0, oX12 nw nk mhasKept nt (nI ktp) nr mrowMany mroundOf mroundFrom mouts nm mfromHour mtoHour ns (nI ks17222) (nI (TKE bt ktp ks17222)) (nI (TKN bt ktp ks17222)) 1 0 (nI kc17223) (nI (vl + 1)) nl nc nF np ntr nb mbestCost nso nsi nit nsh nsf nss nrc mtraced mdealer mnumber mwhose msize misParted), (nt, iA G 240 fnt), (nc, iA G 100 gnc7224), (nl, iA G 54 gnl7225), (nF, sA G 5 (FCT K))]) rfl (Nat.le_of_ble_eq_true rfl) rfl rfl rfl gX12_read_4.2.2.2.2.2.2.1 (fun H locs hP hD hS => ?_)
              refine lv_goto (tgt := 29) hx hb gX12_read_4.2.2.2.2.2.2.2.1 (by decide) ?_
              refine Kpds (ws' := [(nw, iA G 1662 fnw), (nc, iA G 100 gnc7224), (nl, iA G 54 gnl7225), (nF, sA G 5 (FCT K)), (h0, oX12 nw nk mhasKept nt (nI ktp) nr mrowMany mroundOf mroundFrom mouts nm mfromHour mtoHour ns (nI ks17222) (nI (TKE bt ktp ks17222)) (nI (TKN bt ktp ks17222)) 1 0 (nI kc17223) (nI (vl + 1)) nl nc nF np ntr nb mbestCost nso nsi nit nsh nsf nss nrc mtraced mdealer mnumber mwhose msize misParted), (nt, iA G 240 fnt)]) hP hD [0, 3, 4, 5, 1, 2] fm_0_3_4_5_1_2 nd_0_3_4_5_1_2 sm_0_3_4_5_1_2 (fun hP hD => ?_)
              exact ihR ks17222 1 kc17223 (vl + 1) gnl7225 gnc7224 _ _ _ (Or.inl ⟨rfl, hco9 _ (TXT.bad (by omega) (by omega) hq7238), by omega⟩) (And.intro hP hD) hS (lv_sub hl [0] rfl)
          · have nb7218 : vl = 9 := (nI_eq (a := vl) (b := 9) (by omega) (by omega)).mp c_50_7216
            refine lv_iconst (v := 1) hx hb gX12_read_2.2.2.2.2.2.2.2.2.1 (by decide) ?_
            refine lv_goto (tgt := 58) hx hb gX12_read_2.2.2.2.2.2.2.2.2.2 (by decide) ?_
            refine pf_X12_222 hC rfl hK hP hD hS 4 (ws' := [(nw, iA G 1662 fnw), (nc, iA G 100 vC), (nl, iA G 54 vL), (nF, sA G 5 (FCT K)), (h0, oX12 nw nk mhasKept nt (nI ktp) nr mrowMany mroundOf mroundFrom mouts nm mfromHour mtoHour ns (nI vks) (nI (TKE bt ktp vks)) (nI (TKN bt ktp vks)) 1 0 (nI vc) (nI vl) nl nc nF np ntr nb mbestCost nso nsi nit nsh nsf nss nrc mtraced mdealer mnumber mwhose msize misParted), (nt, iA G 240 fnt)]) rfl (Nat.le_of_ble_eq_true rfl) rfl (by decide +kernel) (by decide +kernel) gX12_read_3.2.1 (fun H locs hP hD hS => ?_)
            refine lv_aload_n hx hb gX12_read_3.2.2.1 rfl (lv_at0 hl) ?_
            refine gf_X12_222 hC rfl hK hP 4 rfl rfl gX12_read_3.2.2.2.1 ?_
            refine lv_if_ne (tgt := 29) hx hb gX12_read_3.2.2.2.2.1 (by decide) (fun _ => ?_) (fun c9 => absurd c9 (by decide))
            exact ihR vks 1 vc vl vL vC _ _ _ (Or.inl ⟨rfl, hco9 _ (TXT.full (by omega) (by omega)), by omega⟩) (And.intro hP hD) hS (lv_sub hl [0] rfl)
  exact keyR 10 (SK bt ktp 0) 0 0 0 fnl fnc _ _ _ (Or.inr ⟨rfl, TXM.zero, LKB.zero, by omega, by omega, by omega, by omega⟩) (And.intro hP hD) hS (lv_sub hl [0] rfl)
def K_r_line (l : Launch) (G : GG) (k7 : Nat) (h0 : Nat) (x1 : Int32) (x2 : Int32) (x3 : Int32) (nw : Nat) (nk : Nat) (mhasKept : Int32) (nt : Nat) (mtaped : Int32) (nr : Nat) (mrowMany : Int32) (mroundOf : Int32) (mroundFrom : Int32) (mouts : Int32) (nm : Nat) (mfromHour : Int32) (mtoHour : Int32) (ns : Nat) (mfrom : Int32) (mto : Int32) (msort : Int32) (misFault : Int32) (mdeep : Int32) (mcoded : Int32) (mlines : Int32) (nl : Nat) (nc : Nat) (nF : Nat) (np : Nat) (ntr : Nat) (nb : Nat) (mbestCost : Int32) (nso : Nat) (nsi : Nat) (nit : Nat) (nsh : Nat) (nsf : Nat) (nss : Nat) (nrc : Nat) (mtraced : Int32) (mdealer : Int32) (mnumber : Int32) (mwhose : Int32) (msize : Int32) (misParted : Int32) (fnw : Nat → Int32) (VL : Nat → List LNT) : Prop := MP l G yX12_line cX12_line 4 (some .int) 3 [.ref h0, .int x1, .int x2, .int x3] [(h0, oX12 nw nk mhasKept nt mtaped nr mrowMany mroundOf mroundFrom mouts nm mfromHour mtoHour ns mfrom mto msort misFault mdeep mcoded mlines nl nc nF np ntr nb mbestCost nso nsi nit nsh nsf nss nrc mtraced mdealer mnumber mwhose msize misParted), (nw, iA G 1662 fnw)] (fun r : Int32 => ∃ s9, (LIQ k7 VL x1 x2 x3 s9) ∧ r = s9)
set_option maxHeartbeats 4000000 in
set_option maxRecDepth 100000 in
theorem r_line (l : Launch) (G : GG) (k7 : Nat) (h0 : Nat) (x1 : Int32) (x2 : Int32) (x3 : Int32) (nw : Nat) (nk : Nat) (mhasKept : Int32) (nt : Nat) (mtaped : Int32) (nr : Nat) (mrowMany : Int32) (mroundOf : Int32) (mroundFrom : Int32) (mouts : Int32) (nm : Nat) (mfromHour : Int32) (mtoHour : Int32) (ns : Nat) (mfrom : Int32) (mto : Int32) (msort : Int32) (misFault : Int32) (mdeep : Int32) (mcoded : Int32) (mlines : Int32) (nl : Nat) (nc : Nat) (nF : Nat) (np : Nat) (ntr : Nat) (nb : Nat) (mbestCost : Int32) (nso : Nat) (nsi : Nat) (nit : Nat) (nsh : Nat) (nsf : Nat) (nss : Nat) (nrc : Nat) (mtraced : Int32) (mdealer : Int32) (mnumber : Int32) (mwhose : Int32) (msize : Int32) (misParted : Int32) (fnw : Nat → Int32) (VL : Nat → List LNT) (hN : NI fnw) (hV : VI fnw) (ek7 : fnw 7 = nI k7) (hk7 : k7 ≤ 8) (hVM : VML fnw k7 VL) : K_r_line l G k7 h0 x1 x2 x3 nw nk mhasKept nt mtaped nr mrowMany mroundOf mroundFrom mouts nm mfromHour mtoHour ns mfrom mto msort misFault mdeep mcoded mlines nl nc nF np ntr nb mbestCost nso nsi nit nsh nsf nss nrc mtraced mdealer mnumber mwhose msize misParted fnw VL := by
  refine MP.start (by decide +kernel) (Nat.le_of_ble_eq_true rfl) ?_
  intro p e s m below meth c ls hC hK hP hD hl
  refine absQ (fun Q0 hQ0 => ?_)
  have hl : lv_has ls 4 [(0, .ref h0), (1, .int x1), (2, .int x2), (3, .int x3)] := hl
  refine Kan8 hC (fun hx hb hr hml hB hown hlocks hnm => ?_)
  refine lv_aload_n hx hb gX12_line_0.1 rfl (lv_at0 hl) ?_
  refine lv_iload_n hx hb gX12_line_0.2.1 rfl (lv_at1 hl) ?_
  refine lv_bipush (v := 7) hx hb gX12_line_0.2.2.1 (by decide) ?_
  refine pV hC hK hl hP hD (m_is l G k7 h0 x1 7 nw nk mhasKept nt mtaped nr mrowMany mroundOf mroundFrom mouts nm mfromHour mtoHour ns mfrom mto msort misFault mdeep mcoded mlines nl nc nF np ntr nb mbestCost nso nsi nit nsh nsf nss nrc mtraced mdealer mnumber mwhose msize misParted fnw (by omega) (ek7) (by omega)) si_X12_120 [0, 1] sm_0_1 fm_0_1 nd_0_1 rfl rfl rfl rfl rfl (Nat.le_of_ble_eq_true rfl) rm_3_2_3 ⟨by first | exact Nat.le_of_ble_eq_true rfl | exact Nat.zero_le _, by first | exact Nat.le_of_ble_eq_true rfl | exact Nat.zero_le _⟩ gX12_line_0.2.2.2.1 (Kors (Keqa fun a7241 => ?_) (Keqa fun a7241 => ?_))
  · refine lv_if_eq (tgt := 34) hx hb gX12_line_0.2.2.2.2.1 (by decide) (fun c9 => absurd c9 (by decide)) (fun _ => ?_)
    obtain ⟨jv, hjv, rfl⟩ := Hs_nat (by omega) a7241
    obtain ⟨hL9, eLn9, hrow9⟩ := hVM jv hjv
    obtain ⟨L9, hL9e⟩ : ∃ z9, z9 = (VL jv).length := ⟨_, rfl⟩
    have eL9 : fnw (176 + 156 * jv + 1) = nI L9 := eLn9.trans (congrArg nI hL9e.symm)
    refine lv_iload_n hx hb gX12_line_0.2.2.2.2.2.1 rfl (lv_at2 hl) ?_
    refine lv_iconst (v := 0) hx hb gX12_line_0.2.2.2.2.2.2.1 (by decide) ?_
    refine lv_aload_n hx hb gX12_line_0.2.2.2.2.2.2.2.1 rfl (lv_at0 hl) ?_
    refine lv_iload_n hx hb gX12_line_0.2.2.2.2.2.2.2.2.1 rfl (lv_at1 hl) ?_
    refine pV hC hK hl hP hD (m_lines l G L9 h0 jv nw nk mhasKept nt mtaped nr mrowMany mroundOf mroundFrom mouts nm mfromHour mtoHour ns mfrom mto msort misFault mdeep mcoded mlines nl nc nF np ntr nb mbestCost nso nsi nit nsh nsf nss nrc mtraced mdealer mnumber mwhose msize misParted fnw (by omega) (eL9)) si_X12_183 [0, 1] sm_0_1 fm_0_1 nd_0_1 rfl rfl rfl rfl rfl (Nat.le_of_ble_eq_true rfl) rm_3_1_2 ⟨by first | exact Nat.le_of_ble_eq_true rfl | exact Nat.zero_le _, by first | exact Nat.le_of_ble_eq_true rfl | exact Nat.zero_le _⟩ gX12_line_0.2.2.2.2.2.2.2.2.2 (Keqr ?_)
    refine lv_iconst (v := 1) hx hb gX12_line_1.1 (by decide) ?_
    refine lv_isub hx hb gX12_line_1.2.1 ?_
    refine pS hC hK hl (m_within l G x2 0 ((nI L9) - 1)) si_X12_84 rfl rfl (Nat.le_of_ble_eq_true rfl) rm_3_1_3 ⟨by first | exact Nat.le_of_ble_eq_true rfl | exact Nat.zero_le _, by first | exact Nat.le_of_ble_eq_true rfl | exact Nat.zero_le _⟩ gX12_line_1.2.2.1 (Kors (Keqa fun a7245 => ?_) (Keqa fun a7245 => ?_))
    · refine lv_if_eq (tgt := 34) hx hb gX12_line_1.2.2.2.1 (by decide) (fun c9 => absurd c9 (by decide)) (fun _ => ?_)
      obtain ⟨jl, hjl, rfl⟩ := Hs_nat (by omega) ((WiHs (by omega)).mp a7245)
      have hr9 := hrow9 jl (by omega)
      refine lv_iload_n hx hb gX12_line_1.2.2.2.2.1 rfl (lv_at3 hl) ?_
      refine lv_iconst (v := 0) hx hb gX12_line_1.2.2.2.2.2.1 (by decide) ?_
      refine lv_iconst (v := 4) hx hb gX12_line_1.2.2.2.2.2.2.1 (by decide) ?_
      refine pS hC hK hl (m_within l G x3 0 4) si_X12_84 rfl rfl (Nat.le_of_ble_eq_true rfl) rm_3_1_3 ⟨by first | exact Nat.le_of_ble_eq_true rfl | exact Nat.zero_le _, by first | exact Nat.le_of_ble_eq_true rfl | exact Nat.zero_le _⟩ gX12_line_1.2.2.2.2.2.2.2.1 (Kors (Keqa fun a7247 => ?_) (Keqa fun a7247 => ?_))
      · refine lv_if_ne (tgt := 37) hx hb gX12_line_1.2.2.2.2.2.2.2.2.1 (by decide) (fun _ => ?_) (fun c9 => absurd c9 (by decide))
        obtain ⟨jw, hjw, rfl⟩ := Wi_nat (N := 4) (by decide) a7247
        refine lv_iload_n hx hb gX12_line_2.2.1 rfl (lv_at3 hl) ?_
        refine lv_iconst (v := 4) hx hb gX12_line_2.2.2.1 (by decide) ?_
        refine lv_icmp_ge (tgt := 52) hx hb gX12_line_2.2.2.2.1 (by decide) (fun c_39_7248 => ?_) (fun c_39_7248 => ?_)
        · have nb7249 : 4 ≤ jw := (nI_leI (a := 4) (b := jw) (by omega) (by omega)).mp c_39_7248
          obtain ⟨A9, hA9⟩ : ∃ z9, z9 = ((VL jv).getD jl LN0).2.2.2.2.2.2.2.1 := ⟨_, rfl⟩
          obtain ⟨B9, hB9⟩ : ∃ z9, z9 = ((VL jv).getD jl LN0).2.2.2.2.2.2.2.2 := ⟨_, rfl⟩
          have hab9 := hr9.ab
          rw [← hA9, ← hB9] at hab9
          refine lv_aload_n hx hb gX12_line_3.1 rfl (lv_at0 hl) ?_
          refine lv_iload_n hx hb gX12_line_3.2.1 rfl (lv_at1 hl) ?_
          refine lv_iload_n hx hb gX12_line_3.2.2.1 rfl (lv_at2 hl) ?_
          refine lv_iconst (v := 5) hx hb gX12_line_3.2.2.2.1 (by decide) ?_
          refine pV hC hK hl hP hD (m_lineOf l G h0 jv jl 5 nw nk mhasKept nt mtaped nr mrowMany mroundOf mroundFrom mouts nm mfromHour mtoHour ns mfrom mto msort misFault mdeep mcoded mlines nl nc nF np ntr nb mbestCost nso nsi nit nsh nsf nss nrc mtraced mdealer mnumber mwhose msize misParted fnw (by omega) (by omega) (by omega)) si_X12_193 [0, 1] sm_0_1 fm_0_1 nd_0_1 rfl rfl rfl rfl rfl (Nat.le_of_ble_eq_true rfl) rm_3_1_4 ⟨by first | exact Nat.le_of_ble_eq_true rfl | exact Nat.zero_le _, by first | exact Nat.le_of_ble_eq_true rfl | exact Nat.zero_le _⟩ gX12_line_3.2.2.2.2.1 (Keqr ?_)
          refine eqi (x1 := nI B9) (hr9.2.2.2.2.2.1.trans (congrArg nI hB9.symm)) ?_
          refine lv_aload_n hx hb gX12_line_3.2.2.2.2.2.1 rfl (lv_at0 hl) ?_
          refine lv_iload_n hx hb gX12_line_3.2.2.2.2.2.2.1 rfl (lv_at1 hl) ?_
          refine lv_iload_n hx hb gX12_line_3.2.2.2.2.2.2.2.1 rfl (lv_at2 hl) ?_
          refine lv_iconst (v := 4) hx hb gX12_line_3.2.2.2.2.2.2.2.2.1 (by decide) ?_
          refine pV hC hK hl hP hD (m_lineOf l G h0 jv jl 4 nw nk mhasKept nt mtaped nr mrowMany mroundOf mroundFrom mouts nm mfromHour mtoHour ns mfrom mto msort misFault mdeep mcoded mlines nl nc nF np ntr nb mbestCost nso nsi nit nsh nsf nss nrc mtraced mdealer mnumber mwhose msize misParted fnw (by omega) (by omega) (by omega)) si_X12_193 [0, 1] sm_0_1 fm_0_1 nd_0_1 rfl rfl rfl rfl rfl (Nat.le_of_ble_eq_true rfl) rm_3_1_4 ⟨by first | exact Nat.le_of_ble_eq_true rfl | exact Nat.zero_le _, by first | exact Nat.le_of_ble_eq_true rfl | exact Nat.zero_le _⟩ gX12_line_3.2.2.2.2.2.2.2.2.2 (Keqr ?_)
          refine eqi (x1 := nI A9) (hr9.2.2.2.2.1.trans (congrArg nI hA9.symm)) ?_
          refine lv_icmp_le (tgt := 73) hx hb gX12_line_4.1 (by decide) (fun c_66_7255 => ?_) (fun c_66_7255 => ?_)
          · have nb7256 : B9 ≤ A9 := (nI_leI (a := B9) (b := A9) (by omega) (by omega)).mp c_66_7255
            refine lv_iconst (v := 0) hx hb gX12_line_4.2.2.2.1 (by decide) ?_
            refine toQ hQ0 ?_
            exact RP (v := 0) hC (⟨_, Or.inr ⟨jv, hjv, rfl, Or.inr ⟨jl, by omega, rfl, Or.inr ⟨4, by decide, congrArg nI (show jw = 4 by omega), hr9.c0 (by omega)⟩⟩⟩, rfl⟩) rfl gX12_line_4.2.2.2.2
          · have nb7257 : ¬ B9 ≤ A9 := fun h9 => c_66_7255 ((nI_leI (a := B9) (b := A9) (by omega) (by omega)).mpr h9)
            refine lv_iconst (v := 1) hx hb gX12_line_4.2.1 (by decide) ?_
            refine lv_goto (tgt := 74) hx hb gX12_line_4.2.2.1 (by decide) ?_
            refine toQ hQ0 ?_
            exact RP (v := 1) hC (⟨_, Or.inr ⟨jv, hjv, rfl, Or.inr ⟨jl, by omega, rfl, Or.inr ⟨4, by decide, congrArg nI (show jw = 4 by omega), hr9.c1 (by omega)⟩⟩⟩, rfl⟩) rfl gX12_line_4.2.2.2.2
        · have nb7250 : ¬ 4 ≤ jw := fun h9 => c_39_7248 ((nI_leI (a := 4) (b := jw) (by omega) (by omega)).mpr h9)
          refine lv_aload_n hx hb gX12_line_2.2.2.2.2.1 rfl (lv_at0 hl) ?_
          refine lv_iload_n hx hb gX12_line_2.2.2.2.2.2.1 rfl (lv_at1 hl) ?_
          refine lv_iload_n hx hb gX12_line_2.2.2.2.2.2.2.1 rfl (lv_at2 hl) ?_
          refine lv_iload_n hx hb gX12_line_2.2.2.2.2.2.2.2.1 rfl (lv_at3 hl) ?_
          refine pV hC hK hl hP hD (m_lineOf l G h0 jv jl jw nw nk mhasKept nt mtaped nr mrowMany mroundOf mroundFrom mouts nm mfromHour mtoHour ns mfrom mto msort misFault mdeep mcoded mlines nl nc nF np ntr nb mbestCost nso nsi nit nsh nsf nss nrc mtraced mdealer mnumber mwhose msize misParted fnw (by omega) (by omega) (by omega)) si_X12_193 [0, 1] sm_0_1 fm_0_1 nd_0_1 rfl rfl rfl rfl rfl (Nat.le_of_ble_eq_true rfl) rm_3_1_4 ⟨by first | exact Nat.le_of_ble_eq_true rfl | exact Nat.zero_le _, by first | exact Nat.le_of_ble_eq_true rfl | exact Nat.zero_le _⟩ gX12_line_2.2.2.2.2.2.2.2.2.1 (Keqr ?_)
          refine lv_goto (tgt := 74) hx hb gX12_line_2.2.2.2.2.2.2.2.2.2 (by decide) ?_
          refine toQ hQ0 ?_
          exact RP (v := fnw (176 + 156 * jv + 2 + 6 * jl + jw)) hC (⟨_, Or.inr ⟨jv, hjv, rfl, Or.inr ⟨jl, by omega, rfl, Or.inr ⟨jw, by omega, rfl, hr9.val (by omega)⟩⟩⟩, rfl⟩) rfl gX12_line_4.2.2.2.2
      · refine lv_if_ne (tgt := 37) hx hb gX12_line_1.2.2.2.2.2.2.2.2.1 (by decide) (fun c9 => absurd (by decide) c9) (fun _ => ?_)
        refine lv_bipush (v := (-9)) hx hb gX12_line_1.2.2.2.2.2.2.2.2.2 (by decide) ?_
        refine toQ hQ0 ?_
        exact RP (v := (-9)) hC (⟨_, Or.inr ⟨jv, hjv, rfl, Or.inr ⟨jl, by omega, rfl, Or.inl ⟨a7247, rfl⟩⟩⟩, rfl⟩) rfl gX12_line_2.1
    · refine lv_if_eq (tgt := 34) hx hb gX12_line_1.2.2.2.1 (by decide) (fun _ => ?_) (fun c9 => absurd (by decide) c9)
      refine lv_bipush (v := (-9)) hx hb gX12_line_1.2.2.2.2.2.2.2.2.2 (by decide) ?_
      refine toQ hQ0 ?_
      exact RP (v := (-9)) hC (⟨_, Or.inr ⟨jv, hjv, rfl, Or.inl ⟨fun h9 => a7245 ((WiHs (by omega)).mpr (by rw [hL9e]; exact h9)), rfl⟩⟩, rfl⟩) rfl gX12_line_2.1
  · refine lv_if_eq (tgt := 34) hx hb gX12_line_0.2.2.2.2.1 (by decide) (fun _ => ?_) (fun c9 => absurd (by decide) c9)
    refine lv_bipush (v := (-9)) hx hb gX12_line_1.2.2.2.2.2.2.2.2.2 (by decide) ?_
    refine toQ hQ0 ?_
    exact RP (v := (-9)) hC (⟨_, Or.inl ⟨a7241, rfl⟩, rfl⟩) rfl gX12_line_2.1
