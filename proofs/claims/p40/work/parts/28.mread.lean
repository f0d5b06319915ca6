section WR
variable {p : Program} {l : Launch} {e : Env} {R : Room} {s : State} {m : MethodId} {args : Array Value} {below : List Frame} {meth : Method} {c : Code} {H : Heap} {locs : List Loc} {cells slots : Nat} {Q : State → Prop}
variable {pc : Nat} {ls : Array Slot} {rest : List Value} {G : GG} {ws : va_W} {A : Nat → Prop} {y0 : MethodName} {b0 : ByteArray} {mL0 : Nat} {rt0 : Option FieldType} {a : Nat} {H0 : Heap}
end WR
theorem nI_subR {a b : Nat} (h : b ≤ a) : nI a - nI b = nI (a - b) := by
  obtain ⟨c, rfl⟩ : ∃ c, a = b + c := ⟨a - b, by omega⟩
  rw [show b + c - b = c by omega, ← nI_add b c, Int32.add_comm, Int32.add_sub_cancel]
theorem nle_of {a b : Nat} (ha : a < 2 ^ 31) (hb : b < 2 ^ 31) (h : ¬ nI a < nI b) : b ≤ a := (nI_leI hb ha).mp (Int32.not_lt.mp h)
theorem slen3 : ∀ i : Nat, i < 16 → 11 ≤ i → 3 ≤ SLEN.getD i 0 := by decide
def FCT (K : OO) : Nat → Option Nat := fun k => if k < 5 then some (K.1 (11 + k)) else none
theorem Wi1_nat {v : Int32} {N : Nat} (hN : N < 2 ^ 31) (h : Wi v 1 (nI N)) : ∃ j, j ≤ N ∧ v = nI j := by
  rw [Wi_iff, nI_ti hN] at h
  obtain ⟨h1, h2⟩ := h
  have e1 : (1 : Int32).toInt = 1 := by decide
  rw [e1] at h1
  have h0 : ¬ v < 0 := by
    intro h9
    rw [Int32.lt_iff_toInt_lt] at h9
    have e : (0 : Int32).toInt = 0 := by decide
    omega
  obtain ⟨j, hj, rfl⟩ := nI_of h0
  rw [nI_ti hj] at h2
  exact ⟨j, by omega, rfl⟩
/-- digits from a to b -/
def DG (f : Nat → Int32) (a b : Nat) : Prop := ∀ i, a ≤ i → i < b → ∃ d, d ≤ 9 ∧ f i = nI (48 + d)
theorem DG.zero {f : Nat → Int32} {a : Nat} : DG f a a := fun i h1 h2 => by omega
theorem dig {x : Int32} (h : Wi x 48 57) : ∃ d, d ≤ 9 ∧ x = nI (48 + d) := by
  rw [Wi_iff] at h
  obtain ⟨h1, h2⟩ := h
  have e0 : (48 : Int32).toInt = 48 := by decide
  have e1 : (57 : Int32).toInt = 57 := by decide
  rw [e0] at h1
  rw [e1] at h2
  have h0 : ¬ x < 0 := by
    intro h9
    rw [Int32.lt_iff_toInt_lt] at h9
    have e : (0 : Int32).toInt = 0 := by decide
    omega
  obtain ⟨j, hj, rfl⟩ := nI_of h0
  rw [nI_ti hj] at h1 h2
  exact ⟨j - 48, by omega, congrArg nI (by omega)⟩
theorem DG.next {f : Nat → Int32} {a b : Nat} (h : DG f a b) (hx : Wi (f b) 48 57) : DG f a (b + 1) := by
  intro i h1 h2
  by_cases c : i = b
  · subst c; exact dig hx
  · exact h i h1 (by omega)
/-- the token at hand -/
def TOK (f : Nat → Int32) (so : Int32) (kf kt tp : Nat) : Prop := kf ≤ kt ∧ kt ≤ tp ∧ (so = 0 ∨ kf < kt) ∧ (so = 2 → DG f kf kt)
theorem TOK.n0 {f : Nat → Int32} {kf tp : Nat} (h : kf ≤ tp) : TOK f 0 kf kf tp := ⟨Nat.le_refl _, h, Or.inl rfl, fun h9 => absurd h9 (by decide)⟩
theorem TOK.n1 {f : Nat → Int32} {kf kt tp : Nat} (h : kf < kt) (h2 : kt ≤ tp) : TOK f 1 kf kt tp := ⟨by omega, h2, Or.inr h, fun h9 => absurd h9 (by decide)⟩
theorem TOK.n3 {f : Nat → Int32} {kf kt tp : Nat} (h : kf < kt) (h2 : kt ≤ tp) : TOK f 3 kf kt tp := ⟨by omega, h2, Or.inr h, fun h9 => absurd h9 (by decide)⟩
theorem TOK.n2 {f : Nat → Int32} {kf kt tp : Nat} (h : kf < kt) (h2 : kt ≤ tp) (hd : DG f kf kt) : TOK f 2 kf kt tp := ⟨by omega, h2, Or.inr h, fun _ => hd⟩
theorem TOK.lt {f : Nat → Int32} {so : Int32} {kf kt tp : Nat} (h : TOK f so kf kt tp) (c : ¬ so = 0) : kf < kt := h.2.2.1.resolve_left c
def ISG (f : Nat → Int32) (so : Int32) (kf kt : Nat) (c : Int32) : Prop := kf < kt ∧ so = 3 ∧ f kf = c
/-- codes that leave one more on the pile -/
def SEG (c : Nat → Int32) (a b : Nat) : Prop := ∀ h0 : Nat, ∃ ht : Nat → Nat, ht a = h0 ∧ ht b = h0 + 1 ∧ ∀ k, a ≤ k → k < b → STEP (c k) (ht k) (ht (k + 1))
theorem SEG.ext {c d : Nat → Int32} {a b : Nat} (h : SEG c a b) (he : ∀ k, a ≤ k → k < b → d k = c k) : SEG d a b := by
  intro h0
  obtain ⟨ht, e1, e2, hs⟩ := h h0
  exact ⟨ht, e1, e2, fun k h1 h2 => by rw [he k h1 h2]; exact hs k h1 h2⟩
theorem SEG.push {f : Nat → Int32} {a : Nat} {v : Int32} (hv : v < 30000) : SEG (upd f a v) a (a + 1) := by
  intro h0
  refine ⟨fun k => if k ≤ a then h0 else h0 + 1, if_pos (Nat.le_refl _), if_neg (by omega), fun k h1 h2 => ?_⟩
  obtain rfl : k = a := by omega
  rw [upd_eq rfl]
  refine Or.inl ⟨hv, ?_⟩
  show (if k + 1 ≤ k then h0 else h0 + 1) = (if k ≤ k then h0 else h0 + 1) + 1
  rw [if_neg (by omega), if_pos (Nat.le_refl _)]
theorem SEG.not {f : Nat → Int32} {a b : Nat} (h : SEG f a b) (hab : a < b) : SEG (upd f b 30000) a (b + 1) := by
  intro h0
  obtain ⟨ht, e1, e2, hs⟩ := h h0
  refine ⟨fun k => if k ≤ b then ht k else h0 + 1, ?_, if_neg (by omega), fun k h1 h2 => ?_⟩
  · show (if a ≤ b then ht a else h0 + 1) = h0
    rw [if_pos (by omega), e1]
  · by_cases c : k = b
    · subst c
      rw [upd_eq rfl]
      refine Or.inr (Or.inl ⟨by decide, rfl, ?_, ?_⟩)
      · show 1 ≤ (if k ≤ k then ht k else h0 + 1)
        rw [if_pos (Nat.le_refl _), e2]; omega
      · show (if k + 1 ≤ k then ht (k + 1) else h0 + 1) = (if k ≤ k then ht k else h0 + 1)
        rw [if_neg (by omega), if_pos (Nat.le_refl _), e2]
    · rw [upd_ne c]
      have h9 := hs k h1 (by omega)
      show STEP (f k) (if k ≤ b then ht k else h0 + 1) (if k + 1 ≤ b then ht (k + 1) else h0 + 1)
      rw [if_pos (by omega), if_pos (by omega)]
      exact h9
theorem SEG.op {f : Nat → Int32} {a b c : Nat} {v : Int32} (h : SEG f a b) (h2 : SEG f b c) (hab : a < b) (hbc : b < c) (hv : v = 30001 ∨ v = 30002) : SEG (upd f c v) a (c + 1) := by
  intro h0
  obtain ⟨ht, e1, e2, hs⟩ := h h0
  obtain ⟨hu, e3, e4, hs2⟩ := h2 (h0 + 1)
  refine ⟨fun k => if k ≤ b then ht k else if k ≤ c then hu k else h0 + 1, ?_, ?_, fun k h1 h9 => ?_⟩
  · show (if a ≤ b then ht a else if a ≤ c then hu a else h0 + 1) = h0
    rw [if_pos (by omega), e1]
  · show (if c + 1 ≤ b then ht (c + 1) else if c + 1 ≤ c then hu (c + 1) else h0 + 1) = h0 + 1
    rw [if_neg (by omega), if_neg (by omega)]
  · show STEP (upd f c v k) (if k ≤ b then ht k else if k ≤ c then hu k else h0 + 1) (if k + 1 ≤ b then ht (k + 1) else if k + 1 ≤ c then hu (k + 1) else h0 + 1)
    by_cases c1 : k < b
    · rw [upd_ne (by omega), if_pos (by omega), if_pos (by omega)]
      exact hs k h1 c1
    · by_cases c2 : k < c
      · rw [upd_ne (by omega), if_neg (show ¬ k + 1 ≤ b by omega), if_pos (show k + 1 ≤ c by omega)]
        have h8 := hs2 k (by omega) c2
        by_cases c3 : k = b
        · subst c3
          rw [if_pos (Nat.le_refl _), e2, ← e3]
          exact h8
        · rw [if_neg (by omega), if_pos (by omega)]
          exact h8
      · obtain rfl : k = c := by omega
        rw [upd_eq rfl, if_neg (show ¬ k ≤ b by omega), if_pos (Nat.le_refl _), if_neg (show ¬ k + 1 ≤ b by omega), if_neg (show ¬ k + 1 ≤ k by omega), e4]
        refine Or.inr (Or.inr ⟨?_, ?_, by omega, rfl⟩) <;> rcases hv with rfl | rfl <;> decide
/-- an expression has been read: its codes, and how far -/
def EXPR (f g : Nat → Int32) (a b p q : Nat) : Prop := a < b ∧ p + 3 * b + 2 ≤ q + 3 * a ∧ (∀ k, k < a → g k = f k) ∧ SEG g a b
theorem EXPR.op {f g h : Nat → Int32} {a b c p q q2 r : Nat} {v : Int32} (h1 : EXPR f g a b p q) (h2 : EXPR g h b c q2 r) (hq : q + 2 ≤ q2) (hv : v = 30001 ∨ v = 30002) : EXPR f (upd h c v) a (c + 1) p r := by
  obtain ⟨a1, a2, a3, a4⟩ := h1
  obtain ⟨b1, b2, b3, b4⟩ := h2
  refine ⟨by omega, by omega, fun k hk => ?_, ?_⟩
  · rw [upd_ne (by omega), b3 k (by omega), a3 k hk]
  · exact SEG.op (a4.ext fun k h1 h2 => b3 k h2) b4 a1 b1 hv
theorem EXPR.fact {f : Nat → Int32} {a p q : Nat} {v : Int32} (hv : v < 30000) (hq : p + 5 ≤ q) : EXPR f (upd f a v) a (a + 1) p q :=
  ⟨by omega, by omega, fun k hk => upd_ne (by omega), SEG.push hv⟩
theorem EXPR.not {f g : Nat → Int32} {a b p q : Nat} (h : EXPR f g a b p q) (hq : p + 3 * (b + 1) + 2 ≤ q + 3 * a) : EXPR f (upd g b 30000) a (b + 1) p q :=
  ⟨by have := h.1; omega, hq, fun k hk => by have := h.1; rw [upd_ne (by omega)]; exact h.2.2.1 k hk, h.2.2.2.not h.1⟩
theorem EXPR.wid {f g : Nat → Int32} {a b p q p2 q2 : Nat} (h : EXPR f g a b p q) (hq : p2 + 3 * b + 2 ≤ q2 + 3 * a) : EXPR f g a b p2 q2 := ⟨h.1, hq, h.2.2.1, h.2.2.2⟩
def LOKB (ln cd : Nat → Int32) (B : Nat) : Prop := (∃ so, so < 4 ∧ ln 0 = nI so ∧ (so = 0 → (∃ n2, n2 < 8 ∧ ln 2 = nI n2) ∧ ∃ n3, n3 < 8 ∧ ln 3 = nI n3) ∧ (so = 2 → ∃ n1, n1 < 8 ∧ ln 1 = nI n1)) ∧ ∃ a b, ln 4 = nI a ∧ ln 5 = nI b ∧ a ≤ b ∧ b ≤ B ∧ WFC cd a b
theorem LOKB.ext {l1 l2 c1 c2 : Nat → Int32} {B B2 : Nat} (h1 : ∀ j, j < 6 → l2 j = l1 j) (h2 : ∀ j, j < B → c2 j = c1 j) (hB : B ≤ B2) (h : LOKB l1 c1 B) : LOKB l2 c2 B2 := by
  obtain ⟨⟨so, hs, e0, hA, hC⟩, a, b, e4, e5, hab, hb, ht, h0, hst⟩ := h
  refine ⟨⟨so, hs, (h1 0 (by omega)).trans e0, fun h => ?_, fun h => ?_⟩, a, b, (h1 4 (by omega)).trans e4, (h1 5 (by omega)).trans e5, hab, by omega, ht, h0, fun k hk1 hk2 => ?_⟩
  · obtain ⟨⟨n2, q1, q2⟩, n3, q3, q4⟩ := hA h
    exact ⟨⟨n2, q1, (h1 2 (by omega)).trans q2⟩, n3, q3, (h1 3 (by omega)).trans q4⟩
  · obtain ⟨n1, q1, q2⟩ := hC h
    exact ⟨n1, q1, (h1 1 (by omega)).trans q2⟩
  · rw [h2 k (by omega)]
    exact hst k hk1 hk2
theorem LOKB.lok {ln cd : Nat → Int32} {B : Nat} (hB : B ≤ 100) (h : LOKB ln cd B) : LOK ln cd := by
  obtain ⟨h1, a, b, e4, e5, hab, hb, hw⟩ := h
  exact ⟨h1, a, b, e4, e5, hab, by omega, hw⟩
theorem WFC.zero {c : Nat → Int32} {a : Nat} : WFC c a a := ⟨fun _ => 0, rfl, fun k h1 h2 => by omega⟩
theorem SEG.wfc {c : Nat → Int32} {a b : Nat} (h : SEG c a b) : WFC c a b := by
  obtain ⟨ht, e1, -, hs⟩ := h 0
  exact ⟨ht, e1, hs⟩
/-- a line has been read -/
def LINE (fl gl fc gc : Nat → Int32) (ja a b q : Nat) : Prop := a ≤ b ∧ 3 * b ≤ q ∧ (∀ i, i < ja → gl i = fl i) ∧ (∀ k, k < a → gc k = fc k) ∧ LOKB (fun j => gl (ja + j)) gc b
theorem fct_lt {j c n : Nat} (h1 : j < 5) (h2 : c ≤ 2000) (h3 : n ≤ 999) : nI (3000 * j + c + n) < 30000 := by
  rw [Int32.lt_iff_toInt_lt, nI_ti (by omega)]
  have e : (30000 : Int32).toInt = 30000 := by decide
  omega
/-- what the reader keeps to between two lines -/
def RDI (f : Nat → Int32) (so : Int32) (kf kt tp : Nat) (L C : Nat → Int32) (c l : Nat) : Prop := TOK f so kf kt tp ∧ 3 * c ≤ kf ∧ l ≤ 9 ∧ ∀ i, i < l → LOKB (fun j => L (6 * i + j)) C c
theorem RDI.next {f L L2 C C2 : Nat → Int32} {so so2 : Int32} {kf kt kf2 kt2 tp c c2 l : Nat} (h : RDI f so kf kt tp L C c l) (h2 : LINE L L2 C C2 (6 * l) c c2 kf2) (hT : TOK f so2 kf2 kt2 tp) (hl : l < 9) : RDI f so2 kf2 kt2 tp L2 C2 c2 (l + 1) := by
  obtain ⟨-, -, -, h9⟩ := h
  obtain ⟨a1, a2, a3, a4, a5⟩ := h2
  refine ⟨hT, a2, by omega, fun i hi => ?_⟩
  by_cases e : i = l
  · subst e; exact a5
  · exact LOKB.ext (fun j hj => a3 _ (by omega)) (fun j hj => a4 j hj) a1 (h9 i (by omega))
/-- a piece of the row has been copied -/
def CP (f0 w : Nat → Int32) (b n : Nat) (src : Nat → Int32) : Prop := NI w ∧ (∀ i, (i < b ∨ b + n ≤ i) → w i = f0 i) ∧ ∀ k, k < n → w (b + k) = src k
theorem CP.zero {f src : Nat → Int32} {b : Nat} (h : NI f) : CP f f b 0 src := ⟨h, fun _ _ => rfl, fun k h => absurd h (Nat.not_lt_zero k)⟩
theorem CP.next {f0 w src : Nat → Int32} {b n : Nat} {x : Int32} (h : CP f0 w b n src) (hx : x = src n) (hb : bnd (b + n) = (-2147483648, 2147483647)) : CP f0 (upd w (b + n) x) b (n + 1) src := by
  obtain ⟨h1, h2, h3⟩ := h
  refine ⟨h1.setA hb, fun i hi => ?_, fun k hk => ?_⟩
  · rw [upd_ne (by omega)]; exact h2 i (by omega)
  · by_cases e : k = n
    · subst e; rw [upd_eq rfl, hx]
    · rw [upd_ne (by omega)]; exact h3 k (by omega)
theorem CP.SC {f0 w src : Nat → Int32} {b n : Nat} {a x y z p q s r u v t : Int32} (h : CP f0 w b n src) (hb : 12 ≤ b) (hs : SCX f0 a x y z p q s r u v t) : SCX w a x y z p q s r u v t :=
  hs.ag fun i h1 _ => h.2.1 i (by omega)
theorem CP.FR {f0 w e src : Nat → Int32} {b n lo hi : Nat} (h : CP f0 w b n src) (hb : lo ≤ b) (hn : b + n ≤ hi) (hs : FRO f0 e lo hi) : FRO w e lo hi :=
  fun j h1 h2 => (h.2.1 j (by omega)).trans (hs j h1 h2)
theorem VI.newrow {f w w2 ln cd : Nat → Int32} {k7 L c : Nat} {d x : Int32} (hV : VI f) (hk : k7 < 8) (hL : L ≤ 9) (hc : c ≤ 100) (h1 : CP (upd (upd f (176 + 156 * k7 + 0) d) (176 + 156 * k7 + 1) (nI L)) w (176 + 156 * k7 + 2) 54 ln) (h2 : CP w w2 (176 + 156 * k7 + 56) c cd) (hl : ∀ i, i < L → LOKB (fun j => ln (6 * i + j)) cd c) : VI (upd w2 7 x) := by
  obtain ⟨-, p2, p3⟩ := h1
  obtain ⟨-, q2, q3⟩ := h2
  intro v hv
  by_cases e : v = k7
  · subst e
    refine ⟨L, hL, ?_, fun l hl9 => LOKB.lok hc (LOKB.ext (fun j hj => ?_) (fun j hj => ?_) (Nat.le_refl c) (hl l hl9))⟩
    · show upd w2 7 x (176 + 156 * v + 1) = nI L
      rw [upd_ne (by omega), q2 _ (by omega), p2 _ (by omega), upd_eq rfl]
    · show upd w2 7 x (176 + 156 * v + (2 + 6 * l + j)) = ln (6 * l + j)
      rw [upd_ne (by omega), q2 _ (by omega), show 176 + 156 * v + (2 + 6 * l + j) = 176 + 156 * v + 2 + (6 * l + j) by omega, p3 _ (by omega)]
    · show upd w2 7 x (176 + 156 * v + (56 + j)) = cd j
      rw [upd_ne (by omega), show 176 + 156 * v + (56 + j) = 176 + 156 * v + 56 + j by omega, q3 _ hj]
  · refine VOK.ext (fun j hj => ?_) (hV v hv)
    show f (176 + 156 * v + j) = upd w2 7 x (176 + 156 * v + j)
    rw [upd_ne (by omega), q2 _ (by omega), p2 _ (by omega), upd_ne (by omega), upd_ne (by omega)]
section WR
variable {p : Program} {l : Launch} {e : Env} {R : Room} {s : State} {m : MethodId} {args : Array Value} {below : List Frame} {meth : Method} {c : Code} {H : Heap} {locs : List Loc} {cells slots : Nat} {Q : State → Prop}
variable {pc : Nat} {ls : Array Slot} {rest : List Value} {G : GG} {K : OO} {ws : va_W} {A : Nat → Prop} {y0 : MethodName} {b0 : ByteArray} {mL0 : Nat} {rt0 : Option FieldType} {a : Nat} {H0 : Heap}
theorem va_ldcSw (hexec : p.tables.exec = Jvm.exec) {cc : ByteArray} (hb : c.code = cc) {own tx : String} {index q : Nat} (hown : s.vm.findClass own = some m.cls) (hZ : vk_R own index tx q s) (hdg : decode cc pc = .ok (.ldc_w index, 3))
    (k : W p l e R s m args below meth c H locs cells slots Q (F0 m (pc + 3) ls (.ref q :: rest))) : W p l e R s m args below meth c H locs cells slots Q (F0 m pc ls rest) := by
  intro T hT X
  obtain ⟨t, a1, b1⟩ := k T hT X
  exact ⟨t, Jvm.Stand.ldcStringW X hexec hown (text := tx) (a := q) hZ.1 hZ.2 (g := F0 m pc ls rest) rfl (by rw [hb]; exact hdg) t a1, b1⟩
theorem aldS (hC : CX p s m meth c y0 b0 mL0 rt0 args) (hK : KK G s) (hP : va_P G.1 vwCl ws H) (q0 : Nat) {n : Nat} {f : Nat → Option Nat} (ha : ws[q0]? = some (a, .inl (G.2.2.2, n, .inr (.inr (.inr (.inr f)))))) {i : Int32} (hin : vp_in i n) {k v : Nat} (hk : i.toNatClampNeg = k) (hv : f k = some v) (hdg : decode b0 pc = .ok (.aaload, 1)) (kk : W p l e R s m args below meth c H locs cells slots Q (F0 m (pc + 1) ls (.ref v :: rest))) : W p l e R s m args below meth c H locs cells slots Q (F0 m pc ls (.int i :: .ref a :: rest)) := by
  obtain ⟨hx, hb, hr, hml, hB, hown, hlocks, hnm⟩ := hC
  refine va_aldq hx hb hK.1 hP q0 2 ha rfl hin hdg ?_
  rw [hk, hv]
  exact kk
theorem gX12_feed_0 : (decode cX12_feed 0 = .ok (.iload_n 3, 1)) ∧ (decode cX12_feed 1 = .ok (.iconst 1, 1)) ∧ (decode cX12_feed 2 = .ok (.bipush 8, 2)) ∧ (decode cX12_feed 4 = .ok (.invokestatic 84, 3)) ∧ (decode cX12_feed 7 = .ok (.ifCond .ne 5, 3)) ∧ (decode cX12_feed 10 = .ok (.iconst (-1), 1)) ∧ (decode cX12_feed 11 = .ok (.ireturn, 1)) ∧ (decode cX12_feed 12 = .ok (.aload_n 0, 1)) ∧ (decode cX12_feed 13 = .ok (.getfield 206, 3)) ∧ (decode cX12_feed 16 = .ok (.iload_n 3, 1)) := by decide +kernel
theorem gX12_feed_1 : (decode cX12_feed 17 = .ok (.iadd, 1)) ∧ (decode cX12_feed 18 = .ok (.sipush 240, 3)) ∧ (decode cX12_feed 21 = .ok (.if_icmp .le 6, 3)) ∧ (decode cX12_feed 24 = .ok (.bipush (-2), 2)) ∧ (decode cX12_feed 26 = .ok (.ireturn, 1)) ∧ (decode cX12_feed 27 = .ok (.iconst 0, 1)) ∧ (decode cX12_feed 28 = .ok (.istore 4, 2)) ∧ (decode cX12_feed 30 = .ok (.iload 4, 2)) ∧ (decode cX12_feed 32 = .ok (.iload_n 3, 1)) ∧ (decode cX12_feed 33 = .ok (.if_icmp .ge 40, 3)) := by decide +kernel
theorem gX12_feed_4 : (decode cX12_feed 70 = .ok (.goto (-40), 3)) ∧ (decode cX12_feed 73 = .ok (.aload_n 0, 1)) ∧ (decode cX12_feed 74 = .ok (.getfield 206, 3)) ∧ (decode cX12_feed 77 = .ok (.ireturn, 1)) := by decide +kernel
theorem gX12_feed_2 : (decode cX12_feed 36 = .ok (.aload_n 0, 1)) ∧ (decode cX12_feed 37 = .ok (.getfield 16, 3)) ∧ (decode cX12_feed 40 = .ok (.aload_n 0, 1)) ∧ (decode cX12_feed 41 = .ok (.getfield 206, 3)) ∧ (decode cX12_feed 44 = .ok (.lload_n 1, 1)) ∧ (decode cX12_feed 45 = .ok (.bipush 8, 2)) ∧ (decode cX12_feed 47 = .ok (.iload 4, 2)) ∧ (decode cX12_feed 49 = .ok (.imul, 1)) ∧ (decode cX12_feed 50 = .ok (.lshr, 1)) ∧ (decode cX12_feed 51 = .ok (.ldc2_w 209, 3)) := by decide +kernel
theorem m_1033 : Cond.fieldLink RX12 16 "InquiryBenchModel" "tape" "[I" ∈ BW := iB_BW55 _ (List.mem_of_getElem? (i := 2) rfl)
theorem gf_X12_16 (hC : CX p s m meth c y0 b0 mL0 rt0 args) (hy0 : y0.cls = RX12) (hK : KK G s) (hP : va_P G.1 vwCl ws H) (q0 : Nat) {fs : List Value} {v : Value} (he : ws[q0]? = some (a, .inr (12, fs))) (hv : fs[3]? = some v) (hdg : decode b0 pc = .ok (.getfield 16, 3)) (kk : W p l e R s m args below meth c H locs cells slots Q (F0 m (pc + 3) ls (v :: rest))) : W p l e R s m args below meth c H locs cells slots Q (F0 m pc ls (.ref a :: rest)) := by
  obtain ⟨hx, hb, hr, hml, hB, hown, hlocks, hnm⟩ := hC
  rw [hy0] at hown
  exact va_get (ci := 12) (C := RX12) (T := TX12) (N := 41) hx hb hB in_X12 hown hK.1 hP q0 he rfl 3 (by decide) (hB _ m_1033) (fun _ h => h) hv hdg kk
theorem m_1237 : Cond.constantLong RX12 209 (255) ∈ BW := iB_BW66 _ (List.mem_of_getElem? (i := 5) rfl)
theorem gX12_feed_3 : (decode cX12_feed 54 = .ok (.land, 1)) ∧ (decode cX12_feed 55 = .ok (.l2i, 1)) ∧ (decode cX12_feed 56 = .ok (.iastore, 1)) ∧ (decode cX12_feed 57 = .ok (.aload_n 0, 1)) ∧ (decode cX12_feed 58 = .ok (.dup, 1)) ∧ (decode cX12_feed 59 = .ok (.getfield 206, 3)) ∧ (decode cX12_feed 62 = .ok (.iconst 1, 1)) ∧ (decode cX12_feed 63 = .ok (.iadd, 1)) ∧ (decode cX12_feed 64 = .ok (.putfield 206, 3)) ∧ (decode cX12_feed 67 = .ok (.iinc 4 1, 3)) := by decide +kernel
theorem pf_X12_206 (hC : CX p s m meth c y0 b0 mL0 rt0 args) (hy0 : y0.cls = RX12) (hK : KK G s) (hP : va_P G.1 vwCl ws H) (hD : va_D A ws) (hS : va_S A H0 H locs) (q0 : Nat) {fs : List Value} {v : Value} {ws' : va_W} (he : ws[q0]? = some (a, .inr (12, fs))) (hl : 4 < fs.length) (hws : ws.set q0 (a, .inr (12, fs.set 4 v)) = ws') (hn : narrow .int v = v) (hfit : fits .int v = true) (hdg : decode b0 pc = .ok (.putfield 206, 3)) (kk : ∀ (H1 : Heap) (locs1 : List Loc), va_P G.1 vwCl ws' H1 → va_D A ws' → va_S A H0 H1 locs1 → W p l e R s m args below meth c H1 locs1 cells slots Q (F0 m (pc + 3) ls rest)) : W p l e R s m args below meth c H locs cells slots Q (F0 m pc ls (v :: .ref a :: rest)) := by
  obtain ⟨hx, hb, hr, hml, hB, hown, hlocks, hnm⟩ := hC
  rw [hy0] at hown
  subst hws
  exact va_put (ci := 12) (ty := .int) (C := RX12) (T := TX12) (N := 41) hx hb hB in_X12 tyX12 tyX12_ok nmX12 hown hK.1 hP hD hS q0 he rfl 4 (by decide) (hB _ m_1034) (fun _ h => h) rfl (by decide +kernel) hn hfit hl hdg kk
theorem gX12_isIn__0 : (decode cX12_isIn_ 0 = .ok (.iload_n 1, 1)) ∧ (decode cX12_isIn_ 1 = .ok (.aload_n 0, 1)) ∧ (decode cX12_isIn_ 2 = .ok (.getfield 206, 3)) ∧ (decode cX12_isIn_ 5 = .ok (.if_icmp .ge 21, 3)) ∧ (decode cX12_isIn_ 8 = .ok (.aload_n 0, 1)) ∧ (decode cX12_isIn_ 9 = .ok (.getfield 16, 3)) ∧ (decode cX12_isIn_ 12 = .ok (.iload_n 1, 1)) ∧ (decode cX12_isIn_ 13 = .ok (.iaload, 1)) ∧ (decode cX12_isIn_ 14 = .ok (.iload_n 2, 1)) ∧ (decode cX12_isIn_ 15 = .ok (.iload_n 3, 1)) := by decide +kernel
theorem gX12_isIn__1 : (decode cX12_isIn_ 16 = .ok (.invokestatic 84, 3)) ∧ (decode cX12_isIn_ 19 = .ok (.ifCond .eq 7, 3)) ∧ (decode cX12_isIn_ 22 = .ok (.iconst 1, 1)) ∧ (decode cX12_isIn_ 23 = .ok (.goto 4, 3)) ∧ (decode cX12_isIn_ 26 = .ok (.iconst 0, 1)) ∧ (decode cX12_isIn_ 27 = .ok (.ireturn, 1)) := by decide +kernel
theorem gX12_next_0 : (decode cX12_next 0 = .ok (.aload_n 0, 1)) ∧ (decode cX12_next 1 = .ok (.aload_n 0, 1)) ∧ (decode cX12_next 2 = .ok (.getfield 211, 3)) ∧ (decode cX12_next 5 = .ok (.putfield 214, 3)) ∧ (decode cX12_next 8 = .ok (.aload_n 0, 1)) ∧ (decode cX12_next 9 = .ok (.getfield 214, 3)) ∧ (decode cX12_next 12 = .ok (.aload_n 0, 1)) ∧ (decode cX12_next 13 = .ok (.getfield 206, 3)) ∧ (decode cX12_next 16 = .ok (.if_icmp .ge 30, 3)) ∧ (decode cX12_next 19 = .ok (.aload_n 0, 1)) := by decide +kernel
theorem m_1045 : Cond.fieldLink RX12 211 "InquiryBenchModel" "to" "I" ∈ BW := iB_BW55 _ (List.mem_of_getElem? (i := 14) rfl)
theorem gf_X12_211 (hC : CX p s m meth c y0 b0 mL0 rt0 args) (hy0 : y0.cls = RX12) (hK : KK G s) (hP : va_P G.1 vwCl ws H) (q0 : Nat) {fs : List Value} {v : Value} (he : ws[q0]? = some (a, .inr (12, fs))) (hv : fs[15]? = some v) (hdg : decode b0 pc = .ok (.getfield 211, 3)) (kk : W p l e R s m args below meth c H locs cells slots Q (F0 m (pc + 3) ls (v :: rest))) : W p l e R s m args below meth c H locs cells slots Q (F0 m pc ls (.ref a :: rest)) := by
  obtain ⟨hx, hb, hr, hml, hB, hown, hlocks, hnm⟩ := hC
  rw [hy0] at hown
  exact va_get (ci := 12) (C := RX12) (T := TX12) (N := 41) hx hb hB in_X12 hown hK.1 hP q0 he rfl 15 (by decide) (hB _ m_1045) (fun _ h => h) hv hdg kk
theorem m_1044 : Cond.fieldLink RX12 214 "InquiryBenchModel" "from" "I" ∈ BW := iB_BW55 _ (List.mem_of_getElem? (i := 13) rfl)
theorem pf_X12_214 (hC : CX p s m meth c y0 b0 mL0 rt0 args) (hy0 : y0.cls = RX12) (hK : KK G s) (hP : va_P G.1 vwCl ws H) (hD : va_D A ws) (hS : va_S A H0 H locs) (q0 : Nat) {fs : List Value} {v : Value} {ws' : va_W} (he : ws[q0]? = some (a, .inr (12, fs))) (hl : 14 < fs.length) (hws : ws.set q0 (a, .inr (12, fs.set 14 v)) = ws') (hn : narrow .int v = v) (hfit : fits .int v = true) (hdg : decode b0 pc = .ok (.putfield 214, 3)) (kk : ∀ (H1 : Heap) (locs1 : List Loc), va_P G.1 vwCl ws' H1 → va_D A ws' → va_S A H0 H1 locs1 → W p l e R s m args below meth c H1 locs1 cells slots Q (F0 m (pc + 3) ls rest)) : W p l e R s m args below meth c H locs cells slots Q (F0 m pc ls (v :: .ref a :: rest)) := by
  obtain ⟨hx, hb, hr, hml, hB, hown, hlocks, hnm⟩ := hC
  rw [hy0] at hown
  subst hws
  exact va_put (ci := 12) (ty := .int) (C := RX12) (T := TX12) (N := 41) hx hb hB in_X12 tyX12 tyX12_ok nmX12 hown hK.1 hP hD hS q0 he rfl 14 (by decide) (hB _ m_1044) (fun _ h => h) rfl (by decide +kernel) hn hfit hl hdg kk
theorem gf_X12_214 (hC : CX p s m meth c y0 b0 mL0 rt0 args) (hy0 : y0.cls = RX12) (hK : KK G s) (hP : va_P G.1 vwCl ws H) (q0 : Nat) {fs : List Value} {v : Value} (he : ws[q0]? = some (a, .inr (12, fs))) (hv : fs[14]? = some v) (hdg : decode b0 pc = .ok (.getfield 214, 3)) (kk : W p l e R s m args below meth c H locs cells slots Q (F0 m (pc + 3) ls (v :: rest))) : W p l e R s m args below meth c H locs cells slots Q (F0 m pc ls (.ref a :: rest)) := by
  obtain ⟨hx, hb, hr, hml, hB, hown, hlocks, hnm⟩ := hC
  rw [hy0] at hown
  exact va_get (ci := 12) (C := RX12) (T := TX12) (N := 41) hx hb hB in_X12 hown hK.1 hP q0 he rfl 14 (by decide) (hB _ m_1044) (fun _ h => h) hv hdg kk
theorem gX12_next_2 : (decode cX12_next 39 = .ok (.iadd, 1)) ∧ (decode cX12_next 40 = .ok (.putfield 214, 3)) ∧ (decode cX12_next 43 = .ok (.goto (-35), 3)) ∧ (decode cX12_next 46 = .ok (.aload_n 0, 1)) ∧ (decode cX12_next 47 = .ok (.aload_n 0, 1)) ∧ (decode cX12_next 48 = .ok (.getfield 214, 3)) ∧ (decode cX12_next 51 = .ok (.putfield 211, 3)) ∧ (decode cX12_next 54 = .ok (.aload_n 0, 1)) ∧ (decode cX12_next 55 = .ok (.getfield 214, 3)) ∧ (decode cX12_next 58 = .ok (.aload_n 0, 1)) := by decide +kernel
theorem pf_X12_211 (hC : CX p s m meth c y0 b0 mL0 rt0 args) (hy0 : y0.cls = RX12) (hK : KK G s) (hP : va_P G.1 vwCl ws H) (hD : va_D A ws) (hS : va_S A H0 H locs) (q0 : Nat) {fs : List Value} {v : Value} {ws' : va_W} (he : ws[q0]? = some (a, .inr (12, fs))) (hl : 15 < fs.length) (hws : ws.set q0 (a, .inr (12, fs.set 15 v)) = ws') (hn : narrow .int v = v) (hfit : fits .int v = true) (hdg : decode b0 pc = .ok (.putfield 211, 3)) (kk : ∀ (H1 : Heap) (locs1 : List Loc), va_P G.1 vwCl ws' H1 → va_D A ws' → va_S A H0 H1 locs1 → W p l e R s m args below meth c H1 locs1 cells slots Q (F0 m (pc + 3) ls rest)) : W p l e R s m args below meth c H locs cells slots Q (F0 m pc ls (v :: .ref a :: rest)) := by
  obtain ⟨hx, hb, hr, hml, hB, hown, hlocks, hnm⟩ := hC
  rw [hy0] at hown
  subst hws
  exact va_put (ci := 12) (ty := .int) (C := RX12) (T := TX12) (N := 41) hx hb hB in_X12 tyX12 tyX12_ok nmX12 hown hK.1 hP hD hS q0 he rfl 15 (by decide) (hB _ m_1045) (fun _ h => h) rfl (by decide +kernel) hn hfit hl hdg kk
theorem gX12_next_3 : (decode cX12_next 59 = .ok (.getfield 206, 3)) ∧ (decode cX12_next 62 = .ok (.if_icmp .ne 9, 3)) ∧ (decode cX12_next 65 = .ok (.aload_n 0, 1)) ∧ (decode cX12_next 66 = .ok (.iconst 0, 1)) ∧ (decode cX12_next 67 = .ok (.putfield 217, 3)) ∧ (decode cX12_next 70 = .ok (.return_, 1)) ∧ (decode cX12_next 71 = .ok (.aload_n 0, 1)) ∧ (decode cX12_next 72 = .ok (.aload_n 0, 1)) ∧ (decode cX12_next 73 = .ok (.aload_n 0, 1)) ∧ (decode cX12_next 74 = .ok (.getfield 214, 3)) := by decide +kernel
theorem gX12_next_4 : (decode cX12_next 77 = .ok (.bipush 97, 2)) ∧ (decode cX12_next 79 = .ok (.bipush 122, 2)) ∧ (decode cX12_next 81 = .ok (.invokevirtual 220, 3)) ∧ (decode cX12_next 84 = .ok (.ifCond .eq 7, 3)) ∧ (decode cX12_next 87 = .ok (.iconst 1, 1)) ∧ (decode cX12_next 88 = .ok (.goto 23, 3)) ∧ (decode cX12_next 91 = .ok (.aload_n 0, 1)) ∧ (decode cX12_next 92 = .ok (.aload_n 0, 1)) ∧ (decode cX12_next 93 = .ok (.getfield 214, 3)) ∧ (decode cX12_next 96 = .ok (.bipush 48, 2)) := by decide +kernel
theorem m_1247 : Cond.code yX12_isIn_ cX12_isIn_ 4 (some .boolean) ∈ BW := iB_BW66 _ (List.mem_of_getElem? (i := 15) rfl)
theorem m_1245 : Cond.methodLink RX12 220 yX12_isIn_ ∈ BW := iB_BW66 _ (List.mem_of_getElem? (i := 13) rfl)
theorem m_1246 : Cond.instanceMethod yX12_isIn_ ∈ BW := iB_BW66 _ (List.mem_of_getElem? (i := 14) rfl)
theorem m_78 : Cond.selects RX12 yX12_isIn_ yX12_isIn_ ∈ BW := iB_BW3 _ (List.mem_of_getElem? (i := 18) rfl)
theorem si_X12_220 : SV RX12 RX12 220 yX12_isIn_ cX12_isIn_ 4 (some .boolean) 3 := ⟨⟨m_1245, m_1246, m_78, m_115, m_1247⟩, rfl, nK_RX12.1, nK_RX12.2, pd_0⟩
theorem gX12_next_5 : (decode cX12_next 98 = .ok (.bipush 57, 2)) ∧ (decode cX12_next 100 = .ok (.invokevirtual 220, 3)) ∧ (decode cX12_next 103 = .ok (.ifCond .eq 7, 3)) ∧ (decode cX12_next 106 = .ok (.iconst 2, 1)) ∧ (decode cX12_next 107 = .ok (.goto 4, 3)) ∧ (decode cX12_next 110 = .ok (.iconst 3, 1)) ∧ (decode cX12_next 111 = .ok (.putfield 217, 3)) ∧ (decode cX12_next 114 = .ok (.aload_n 0, 1)) ∧ (decode cX12_next 115 = .ok (.dup, 1)) ∧ (decode cX12_next 116 = .ok (.getfield 211, 3)) := by decide +kernel
theorem m_1046 : Cond.fieldLink RX12 217 "InquiryBenchModel" "sort" "I" ∈ BW := iB_BW55 _ (List.mem_of_getElem? (i := 15) rfl)
theorem pf_X12_217 (hC : CX p s m meth c y0 b0 mL0 rt0 args) (hy0 : y0.cls = RX12) (hK : KK G s) (hP : va_P G.1 vwCl ws H) (hD : va_D A ws) (hS : va_S A H0 H locs) (q0 : Nat) {fs : List Value} {v : Value} {ws' : va_W} (he : ws[q0]? = some (a, .inr (12, fs))) (hl : 16 < fs.length) (hws : ws.set q0 (a, .inr (12, fs.set 16 v)) = ws') (hn : narrow .int v = v) (hfit : fits .int v = true) (hdg : decode b0 pc = .ok (.putfield 217, 3)) (kk : ∀ (H1 : Heap) (locs1 : List Loc), va_P G.1 vwCl ws' H1 → va_D A ws' → va_S A H0 H1 locs1 → W p l e R s m args below meth c H1 locs1 cells slots Q (F0 m (pc + 3) ls rest)) : W p l e R s m args below meth c H locs cells slots Q (F0 m pc ls (v :: .ref a :: rest)) := by
  obtain ⟨hx, hb, hr, hml, hB, hown, hlocks, hnm⟩ := hC
  rw [hy0] at hown
  subst hws
  exact va_put (ci := 12) (ty := .int) (C := RX12) (T := TX12) (N := 41) hx hb hB in_X12 tyX12 tyX12_ok nmX12 hown hK.1 hP hD hS q0 he rfl 16 (by decide) (hB _ m_1046) (fun _ h => h) rfl (by decide +kernel) hn hfit hl hdg kk
theorem gX12_next_6 : (decode cX12_next 119 = .ok (.iconst 1, 1)) ∧ (decode cX12_next 120 = .ok (.iadd, 1)) ∧ (decode cX12_next 121 = .ok (.putfield 211, 3)) ∧ (decode cX12_next 124 = .ok (.aload_n 0, 1)) ∧ (decode cX12_next 125 = .ok (.getfield 217, 3)) ∧ (decode cX12_next 128 = .ok (.iconst 1, 1)) ∧ (decode cX12_next 129 = .ok (.if_icmp .ne 18, 3)) ∧ (decode cX12_next 132 = .ok (.aload_n 0, 1)) ∧ (decode cX12_next 133 = .ok (.aload_n 0, 1)) ∧ (decode cX12_next 134 = .ok (.getfield 211, 3)) := by decide +kernel
theorem gf_X12_217 (hC : CX p s m meth c y0 b0 mL0 rt0 args) (hy0 : y0.cls = RX12) (hK : KK G s) (hP : va_P G.1 vwCl ws H) (q0 : Nat) {fs : List Value} {v : Value} (he : ws[q0]? = some (a, .inr (12, fs))) (hv : fs[16]? = some v) (hdg : decode b0 pc = .ok (.getfield 217, 3)) (kk : W p l e R s m args below meth c H locs cells slots Q (F0 m (pc + 3) ls (v :: rest))) : W p l e R s m args below meth c H locs cells slots Q (F0 m pc ls (.ref a :: rest)) := by
  obtain ⟨hx, hb, hr, hml, hB, hown, hlocks, hnm⟩ := hC
  rw [hy0] at hown
  exact va_get (ci := 12) (C := RX12) (T := TX12) (N := 41) hx hb hB in_X12 hown hK.1 hP q0 he rfl 16 (by decide) (hB _ m_1046) (fun _ h => h) hv hdg kk
theorem gX12_next_7 : (decode cX12_next 137 = .ok (.bipush 97, 2)) ∧ (decode cX12_next 139 = .ok (.bipush 122, 2)) ∧ (decode cX12_next 141 = .ok (.invokevirtual 220, 3)) ∧ (decode cX12_next 144 = .ok (.ifCond .ne 26, 3)) ∧ (decode cX12_next 147 = .ok (.aload_n 0, 1)) ∧ (decode cX12_next 148 = .ok (.getfield 217, 3)) ∧ (decode cX12_next 151 = .ok (.iconst 2, 1)) ∧ (decode cX12_next 152 = .ok (.if_icmp .ne 31, 3)) ∧ (decode cX12_next 155 = .ok (.aload_n 0, 1)) ∧ (decode cX12_next 156 = .ok (.aload_n 0, 1)) := by decide +kernel
theorem gX12_next_8 : (decode cX12_next 157 = .ok (.getfield 211, 3)) ∧ (decode cX12_next 160 = .ok (.bipush 48, 2)) ∧ (decode cX12_next 162 = .ok (.bipush 57, 2)) ∧ (decode cX12_next 164 = .ok (.invokevirtual 220, 3)) ∧ (decode cX12_next 167 = .ok (.ifCond .eq 16, 3)) ∧ (decode cX12_next 170 = .ok (.aload_n 0, 1)) ∧ (decode cX12_next 171 = .ok (.dup, 1)) ∧ (decode cX12_next 172 = .ok (.getfield 211, 3)) ∧ (decode cX12_next 175 = .ok (.iconst 1, 1)) ∧ (decode cX12_next 176 = .ok (.iadd, 1)) := by decide +kernel
theorem gX12_next_9 : (decode cX12_next 177 = .ok (.putfield 211, 3)) ∧ (decode cX12_next 180 = .ok (.goto (-56), 3)) ∧ (decode cX12_next 183 = .ok (.return_, 1)) := by decide +kernel
theorem gX12_next_1 : (decode cX12_next 20 = .ok (.getfield 16, 3)) ∧ (decode cX12_next 23 = .ok (.aload_n 0, 1)) ∧ (decode cX12_next 24 = .ok (.getfield 214, 3)) ∧ (decode cX12_next 27 = .ok (.iaload, 1)) ∧ (decode cX12_next 28 = .ok (.bipush 32, 2)) ∧ (decode cX12_next 30 = .ok (.if_icmp .ne 16, 3)) ∧ (decode cX12_next 33 = .ok (.aload_n 0, 1)) ∧ (decode cX12_next 34 = .ok (.dup, 1)) ∧ (decode cX12_next 35 = .ok (.getfield 214, 3)) ∧ (decode cX12_next 38 = .ok (.iconst 1, 1)) := by decide +kernel
theorem gX12_isName_0 : (decode cX12_isName 0 = .ok (.aload_n 0, 1)) ∧ (decode cX12_isName 1 = .ok (.getfield 222, 3)) ∧ (decode cX12_isName 4 = .ok (.ifCond .ne 31, 3)) ∧ (decode cX12_isName 7 = .ok (.aload_n 0, 1)) ∧ (decode cX12_isName 8 = .ok (.getfield 217, 3)) ∧ (decode cX12_isName 11 = .ok (.iconst 1, 1)) ∧ (decode cX12_isName 12 = .ok (.if_icmp .ne 23, 3)) ∧ (decode cX12_isName 15 = .ok (.aload_n 0, 1)) ∧ (decode cX12_isName 16 = .ok (.getfield 211, 3)) ∧ (decode cX12_isName 19 = .ok (.aload_n 0, 1)) := by decide +kernel
theorem m_1047 : Cond.fieldLink RX12 222 "InquiryBenchModel" "isFault" "Z" ∈ BW := iB_BW55 _ (List.mem_of_getElem? (i := 16) rfl)
theorem gf_X12_222 (hC : CX p s m meth c y0 b0 mL0 rt0 args) (hy0 : y0.cls = RX12) (hK : KK G s) (hP : va_P G.1 vwCl ws H) (q0 : Nat) {fs : List Value} {v : Value} (he : ws[q0]? = some (a, .inr (12, fs))) (hv : fs[17]? = some v) (hdg : decode b0 pc = .ok (.getfield 222, 3)) (kk : W p l e R s m args below meth c H locs cells slots Q (F0 m (pc + 3) ls (v :: rest))) : W p l e R s m args below meth c H locs cells slots Q (F0 m pc ls (.ref a :: rest)) := by
  obtain ⟨hx, hb, hr, hml, hB, hown, hlocks, hnm⟩ := hC
  rw [hy0] at hown
  exact va_get (ci := 12) (C := RX12) (T := TX12) (N := 41) hx hb hB in_X12 hown hK.1 hP q0 he rfl 17 (by decide) (hB _ m_1047) (fun _ h => h) hv hdg kk
theorem gX12_isName_1 : (decode cX12_isName 20 = .ok (.getfield 214, 3)) ∧ (decode cX12_isName 23 = .ok (.isub, 1)) ∧ (decode cX12_isName 24 = .ok (.aload_n 1, 1)) ∧ (decode cX12_isName 25 = .ok (.invokevirtual 226, 3)) ∧ (decode cX12_isName 28 = .ok (.if_icmp .ne 7, 3)) ∧ (decode cX12_isName 31 = .ok (.iconst 1, 1)) ∧ (decode cX12_isName 32 = .ok (.goto 4, 3)) ∧ (decode cX12_isName 35 = .ok (.iconst 0, 1)) ∧ (decode cX12_isName 36 = .ok (.istore_n 2, 1)) ∧ (decode cX12_isName 37 = .ok (.iconst 0, 1)) := by decide +kernel
theorem gX12_isName_2 : (decode cX12_isName 38 = .ok (.istore_n 3, 1)) ∧ (decode cX12_isName 39 = .ok (.iload_n 2, 1)) ∧ (decode cX12_isName 40 = .ok (.ifCond .eq 42, 3)) ∧ (decode cX12_isName 43 = .ok (.iload_n 3, 1)) ∧ (decode cX12_isName 44 = .ok (.aload_n 1, 1)) ∧ (decode cX12_isName 45 = .ok (.invokevirtual 226, 3)) ∧ (decode cX12_isName 48 = .ok (.if_icmp .ge 34, 3)) ∧ (decode cX12_isName 51 = .ok (.aload_n 0, 1)) ∧ (decode cX12_isName 52 = .ok (.getfield 16, 3)) ∧ (decode cX12_isName 55 = .ok (.aload_n 0, 1)) := by decide +kernel
theorem gX12_isName_4 : (decode cX12_isName 74 = .ok (.iconst 0, 1)) ∧ (decode cX12_isName 75 = .ok (.istore_n 2, 1)) ∧ (decode cX12_isName 76 = .ok (.iinc 3 1, 3)) ∧ (decode cX12_isName 79 = .ok (.goto (-40), 3)) ∧ (decode cX12_isName 82 = .ok (.iload_n 2, 1)) ∧ (decode cX12_isName 83 = .ok (.ireturn, 1)) := by decide +kernel
theorem m_1254 : Cond.methodLink RX12 226 yJ0_length_8abf5 ∈ BW := iB_BW67 _ (List.mem_of_getElem? (i := 2) rfl)
theorem si_X12_226 : SV RX12 RJ0 226 yJ0_length_8abf5 cJ0_length_8abf5 1 (some .int) 0 := ⟨⟨m_1254, m_652, m_653, m_118, m_654⟩, rfl, nK_RJ0.1, nK_RJ0.2, pd_1⟩
theorem gX12_isName_3 : (decode cX12_isName 56 = .ok (.getfield 214, 3)) ∧ (decode cX12_isName 59 = .ok (.iload_n 3, 1)) ∧ (decode cX12_isName 60 = .ok (.iadd, 1)) ∧ (decode cX12_isName 61 = .ok (.iaload, 1)) ∧ (decode cX12_isName 62 = .ok (.aload_n 1, 1)) ∧ (decode cX12_isName 63 = .ok (.iload_n 3, 1)) ∧ (decode cX12_isName 64 = .ok (.invokevirtual 229, 3)) ∧ (decode cX12_isName 67 = .ok (.if_icmp .ne 7, 3)) ∧ (decode cX12_isName 70 = .ok (.iconst 1, 1)) ∧ (decode cX12_isName 71 = .ok (.goto 4, 3)) := by decide +kernel
theorem m_1255 : Cond.methodLink RX12 229 yJ0_charAt_5068e ∈ BW := iB_BW67 _ (List.mem_of_getElem? (i := 3) rfl)
theorem si_X12_229 : SV RX12 RJ0 229 yJ0_charAt_5068e cJ0_charAt_5068e 2 (some .char) 1 := ⟨⟨m_1255, m_661, m_662, m_118, m_663⟩, rfl, nK_RJ0.1, nK_RJ0.2, pd_25⟩
theorem gX12_isSign_0 : (decode cX12_isSign 0 = .ok (.aload_n 0, 1)) ∧ (decode cX12_isSign 1 = .ok (.getfield 222, 3)) ∧ (decode cX12_isSign 4 = .ok (.ifCond .ne 28, 3)) ∧ (decode cX12_isSign 7 = .ok (.aload_n 0, 1)) ∧ (decode cX12_isSign 8 = .ok (.getfield 217, 3)) ∧ (decode cX12_isSign 11 = .ok (.iconst 3, 1)) ∧ (decode cX12_isSign 12 = .ok (.if_icmp .ne 20, 3)) ∧ (decode cX12_isSign 15 = .ok (.aload_n 0, 1)) ∧ (decode cX12_isSign 16 = .ok (.getfield 16, 3)) ∧ (decode cX12_isSign 19 = .ok (.aload_n 0, 1)) := by decide +kernel
theorem gX12_isSign_1 : (decode cX12_isSign 20 = .ok (.getfield 214, 3)) ∧ (decode cX12_isSign 23 = .ok (.iaload, 1)) ∧ (decode cX12_isSign 24 = .ok (.iload_n 1, 1)) ∧ (decode cX12_isSign 25 = .ok (.if_icmp .ne 7, 3)) ∧ (decode cX12_isSign 28 = .ok (.iconst 1, 1)) ∧ (decode cX12_isSign 29 = .ok (.goto 4, 3)) ∧ (decode cX12_isSign 32 = .ok (.iconst 0, 1)) ∧ (decode cX12_isSign 33 = .ok (.ireturn, 1)) := by decide +kernel
theorem gX12_need_0 : (decode cX12_need 0 = .ok (.aload_n 0, 1)) ∧ (decode cX12_need 1 = .ok (.aload_n 0, 1)) ∧ (decode cX12_need 2 = .ok (.getfield 222, 3)) ∧ (decode cX12_need 5 = .ok (.ifCond .ne 7, 3)) ∧ (decode cX12_need 8 = .ok (.iload_n 1, 1)) ∧ (decode cX12_need 9 = .ok (.ifCond .ne 7, 3)) ∧ (decode cX12_need 12 = .ok (.iconst 1, 1)) ∧ (decode cX12_need 13 = .ok (.goto 4, 3)) ∧ (decode cX12_need 16 = .ok (.iconst 0, 1)) ∧ (decode cX12_need 17 = .ok (.putfield 222, 3)) := by decide +kernel
theorem pf_X12_222 (hC : CX p s m meth c y0 b0 mL0 rt0 args) (hy0 : y0.cls = RX12) (hK : KK G s) (hP : va_P G.1 vwCl ws H) (hD : va_D A ws) (hS : va_S A H0 H locs) (q0 : Nat) {fs : List Value} {v : Value} {ws' : va_W} (he : ws[q0]? = some (a, .inr (12, fs))) (hl : 17 < fs.length) (hws : ws.set q0 (a, .inr (12, fs.set 17 v)) = ws') (hn : narrow .boolean v = v) (hfit : fits .boolean v = true) (hdg : decode b0 pc = .ok (.putfield 222, 3)) (kk : ∀ (H1 : Heap) (locs1 : List Loc), va_P G.1 vwCl ws' H1 → va_D A ws' → va_S A H0 H1 locs1 → W p l e R s m args below meth c H1 locs1 cells slots Q (F0 m (pc + 3) ls rest)) : W p l e R s m args below meth c H locs cells slots Q (F0 m pc ls (v :: .ref a :: rest)) := by
  obtain ⟨hx, hb, hr, hml, hB, hown, hlocks, hnm⟩ := hC
  rw [hy0] at hown
  subst hws
  exact va_put (ci := 12) (ty := .boolean) (C := RX12) (T := TX12) (N := 41) hx hb hB in_X12 tyX12 tyX12_ok nmX12 hown hK.1 hP hD hS q0 he rfl 17 (by decide) (hB _ m_1047) (fun _ h => h) rfl (by decide +kernel) hn hfit hl hdg kk
theorem gX12_need_1 : (decode cX12_need 20 = .ok (.aload_n 0, 1)) ∧ (decode cX12_need 21 = .ok (.getfield 222, 3)) ∧ (decode cX12_need 24 = .ok (.ifCond .ne 7, 3)) ∧ (decode cX12_need 27 = .ok (.aload_n 0, 1)) ∧ (decode cX12_need 28 = .ok (.invokevirtual 233, 3)) ∧ (decode cX12_need 31 = .ok (.return_, 1)) := by decide +kernel
theorem m_1244 : Cond.code yX12_next cX12_next 1 none ∈ BW := iB_BW66 _ (List.mem_of_getElem? (i := 12) rfl)
theorem m_1242 : Cond.methodLink RX12 233 yX12_next ∈ BW := iB_BW66 _ (List.mem_of_getElem? (i := 10) rfl)
theorem m_1243 : Cond.instanceMethod yX12_next ∈ BW := iB_BW66 _ (List.mem_of_getElem? (i := 11) rfl)
theorem m_77 : Cond.selects RX12 yX12_next yX12_next ∈ BW := iB_BW3 _ (List.mem_of_getElem? (i := 17) rfl)
theorem si_X12_233 : SV RX12 RX12 233 yX12_next cX12_next 1 none 0 := ⟨⟨m_1242, m_1243, m_77, m_115, m_1244⟩, rfl, nK_RX12.1, nK_RX12.2, pd_9⟩
theorem gX12_number_0 : (decode cX12_number 0 = .ok (.iconst 0, 1)) ∧ (decode cX12_number 1 = .ok (.istore_n 2, 1)) ∧ (decode cX12_number 2 = .ok (.aload_n 0, 1)) ∧ (decode cX12_number 3 = .ok (.getfield 222, 3)) ∧ (decode cX12_number 6 = .ok (.ifCond .ne 28, 3)) ∧ (decode cX12_number 9 = .ok (.aload_n 0, 1)) ∧ (decode cX12_number 10 = .ok (.getfield 217, 3)) ∧ (decode cX12_number 13 = .ok (.iconst 2, 1)) ∧ (decode cX12_number 14 = .ok (.if_icmp .ne 20, 3)) ∧ (decode cX12_number 17 = .ok (.aload_n 0, 1)) := by decide +kernel
theorem gX12_number_1 : (decode cX12_number 18 = .ok (.getfield 211, 3)) ∧ (decode cX12_number 21 = .ok (.aload_n 0, 1)) ∧ (decode cX12_number 22 = .ok (.getfield 214, 3)) ∧ (decode cX12_number 25 = .ok (.isub, 1)) ∧ (decode cX12_number 26 = .ok (.iconst 3, 1)) ∧ (decode cX12_number 27 = .ok (.if_icmp .gt 7, 3)) ∧ (decode cX12_number 30 = .ok (.iconst 1, 1)) ∧ (decode cX12_number 31 = .ok (.goto 4, 3)) ∧ (decode cX12_number 34 = .ok (.iconst 0, 1)) ∧ (decode cX12_number 35 = .ok (.istore_n 3, 1)) := by decide +kernel
theorem gX12_number_2 : (decode cX12_number 36 = .ok (.aload_n 0, 1)) ∧ (decode cX12_number 37 = .ok (.getfield 214, 3)) ∧ (decode cX12_number 40 = .ok (.istore 4, 2)) ∧ (decode cX12_number 42 = .ok (.iload_n 3, 1)) ∧ (decode cX12_number 43 = .ok (.ifCond .eq 34, 3)) ∧ (decode cX12_number 46 = .ok (.iload 4, 2)) ∧ (decode cX12_number 48 = .ok (.aload_n 0, 1)) ∧ (decode cX12_number 49 = .ok (.getfield 211, 3)) ∧ (decode cX12_number 52 = .ok (.if_icmp .ge 25, 3)) ∧ (decode cX12_number 55 = .ok (.bipush 10, 2)) := by decide +kernel
theorem gX12_number_4 : (decode cX12_number 71 = .ok (.iinc 4 1, 3)) ∧ (decode cX12_number 74 = .ok (.goto (-32), 3)) ∧ (decode cX12_number 77 = .ok (.aload_n 0, 1)) ∧ (decode cX12_number 78 = .ok (.iload_n 3, 1)) ∧ (decode cX12_number 79 = .ok (.ifCond .eq 12, 3)) ∧ (decode cX12_number 82 = .ok (.iload_n 2, 1)) ∧ (decode cX12_number 83 = .ok (.iload_n 1, 1)) ∧ (decode cX12_number 84 = .ok (.if_icmp .gt 7, 3)) ∧ (decode cX12_number 87 = .ok (.iconst 1, 1)) ∧ (decode cX12_number 88 = .ok (.goto 4, 3)) := by decide +kernel
theorem gX12_number_5 : (decode cX12_number 91 = .ok (.iconst 0, 1)) ∧ (decode cX12_number 92 = .ok (.invokevirtual 236, 3)) ∧ (decode cX12_number 95 = .ok (.iload_n 2, 1)) ∧ (decode cX12_number 96 = .ok (.ireturn, 1)) := by decide +kernel
theorem m_1258 : Cond.code yX12_need cX12_need 2 none ∈ BW := iB_BW67 _ (List.mem_of_getElem? (i := 6) rfl)
theorem pd_33 : (parseMethodDescriptor "(Z)V").map (fun d => d.parameters.length) = some 1 := by decide +kernel
theorem m_1256 : Cond.methodLink RX12 236 yX12_need ∈ BW := iB_BW67 _ (List.mem_of_getElem? (i := 4) rfl)
theorem m_1257 : Cond.instanceMethod yX12_need ∈ BW := iB_BW67 _ (List.mem_of_getElem? (i := 5) rfl)
theorem m_81 : Cond.selects RX12 yX12_need yX12_need ∈ BW := iB_BW4 _ (List.mem_of_getElem? (i := 1) rfl)
theorem si_X12_236 : SV RX12 RX12 236 yX12_need cX12_need 2 none 1 := ⟨⟨m_1256, m_1257, m_81, m_115, m_1258⟩, rfl, nK_RX12.1, nK_RX12.2, pd_33⟩
theorem gX12_number_3 : (decode cX12_number 57 = .ok (.iload_n 2, 1)) ∧ (decode cX12_number 58 = .ok (.imul, 1)) ∧ (decode cX12_number 59 = .ok (.aload_n 0, 1)) ∧ (decode cX12_number 60 = .ok (.getfield 16, 3)) ∧ (decode cX12_number 63 = .ok (.iload 4, 2)) ∧ (decode cX12_number 65 = .ok (.iaload, 1)) ∧ (decode cX12_number 66 = .ok (.iadd, 1)) ∧ (decode cX12_number 67 = .ok (.bipush 48, 2)) ∧ (decode cX12_number 69 = .ok (.isub, 1)) ∧ (decode cX12_number 70 = .ok (.istore_n 2, 1)) := by decide +kernel
theorem gX12_codes_0 : (decode cX12_codes 0 = .ok (.aload_n 0, 1)) ∧ (decode cX12_codes 1 = .ok (.getfield 222, 3)) ∧ (decode cX12_codes 4 = .ok (.ifCond .ne 23, 3)) ∧ (decode cX12_codes 7 = .ok (.aload_n 0, 1)) ∧ (decode cX12_codes 8 = .ok (.getfield 35, 3)) ∧ (decode cX12_codes 11 = .ok (.aload_n 0, 1)) ∧ (decode cX12_codes 12 = .ok (.getfield 240, 3)) ∧ (decode cX12_codes 15 = .ok (.iload_n 1, 1)) ∧ (decode cX12_codes 16 = .ok (.iastore, 1)) ∧ (decode cX12_codes 17 = .ok (.aload_n 0, 1)) := by decide +kernel
theorem gX12_codes_1 : (decode cX12_codes 18 = .ok (.dup, 1)) ∧ (decode cX12_codes 19 = .ok (.getfield 240, 3)) ∧ (decode cX12_codes 22 = .ok (.iconst 1, 1)) ∧ (decode cX12_codes 23 = .ok (.iadd, 1)) ∧ (decode cX12_codes 24 = .ok (.putfield 240, 3)) ∧ (decode cX12_codes 27 = .ok (.return_, 1)) := by decide +kernel
theorem m_1052 : Cond.fieldLink RX12 35 "InquiryBenchModel" "code" "[I" ∈ BW := iB_BW56 _ (List.mem_of_getElem? (i := 1) rfl)
theorem gf_X12_35 (hC : CX p s m meth c y0 b0 mL0 rt0 args) (hy0 : y0.cls = RX12) (hK : KK G s) (hP : va_P G.1 vwCl ws H) (q0 : Nat) {fs : List Value} {v : Value} (he : ws[q0]? = some (a, .inr (12, fs))) (hv : fs[22]? = some v) (hdg : decode b0 pc = .ok (.getfield 35, 3)) (kk : W p l e R s m args below meth c H locs cells slots Q (F0 m (pc + 3) ls (v :: rest))) : W p l e R s m args below meth c H locs cells slots Q (F0 m pc ls (.ref a :: rest)) := by
  obtain ⟨hx, hb, hr, hml, hB, hown, hlocks, hnm⟩ := hC
  rw [hy0] at hown
  exact va_get (ci := 12) (C := RX12) (T := TX12) (N := 41) hx hb hB in_X12 hown hK.1 hP q0 he rfl 22 (by decide) (hB _ m_1052) (fun _ h => h) hv hdg kk
theorem m_1049 : Cond.fieldLink RX12 240 "InquiryBenchModel" "coded" "I" ∈ BW := iB_BW55 _ (List.mem_of_getElem? (i := 18) rfl)
theorem gf_X12_240 (hC : CX p s m meth c y0 b0 mL0 rt0 args) (hy0 : y0.cls = RX12) (hK : KK G s) (hP : va_P G.1 vwCl ws H) (q0 : Nat) {fs : List Value} {v : Value} (he : ws[q0]? = some (a, .inr (12, fs))) (hv : fs[19]? = some v) (hdg : decode b0 pc = .ok (.getfield 240, 3)) (kk : W p l e R s m args below meth c H locs cells slots Q (F0 m (pc + 3) ls (v :: rest))) : W p l e R s m args below meth c H locs cells slots Q (F0 m pc ls (.ref a :: rest)) := by
  obtain ⟨hx, hb, hr, hml, hB, hown, hlocks, hnm⟩ := hC
  rw [hy0] at hown
  exact va_get (ci := 12) (C := RX12) (T := TX12) (N := 41) hx hb hB in_X12 hown hK.1 hP q0 he rfl 19 (by decide) (hB _ m_1049) (fun _ h => h) hv hdg kk
theorem pf_X12_240 (hC : CX p s m meth c y0 b0 mL0 rt0 args) (hy0 : y0.cls = RX12) (hK : KK G s) (hP : va_P G.1 vwCl ws H) (hD : va_D A ws) (hS : va_S A H0 H locs) (q0 : Nat) {fs : List Value} {v : Value} {ws' : va_W} (he : ws[q0]? = some (a, .inr (12, fs))) (hl : 19 < fs.length) (hws : ws.set q0 (a, .inr (12, fs.set 19 v)) = ws') (hn : narrow .int v = v) (hfit : fits .int v = true) (hdg : decode b0 pc = .ok (.putfield 240, 3)) (kk : ∀ (H1 : Heap) (locs1 : List Loc), va_P G.1 vwCl ws' H1 → va_D A ws' → va_S A H0 H1 locs1 → W p l e R s m args below meth c H1 locs1 cells slots Q (F0 m (pc + 3) ls rest)) : W p l e R s m args below meth c H locs cells slots Q (F0 m pc ls (v :: .ref a :: rest)) := by
  obtain ⟨hx, hb, hr, hml, hB, hown, hlocks, hnm⟩ := hC
  rw [hy0] at hown
  subst hws
  exact va_put (ci := 12) (ty := .int) (C := RX12) (T := TX12) (N := 41) hx hb hB in_X12 tyX12 tyX12_ok nmX12 hown hK.1 hP hD hS q0 he rfl 19 (by decide) (hB _ m_1049) (fun _ h => h) rfl (by decide +kernel) hn hfit hl hdg kk
theorem gX12_one_0 : (decode cX12_one 0 = .ok (.iconst 0, 1)) ∧ (decode cX12_one 1 = .ok (.istore_n 1, 1)) ∧ (decode cX12_one 2 = .ok (.aload_n 0, 1)) ∧ (decode cX12_one 3 = .ok (.ldc_w 260, 3)) ∧ (decode cX12_one 6 = .ok (.invokevirtual 248, 3)) ∧ (decode cX12_one 9 = .ok (.ifCond .eq 13, 3)) ∧ (decode cX12_one 12 = .ok (.aload_n 0, 1)) ∧ (decode cX12_one 13 = .ok (.invokevirtual 233, 3)) ∧ (decode cX12_one 16 = .ok (.iinc 1 1, 3)) ∧ (decode cX12_one 19 = .ok (.goto (-17), 3)) := by decide +kernel
theorem m_1253 : Cond.code yX12_isName cX12_isName 4 (some .boolean) ∈ BW := iB_BW67 _ (List.mem_of_getElem? (i := 1) rfl)
theorem m_1251 : Cond.methodLink RX12 248 yX12_isName ∈ BW := iB_BW66 _ (List.mem_of_getElem? (i := 19) rfl)
theorem m_1252 : Cond.instanceMethod yX12_isName ∈ BW := iB_BW67 _ (List.mem_of_getElem? (i := 0) rfl)
theorem m_80 : Cond.selects RX12 yX12_isName yX12_isName ∈ BW := iB_BW4 _ (List.mem_of_getElem? (i := 0) rfl)
theorem si_X12_248 : SV RX12 RX12 248 yX12_isName cX12_isName 4 (some .boolean) 1 := ⟨⟨m_1251, m_1252, m_80, m_115, m_1253⟩, rfl, nK_RX12.1, nK_RX12.2, pd_26⟩
theorem gX12_one_1 : (decode cX12_one 22 = .ok (.aload_n 0, 1)) ∧ (decode cX12_one 23 = .ok (.bipush 40, 2)) ∧ (decode cX12_one 25 = .ok (.invokevirtual 262, 3)) ∧ (decode cX12_one 28 = .ok (.ifCond .eq 57, 3)) ∧ (decode cX12_one 31 = .ok (.aload_n 0, 1)) ∧ (decode cX12_one 32 = .ok (.dup, 1)) ∧ (decode cX12_one 33 = .ok (.getfield 265, 3)) ∧ (decode cX12_one 36 = .ok (.iconst 1, 1)) ∧ (decode cX12_one 37 = .ok (.iadd, 1)) ∧ (decode cX12_one 38 = .ok (.putfield 265, 3)) := by decide +kernel
theorem m_1273 : Cond.code yX12_isSign cX12_isSign 2 (some .boolean) ∈ BW := iB_BW68 _ (List.mem_of_getElem? (i := 1) rfl)
theorem m_1271 : Cond.methodLink RX12 262 yX12_isSign ∈ BW := iB_BW67 _ (List.mem_of_getElem? (i := 19) rfl)
theorem m_1272 : Cond.instanceMethod yX12_isSign ∈ BW := iB_BW68 _ (List.mem_of_getElem? (i := 0) rfl)
theorem m_86 : Cond.selects RX12 yX12_isSign yX12_isSign ∈ BW := iB_BW4 _ (List.mem_of_getElem? (i := 6) rfl)
theorem si_X12_262 : SV RX12 RX12 262 yX12_isSign cX12_isSign 2 (some .boolean) 1 := ⟨⟨m_1271, m_1272, m_86, m_115, m_1273⟩, rfl, nK_RX12.1, nK_RX12.2, pd_5⟩
theorem gX12_one_4 : (decode cX12_one 78 = .ok (.isub, 1)) ∧ (decode cX12_one 79 = .ok (.putfield 265, 3)) ∧ (decode cX12_one 82 = .ok (.goto 141, 3)) ∧ (decode cX12_one 85 = .ok (.iconst (-1), 1)) ∧ (decode cX12_one 86 = .ok (.istore_n 2, 1)) ∧ (decode cX12_one 87 = .ok (.iconst 0, 1)) ∧ (decode cX12_one 88 = .ok (.istore_n 3, 1)) ∧ (decode cX12_one 89 = .ok (.iload_n 3, 1)) ∧ (decode cX12_one 90 = .ok (.iconst 5, 1)) ∧ (decode cX12_one 91 = .ok (.if_icmp .ge 28, 3)) := by decide +kernel
theorem gX12_one_5 : (decode cX12_one 94 = .ok (.aload_n 0, 1)) ∧ (decode cX12_one 95 = .ok (.aload_n 0, 1)) ∧ (decode cX12_one 96 = .ok (.getfield 50, 3)) ∧ (decode cX12_one 99 = .ok (.iload_n 3, 1)) ∧ (decode cX12_one 100 = .ok (.aaload, 1)) ∧ (decode cX12_one 101 = .ok (.invokevirtual 248, 3)) ∧ (decode cX12_one 104 = .ok (.ifCond .eq 7, 3)) ∧ (decode cX12_one 107 = .ok (.iload_n 3, 1)) ∧ (decode cX12_one 108 = .ok (.goto 4, 3)) ∧ (decode cX12_one 111 = .ok (.iload_n 2, 1)) := by decide +kernel
theorem m_1053 : Cond.fieldLink RX12 50 "InquiryBenchModel" "FACTS" "[Ljava/lang/String;" ∈ BW := iB_BW56 _ (List.mem_of_getElem? (i := 2) rfl)
theorem gf_X12_50 (hC : CX p s m meth c y0 b0 mL0 rt0 args) (hy0 : y0.cls = RX12) (hK : KK G s) (hP : va_P G.1 vwCl ws H) (q0 : Nat) {fs : List Value} {v : Value} (he : ws[q0]? = some (a, .inr (12, fs))) (hv : fs[23]? = some v) (hdg : decode b0 pc = .ok (.getfield 50, 3)) (kk : W p l e R s m args below meth c H locs cells slots Q (F0 m (pc + 3) ls (v :: rest))) : W p l e R s m args below meth c H locs cells slots Q (F0 m pc ls (.ref a :: rest)) := by
  obtain ⟨hx, hb, hr, hml, hB, hown, hlocks, hnm⟩ := hC
  rw [hy0] at hown
  exact va_get (ci := 12) (C := RX12) (T := TX12) (N := 41) hx hb hB in_X12 hown hK.1 hP q0 he rfl 23 (by decide) (hB _ m_1053) (fun _ h => h) hv hdg kk
theorem gX12_one_6 : (decode cX12_one 112 = .ok (.istore_n 2, 1)) ∧ (decode cX12_one 113 = .ok (.iinc 3 1, 3)) ∧ (decode cX12_one 116 = .ok (.goto (-27), 3)) ∧ (decode cX12_one 119 = .ok (.aload_n 0, 1)) ∧ (decode cX12_one 120 = .ok (.iload_n 2, 1)) ∧ (decode cX12_one 121 = .ok (.ifCond .lt 7, 3)) ∧ (decode cX12_one 124 = .ok (.iconst 1, 1)) ∧ (decode cX12_one 125 = .ok (.goto 4, 3)) ∧ (decode cX12_one 128 = .ok (.iconst 0, 1)) ∧ (decode cX12_one 129 = .ok (.invokevirtual 236, 3)) := by decide +kernel
theorem gX12_one_7 : (decode cX12_one 132 = .ok (.aload_n 0, 1)) ∧ (decode cX12_one 133 = .ok (.bipush 60, 2)) ∧ (decode cX12_one 135 = .ok (.invokevirtual 262, 3)) ∧ (decode cX12_one 138 = .ok (.ifCond .eq 7, 3)) ∧ (decode cX12_one 141 = .ok (.iconst 0, 1)) ∧ (decode cX12_one 142 = .ok (.goto 17, 3)) ∧ (decode cX12_one 145 = .ok (.aload_n 0, 1)) ∧ (decode cX12_one 146 = .ok (.bipush 61, 2)) ∧ (decode cX12_one 148 = .ok (.invokevirtual 262, 3)) ∧ (decode cX12_one 151 = .ok (.ifCond .eq 7, 3)) := by decide +kernel
theorem gX12_one_8 : (decode cX12_one 154 = .ok (.iconst 1, 1)) ∧ (decode cX12_one 155 = .ok (.goto 4, 3)) ∧ (decode cX12_one 158 = .ok (.iconst 2, 1)) ∧ (decode cX12_one 159 = .ok (.istore_n 3, 1)) ∧ (decode cX12_one 160 = .ok (.aload_n 0, 1)) ∧ (decode cX12_one 161 = .ok (.aload_n 0, 1)) ∧ (decode cX12_one 162 = .ok (.bipush 60, 2)) ∧ (decode cX12_one 164 = .ok (.invokevirtual 262, 3)) ∧ (decode cX12_one 167 = .ok (.ifCond .ne 21, 3)) ∧ (decode cX12_one 170 = .ok (.aload_n 0, 1)) := by decide +kernel
theorem gX12_one_9 : (decode cX12_one 171 = .ok (.bipush 61, 2)) ∧ (decode cX12_one 173 = .ok (.invokevirtual 262, 3)) ∧ (decode cX12_one 176 = .ok (.ifCond .ne 12, 3)) ∧ (decode cX12_one 179 = .ok (.aload_n 0, 1)) ∧ (decode cX12_one 180 = .ok (.bipush 62, 2)) ∧ (decode cX12_one 182 = .ok (.invokevirtual 262, 3)) ∧ (decode cX12_one 185 = .ok (.ifCond .eq 7, 3)) ∧ (decode cX12_one 188 = .ok (.iconst 1, 1)) ∧ (decode cX12_one 189 = .ok (.goto 4, 3)) ∧ (decode cX12_one 192 = .ok (.iconst 0, 1)) := by decide +kernel
theorem gX12_one_10 : (decode cX12_one 193 = .ok (.invokevirtual 236, 3)) ∧ (decode cX12_one 196 = .ok (.aload_n 0, 1)) ∧ (decode cX12_one 197 = .ok (.sipush 999, 3)) ∧ (decode cX12_one 200 = .ok (.invokevirtual 271, 3)) ∧ (decode cX12_one 203 = .ok (.istore 4, 2)) ∧ (decode cX12_one 205 = .ok (.aload_n 0, 1)) ∧ (decode cX12_one 206 = .ok (.sipush 3000, 3)) ∧ (decode cX12_one 209 = .ok (.iload_n 2, 1)) ∧ (decode cX12_one 210 = .ok (.imul, 1)) ∧ (decode cX12_one 211 = .ok (.sipush 1000, 3)) := by decide +kernel
theorem m_1261 : Cond.code yX12_number cX12_number 5 (some .int) ∈ BW := iB_BW67 _ (List.mem_of_getElem? (i := 9) rfl)
theorem m_1259 : Cond.methodLink RX12 271 yX12_number ∈ BW := iB_BW67 _ (List.mem_of_getElem? (i := 7) rfl)
theorem m_1260 : Cond.instanceMethod yX12_number ∈ BW := iB_BW67 _ (List.mem_of_getElem? (i := 8) rfl)
theorem m_82 : Cond.selects RX12 yX12_number yX12_number ∈ BW := iB_BW4 _ (List.mem_of_getElem? (i := 2) rfl)
theorem si_X12_271 : SV RX12 RX12 271 yX12_number cX12_number 5 (some .int) 1 := ⟨⟨m_1259, m_1260, m_82, m_115, m_1261⟩, rfl, nK_RX12.1, nK_RX12.2, pd_7⟩
theorem gX12_one_11 : (decode cX12_one 214 = .ok (.iload_n 3, 1)) ∧ (decode cX12_one 215 = .ok (.imul, 1)) ∧ (decode cX12_one 216 = .ok (.iadd, 1)) ∧ (decode cX12_one 217 = .ok (.iload 4, 2)) ∧ (decode cX12_one 219 = .ok (.iadd, 1)) ∧ (decode cX12_one 220 = .ok (.invokevirtual 252, 3)) ∧ (decode cX12_one 223 = .ok (.iconst 0, 1)) ∧ (decode cX12_one 224 = .ok (.istore_n 2, 1)) ∧ (decode cX12_one 225 = .ok (.iload_n 2, 1)) ∧ (decode cX12_one 226 = .ok (.iload_n 1, 1)) := by decide +kernel
theorem m_1276 : Cond.code yX12_codes cX12_codes 2 none ∈ BW := iB_BW68 _ (List.mem_of_getElem? (i := 4) rfl)
theorem m_1274 : Cond.methodLink RX12 252 yX12_codes ∈ BW := iB_BW68 _ (List.mem_of_getElem? (i := 2) rfl)
theorem m_1275 : Cond.instanceMethod yX12_codes ∈ BW := iB_BW68 _ (List.mem_of_getElem? (i := 3) rfl)
theorem m_87 : Cond.selects RX12 yX12_codes yX12_codes ∈ BW := iB_BW4 _ (List.mem_of_getElem? (i := 7) rfl)
theorem si_X12_252 : SV RX12 RX12 252 yX12_codes cX12_codes 2 none 1 := ⟨⟨m_1274, m_1275, m_87, m_115, m_1276⟩, rfl, nK_RX12.1, nK_RX12.2, pd_18⟩
theorem gX12_one_12 : (decode cX12_one 227 = .ok (.if_icmp .ge 16, 3)) ∧ (decode cX12_one 230 = .ok (.aload_n 0, 1)) ∧ (decode cX12_one 231 = .ok (.sipush 30000, 3)) ∧ (decode cX12_one 234 = .ok (.invokevirtual 252, 3)) ∧ (decode cX12_one 237 = .ok (.iinc 2 1, 3)) ∧ (decode cX12_one 240 = .ok (.goto (-15), 3)) ∧ (decode cX12_one 243 = .ok (.return_, 1)) := by decide +kernel
theorem gX12_all_0 : (decode cX12_all 0 = .ok (.aload_n 0, 1)) ∧ (decode cX12_all 1 = .ok (.invokevirtual 255, 3)) ∧ (decode cX12_all 4 = .ok (.aload_n 0, 1)) ∧ (decode cX12_all 5 = .ok (.ldc_w 258, 3)) ∧ (decode cX12_all 8 = .ok (.invokevirtual 248, 3)) ∧ (decode cX12_all 11 = .ok (.ifCond .eq 21, 3)) ∧ (decode cX12_all 14 = .ok (.aload_n 0, 1)) ∧ (decode cX12_all 15 = .ok (.invokevirtual 233, 3)) ∧ (decode cX12_all 18 = .ok (.aload_n 0, 1)) ∧ (decode cX12_all 19 = .ok (.invokevirtual 255, 3)) := by decide +kernel
theorem m_1270 : Cond.code yX12_one cX12_one 5 none ∈ BW := iB_BW67 _ (List.mem_of_getElem? (i := 18) rfl)
theorem m_1268 : Cond.methodLink RX12 255 yX12_one ∈ BW := iB_BW67 _ (List.mem_of_getElem? (i := 16) rfl)
theorem m_1269 : Cond.instanceMethod yX12_one ∈ BW := iB_BW67 _ (List.mem_of_getElem? (i := 17) rfl)
theorem m_85 : Cond.selects RX12 yX12_one yX12_one ∈ BW := iB_BW4 _ (List.mem_of_getElem? (i := 5) rfl)
theorem si_X12_255 : SV RX12 RX12 255 yX12_one cX12_one 5 none 0 := ⟨⟨m_1268, m_1269, m_85, m_115, m_1270⟩, rfl, nK_RX12.1, nK_RX12.2, pd_9⟩
theorem gX12_all_1 : (decode cX12_all 22 = .ok (.aload_n 0, 1)) ∧ (decode cX12_all 23 = .ok (.sipush 30001, 3)) ∧ (decode cX12_all 26 = .ok (.invokevirtual 252, 3)) ∧ (decode cX12_all 29 = .ok (.goto (-25), 3)) ∧ (decode cX12_all 32 = .ok (.return_, 1)) := by decide +kernel
theorem gX12_either_0 : (decode cX12_either 0 = .ok (.aload_n 0, 1)) ∧ (decode cX12_either 1 = .ok (.invokevirtual 243, 3)) ∧ (decode cX12_either 4 = .ok (.aload_n 0, 1)) ∧ (decode cX12_either 5 = .ok (.ldc 246, 2)) ∧ (decode cX12_either 7 = .ok (.invokevirtual 248, 3)) ∧ (decode cX12_either 10 = .ok (.ifCond .eq 21, 3)) ∧ (decode cX12_either 13 = .ok (.aload_n 0, 1)) ∧ (decode cX12_either 14 = .ok (.invokevirtual 233, 3)) ∧ (decode cX12_either 17 = .ok (.aload_n 0, 1)) ∧ (decode cX12_either 18 = .ok (.invokevirtual 243, 3)) := by decide +kernel
theorem m_1267 : Cond.code yX12_all cX12_all 1 none ∈ BW := iB_BW67 _ (List.mem_of_getElem? (i := 15) rfl)
theorem m_1265 : Cond.methodLink RX12 243 yX12_all ∈ BW := iB_BW67 _ (List.mem_of_getElem? (i := 13) rfl)
theorem m_1266 : Cond.instanceMethod yX12_all ∈ BW := iB_BW67 _ (List.mem_of_getElem? (i := 14) rfl)
theorem m_84 : Cond.selects RX12 yX12_all yX12_all ∈ BW := iB_BW4 _ (List.mem_of_getElem? (i := 4) rfl)
theorem si_X12_243 : SV RX12 RX12 243 yX12_all cX12_all 1 none 0 := ⟨⟨m_1265, m_1266, m_84, m_115, m_1267⟩, rfl, nK_RX12.1, nK_RX12.2, pd_9⟩
theorem gX12_either_1 : (decode cX12_either 21 = .ok (.aload_n 0, 1)) ∧ (decode cX12_either 22 = .ok (.sipush 30002, 3)) ∧ (decode cX12_either 25 = .ok (.invokevirtual 252, 3)) ∧ (decode cX12_either 28 = .ok (.goto (-24), 3)) ∧ (decode cX12_either 31 = .ok (.return_, 1)) := by decide +kernel
theorem m_1048 : Cond.fieldLink RX12 265 "InquiryBenchModel" "deep" "I" ∈ BW := iB_BW55 _ (List.mem_of_getElem? (i := 17) rfl)
theorem gf_X12_265 (hC : CX p s m meth c y0 b0 mL0 rt0 args) (hy0 : y0.cls = RX12) (hK : KK G s) (hP : va_P G.1 vwCl ws H) (q0 : Nat) {fs : List Value} {v : Value} (he : ws[q0]? = some (a, .inr (12, fs))) (hv : fs[18]? = some v) (hdg : decode b0 pc = .ok (.getfield 265, 3)) (kk : W p l e R s m args below meth c H locs cells slots Q (F0 m (pc + 3) ls (v :: rest))) : W p l e R s m args below meth c H locs cells slots Q (F0 m pc ls (.ref a :: rest)) := by
  obtain ⟨hx, hb, hr, hml, hB, hown, hlocks, hnm⟩ := hC
  rw [hy0] at hown
  exact va_get (ci := 12) (C := RX12) (T := TX12) (N := 41) hx hb hB in_X12 hown hK.1 hP q0 he rfl 18 (by decide) (hB _ m_1048) (fun _ h => h) hv hdg kk
theorem pf_X12_265 (hC : CX p s m meth c y0 b0 mL0 rt0 args) (hy0 : y0.cls = RX12) (hK : KK G s) (hP : va_P G.1 vwCl ws H) (hD : va_D A ws) (hS : va_S A H0 H locs) (q0 : Nat) {fs : List Value} {v : Value} {ws' : va_W} (he : ws[q0]? = some (a, .inr (12, fs))) (hl : 18 < fs.length) (hws : ws.set q0 (a, .inr (12, fs.set 18 v)) = ws') (hn : narrow .int v = v) (hfit : fits .int v = true) (hdg : decode b0 pc = .ok (.putfield 265, 3)) (kk : ∀ (H1 : Heap) (locs1 : List Loc), va_P G.1 vwCl ws' H1 → va_D A ws' → va_S A H0 H1 locs1 → W p l e R s m args below meth c H1 locs1 cells slots Q (F0 m (pc + 3) ls rest)) : W p l e R s m args below meth c H locs cells slots Q (F0 m pc ls (v :: .ref a :: rest)) := by
  obtain ⟨hx, hb, hr, hml, hB, hown, hlocks, hnm⟩ := hC
  rw [hy0] at hown
  subst hws
  exact va_put (ci := 12) (ty := .int) (C := RX12) (T := TX12) (N := 41) hx hb hB in_X12 tyX12 tyX12_ok nmX12 hown hK.1 hP hD hS q0 he rfl 18 (by decide) (hB _ m_1048) (fun _ h => h) rfl (by decide +kernel) hn hfit hl hdg kk
theorem gX12_one_2 : (decode cX12_one 41 = .ok (.aload_n 0, 1)) ∧ (decode cX12_one 42 = .ok (.aload_n 0, 1)) ∧ (decode cX12_one 43 = .ok (.getfield 265, 3)) ∧ (decode cX12_one 46 = .ok (.iconst 4, 1)) ∧ (decode cX12_one 47 = .ok (.if_icmp .gt 7, 3)) ∧ (decode cX12_one 50 = .ok (.iconst 1, 1)) ∧ (decode cX12_one 51 = .ok (.goto 4, 3)) ∧ (decode cX12_one 54 = .ok (.iconst 0, 1)) ∧ (decode cX12_one 55 = .ok (.invokevirtual 236, 3)) ∧ (decode cX12_one 58 = .ok (.aload_n 0, 1)) := by decide +kernel
theorem gX12_one_3 : (decode cX12_one 59 = .ok (.invokevirtual 268, 3)) ∧ (decode cX12_one 62 = .ok (.aload_n 0, 1)) ∧ (decode cX12_one 63 = .ok (.aload_n 0, 1)) ∧ (decode cX12_one 64 = .ok (.bipush 41, 2)) ∧ (decode cX12_one 66 = .ok (.invokevirtual 262, 3)) ∧ (decode cX12_one 69 = .ok (.invokevirtual 236, 3)) ∧ (decode cX12_one 72 = .ok (.aload_n 0, 1)) ∧ (decode cX12_one 73 = .ok (.dup, 1)) ∧ (decode cX12_one 74 = .ok (.getfield 265, 3)) ∧ (decode cX12_one 77 = .ok (.iconst 1, 1)) := by decide +kernel
theorem m_1264 : Cond.code yX12_either cX12_either 1 none ∈ BW := iB_BW67 _ (List.mem_of_getElem? (i := 12) rfl)
theorem m_1262 : Cond.methodLink RX12 268 yX12_either ∈ BW := iB_BW67 _ (List.mem_of_getElem? (i := 10) rfl)
theorem m_1263 : Cond.instanceMethod yX12_either ∈ BW := iB_BW67 _ (List.mem_of_getElem? (i := 11) rfl)
theorem m_83 : Cond.selects RX12 yX12_either yX12_either ∈ BW := iB_BW4 _ (List.mem_of_getElem? (i := 3) rfl)
theorem si_X12_268 : SV RX12 RX12 268 yX12_either cX12_either 1 none 0 := ⟨⟨m_1262, m_1263, m_83, m_115, m_1264⟩, rfl, nK_RX12.1, nK_RX12.2, pd_9⟩
theorem gX12_lineAt_0 : (decode cX12_lineAt 0 = .ok (.aload_n 0, 1)) ∧ (decode cX12_lineAt 1 = .ok (.ldc_w 274, 3)) ∧ (decode cX12_lineAt 4 = .ok (.invokevirtual 248, 3)) ∧ (decode cX12_lineAt 7 = .ok (.ifCond .eq 7, 3)) ∧ (decode cX12_lineAt 10 = .ok (.iconst 0, 1)) ∧ (decode cX12_lineAt 11 = .ok (.goto 46, 3)) ∧ (decode cX12_lineAt 14 = .ok (.aload_n 0, 1)) ∧ (decode cX12_lineAt 15 = .ok (.ldc_w 276, 3)) ∧ (decode cX12_lineAt 18 = .ok (.invokevirtual 248, 3)) ∧ (decode cX12_lineAt 21 = .ok (.ifCond .eq 7, 3)) := by decide +kernel
theorem gX12_lineAt_2 : (decode cX12_lineAt 46 = .ok (.invokevirtual 248, 3)) ∧ (decode cX12_lineAt 49 = .ok (.ifCond .eq 7, 3)) ∧ (decode cX12_lineAt 52 = .ok (.iconst 3, 1)) ∧ (decode cX12_lineAt 53 = .ok (.goto 4, 3)) ∧ (decode cX12_lineAt 56 = .ok (.iconst (-1), 1)) ∧ (decode cX12_lineAt 57 = .ok (.istore_n 2, 1)) ∧ (decode cX12_lineAt 58 = .ok (.aload_n 0, 1)) ∧ (decode cX12_lineAt 59 = .ok (.iload_n 2, 1)) ∧ (decode cX12_lineAt 60 = .ok (.ifCond .lt 7, 3)) ∧ (decode cX12_lineAt 63 = .ok (.iconst 1, 1)) := by decide +kernel
theorem gX12_lineAt_3 : (decode cX12_lineAt 64 = .ok (.goto 4, 3)) ∧ (decode cX12_lineAt 67 = .ok (.iconst 0, 1)) ∧ (decode cX12_lineAt 68 = .ok (.invokevirtual 236, 3)) ∧ (decode cX12_lineAt 71 = .ok (.aload_n 0, 1)) ∧ (decode cX12_lineAt 72 = .ok (.getfield 32, 3)) ∧ (decode cX12_lineAt 75 = .ok (.iload_n 1, 1)) ∧ (decode cX12_lineAt 76 = .ok (.iload_n 2, 1)) ∧ (decode cX12_lineAt 77 = .ok (.iastore, 1)) ∧ (decode cX12_lineAt 78 = .ok (.aload_n 0, 1)) ∧ (decode cX12_lineAt 79 = .ok (.getfield 32, 3)) := by decide +kernel
theorem m_1051 : Cond.fieldLink RX12 32 "InquiryBenchModel" "line" "[I" ∈ BW := iB_BW56 _ (List.mem_of_getElem? (i := 0) rfl)
theorem gf_X12_32 (hC : CX p s m meth c y0 b0 mL0 rt0 args) (hy0 : y0.cls = RX12) (hK : KK G s) (hP : va_P G.1 vwCl ws H) (q0 : Nat) {fs : List Value} {v : Value} (he : ws[q0]? = some (a, .inr (12, fs))) (hv : fs[21]? = some v) (hdg : decode b0 pc = .ok (.getfield 32, 3)) (kk : W p l e R s m args below meth c H locs cells slots Q (F0 m (pc + 3) ls (v :: rest))) : W p l e R s m args below meth c H locs cells slots Q (F0 m pc ls (.ref a :: rest)) := by
  obtain ⟨hx, hb, hr, hml, hB, hown, hlocks, hnm⟩ := hC
  rw [hy0] at hown
  exact va_get (ci := 12) (C := RX12) (T := TX12) (N := 41) hx hb hB in_X12 hown hK.1 hP q0 he rfl 21 (by decide) (hB _ m_1051) (fun _ h => h) hv hdg kk
theorem gX12_lineAt_4 : (decode cX12_lineAt 82 = .ok (.iload_n 1, 1)) ∧ (decode cX12_lineAt 83 = .ok (.iconst 1, 1)) ∧ (decode cX12_lineAt 84 = .ok (.iadd, 1)) ∧ (decode cX12_lineAt 85 = .ok (.aload_n 0, 1)) ∧ (decode cX12_lineAt 86 = .ok (.iload_n 2, 1)) ∧ (decode cX12_lineAt 87 = .ok (.ifCond .eq 8, 3)) ∧ (decode cX12_lineAt 90 = .ok (.iload_n 2, 1)) ∧ (decode cX12_lineAt 91 = .ok (.iconst 1, 1)) ∧ (decode cX12_lineAt 92 = .ok (.if_icmp .ne 8, 3)) ∧ (decode cX12_lineAt 95 = .ok (.bipush 99, 2)) := by decide +kernel
theorem gX12_lineAt_5 : (decode cX12_lineAt 97 = .ok (.goto 15, 3)) ∧ (decode cX12_lineAt 100 = .ok (.iload_n 2, 1)) ∧ (decode cX12_lineAt 101 = .ok (.iconst 2, 1)) ∧ (decode cX12_lineAt 102 = .ok (.if_icmp .ne 8, 3)) ∧ (decode cX12_lineAt 105 = .ok (.bipush 7, 2)) ∧ (decode cX12_lineAt 107 = .ok (.goto 5, 3)) ∧ (decode cX12_lineAt 110 = .ok (.bipush 9, 2)) ∧ (decode cX12_lineAt 112 = .ok (.invokevirtual 271, 3)) ∧ (decode cX12_lineAt 115 = .ok (.iastore, 1)) ∧ (decode cX12_lineAt 116 = .ok (.aload_n 0, 1)) := by decide +kernel
theorem gX12_lineAt_6 : (decode cX12_lineAt 117 = .ok (.getfield 32, 3)) ∧ (decode cX12_lineAt 120 = .ok (.iload_n 1, 1)) ∧ (decode cX12_lineAt 121 = .ok (.iconst 2, 1)) ∧ (decode cX12_lineAt 122 = .ok (.iadd, 1)) ∧ (decode cX12_lineAt 123 = .ok (.bipush (-9), 2)) ∧ (decode cX12_lineAt 125 = .ok (.iastore, 1)) ∧ (decode cX12_lineAt 126 = .ok (.aload_n 0, 1)) ∧ (decode cX12_lineAt 127 = .ok (.getfield 32, 3)) ∧ (decode cX12_lineAt 130 = .ok (.iload_n 1, 1)) ∧ (decode cX12_lineAt 131 = .ok (.iconst 3, 1)) := by decide +kernel
theorem gX12_lineAt_7 : (decode cX12_lineAt 132 = .ok (.iadd, 1)) ∧ (decode cX12_lineAt 133 = .ok (.bipush (-9), 2)) ∧ (decode cX12_lineAt 135 = .ok (.iastore, 1)) ∧ (decode cX12_lineAt 136 = .ok (.iload_n 2, 1)) ∧ (decode cX12_lineAt 137 = .ok (.ifCond .ne 53, 3)) ∧ (decode cX12_lineAt 140 = .ok (.aload_n 0, 1)) ∧ (decode cX12_lineAt 141 = .ok (.aload_n 0, 1)) ∧ (decode cX12_lineAt 142 = .ok (.ldc_w 282, 3)) ∧ (decode cX12_lineAt 145 = .ok (.invokevirtual 248, 3)) ∧ (decode cX12_lineAt 148 = .ok (.invokevirtual 236, 3)) := by decide +kernel
theorem gX12_lineAt_8 : (decode cX12_lineAt 151 = .ok (.aload_n 0, 1)) ∧ (decode cX12_lineAt 152 = .ok (.getfield 32, 3)) ∧ (decode cX12_lineAt 155 = .ok (.iload_n 1, 1)) ∧ (decode cX12_lineAt 156 = .ok (.iconst 2, 1)) ∧ (decode cX12_lineAt 157 = .ok (.iadd, 1)) ∧ (decode cX12_lineAt 158 = .ok (.aload_n 0, 1)) ∧ (decode cX12_lineAt 159 = .ok (.bipush 7, 2)) ∧ (decode cX12_lineAt 161 = .ok (.invokevirtual 271, 3)) ∧ (decode cX12_lineAt 164 = .ok (.iastore, 1)) ∧ (decode cX12_lineAt 165 = .ok (.aload_n 0, 1)) := by decide +kernel
theorem gX12_lineAt_9 : (decode cX12_lineAt 166 = .ok (.aload_n 0, 1)) ∧ (decode cX12_lineAt 167 = .ok (.ldc_w 284, 3)) ∧ (decode cX12_lineAt 170 = .ok (.invokevirtual 248, 3)) ∧ (decode cX12_lineAt 173 = .ok (.invokevirtual 236, 3)) ∧ (decode cX12_lineAt 176 = .ok (.aload_n 0, 1)) ∧ (decode cX12_lineAt 177 = .ok (.getfield 32, 3)) ∧ (decode cX12_lineAt 180 = .ok (.iload_n 1, 1)) ∧ (decode cX12_lineAt 181 = .ok (.iconst 3, 1)) ∧ (decode cX12_lineAt 182 = .ok (.iadd, 1)) ∧ (decode cX12_lineAt 183 = .ok (.aload_n 0, 1)) := by decide +kernel
theorem gX12_lineAt_10 : (decode cX12_lineAt 184 = .ok (.bipush 7, 2)) ∧ (decode cX12_lineAt 186 = .ok (.invokevirtual 271, 3)) ∧ (decode cX12_lineAt 189 = .ok (.iastore, 1)) ∧ (decode cX12_lineAt 190 = .ok (.iload_n 2, 1)) ∧ (decode cX12_lineAt 191 = .ok (.iconst 2, 1)) ∧ (decode cX12_lineAt 192 = .ok (.if_icmp .ne 29, 3)) ∧ (decode cX12_lineAt 195 = .ok (.aload_n 0, 1)) ∧ (decode cX12_lineAt 196 = .ok (.aload_n 0, 1)) ∧ (decode cX12_lineAt 197 = .ok (.ldc_w 285, 3)) ∧ (decode cX12_lineAt 200 = .ok (.invokevirtual 248, 3)) := by decide +kernel
theorem gX12_lineAt_12 : (decode cX12_lineAt 221 = .ok (.aload_n 0, 1)) ∧ (decode cX12_lineAt 222 = .ok (.getfield 32, 3)) ∧ (decode cX12_lineAt 225 = .ok (.iload_n 1, 1)) ∧ (decode cX12_lineAt 226 = .ok (.iconst 4, 1)) ∧ (decode cX12_lineAt 227 = .ok (.iadd, 1)) ∧ (decode cX12_lineAt 228 = .ok (.aload_n 0, 1)) ∧ (decode cX12_lineAt 229 = .ok (.getfield 240, 3)) ∧ (decode cX12_lineAt 232 = .ok (.iastore, 1)) ∧ (decode cX12_lineAt 233 = .ok (.iload_n 2, 1)) ∧ (decode cX12_lineAt 234 = .ok (.iconst 3, 1)) := by decide +kernel
theorem gX12_lineAt_13 : (decode cX12_lineAt 235 = .ok (.if_icmp .eq 21, 3)) ∧ (decode cX12_lineAt 238 = .ok (.aload_n 0, 1)) ∧ (decode cX12_lineAt 239 = .ok (.ldc_w 287, 3)) ∧ (decode cX12_lineAt 242 = .ok (.invokevirtual 248, 3)) ∧ (decode cX12_lineAt 245 = .ok (.ifCond .eq 11, 3)) ∧ (decode cX12_lineAt 248 = .ok (.aload_n 0, 1)) ∧ (decode cX12_lineAt 249 = .ok (.invokevirtual 233, 3)) ∧ (decode cX12_lineAt 252 = .ok (.aload_n 0, 1)) ∧ (decode cX12_lineAt 253 = .ok (.invokevirtual 268, 3)) ∧ (decode cX12_lineAt 256 = .ok (.aload_n 0, 1)) := by decide +kernel
theorem gX12_lineAt_14 : (decode cX12_lineAt 257 = .ok (.getfield 32, 3)) ∧ (decode cX12_lineAt 260 = .ok (.iload_n 1, 1)) ∧ (decode cX12_lineAt 261 = .ok (.iconst 5, 1)) ∧ (decode cX12_lineAt 262 = .ok (.iadd, 1)) ∧ (decode cX12_lineAt 263 = .ok (.aload_n 0, 1)) ∧ (decode cX12_lineAt 264 = .ok (.getfield 240, 3)) ∧ (decode cX12_lineAt 267 = .ok (.iastore, 1)) ∧ (decode cX12_lineAt 268 = .ok (.aload_n 0, 1)) ∧ (decode cX12_lineAt 269 = .ok (.aload_n 0, 1)) ∧ (decode cX12_lineAt 270 = .ok (.bipush 59, 2)) := by decide +kernel
theorem gX12_lineAt_15 : (decode cX12_lineAt 272 = .ok (.invokevirtual 262, 3)) ∧ (decode cX12_lineAt 275 = .ok (.invokevirtual 236, 3)) ∧ (decode cX12_lineAt 278 = .ok (.return_, 1)) := by decide +kernel
theorem gX12_lineAt_1 : (decode cX12_lineAt 24 = .ok (.iconst 1, 1)) ∧ (decode cX12_lineAt 25 = .ok (.goto 32, 3)) ∧ (decode cX12_lineAt 28 = .ok (.aload_n 0, 1)) ∧ (decode cX12_lineAt 29 = .ok (.ldc_w 278, 3)) ∧ (decode cX12_lineAt 32 = .ok (.invokevirtual 248, 3)) ∧ (decode cX12_lineAt 35 = .ok (.ifCond .eq 7, 3)) ∧ (decode cX12_lineAt 38 = .ok (.iconst 2, 1)) ∧ (decode cX12_lineAt 39 = .ok (.goto 18, 3)) ∧ (decode cX12_lineAt 42 = .ok (.aload_n 0, 1)) ∧ (decode cX12_lineAt 43 = .ok (.ldc_w 280, 3)) := by decide +kernel
theorem gX12_lineAt_11 : (decode cX12_lineAt 203 = .ok (.invokevirtual 236, 3)) ∧ (decode cX12_lineAt 206 = .ok (.aload_n 0, 1)) ∧ (decode cX12_lineAt 207 = .ok (.getfield 32, 3)) ∧ (decode cX12_lineAt 210 = .ok (.iload_n 1, 1)) ∧ (decode cX12_lineAt 211 = .ok (.iconst 2, 1)) ∧ (decode cX12_lineAt 212 = .ok (.iadd, 1)) ∧ (decode cX12_lineAt 213 = .ok (.aload_n 0, 1)) ∧ (decode cX12_lineAt 214 = .ok (.sipush 999, 3)) ∧ (decode cX12_lineAt 217 = .ok (.invokevirtual 271, 3)) ∧ (decode cX12_lineAt 220 = .ok (.iastore, 1)) := by decide +kernel
theorem gX12_read_0 : (decode cX12_read 0 = .ok (.aload_n 0, 1)) ∧ (decode cX12_read 1 = .ok (.iconst 0, 1)) ∧ (decode cX12_read 2 = .ok (.putfield 211, 3)) ∧ (decode cX12_read 5 = .ok (.aload_n 0, 1)) ∧ (decode cX12_read 6 = .ok (.iconst 0, 1)) ∧ (decode cX12_read 7 = .ok (.putfield 222, 3)) ∧ (decode cX12_read 10 = .ok (.aload_n 0, 1)) ∧ (decode cX12_read 11 = .ok (.iconst 0, 1)) ∧ (decode cX12_read 12 = .ok (.putfield 265, 3)) ∧ (decode cX12_read 15 = .ok (.aload_n 0, 1)) := by decide +kernel
theorem gX12_read_1 : (decode cX12_read 16 = .ok (.iconst 0, 1)) ∧ (decode cX12_read 17 = .ok (.putfield 240, 3)) ∧ (decode cX12_read 20 = .ok (.aload_n 0, 1)) ∧ (decode cX12_read 21 = .ok (.iconst 0, 1)) ∧ (decode cX12_read 22 = .ok (.putfield 289, 3)) ∧ (decode cX12_read 25 = .ok (.aload_n 0, 1)) ∧ (decode cX12_read 26 = .ok (.invokevirtual 233, 3)) ∧ (decode cX12_read 29 = .ok (.aload_n 0, 1)) ∧ (decode cX12_read 30 = .ok (.getfield 222, 3)) ∧ (decode cX12_read 33 = .ok (.ifCond .ne 59, 3)) := by decide +kernel
theorem m_1050 : Cond.fieldLink RX12 289 "InquiryBenchModel" "lines" "I" ∈ BW := iB_BW55 _ (List.mem_of_getElem? (i := 19) rfl)
theorem pf_X12_289 (hC : CX p s m meth c y0 b0 mL0 rt0 args) (hy0 : y0.cls = RX12) (hK : KK G s) (hP : va_P G.1 vwCl ws H) (hD : va_D A ws) (hS : va_S A H0 H locs) (q0 : Nat) {fs : List Value} {v : Value} {ws' : va_W} (he : ws[q0]? = some (a, .inr (12, fs))) (hl : 20 < fs.length) (hws : ws.set q0 (a, .inr (12, fs.set 20 v)) = ws') (hn : narrow .int v = v) (hfit : fits .int v = true) (hdg : decode b0 pc = .ok (.putfield 289, 3)) (kk : ∀ (H1 : Heap) (locs1 : List Loc), va_P G.1 vwCl ws' H1 → va_D A ws' → va_S A H0 H1 locs1 → W p l e R s m args below meth c H1 locs1 cells slots Q (F0 m (pc + 3) ls rest)) : W p l e R s m args below meth c H locs cells slots Q (F0 m pc ls (v :: .ref a :: rest)) := by
  obtain ⟨hx, hb, hr, hml, hB, hown, hlocks, hnm⟩ := hC
  rw [hy0] at hown
  subst hws
  exact va_put (ci := 12) (ty := .int) (C := RX12) (T := TX12) (N := 41) hx hb hB in_X12 tyX12 tyX12_ok nmX12 hown hK.1 hP hD hS q0 he rfl 20 (by decide) (hB _ m_1050) (fun _ h => h) rfl (by decide +kernel) hn hfit hl hdg kk
theorem gX12_read_4 : (decode cX12_read 76 = .ok (.invokevirtual 292, 3)) ∧ (decode cX12_read 79 = .ok (.aload_n 0, 1)) ∧ (decode cX12_read 80 = .ok (.dup, 1)) ∧ (decode cX12_read 81 = .ok (.getfield 289, 3)) ∧ (decode cX12_read 84 = .ok (.iconst 1, 1)) ∧ (decode cX12_read 85 = .ok (.iadd, 1)) ∧ (decode cX12_read 86 = .ok (.putfield 289, 3)) ∧ (decode cX12_read 89 = .ok (.goto (-60), 3)) ∧ (decode cX12_read 92 = .ok (.aload_n 0, 1)) ∧ (decode cX12_read 93 = .ok (.getfield 214, 3)) := by decide +kernel
theorem gX12_read_5 : (decode cX12_read 96 = .ok (.istore_n 1, 1)) ∧ (decode cX12_read 97 = .ok (.aload_n 0, 1)) ∧ (decode cX12_read 98 = .ok (.iconst 0, 1)) ∧ (decode cX12_read 99 = .ok (.putfield 206, 3)) ∧ (decode cX12_read 102 = .ok (.aload_n 0, 1)) ∧ (decode cX12_read 103 = .ok (.getfield 222, 3)) ∧ (decode cX12_read 106 = .ok (.ifCond .eq 8, 3)) ∧ (decode cX12_read 109 = .ok (.bipush (-100), 2)) ∧ (decode cX12_read 111 = .ok (.iload_n 1, 1)) ∧ (decode cX12_read 112 = .ok (.isub, 1)) := by decide +kernel
theorem gX12_read_6 : (decode cX12_read 113 = .ok (.ireturn, 1)) ∧ (decode cX12_read 114 = .ok (.aload_n 0, 1)) ∧ (decode cX12_read 115 = .ok (.getfield 9, 3)) ∧ (decode cX12_read 118 = .ok (.bipush 7, 2)) ∧ (decode cX12_read 120 = .ok (.iaload, 1)) ∧ (decode cX12_read 121 = .ok (.istore_n 2, 1)) ∧ (decode cX12_read 122 = .ok (.iload_n 2, 1)) ∧ (decode cX12_read 123 = .ok (.bipush 8, 2)) ∧ (decode cX12_read 125 = .ok (.if_icmp .ne 6, 3)) ∧ (decode cX12_read 128 = .ok (.bipush (-2), 2)) := by decide +kernel
theorem gX12_read_2 : (decode cX12_read 36 = .ok (.aload_n 0, 1)) ∧ (decode cX12_read 37 = .ok (.getfield 217, 3)) ∧ (decode cX12_read 40 = .ok (.ifCond .eq 52, 3)) ∧ (decode cX12_read 43 = .ok (.aload_n 0, 1)) ∧ (decode cX12_read 44 = .ok (.aload_n 0, 1)) ∧ (decode cX12_read 45 = .ok (.getfield 289, 3)) ∧ (decode cX12_read 48 = .ok (.bipush 9, 2)) ∧ (decode cX12_read 50 = .ok (.if_icmp .ne 7, 3)) ∧ (decode cX12_read 53 = .ok (.iconst 1, 1)) ∧ (decode cX12_read 54 = .ok (.goto 4, 3)) := by decide +kernel
theorem gX12_read_7 : (decode cX12_read 130 = .ok (.ireturn, 1)) ∧ (decode cX12_read 131 = .ok (.sipush 176, 3)) ∧ (decode cX12_read 134 = .ok (.sipush 156, 3)) ∧ (decode cX12_read 137 = .ok (.iload_n 2, 1)) ∧ (decode cX12_read 138 = .ok (.imul, 1)) ∧ (decode cX12_read 139 = .ok (.iadd, 1)) ∧ (decode cX12_read 140 = .ok (.istore_n 3, 1)) ∧ (decode cX12_read 141 = .ok (.aload_n 0, 1)) ∧ (decode cX12_read 142 = .ok (.getfield 9, 3)) ∧ (decode cX12_read 145 = .ok (.iload_n 3, 1)) := by decide +kernel
theorem gX12_read_8 : (decode cX12_read 146 = .ok (.iconst 0, 1)) ∧ (decode cX12_read 147 = .ok (.iadd, 1)) ∧ (decode cX12_read 148 = .ok (.aload_n 0, 1)) ∧ (decode cX12_read 149 = .ok (.getfield 9, 3)) ∧ (decode cX12_read 152 = .ok (.iconst 0, 1)) ∧ (decode cX12_read 153 = .ok (.iaload, 1)) ∧ (decode cX12_read 154 = .ok (.iastore, 1)) ∧ (decode cX12_read 155 = .ok (.aload_n 0, 1)) ∧ (decode cX12_read 156 = .ok (.getfield 9, 3)) ∧ (decode cX12_read 159 = .ok (.iload_n 3, 1)) := by decide +kernel
theorem gX12_read_9 : (decode cX12_read 160 = .ok (.iconst 1, 1)) ∧ (decode cX12_read 161 = .ok (.iadd, 1)) ∧ (decode cX12_read 162 = .ok (.aload_n 0, 1)) ∧ (decode cX12_read 163 = .ok (.getfield 289, 3)) ∧ (decode cX12_read 166 = .ok (.iastore, 1)) ∧ (decode cX12_read 167 = .ok (.iconst 0, 1)) ∧ (decode cX12_read 168 = .ok (.istore 4, 2)) ∧ (decode cX12_read 170 = .ok (.iload 4, 2)) ∧ (decode cX12_read 172 = .ok (.bipush 54, 2)) ∧ (decode cX12_read 174 = .ok (.if_icmp .ge 27, 3)) := by decide +kernel
theorem gf_X12_289 (hC : CX p s m meth c y0 b0 mL0 rt0 args) (hy0 : y0.cls = RX12) (hK : KK G s) (hP : va_P G.1 vwCl ws H) (q0 : Nat) {fs : List Value} {v : Value} (he : ws[q0]? = some (a, .inr (12, fs))) (hv : fs[20]? = some v) (hdg : decode b0 pc = .ok (.getfield 289, 3)) (kk : W p l e R s m args below meth c H locs cells slots Q (F0 m (pc + 3) ls (v :: rest))) : W p l e R s m args below meth c H locs cells slots Q (F0 m pc ls (.ref a :: rest)) := by
  obtain ⟨hx, hb, hr, hml, hB, hown, hlocks, hnm⟩ := hC
  rw [hy0] at hown
  exact va_get (ci := 12) (C := RX12) (T := TX12) (N := 41) hx hb hB in_X12 hown hK.1 hP q0 he rfl 20 (by decide) (hB _ m_1050) (fun _ h => h) hv hdg kk
theorem gX12_read_11 : (decode cX12_read 193 = .ok (.iaload, 1)) ∧ (decode cX12_read 194 = .ok (.iastore, 1)) ∧ (decode cX12_read 195 = .ok (.iinc 4 1, 3)) ∧ (decode cX12_read 198 = .ok (.goto (-28), 3)) ∧ (decode cX12_read 201 = .ok (.iconst 0, 1)) ∧ (decode cX12_read 202 = .ok (.istore 4, 2)) ∧ (decode cX12_read 204 = .ok (.iload 4, 2)) ∧ (decode cX12_read 206 = .ok (.aload_n 0, 1)) ∧ (decode cX12_read 207 = .ok (.getfield 240, 3)) ∧ (decode cX12_read 210 = .ok (.if_icmp .ge 28, 3)) := by decide +kernel
theorem gX12_read_13 : (decode cX12_read 230 = .ok (.iaload, 1)) ∧ (decode cX12_read 231 = .ok (.iastore, 1)) ∧ (decode cX12_read 232 = .ok (.iinc 4 1, 3)) ∧ (decode cX12_read 235 = .ok (.goto (-31), 3)) ∧ (decode cX12_read 238 = .ok (.aload_n 0, 1)) ∧ (decode cX12_read 239 = .ok (.getfield 9, 3)) ∧ (decode cX12_read 242 = .ok (.bipush 7, 2)) ∧ (decode cX12_read 244 = .ok (.dup2, 1)) ∧ (decode cX12_read 245 = .ok (.iaload, 1)) ∧ (decode cX12_read 246 = .ok (.iconst 1, 1)) := by decide +kernel
theorem gX12_read_14 : (decode cX12_read 247 = .ok (.iadd, 1)) ∧ (decode cX12_read 248 = .ok (.iastore, 1)) ∧ (decode cX12_read 249 = .ok (.iload_n 2, 1)) ∧ (decode cX12_read 250 = .ok (.ireturn, 1)) := by decide +kernel
theorem gX12_read_12 : (decode cX12_read 213 = .ok (.aload_n 0, 1)) ∧ (decode cX12_read 214 = .ok (.getfield 9, 3)) ∧ (decode cX12_read 217 = .ok (.iload_n 3, 1)) ∧ (decode cX12_read 218 = .ok (.bipush 56, 2)) ∧ (decode cX12_read 220 = .ok (.iadd, 1)) ∧ (decode cX12_read 221 = .ok (.iload 4, 2)) ∧ (decode cX12_read 223 = .ok (.iadd, 1)) ∧ (decode cX12_read 224 = .ok (.aload_n 0, 1)) ∧ (decode cX12_read 225 = .ok (.getfield 35, 3)) ∧ (decode cX12_read 228 = .ok (.iload 4, 2)) := by decide +kernel
theorem gX12_read_10 : (decode cX12_read 177 = .ok (.aload_n 0, 1)) ∧ (decode cX12_read 178 = .ok (.getfield 9, 3)) ∧ (decode cX12_read 181 = .ok (.iload_n 3, 1)) ∧ (decode cX12_read 182 = .ok (.iconst 2, 1)) ∧ (decode cX12_read 183 = .ok (.iadd, 1)) ∧ (decode cX12_read 184 = .ok (.iload 4, 2)) ∧ (decode cX12_read 186 = .ok (.iadd, 1)) ∧ (decode cX12_read 187 = .ok (.aload_n 0, 1)) ∧ (decode cX12_read 188 = .ok (.getfield 32, 3)) ∧ (decode cX12_read 191 = .ok (.iload 4, 2)) := by decide +kernel
theorem gX12_read_3 : (decode cX12_read 57 = .ok (.iconst 0, 1)) ∧ (decode cX12_read 58 = .ok (.putfield 222, 3)) ∧ (decode cX12_read 61 = .ok (.aload_n 0, 1)) ∧ (decode cX12_read 62 = .ok (.getfield 222, 3)) ∧ (decode cX12_read 65 = .ok (.ifCond .ne (-36), 3)) ∧ (decode cX12_read 68 = .ok (.aload_n 0, 1)) ∧ (decode cX12_read 69 = .ok (.bipush 6, 2)) ∧ (decode cX12_read 71 = .ok (.aload_n 0, 1)) ∧ (decode cX12_read 72 = .ok (.getfield 289, 3)) ∧ (decode cX12_read 75 = .ok (.imul, 1)) := by decide +kernel
theorem m_1250 : Cond.code yX12_lineAt cX12_lineAt 3 none ∈ BW := iB_BW66 _ (List.mem_of_getElem? (i := 18) rfl)
theorem m_1248 : Cond.methodLink RX12 292 yX12_lineAt ∈ BW := iB_BW66 _ (List.mem_of_getElem? (i := 16) rfl)
theorem m_1249 : Cond.instanceMethod yX12_lineAt ∈ BW := iB_BW66 _ (List.mem_of_getElem? (i := 17) rfl)
theorem m_79 : Cond.selects RX12 yX12_lineAt yX12_lineAt ∈ BW := iB_BW3 _ (List.mem_of_getElem? (i := 19) rfl)
theorem si_X12_292 : SV RX12 RX12 292 yX12_lineAt cX12_lineAt 3 none 1 := ⟨⟨m_1248, m_1249, m_79, m_115, m_1250⟩, rfl, nK_RX12.1, nK_RX12.2, pd_18⟩
end WR
theorem rm_7_4_2 {mc ms : Nat} : 4 + 1 ≤ (RM 7 mc ms).frames ∧ 8 + (2 + 11) + 40 * 4 ≤ (RM 7 mc ms).locals := ⟨by show 4 + 1 ≤ 7; decide, by show 8 + (2 + 11) + 40 * 4 ≤ 40 * 7; decide⟩
theorem dj_1__0 : ∀ i ∈ ([0] : List Nat), i ∉ ([1] : List Nat) := by decide
theorem rm_9_8_1 {mc ms : Nat} : 8 + 1 ≤ (RM 9 mc ms).frames ∧ 8 + (1 + 11) + 40 * 8 ≤ (RM 9 mc ms).locals := ⟨by show 8 + 1 ≤ 9; decide, by show 8 + (1 + 11) + 40 * 8 ≤ 40 * 9; decide⟩
theorem rm_9_5_4 {mc ms : Nat} : 5 + 1 ≤ (RM 9 mc ms).frames ∧ 8 + (4 + 11) + 40 * 5 ≤ (RM 9 mc ms).locals := ⟨by show 5 + 1 ≤ 9; decide, by show 8 + (4 + 11) + 40 * 5 ≤ 40 * 9; decide⟩
theorem dj_3__0_1_2 : ∀ i ∈ ([0, 1, 2] : List Nat), i ∉ ([3] : List Nat) := by decide
theorem sm_2_0 {a0 a1 a2 : Nat × va_E} {l : va_W} : ([2, 0] : List Nat).map (fun i => (a0 :: a1 :: a2 :: l : va_W)[i]?) = ([a2, a0] : va_W).map some := rfl
theorem fm_2_0 {a0 a1 a2 : Nat × va_E} {l : va_W} : ([2, 0] : List Nat).filterMap (fun i => (a0 :: a1 :: a2 :: l : va_W)[i]?) = ([a2, a0] : va_W) := rfl
theorem nd_2_0 : va_nd [2, 0] = true := by decide
theorem dj_2_0__1_3 : ∀ i ∈ ([1, 3] : List Nat), i ∉ ([2, 0] : List Nat) := by decide
theorem fm_3_0_2_1 {a0 a1 a2 a3 : Nat × va_E} {l : va_W} : ([3, 0, 2, 1] : List Nat).filterMap (fun i => (a0 :: a1 :: a2 :: a3 :: l : va_W)[i]?) = ([a3, a0, a2, a1] : va_W) := rfl
theorem nd_3_0_2_1 : va_nd [3, 0, 2, 1] = true := by decide
theorem sm_3_0_2_1 {a0 a1 a2 a3 : Nat × va_E} {l : va_W} : ([3, 0, 2, 1] : List Nat).map (fun i => (a0 :: a1 :: a2 :: a3 :: l : va_W)[i]?) = ([a3, a0, a2, a1] : va_W).map some := rfl
theorem dj_0_2__1_3 : ∀ i ∈ ([1, 3] : List Nat), i ∉ ([0, 2] : List Nat) := by decide
theorem fm_2_0_3_1 {a0 a1 a2 a3 : Nat × va_E} {l : va_W} : ([2, 0, 3, 1] : List Nat).filterMap (fun i => (a0 :: a1 :: a2 :: a3 :: l : va_W)[i]?) = ([a2, a0, a3, a1] : va_W) := rfl
theorem nd_2_0_3_1 : va_nd [2, 0, 3, 1] = true := by decide
theorem sm_2_0_3_1 {a0 a1 a2 a3 : Nat × va_E} {l : va_W} : ([2, 0, 3, 1] : List Nat).map (fun i => (a0 :: a1 :: a2 :: a3 :: l : va_W)[i]?) = ([a2, a0, a3, a1] : va_W).map some := rfl
theorem rm_32_5_4 {mc ms : Nat} : 5 + 1 ≤ (RM 32 mc ms).frames ∧ 8 + (4 + 11) + 40 * 5 ≤ (RM 32 mc ms).locals := ⟨by show 5 + 1 ≤ 32; decide, by show 8 + (4 + 11) + 40 * 5 ≤ 40 * 32; decide⟩
theorem rm_32_4_2 {mc ms : Nat} : 4 + 1 ≤ (RM 32 mc ms).frames ∧ 8 + (2 + 11) + 40 * 4 ≤ (RM 32 mc ms).locals := ⟨by show 4 + 1 ≤ 32; decide, by show 8 + (2 + 11) + 40 * 4 ≤ 40 * 32; decide⟩
theorem rm_32_5_5 {mc ms : Nat} : 5 + 1 ≤ (RM 32 mc ms).frames ∧ 8 + (5 + 11) + 40 * 5 ≤ (RM 32 mc ms).locals := ⟨by show 5 + 1 ≤ 32; decide, by show 8 + (5 + 11) + 40 * 5 ≤ 40 * 32; decide⟩
theorem sm_0_1_2_4 {a0 a1 a2 a3 a4 : Nat × va_E} {l : va_W} : ([0, 1, 2, 4] : List Nat).map (fun i => (a0 :: a1 :: a2 :: a3 :: a4 :: l : va_W)[i]?) = ([a0, a1, a2, a4] : va_W).map some := rfl
theorem nd_0_1_2_4 : va_nd [0, 1, 2, 4] = true := by decide
theorem dj_3__0_1_2_4 : ∀ i ∈ ([0, 1, 2, 4] : List Nat), i ∉ ([3] : List Nat) := by decide
theorem dj_4__0_1_2_3 : ∀ i ∈ ([0, 1, 2, 3] : List Nat), i ∉ ([4] : List Nat) := by decide
theorem rm_32_3_1 {mc ms : Nat} : 3 + 1 ≤ (RM 32 mc ms).frames ∧ 8 + (1 + 11) + 40 * 3 ≤ (RM 32 mc ms).locals := ⟨by show 3 + 1 ≤ 32; decide, by show 8 + (1 + 11) + 40 * 3 ≤ 40 * 32; decide⟩
theorem sm_3_4_0_2 {a0 a1 a2 a3 a4 : Nat × va_E} {l : va_W} : ([3, 4, 0, 2] : List Nat).map (fun i => (a0 :: a1 :: a2 :: a3 :: a4 :: l : va_W)[i]?) = ([a3, a4, a0, a2] : va_W).map some := rfl
theorem fm_3_4_0_2 {a0 a1 a2 a3 a4 : Nat × va_E} {l : va_W} : ([3, 4, 0, 2] : List Nat).filterMap (fun i => (a0 :: a1 :: a2 :: a3 :: a4 :: l : va_W)[i]?) = ([a3, a4, a0, a2] : va_W) := rfl
theorem nd_3_4_0_2 : va_nd [3, 4, 0, 2] = true := by decide
theorem dj_3_4_0_2__1 : ∀ i ∈ ([1] : List Nat), i ∉ ([3, 4, 0, 2] : List Nat) := by decide
theorem dj_1__0_2_3_4 : ∀ i ∈ ([0, 2, 3, 4] : List Nat), i ∉ ([1] : List Nat) := by decide
theorem sm_0_3_4 {a0 a1 a2 a3 a4 : Nat × va_E} {l : va_W} : ([0, 3, 4] : List Nat).map (fun i => (a0 :: a1 :: a2 :: a3 :: a4 :: l : va_W)[i]?) = ([a0, a3, a4] : va_W).map some := rfl
theorem nd_0_3_4 : va_nd [0, 3, 4] = true := by decide
theorem dj_1_2__0_3_4 : ∀ i ∈ ([0, 3, 4] : List Nat), i ∉ ([1, 2] : List Nat) := by decide
theorem dj_0__1_2_3_4 : ∀ i ∈ ([1, 2, 3, 4] : List Nat), i ∉ ([0] : List Nat) := by decide
theorem rm_33_3_1 {mc ms : Nat} : 3 + 1 ≤ (RM 33 mc ms).frames ∧ 8 + (1 + 11) + 40 * 3 ≤ (RM 33 mc ms).locals := ⟨by show 3 + 1 ≤ 33; decide, by show 8 + (1 + 11) + 40 * 3 ≤ 40 * 33; decide⟩
theorem sm_1_3_4_5 {a0 a1 a2 a3 a4 a5 : Nat × va_E} {l : va_W} : ([1, 3, 4, 5] : List Nat).map (fun i => (a0 :: a1 :: a2 :: a3 :: a4 :: a5 :: l : va_W)[i]?) = ([a1, a3, a4, a5] : va_W).map some := rfl
theorem nd_1_3_4_5 : va_nd [1, 3, 4, 5] = true := by decide
theorem dj_0_2__1_3_4_5 : ∀ i ∈ ([1, 3, 4, 5] : List Nat), i ∉ ([0, 2] : List Nat) := by decide
theorem rm_33_32_3 {mc ms : Nat} : 32 + 1 ≤ (RM 33 mc ms).frames ∧ 8 + (3 + 11) + 40 * 32 ≤ (RM 33 mc ms).locals := ⟨by show 32 + 1 ≤ 33; decide, by show 8 + (3 + 11) + 40 * 32 ≤ 40 * 33; decide⟩
theorem sm_4_5_1_2_3 {a0 a1 a2 a3 a4 a5 : Nat × va_E} {l : va_W} : ([4, 5, 1, 2, 3] : List Nat).map (fun i => (a0 :: a1 :: a2 :: a3 :: a4 :: a5 :: l : va_W)[i]?) = ([a4, a5, a1, a2, a3] : va_W).map some := rfl
theorem fm_4_5_1_2_3 {a0 a1 a2 a3 a4 a5 : Nat × va_E} {l : va_W} : ([4, 5, 1, 2, 3] : List Nat).filterMap (fun i => (a0 :: a1 :: a2 :: a3 :: a4 :: a5 :: l : va_W)[i]?) = ([a4, a5, a1, a2, a3] : va_W) := rfl
theorem nd_4_5_1_2_3 : va_nd [4, 5, 1, 2, 3] = true := by decide
theorem dj_4_5_1_2_3__0 : ∀ i ∈ ([0] : List Nat), i ∉ ([4, 5, 1, 2, 3] : List Nat) := by decide
theorem fm_0_3_4_5_1_2 {a0 a1 a2 a3 a4 a5 : Nat × va_E} {l : va_W} : ([0, 3, 4, 5, 1, 2] : List Nat).filterMap (fun i => (a0 :: a1 :: a2 :: a3 :: a4 :: a5 :: l : va_W)[i]?) = ([a0, a3, a4, a5, a1, a2] : va_W) := rfl
theorem nd_0_3_4_5_1_2 : va_nd [0, 3, 4, 5, 1, 2] = true := by decide
theorem sm_0_3_4_5_1_2 {a0 a1 a2 a3 a4 a5 : Nat × va_E} {l : va_W} : ([0, 3, 4, 5, 1, 2] : List Nat).map (fun i => (a0 :: a1 :: a2 :: a3 :: a4 :: a5 :: l : va_W)[i]?) = ([a0, a3, a4, a5, a1, a2] : va_W).map some := rfl
def K_w_feed (l : Launch) (G : GG) (h0 : Nat) (ee : Int64) (x2 : Int32) (nw : Nat) (nk : Nat) (mhasKept : Int32) (nt : Nat) (ktp : Nat) (nr : Nat) (mrowMany : Int32) (mroundOf : Int32) (mroundFrom : Int32) (mouts : Int32) (nm : Nat) (mfromHour : Int32) (mtoHour : Int32) (ns : Nat) (mfrom : Int32) (mto : Int32) (msort : Int32) (misFault : Int32) (mdeep : Int32) (mcoded : Int32) (mlines : Int32) (nl : Nat) (nc : Nat) (nF : Nat) (np : Nat) (ntr : Nat) (nb : Nat) (mbestCost : Int32) (nso : Nat) (nsi : Nat) (nit : Nat) (nsh : Nat) (nsf : Nat) (nss : Nat) (nrc : Nat) (mtraced : Int32) (mdealer : Int32) (mnumber : Int32) (mwhose : Int32) (msize : Int32) (misParted : Int32) (fnt : Nat → Int32) : Prop := MI l G yX12_feed cX12_feed 5 (some .int) 2 0 0 [.ref h0, .long ee, .int x2] [(h0, oX12 nw nk mhasKept nt (nI ktp) nr mrowMany mroundOf mroundFrom mouts nm mfromHour mtoHour ns mfrom mto msort misFault mdeep mcoded mlines nl nc nF np ntr nb mbestCost nso nsi nit nsh nsf nss nrc mtraced mdealer mnumber mwhose msize misParted), (nt, iA G 240 fnt)] (fun (r : Int32) (u : Nat × (Nat → Int32)) => (r = ifc (Wi x2 1 8) (ifc (nI ktp + x2 ≤ 240) (nI ktp + x2) (-2)) (-1)) ∧ (u.1 ≤ 240 ∧ nI u.1 = ifc (Wi x2 1 8) (ifc (nI ktp + x2 ≤ 240) (nI ktp + x2) (nI ktp)) (nI ktp))) (fun u : Nat × (Nat → Int32) => [(h0, oX12 nw nk mhasKept nt (nI u.1) nr mrowMany mroundOf mroundFrom mouts nm mfromHour mtoHour ns mfrom mto msort misFault mdeep mcoded mlines nl nc nF np ntr nb mbestCost nso nsi nit nsh nsf nss nrc mtraced mdealer mnumber mwhose msize misParted), (nt, iA G 240 u.2)])
set_option maxHeartbeats 4000000 in
set_option maxRecDepth 100000 in
theorem w_feed (l : Launch) (G : GG) (h0 : Nat) (ee : Int64) (x2 : Int32) (nw : Nat) (nk : Nat) (mhasKept : Int32) (nt : Nat) (ktp : Nat) (nr : Nat) (mrowMany : Int32) (mroundOf : Int32) (mroundFrom : Int32) (mouts : Int32) (nm : Nat) (mfromHour : Int32) (mtoHour : Int32) (ns : Nat) (mfrom : Int32) (mto : Int32) (msort : Int32) (misFault : Int32) (mdeep : Int32) (mcoded : Int32) (mlines : Int32) (nl : Nat) (nc : Nat) (nF : Nat) (np : Nat) (ntr : Nat) (nb : Nat) (mbestCost : Int32) (nso : Nat) (nsi : Nat) (nit : Nat) (nsh : Nat) (nsf : Nat) (nss : Nat) (nrc : Nat) (mtraced : Int32) (mdealer : Int32) (mnumber : Int32) (mwhose : Int32) (msize : Int32) (misParted : Int32) (fnt : Nat → Int32) (htp : ktp ≤ 240) : K_w_feed l G h0 ee x2 nw nk mhasKept nt ktp nr mrowMany mroundOf mroundFrom mouts nm mfromHour mtoHour ns mfrom mto msort misFault mdeep mcoded mlines nl nc nF np ntr nb mbestCost nso nsi nit nsh nsf nss nrc mtraced mdealer mnumber mwhose msize misParted fnt := by
  refine MI.start (by decide +kernel) (Nat.le_of_ble_eq_true rfl) ?_
  intro p e s m below meth c A ls hC hK hP hD hS hA hl
  refine absQ (fun Q0 hQ0 => ?_)
  have hl : lv_has ls 5 [(0, .ref h0), (1, .long ee), (3, .int x2)] := hl
  refine Kan8 hC (fun hx hb hr hml hB hown hlocks hnm => ?_)
  refine lv_iload_n hx hb gX12_feed_0.1 rfl (lv_at2 hl) ?_
  refine lv_iconst (v := 1) hx hb gX12_feed_0.2.1 (by decide) ?_
  refine lv_bipush (v := 8) hx hb gX12_feed_0.2.2.1 (by decide) ?_
  refine pS hC hK hl (m_within l G x2 1 8) si_X12_84 rfl rfl (Nat.le_of_ble_eq_true rfl) rm_2_1_3 ⟨by first | exact Nat.le_of_ble_eq_true rfl | exact Nat.zero_le _, by first | exact Nat.le_of_ble_eq_true rfl | exact Nat.zero_le _⟩ gX12_feed_0.2.2.2.1 (Kors (Keqa fun a8256 => ?_) (Keqa fun a8256 => ?_))
  · refine lv_if_ne (tgt := 12) hx hb gX12_feed_0.2.2.2.2.1 (by decide) (fun _ => ?_) (fun c9 => absurd c9 (by decide))
    obtain ⟨jn, hjn, rfl⟩ := Wi1_nat (N := 8) (by decide) a8256
    refine lv_aload_n hx hb gX12_feed_0.2.2.2.2.2.2.2.1 rfl (lv_at0 hl) ?_
    refine gf_X12_206 hC rfl hK hP 0 rfl rfl gX12_feed_0.2.2.2.2.2.2.2.2.1 ?_
    refine lv_iload_n hx hb gX12_feed_0.2.2.2.2.2.2.2.2.2 rfl (lv_at2 hl) ?_
    refine lv_iadd hx hb gX12_feed_1.1 ?_
    refine eqi (x1 := nI (ktp + jn)) (nI_add ktp jn) ?_
    refine lv_sipush (v := 240) hx hb gX12_feed_1.2.1 (by decide) ?_
    refine lv_icmp_le (tgt := 27) hx hb gX12_feed_1.2.2.1 (by decide) (fun c_21_8257 => ?_) (fun c_21_8257 => ?_)
    · have hfit9 := (nI_leI (a := ktp + jn) (b := 240) (by omega) (by decide)).mp c_21_8257
      refine lv_iconst (v := 0) hx hb gX12_feed_1.2.2.2.2.2.1 (by decide) ?_
      refine lv_istore (lv' := [(4, .int 0), (0, .ref h0), (1, .long ee), (3, .int (nI jn))]) hx hb gX12_feed_1.2.2.2.2.2.2.1 hl (by decide) rfl (fun ls hl => ?_)
      have keyP : ∀ (nP kP : Nat) (vT : Nat → Int32) (H : Heap) (locs : List Loc) (ls : Array Slot), kP + nP = jn → va_PD G A [(h0, oX12 nw nk mhasKept nt (nI (ktp + kP)) nr mrowMany mroundOf mroundFrom mouts nm mfromHour mtoHour ns mfrom mto msort misFault mdeep mcoded mlines nl nc nF np ntr nb mbestCost nso nsi nit nsh nsf nss nrc mtraced mdealer mnumber mwhose msize misParted), (nt, iA G 240 vT)] H → va_S A s.heap H locs → lv_has ls 5 [(4, .int (nI kP)), (0, .ref h0), (1, .long ee), (3, .int (nI jn))] → W p l e (RM 2 0 0) s m ([.ref h0, .long ee, .int (nI jn)] : List Value).toArray below meth c H locs 0 0 Q0 (F0 m 30 ls []) := by
        intro nP
        induction nP with
        | zero =>
          intro kP vT H locs ls hkP hPD hS hl
          refine Kan2 hPD (fun hP hD => ?_)
          obtain rfl : jn = kP := by omega
          refine Kpdr (ws := [(h0, oX12 nw nk mhasKept nt (nI (ktp + jn)) nr mrowMany mroundOf mroundFrom mouts nm mfromHour mtoHour ns mfrom mto msort misFault mdeep mcoded mlines nl nc nF np ntr nb mbestCost nso nsi nit nsh nsf nss nrc mtraced mdealer mnumber mwhose msize misParted), (nt, iA G 240 vT)]) hP hD (fun hP hD => ?_)
          have hl : lv_has ls 5 [(4, .int (nI jn)), (0, .ref h0), (1, .long ee), (3, .int (nI jn))] := hl
          refine lv_iload hx hb gX12_feed_1.2.2.2.2.2.2.2.1 (lv_at0 hl) ?_
          refine lv_iload_n hx hb gX12_feed_1.2.2.2.2.2.2.2.2.1 rfl (lv_at3 hl) ?_
          refine lv_icmp_ge (tgt := 73) hx hb gX12_feed_1.2.2.2.2.2.2.2.2.2 (by decide) (fun _ => ?_) (fun c9 => absurd (Int32.le_refl _) c9)
          refine lv_aload_n hx hb gX12_feed_4.2.1 rfl (lv_at1 hl) ?_
          refine gf_X12_206 hC rfl hK hP 0 rfl rfl gX12_feed_4.2.2.1 ?_
          refine toQ hQ0 ?_
          exact RI (v := nI (ktp + jn)) hC hP hD hS [0, 1] ((ktp + jn), vT) rfl rfl (by decide) (⟨(by first | rfl | (simp only [ifc_t htp, ifc_t a8256, ifc_t (q := nI ktp + nI jn ≤ 240) (nI_add ktp jn ▸ c_21_8257)]; done) | (simp only [ifc_t htp, ifc_t a8256, ifc_t (q := nI ktp + nI jn ≤ 240) (nI_add ktp jn ▸ c_21_8257)]; exact (nI_add _ _).symm) | (dsimp only; simp only [ifc_t htp, ifc_t a8256, ifc_t (q := nI ktp + nI jn ≤ 240) (nI_add ktp jn ▸ c_21_8257)]; done) | (dsimp only; simp only [ifc_t htp, ifc_t a8256, ifc_t (q := nI ktp + nI jn ≤ 240) (nI_add ktp jn ▸ c_21_8257)]; exact (nI_add _ _).symm)), ⟨by omega, (by first | rfl | (simp only [ifc_t htp, ifc_t a8256, ifc_t (q := nI ktp + nI jn ≤ 240) (nI_add ktp jn ▸ c_21_8257)]; done) | (simp only [ifc_t htp, ifc_t a8256, ifc_t (q := nI ktp + nI jn ≤ 240) (nI_add ktp jn ▸ c_21_8257)]; exact (nI_add _ _).symm) | (dsimp only; simp only [ifc_t htp, ifc_t a8256, ifc_t (q := nI ktp + nI jn ≤ 240) (nI_add ktp jn ▸ c_21_8257)]; done) | (dsimp only; simp only [ifc_t htp, ifc_t a8256, ifc_t (q := nI ktp + nI jn ≤ 240) (nI_add ktp jn ▸ c_21_8257)]; exact (nI_add _ _).symm))⟩⟩) rfl gX12_feed_4.2.2.2
        | succ nP ihP =>
          intro kP vT H locs ls hkP hPD hS hl
          refine Kan2 hPD (fun hP hD => ?_)
          refine lv_iload hx hb gX12_feed_1.2.2.2.2.2.2.2.1 (lv_at0 hl) ?_
          refine lv_iload_n hx hb gX12_feed_1.2.2.2.2.2.2.2.2.1 rfl (lv_at3 hl) ?_
          refine lv_icmp_ge (tgt := 73) hx hb gX12_feed_1.2.2.2.2.2.2.2.2.2 (by decide) (fun c9 => absurd c9 (nI_ge (a := kP) (b := jn) (by omega) (by omega))) (fun _ => ?_)
          refine lv_aload_n hx hb gX12_feed_2.1 rfl (lv_at1 hl) ?_
          refine gf_X12_16 hC rfl hK hP 0 rfl rfl gX12_feed_2.2.1 ?_
          refine lv_aload_n hx hb gX12_feed_2.2.2.1 rfl (lv_at1 hl) ?_
          refine gf_X12_206 hC rfl hK hP 0 rfl rfl gX12_feed_2.2.2.2.1 ?_
          refine lv_lload_n hx hb gX12_feed_2.2.2.2.2.1 rfl (lv_at2 hl) ?_
          refine lv_bipush (v := 8) hx hb gX12_feed_2.2.2.2.2.2.1 (by decide) ?_
          refine lv_iload hx hb gX12_feed_2.2.2.2.2.2.2.1 (lv_at0 hl) ?_
          refine lv_imul hx hb gX12_feed_2.2.2.2.2.2.2.2.1 ?_
          refine eqi (x1 := nI (8 * kP)) (nI_mul 8 kP) ?_
          refine lv_lshr hx hb gX12_feed_2.2.2.2.2.2.2.2.2.1 rfl ?_
          refine lv_topl (fun x8258 _ => ?_)
          refine lv_ldc2 hx hb hown (hB _ m_1237) gX12_feed_2.2.2.2.2.2.2.2.2.2 ?_
          refine lv_land hx hb gX12_feed_3.1 ?_
          refine lv_l2i hx hb gX12_feed_3.2.1 rfl ?_
          refine lv_topi (fun x8259 _ => ?_)
          refine astN hC hK hP hD hS 1 (ws' := [(h0, oX12 nw nk mhasKept nt (nI (ktp + kP)) nr mrowMany mroundOf mroundFrom mouts nm mfromHour mtoHour ns mfrom mto msort misFault mdeep mcoded mlines nl nc nF np ntr nb mbestCost nso nsi nit nsh nsf nss nrc mtraced mdealer mnumber mwhose msize misParted), (nt, iA G 240 (upd vT (ktp + kP) x8259))]) rfl (k := (ktp + kP)) (by omega) (Nat.le_of_ble_eq_true rfl) (rfl) gX12_feed_3.2.2.1 (fun H locs hP hD hS => ?_)
          refine lv_aload_n hx hb gX12_feed_3.2.2.2.1 rfl (lv_at1 hl) ?_
          refine lv_dup hx hb gX12_feed_3.2.2.2.2.1 rfl ?_
          refine gf_X12_206 hC rfl hK hP 0 rfl rfl gX12_feed_3.2.2.2.2.2.1 ?_
          refine lv_iconst (v := 1) hx hb gX12_feed_3.2.2.2.2.2.2.1 (by decide) ?_
          refine lv_iadd hx hb gX12_feed_3.2.2.2.2.2.2.2.1 ?_
          refine eqi (x1 := nI (ktp + kP + 1)) (nI_add (ktp + kP) 1) ?_
          refine pf_X12_206 hC rfl hK hP hD hS 0 (ws' := [(h0, oX12 nw nk mhasKept nt (nI (ktp + kP + 1)) nr mrowMany mroundOf mroundFrom mouts nm mfromHour mtoHour ns mfrom mto msort misFault mdeep mcoded mlines nl nc nF np ntr nb mbestCost nso nsi nit nsh nsf nss nrc mtraced mdealer mnumber mwhose msize misParted), (nt, iA G 240 (upd vT (ktp + kP) x8259))]) rfl (Nat.le_of_ble_eq_true rfl) rfl rfl rfl gX12_feed_3.2.2.2.2.2.2.2.2.1 (fun H locs hP hD hS => ?_)
          refine lv_iinc (v := nI (kP + 1)) (lv' := [(4, .int (nI (kP + 1))), (0, .ref h0), (1, .long ee), (3, .int (nI jn))]) hx hb gX12_feed_3.2.2.2.2.2.2.2.2.2 hl (k := 0) rfl (nI_1 _) (by decide) rfl (fun ls hl => ?_)
          refine lv_goto (tgt := 30) hx hb gX12_feed_4.1 (by decide) ?_
          exact ihP (kP + 1) (upd vT (ktp + kP) x8259) _ _ _ (by omega) (And.intro hP hD) hS (lv_sub hl [0, 1, 2, 3] rfl)
      exact keyP jn 0 fnt _ _ _ (by omega) (And.intro hP hD) hS (lv_sub hl [0, 1, 2, 3] rfl)
    · refine lv_bipush (v := (-2)) hx hb gX12_feed_1.2.2.2.1 (by decide) ?_
      refine toQ hQ0 ?_
      exact RI (v := (-2)) hC hP hD hS [0, 1] (ktp, fnt) rfl rfl (by decide) (⟨(by first | rfl | (simp only [ifc_t htp, ifc_t a8256, ifc_f (q := nI ktp + nI jn ≤ 240) (fun h9 => c_21_8257 (nI_add ktp jn ▸ h9))]; done) | (simp only [ifc_t htp, ifc_t a8256, ifc_f (q := nI ktp + nI jn ≤ 240) (fun h9 => c_21_8257 (nI_add ktp jn ▸ h9))]; exact (nI_add _ _).symm) | (dsimp only; simp only [ifc_t htp, ifc_t a8256, ifc_f (q := nI ktp + nI jn ≤ 240) (fun h9 => c_21_8257 (nI_add ktp jn ▸ h9))]; done) | (dsimp only; simp only [ifc_t htp, ifc_t a8256, ifc_f (q := nI ktp + nI jn ≤ 240) (fun h9 => c_21_8257 (nI_add ktp jn ▸ h9))]; exact (nI_add _ _).symm)), ⟨by omega, (by first | rfl | (simp only [ifc_t htp, ifc_t a8256, ifc_f (q := nI ktp + nI jn ≤ 240) (fun h9 => c_21_8257 (nI_add ktp jn ▸ h9))]; done) | (simp only [ifc_t htp, ifc_t a8256, ifc_f (q := nI ktp + nI jn ≤ 240) (fun h9 => c_21_8257 (nI_add ktp jn ▸ h9))]; exact (nI_add _ _).symm) | (dsimp only; simp only [ifc_t htp, ifc_t a8256, ifc_f (q := nI ktp + nI jn ≤ 240) (fun h9 => c_21_8257 (nI_add ktp jn ▸ h9))]; done) | (dsimp only; simp only [ifc_t htp, ifc_t a8256, ifc_f (q := nI ktp + nI jn ≤ 240) (fun h9 => c_21_8257 (nI_add ktp jn ▸ h9))]; exact (nI_add _ _).symm))⟩⟩) rfl gX12_feed_1.2.2.2.2.1
  · refine lv_if_ne (tgt := 12) hx hb gX12_feed_0.2.2.2.2.1 (by decide) (fun c9 => absurd (by decide) c9) (fun _ => ?_)
    refine lv_iconst (v := (-1)) hx hb gX12_feed_0.2.2.2.2.2.1 (by decide) ?_
    refine toQ hQ0 ?_
    exact RI (v := (-1)) hC hP hD hS [0, 1] (ktp, fnt) rfl rfl (by decide) (⟨(by first | rfl | (simp only [ifc_t htp, ifc_f a8256]; done) | (simp only [ifc_t htp, ifc_f a8256]; exact (nI_add _ _).symm) | (dsimp only; simp only [ifc_t htp, ifc_f a8256]; done) | (dsimp only; simp only [ifc_t htp, ifc_f a8256]; exact (nI_add _ _).symm)), ⟨by omega, (by first | rfl | (simp only [ifc_t htp, ifc_f a8256]; done) | (simp only [ifc_t htp, ifc_f a8256]; exact (nI_add _ _).symm) | (dsimp only; simp only [ifc_t htp, ifc_f a8256]; done) | (dsimp only; simp only [ifc_t htp, ifc_f a8256]; exact (nI_add _ _).symm))⟩⟩) rfl gX12_feed_0.2.2.2.2.2.2.1
def K_m_isInT (l : Launch) (G : GG) (h0 : Nat) (ja : Nat) (lo : Int32) (hi : Int32) (nw : Nat) (nk : Nat) (mhasKept : Int32) (nt : Nat) (ktp : Nat) (nr : Nat) (mrowMany : Int32) (mroundOf : Int32) (mroundFrom : Int32) (mouts : Int32) (nm : Nat) (mfromHour : Int32) (mtoHour : Int32) (ns : Nat) (mfrom : Int32) (mto : Int32) (msort : Int32) (misFault : Int32) (mdeep : Int32) (mcoded : Int32) (mlines : Int32) (nl : Nat) (nc : Nat) (nF : Nat) (np : Nat) (ntr : Nat) (nb : Nat) (mbestCost : Int32) (nso : Nat) (nsi : Nat) (nit : Nat) (nsh : Nat) (nsf : Nat) (nss : Nat) (nrc : Nat) (mtraced : Int32) (mdealer : Int32) (mnumber : Int32) (mwhose : Int32) (msize : Int32) (misParted : Int32) (fnt : Nat → Int32) : Prop := MP l G yX12_isIn_ cX12_isIn_ 4 (some .boolean) 2 [.ref h0, .int (nI ja), .int lo, .int hi] [(h0, oX12 nw nk mhasKept nt (nI ktp) nr mrowMany mroundOf mroundFrom mouts nm mfromHour mtoHour ns mfrom mto msort misFault mdeep mcoded mlines nl nc nF np ntr nb mbestCost nso nsi nit nsh nsf nss nrc mtraced mdealer mnumber mwhose msize misParted), (nt, iA G 240 fnt)] (fun r : Int32 => (r = 1 ∧ ja < ktp ∧ Wi (fnt ja) lo hi) ∨ r = 0)
set_option maxHeartbeats 4000000 in
set_option maxRecDepth 100000 in
theorem m_isInT (l : Launch) (G : GG) (h0 : Nat) (ja : Nat) (lo : Int32) (hi : Int32) (nw : Nat) (nk : Nat) (mhasKept : Int32) (nt : Nat) (ktp : Nat) (nr : Nat) (mrowMany : Int32) (mroundOf : Int32) (mroundFrom : Int32) (mouts : Int32) (nm : Nat) (mfromHour : Int32) (mtoHour : Int32) (ns : Nat) (mfrom : Int32) (mto : Int32) (msort : Int32) (misFault : Int32) (mdeep : Int32) (mcoded : Int32) (mlines : Int32) (nl : Nat) (nc : Nat) (nF : Nat) (np : Nat) (ntr : Nat) (nb : Nat) (mbestCost : Int32) (nso : Nat) (nsi : Nat) (nit : Nat) (nsh : Nat) (nsf : Nat) (nss : Nat) (nrc : Nat) (mtraced : Int32) (mdealer : Int32) (mnumber : Int32) (mwhose : Int32) (msize : Int32) (misParted : Int32) (fnt : Nat → Int32) (hja : ja < 2 ^ 31) (htp : ktp ≤ 240) : K_m_isInT l G h0 ja lo hi nw nk mhasKept nt ktp nr mrowMany mroundOf mroundFrom mouts nm mfromHour mtoHour ns mfrom mto msort misFault mdeep mcoded mlines nl nc nF np ntr nb mbestCost nso nsi nit nsh nsf nss nrc mtraced mdealer mnumber mwhose msize misParted fnt := by
  refine MP.start (by decide +kernel) (Nat.le_of_ble_eq_true rfl) ?_
  intro p e s m below meth c ls hC hK hP hD hl
  refine absQ (fun Q0 hQ0 => ?_)
  have hl : lv_has ls 4 [(0, .ref h0), (1, .int (nI ja)), (2, .int lo), (3, .int hi)] := hl
  refine Kan8 hC (fun hx hb hr hml hB hown hlocks hnm => ?_)
  refine lv_iload_n hx hb gX12_isIn__0.1 rfl (lv_at1 hl) ?_
  refine lv_aload_n hx hb gX12_isIn__0.2.1 rfl (lv_at0 hl) ?_
  refine gf_X12_206 hC rfl hK hP 0 rfl rfl gX12_isIn__0.2.2.1 ?_
  refine lv_icmp_ge (tgt := 26) hx hb gX12_isIn__0.2.2.2.1 (by decide) (fun c_5_8260 => ?_) (fun c_5_8260 => ?_)
  · refine lv_iconst (v := 0) hx hb gX12_isIn__1.2.2.2.2.1 (by decide) ?_
    refine toQ hQ0 ?_
    exact RP (v := 0) hC (Or.inr rfl) (by decide +kernel) gX12_isIn__1.2.2.2.2.2
  · have hja9 := nge_nat (R := ktp) (k := ja) (by omega) (by omega) c_5_8260
    refine lv_aload_n hx hb gX12_isIn__0.2.2.2.2.1 rfl (lv_at0 hl) ?_
    refine gf_X12_16 hC rfl hK hP 0 rfl rfl gX12_isIn__0.2.2.2.2.2.1 ?_
    refine lv_iload_n hx hb gX12_isIn__0.2.2.2.2.2.2.1 rfl (lv_at1 hl) ?_
    refine aldN hC hK hP 1 rfl (k := ja) (by omega) (Nat.le_of_ble_eq_true rfl) (v := fnt ja) rfl gX12_isIn__0.2.2.2.2.2.2.2.1 ?_
    refine lv_topi (fun x8261 ex8261 => ?_)
    refine lv_iload_n hx hb gX12_isIn__0.2.2.2.2.2.2.2.2.1 rfl (lv_at2 hl) ?_
    refine lv_iload_n hx hb gX12_isIn__0.2.2.2.2.2.2.2.2.2 rfl (lv_at3 hl) ?_
    refine pS hC hK hl (m_within l G x8261 lo hi) si_X12_84 rfl rfl (Nat.le_of_ble_eq_true rfl) rm_2_1_3 ⟨by first | exact Nat.le_of_ble_eq_true rfl | exact Nat.zero_le _, by first | exact Nat.le_of_ble_eq_true rfl | exact Nat.zero_le _⟩ gX12_isIn__1.1 (Kors (Keqa fun a8263 => ?_) (Keqa fun a8263 => ?_))
    · refine lv_if_eq (tgt := 26) hx hb gX12_isIn__1.2.1 (by decide) (fun c9 => absurd c9 (by decide)) (fun _ => ?_)
      refine lv_iconst (v := 1) hx hb gX12_isIn__1.2.2.1 (by decide) ?_
      refine lv_goto (tgt := 27) hx hb gX12_isIn__1.2.2.2.1 (by decide) ?_
      refine toQ hQ0 ?_
      exact RP (v := 1) hC (Or.inl ⟨rfl, hja9, by rw [← ex8261]; exact a8263⟩) (by decide +kernel) gX12_isIn__1.2.2.2.2.2
    · refine lv_if_eq (tgt := 26) hx hb gX12_isIn__1.2.1 (by decide) (fun _ => ?_) (fun c9 => absurd (by decide) c9)
      refine lv_iconst (v := 0) hx hb gX12_isIn__1.2.2.2.2.1 (by decide) ?_
      refine toQ hQ0 ?_
      exact RP (v := 0) hC (Or.inr rfl) (by decide +kernel) gX12_isIn__1.2.2.2.2.2
def K_m_next (l : Launch) (G : GG) (h0 : Nat) (nw : Nat) (nk : Nat) (mhasKept : Int32) (nt : Nat) (ktp : Nat) (nr : Nat) (mrowMany : Int32) (mroundOf : Int32) (mroundFrom : Int32) (mouts : Int32) (nm : Nat) (mfromHour : Int32) (mtoHour : Int32) (ns : Nat) (mfrom : Int32) (kt : Nat) (msort : Int32) (misFault : Int32) (mdeep : Int32) (mcoded : Int32) (mlines : Int32) (nl : Nat) (nc : Nat) (nF : Nat) (np : Nat) (ntr : Nat) (nb : Nat) (mbestCost : Int32) (nso : Nat) (nsi : Nat) (nit : Nat) (nsh : Nat) (nsf : Nat) (nss : Nat) (nrc : Nat) (mtraced : Int32) (mdealer : Int32) (mnumber : Int32) (mwhose : Int32) (msize : Int32) (misParted : Int32) (fnt : Nat → Int32) : Prop := MV l G yX12_next cX12_next 1 3 0 0 [.ref h0] [(h0, oX12 nw nk mhasKept nt (nI ktp) nr mrowMany mroundOf mroundFrom mouts nm mfromHour mtoHour ns mfrom (nI kt) msort misFault mdeep mcoded mlines nl nc nF np ntr nb mbestCost nso nsi nit nsh nsf nss nrc mtraced mdealer mnumber mwhose msize misParted), (nt, iA G 240 fnt)] (fun u : Nat × Nat × Int32 => kt ≤ u.1 ∧ TOK fnt u.2.2 u.1 u.2.1 ktp) (fun u : Nat × Nat × Int32 => [(h0, oX12 nw nk mhasKept nt (nI ktp) nr mrowMany mroundOf mroundFrom mouts nm mfromHour mtoHour ns (nI u.1) (nI u.2.1) u.2.2 misFault mdeep mcoded mlines nl nc nF np ntr nb mbestCost nso nsi nit nsh nsf nss nrc mtraced mdealer mnumber mwhose msize misParted), (nt, iA G 240 fnt)])
set_option maxHeartbeats 4000000 in
set_option maxRecDepth 100000 in
theorem m_next (l : Launch) (G : GG) (h0 : Nat) (nw : Nat) (nk : Nat) (mhasKept : Int32) (nt : Nat) (ktp : Nat) (nr : Nat) (mrowMany : Int32) (mroundOf : Int32) (mroundFrom : Int32) (mouts : Int32) (nm : Nat) (mfromHour : Int32) (mtoHour : Int32) (ns : Nat) (mfrom : Int32) (kt : Nat) (msort : Int32) (misFault : Int32) (mdeep : Int32) (mcoded : Int32) (mlines : Int32) (nl : Nat) (nc : Nat) (nF : Nat) (np : Nat) (ntr : Nat) (nb : Nat) (mbestCost : Int32) (nso : Nat) (nsi : Nat) (nit : Nat) (nsh : Nat) (nsf : Nat) (nss : Nat) (nrc : Nat) (mtraced : Int32) (mdealer : Int32) (mnumber : Int32) (mwhose : Int32) (msize : Int32) (misParted : Int32) (fnt : Nat → Int32) (hkt : kt ≤ ktp) (htp : ktp ≤ 240) : K_m_next l G h0 nw nk mhasKept nt ktp nr mrowMany mroundOf mroundFrom mouts nm mfromHour mtoHour ns mfrom kt msort misFault mdeep mcoded mlines nl nc nF np ntr nb mbestCost nso nsi nit nsh nsf nss nrc mtraced mdealer mnumber mwhose msize misParted fnt := by
  refine MV.start (by decide +kernel) (Nat.le_of_ble_eq_true rfl) ?_
  intro p e s m below meth c A ls hC hK hP hD hS hA hl
  refine absQ (fun Q0 hQ0 => ?_)
  have hl : lv_has ls 1 [(0, .ref h0)] := hl
  refine Kan8 hC (fun hx hb hr hml hB hown hlocks hnm => ?_)
  refine lv_aload_n hx hb gX12_next_0.1 rfl (lv_at0 hl) ?_
  refine lv_aload_n hx hb gX12_next_0.2.1 rfl (lv_at0 hl) ?_
  refine gf_X12_211 hC rfl hK hP 0 rfl rfl gX12_next_0.2.2.1 ?_
  refine pf_X12_214 hC rfl hK hP hD hS 0 (ws' := [(h0, oX12 nw nk mhasKept nt (nI ktp) nr mrowMany mroundOf mroundFrom mouts nm mfromHour mtoHour ns (nI kt) (nI kt) msort misFault mdeep mcoded mlines nl nc nF np ntr nb mbestCost nso nsi nit nsh nsf nss nrc mtraced mdealer mnumber mwhose msize misParted), (nt, iA G 240 fnt)]) rfl (Nat.le_of_ble_eq_true rfl) rfl rfl rfl gX12_next_0.2.2.2.1 (fun H locs hP hD hS => ?_)
  have keyA : ∀ (nA : Nat) (vf : Nat) (H : Heap) (locs : List Loc) (ls : Array Slot), (kt ≤ vf ∧ vf ≤ ktp ∧ ktp < vf + nA) → va_PD G A [(h0, oX12 nw nk mhasKept nt (nI ktp) nr mrowMany mroundOf mroundFrom mouts nm mfromHour mtoHour ns (nI vf) (nI kt) msort misFault mdeep mcoded mlines nl nc nF np ntr nb mbestCost nso nsi nit nsh nsf nss nrc mtraced mdealer mnumber mwhose msize misParted), (nt, iA G 240 fnt)] H → va_S A s.heap H locs → lv_has ls 1 [(0, .ref h0)] → W p l e (RM 3 0 0) s m ([.ref h0] : List Value).toArray below meth c H locs 0 0 Q0 (F0 m 8 ls []) := by
    intro nA
    induction nA with
    | zero =>
      intro vf H locs ls hiA hPD hS hl
      refine Kan2 hPD (fun hP hD => ?_)
      exact (show False by omega).elim
    | succ nA ihA =>
      intro vf H locs ls hiA hPD hS hl
      refine Kan2 hPD (fun hP hD => ?_)
      refine lv_aload_n hx hb gX12_next_0.2.2.2.2.1 rfl (lv_at0 hl) ?_
      refine gf_X12_214 hC rfl hK hP 0 rfl rfl gX12_next_0.2.2.2.2.2.1 ?_
      refine lv_aload_n hx hb gX12_next_0.2.2.2.2.2.2.1 rfl (lv_at0 hl) ?_
      refine gf_X12_206 hC rfl hK hP 0 rfl rfl gX12_next_0.2.2.2.2.2.2.2.1 ?_
      refine lv_icmp_ge (tgt := 46) hx hb gX12_next_0.2.2.2.2.2.2.2.2.1 (by decide) (fun c_16_8264 => ?_) (fun c_16_8264 => ?_)
      · refine lv_aload_n hx hb gX12_next_2.2.2.2.1 rfl (lv_at0 hl) ?_
        refine lv_aload_n hx hb gX12_next_2.2.2.2.2.1 rfl (lv_at0 hl) ?_
        refine gf_X12_214 hC rfl hK hP 0 rfl rfl gX12_next_2.2.2.2.2.2.1 ?_
        refine pf_X12_211 hC rfl hK hP hD hS 0 (ws' := [(h0, oX12 nw nk mhasKept nt (nI ktp) nr mrowMany mroundOf mroundFrom mouts nm mfromHour mtoHour ns (nI vf) (nI vf) msort misFault mdeep mcoded mlines nl nc nF np ntr nb mbestCost nso nsi nit nsh nsf nss nrc mtraced mdealer mnumber mwhose msize misParted), (nt, iA G 240 fnt)]) rfl (Nat.le_of_ble_eq_true rfl) rfl rfl rfl gX12_next_2.2.2.2.2.2.2.1 (fun H locs hP hD hS => ?_)
        refine lv_aload_n hx hb gX12_next_2.2.2.2.2.2.2.2.1 rfl (lv_at0 hl) ?_
        refine gf_X12_214 hC rfl hK hP 0 rfl rfl gX12_next_2.2.2.2.2.2.2.2.2.1 ?_
        refine lv_aload_n hx hb gX12_next_2.2.2.2.2.2.2.2.2.2 rfl (lv_at0 hl) ?_
        refine gf_X12_206 hC rfl hK hP 0 rfl rfl gX12_next_3.1 ?_
        refine lv_icmp_ne (tgt := 71) hx hb gX12_next_3.2.1 (by decide) (fun c_62_8265 => ?_) (fun c_62_8265 => ?_)
        · have hvf8 := nI_neq (a := vf) (b := ktp) (by omega) (by omega) c_62_8265
          refine lv_aload_n hx hb gX12_next_3.2.2.2.2.2.2.1 rfl (lv_at0 hl) ?_
          refine lv_aload_n hx hb gX12_next_3.2.2.2.2.2.2.2.1 rfl (lv_at0 hl) ?_
          refine lv_aload_n hx hb gX12_next_3.2.2.2.2.2.2.2.2.1 rfl (lv_at0 hl) ?_
          refine gf_X12_214 hC rfl hK hP 0 rfl rfl gX12_next_3.2.2.2.2.2.2.2.2.2 ?_
          refine lv_bipush (v := 97) hx hb gX12_next_4.1 (by decide) ?_
          refine lv_bipush (v := 122) hx hb gX12_next_4.2.1 (by decide) ?_
          refine pV hC hK hl hP hD (m_isInT l G h0 vf 97 122 nw nk mhasKept nt ktp nr mrowMany mroundOf mroundFrom mouts nm mfromHour mtoHour ns (nI vf) (nI vf) msort misFault mdeep mcoded mlines nl nc nF np ntr nb mbestCost nso nsi nit nsh nsf nss nrc mtraced mdealer mnumber mwhose msize misParted fnt (by omega) (htp)) si_X12_220 [0, 1] sm_0_1 fm_0_1 nd_0_1 rfl rfl rfl rfl rfl (Nat.le_of_ble_eq_true rfl) rm_3_2_4 ⟨by first | exact Nat.le_of_ble_eq_true rfl | exact Nat.zero_le _, by first | exact Nat.le_of_ble_eq_true rfl | exact Nat.zero_le _⟩ gX12_next_4.2.2.1 (Kors (Keqa fun a8267 => ?_) (Keqr ?_))
          · refine lv_if_eq (tgt := 91) hx hb gX12_next_4.2.2.2.1 (by decide) (fun c9 => absurd c9 (by decide)) (fun _ => ?_)
            refine lv_iconst (v := 1) hx hb gX12_next_4.2.2.2.2.1 (by decide) ?_
            refine lv_goto (tgt := 111) hx hb gX12_next_4.2.2.2.2.2.1 (by decide) ?_
            refine pf_X12_217 hC rfl hK hP hD hS 0 (ws' := [(h0, oX12 nw nk mhasKept nt (nI ktp) nr mrowMany mroundOf mroundFrom mouts nm mfromHour mtoHour ns (nI vf) (nI vf) 1 misFault mdeep mcoded mlines nl nc nF np ntr nb mbestCost nso nsi nit nsh nsf nss nrc mtraced mdealer mnumber mwhose msize misParted), (nt, iA G 240 fnt)]) rfl (Nat.le_of_ble_eq_true rfl) rfl rfl rfl gX12_next_5.2.2.2.2.2.2.1 (fun H locs hP hD hS => ?_)
            refine lv_aload_n hx hb gX12_next_5.2.2.2.2.2.2.2.1 rfl (lv_at0 hl) ?_
            refine lv_dup hx hb gX12_next_5.2.2.2.2.2.2.2.2.1 rfl ?_
            refine gf_X12_211 hC rfl hK hP 0 rfl rfl gX12_next_5.2.2.2.2.2.2.2.2.2 ?_
            refine lv_iconst (v := 1) hx hb gX12_next_6.1 (by decide) ?_
            refine lv_iadd hx hb gX12_next_6.2.1 ?_
            refine eqi (x1 := nI (vf + 1)) (nI_add vf 1) ?_
            refine pf_X12_211 hC rfl hK hP hD hS 0 (ws' := [(h0, oX12 nw nk mhasKept nt (nI ktp) nr mrowMany mroundOf mroundFrom mouts nm mfromHour mtoHour ns (nI vf) (nI (vf + 1)) 1 misFault mdeep mcoded mlines nl nc nF np ntr nb mbestCost nso nsi nit nsh nsf nss nrc mtraced mdealer mnumber mwhose msize misParted), (nt, iA G 240 fnt)]) rfl (Nat.le_of_ble_eq_true rfl) rfl rfl rfl gX12_next_6.2.2.1 (fun H locs hP hD hS => ?_)
            have keyB : ∀ (nB : Nat) (vt : Nat) (H : Heap) (locs : List Loc) (ls : Array Slot), (vf < vt ∧ vt ≤ ktp ∧ ktp < vt + nB) → va_PD G A [(h0, oX12 nw nk mhasKept nt (nI ktp) nr mrowMany mroundOf mroundFrom mouts nm mfromHour mtoHour ns (nI vf) (nI vt) 1 misFault mdeep mcoded mlines nl nc nF np ntr nb mbestCost nso nsi nit nsh nsf nss nrc mtraced mdealer mnumber mwhose msize misParted), (nt, iA G 240 fnt)] H → va_S A s.heap H locs → lv_has ls 1 [(0, .ref h0)] → W p l e (RM 3 0 0) s m ([.ref h0] : List Value).toArray below meth c H locs 0 0 Q0 (F0 m 124 ls []) := by
              intro nB
              induction nB with
              | zero =>
                intro vt H locs ls hiB hPD hS hl
                refine Kan2 hPD (fun hP hD => ?_)
                exact (show False by omega).elim
              | succ nB ihB =>
                intro vt H locs ls hiB hPD hS hl
                refine Kan2 hPD (fun hP hD => ?_)
                refine lv_aload_n hx hb gX12_next_6.2.2.2.1 rfl (lv_at0 hl) ?_
                refine gf_X12_217 hC rfl hK hP 0 rfl rfl gX12_next_6.2.2.2.2.1 ?_
                refine lv_iconst (v := 1) hx hb gX12_next_6.2.2.2.2.2.1 (by decide) ?_
                refine lv_icmp_ne (tgt := 147) hx hb gX12_next_6.2.2.2.2.2.2.1 (by decide) (fun c9 => absurd (by decide) c9) (fun _ => ?_)
                refine lv_aload_n hx hb gX12_next_6.2.2.2.2.2.2.2.1 rfl (lv_at0 hl) ?_
                refine lv_aload_n hx hb gX12_next_6.2.2.2.2.2.2.2.2.1 rfl (lv_at0 hl) ?_
                refine gf_X12_211 hC rfl hK hP 0 rfl rfl gX12_next_6.2.2.2.2.2.2.2.2.2 ?_
                refine lv_bipush (v := 97) hx hb gX12_next_7.1 (by decide) ?_
                refine lv_bipush (v := 122) hx hb gX12_next_7.2.1 (by decide) ?_
                refine pV hC hK hl hP hD (m_isInT l G h0 vt 97 122 nw nk mhasKept nt ktp nr mrowMany mroundOf mroundFrom mouts nm mfromHour mtoHour ns (nI vf) (nI vt) 1 misFault mdeep mcoded mlines nl nc nF np ntr nb mbestCost nso nsi nit nsh nsf nss nrc mtraced mdealer mnumber mwhose msize misParted fnt (by omega) (htp)) si_X12_220 [0, 1] sm_0_1 fm_0_1 nd_0_1 rfl rfl rfl rfl rfl (Nat.le_of_ble_eq_true rfl) rm_3_2_4 ⟨by first | exact Nat.le_of_ble_eq_true rfl | exact Nat.zero_le _, by first | exact Nat.le_of_ble_eq_true rfl | exact Nat.zero_le _⟩ gX12_next_7.2.2.1 (Kors (Keqa fun a8269 => ?_) (Keqr ?_))
                · refine lv_if_ne (tgt := 170) hx hb gX12_next_7.2.2.2.1 (by decide) (fun _ => ?_) (fun c9 => absurd c9 (by decide))
                  refine lv_aload_n hx hb gX12_next_8.2.2.2.2.2.1 rfl (lv_at0 hl) ?_
                  refine lv_dup hx hb gX12_next_8.2.2.2.2.2.2.1 rfl ?_
                  refine gf_X12_211 hC rfl hK hP 0 rfl rfl gX12_next_8.2.2.2.2.2.2.2.1 ?_
                  refine lv_iconst (v := 1) hx hb gX12_next_8.2.2.2.2.2.2.2.2.1 (by decide) ?_
                  refine lv_iadd hx hb gX12_next_8.2.2.2.2.2.2.2.2.2 ?_
                  refine eqi (x1 := nI (vt + 1)) (nI_add vt 1) ?_
                  refine pf_X12_211 hC rfl hK hP hD hS 0 (ws' := [(h0, oX12 nw nk mhasKept nt (nI ktp) nr mrowMany mroundOf mroundFrom mouts nm mfromHour mtoHour ns (nI vf) (nI (vt + 1)) 1 misFault mdeep mcoded mlines nl nc nF np ntr nb mbestCost nso nsi nit nsh nsf nss nrc mtraced mdealer mnumber mwhose msize misParted), (nt, iA G 240 fnt)]) rfl (Nat.le_of_ble_eq_true rfl) rfl rfl rfl gX12_next_9.1 (fun H locs hP hD hS => ?_)
                  refine lv_goto (tgt := 124) hx hb gX12_next_9.2.1 (by decide) ?_
                  exact ihB (vt + 1) _ _ _ (by omega) (And.intro hP hD) hS (lv_sub hl [0] rfl)
                · refine lv_if_ne (tgt := 170) hx hb gX12_next_7.2.2.2.1 (by decide) (fun c9 => absurd (by decide) c9) (fun _ => ?_)
                  refine lv_aload_n hx hb gX12_next_7.2.2.2.2.1 rfl (lv_at0 hl) ?_
                  refine gf_X12_217 hC rfl hK hP 0 rfl rfl gX12_next_7.2.2.2.2.2.1 ?_
                  refine lv_iconst (v := 2) hx hb gX12_next_7.2.2.2.2.2.2.1 (by decide) ?_
                  refine lv_icmp_ne (tgt := 183) hx hb gX12_next_7.2.2.2.2.2.2.2.1 (by decide) (fun _ => ?_) (fun c9 => absurd c9 (by decide))
                  refine toQ hQ0 ?_
                  exact RV hC hP hD hS [0, 1] (vf, vt, 1) rfl rfl (by decide) (⟨by (try dsimp only); omega, TOK.n1 (by (try dsimp only); omega) (by (try dsimp only); omega)⟩) gX12_next_9.2.2
            exact keyB (ktp + 1) (vf + 1) _ _ _ (by omega) (And.intro hP hD) hS (lv_sub hl [0] rfl)
          · refine lv_if_eq (tgt := 91) hx hb gX12_next_4.2.2.2.1 (by decide) (fun _ => ?_) (fun c9 => absurd (by decide) c9)
            refine lv_aload_n hx hb gX12_next_4.2.2.2.2.2.2.1 rfl (lv_at0 hl) ?_
            refine lv_aload_n hx hb gX12_next_4.2.2.2.2.2.2.2.1 rfl (lv_at0 hl) ?_
            refine gf_X12_214 hC rfl hK hP 0 rfl rfl gX12_next_4.2.2.2.2.2.2.2.2.1 ?_
            refine lv_bipush (v := 48) hx hb gX12_next_4.2.2.2.2.2.2.2.2.2 (by decide) ?_
            refine lv_bipush (v := 57) hx hb gX12_next_5.1 (by decide) ?_
            refine pV hC hK hl hP hD (m_isInT l G h0 vf 48 57 nw nk mhasKept nt ktp nr mrowMany mroundOf mroundFrom mouts nm mfromHour mtoHour ns (nI vf) (nI vf) msort misFault mdeep mcoded mlines nl nc nF np ntr nb mbestCost nso nsi nit nsh nsf nss nrc mtraced mdealer mnumber mwhose msize misParted fnt (by omega) (htp)) si_X12_220 [0, 1] sm_0_1 fm_0_1 nd_0_1 rfl rfl rfl rfl rfl (Nat.le_of_ble_eq_true rfl) rm_3_2_4 ⟨by first | exact Nat.le_of_ble_eq_true rfl | exact Nat.zero_le _, by first | exact Nat.le_of_ble_eq_true rfl | exact Nat.zero_le _⟩ gX12_next_5.2.1 (Kors (Keqa fun a8271 => ?_) (Keqr ?_))
            · refine lv_if_eq (tgt := 110) hx hb gX12_next_5.2.2.1 (by decide) (fun c9 => absurd c9 (by decide)) (fun _ => ?_)
              refine lv_iconst (v := 2) hx hb gX12_next_5.2.2.2.1 (by decide) ?_
              refine lv_goto (tgt := 111) hx hb gX12_next_5.2.2.2.2.1 (by decide) ?_
              refine pf_X12_217 hC rfl hK hP hD hS 0 (ws' := [(h0, oX12 nw nk mhasKept nt (nI ktp) nr mrowMany mroundOf mroundFrom mouts nm mfromHour mtoHour ns (nI vf) (nI vf) 2 misFault mdeep mcoded mlines nl nc nF np ntr nb mbestCost nso nsi nit nsh nsf nss nrc mtraced mdealer mnumber mwhose msize misParted), (nt, iA G 240 fnt)]) rfl (Nat.le_of_ble_eq_true rfl) rfl rfl rfl gX12_next_5.2.2.2.2.2.2.1 (fun H locs hP hD hS => ?_)
              refine lv_aload_n hx hb gX12_next_5.2.2.2.2.2.2.2.1 rfl (lv_at0 hl) ?_
              refine lv_dup hx hb gX12_next_5.2.2.2.2.2.2.2.2.1 rfl ?_
              refine gf_X12_211 hC rfl hK hP 0 rfl rfl gX12_next_5.2.2.2.2.2.2.2.2.2 ?_
              refine lv_iconst (v := 1) hx hb gX12_next_6.1 (by decide) ?_
              refine lv_iadd hx hb gX12_next_6.2.1 ?_
              refine eqi (x1 := nI (vf + 1)) (nI_add vf 1) ?_
              refine pf_X12_211 hC rfl hK hP hD hS 0 (ws' := [(h0, oX12 nw nk mhasKept nt (nI ktp) nr mrowMany mroundOf mroundFrom mouts nm mfromHour mtoHour ns (nI vf) (nI (vf + 1)) 2 misFault mdeep mcoded mlines nl nc nF np ntr nb mbestCost nso nsi nit nsh nsf nss nrc mtraced mdealer mnumber mwhose msize misParted), (nt, iA G 240 fnt)]) rfl (Nat.le_of_ble_eq_true rfl) rfl rfl rfl gX12_next_6.2.2.1 (fun H locs hP hD hS => ?_)
              have keyB : ∀ (nB : Nat) (vt : Nat) (H : Heap) (locs : List Loc) (ls : Array Slot), (vf < vt ∧ vt ≤ ktp ∧ ktp < vt + nB) → (DG fnt vf vt) → va_PD G A [(h0, oX12 nw nk mhasKept nt (nI ktp) nr mrowMany mroundOf mroundFrom mouts nm mfromHour mtoHour ns (nI vf) (nI vt) 2 misFault mdeep mcoded mlines nl nc nF np ntr nb mbestCost nso nsi nit nsh nsf nss nrc mtraced mdealer mnumber mwhose msize misParted), (nt, iA G 240 fnt)] H → va_S A s.heap H locs → lv_has ls 1 [(0, .ref h0)] → W p l e (RM 3 0 0) s m ([.ref h0] : List Value).toArray below meth c H locs 0 0 Q0 (F0 m 124 ls []) := by
                intro nB
                induction nB with
                | zero =>
                  intro vt H locs ls hiB hdB hPD hS hl
                  refine Kan2 hPD (fun hP hD => ?_)
                  exact (show False by omega).elim
                | succ nB ihB =>
                  intro vt H locs ls hiB hdB hPD hS hl
                  refine Kan2 hPD (fun hP hD => ?_)
                  refine lv_aload_n hx hb gX12_next_6.2.2.2.1 rfl (lv_at0 hl) ?_
                  refine gf_X12_217 hC rfl hK hP 0 rfl rfl gX12_next_6.2.2.2.2.1 ?_
                  refine lv_iconst (v := 1) hx hb gX12_next_6.2.2.2.2.2.1 (by decide) ?_
                  refine lv_icmp_ne (tgt := 147) hx hb gX12_next_6.2.2.2.2.2.2.1 (by decide) (fun _ => ?_) (fun c9 => absurd c9 (by decide))
                  refine lv_aload_n hx hb gX12_next_7.2.2.2.2.1 rfl (lv_at0 hl) ?_
                  refine gf_X12_217 hC rfl hK hP 0 rfl rfl gX12_next_7.2.2.2.2.2.1 ?_
                  refine lv_iconst (v := 2) hx hb gX12_next_7.2.2.2.2.2.2.1 (by decide) ?_
                  refine lv_icmp_ne (tgt := 183) hx hb gX12_next_7.2.2.2.2.2.2.2.1 (by decide) (fun c9 => absurd (by decide) c9) (fun _ => ?_)
                  refine lv_aload_n hx hb gX12_next_7.2.2.2.2.2.2.2.2.1 rfl (lv_at0 hl) ?_
                  refine lv_aload_n hx hb gX12_next_7.2.2.2.2.2.2.2.2.2 rfl (lv_at0 hl) ?_
                  refine gf_X12_211 hC rfl hK hP 0 rfl rfl gX12_next_8.1 ?_
                  refine lv_bipush (v := 48) hx hb gX12_next_8.2.1 (by decide) ?_
                  refine lv_bipush (v := 57) hx hb gX12_next_8.2.2.1 (by decide) ?_
                  refine pV hC hK hl hP hD (m_isInT l G h0 vt 48 57 nw nk mhasKept nt ktp nr mrowMany mroundOf mroundFrom mouts nm mfromHour mtoHour ns (nI vf) (nI vt) 2 misFault mdeep mcoded mlines nl nc nF np ntr nb mbestCost nso nsi nit nsh nsf nss nrc mtraced mdealer mnumber mwhose msize misParted fnt (by omega) (htp)) si_X12_220 [0, 1] sm_0_1 fm_0_1 nd_0_1 rfl rfl rfl rfl rfl (Nat.le_of_ble_eq_true rfl) rm_3_2_4 ⟨by first | exact Nat.le_of_ble_eq_true rfl | exact Nat.zero_le _, by first | exact Nat.le_of_ble_eq_true rfl | exact Nat.zero_le _⟩ gX12_next_8.2.2.2.1 (Kors (Keqa fun a8275 => ?_) (Keqr ?_))
                  · refine lv_if_eq (tgt := 183) hx hb gX12_next_8.2.2.2.2.1 (by decide) (fun c9 => absurd c9 (by decide)) (fun _ => ?_)
                    refine lv_aload_n hx hb gX12_next_8.2.2.2.2.2.1 rfl (lv_at0 hl) ?_
                    refine lv_dup hx hb gX12_next_8.2.2.2.2.2.2.1 rfl ?_
                    refine gf_X12_211 hC rfl hK hP 0 rfl rfl gX12_next_8.2.2.2.2.2.2.2.1 ?_
                    refine lv_iconst (v := 1) hx hb gX12_next_8.2.2.2.2.2.2.2.2.1 (by decide) ?_
                    refine lv_iadd hx hb gX12_next_8.2.2.2.2.2.2.2.2.2 ?_
                    refine eqi (x1 := nI (vt + 1)) (nI_add vt 1) ?_
                    refine pf_X12_211 hC rfl hK hP hD hS 0 (ws' := [(h0, oX12 nw nk mhasKept nt (nI ktp) nr mrowMany mroundOf mroundFrom mouts nm mfromHour mtoHour ns (nI vf) (nI (vt + 1)) 2 misFault mdeep mcoded mlines nl nc nF np ntr nb mbestCost nso nsi nit nsh nsf nss nrc mtraced mdealer mnumber mwhose msize misParted), (nt, iA G 240 fnt)]) rfl (Nat.le_of_ble_eq_true rfl) rfl rfl rfl gX12_next_9.1 (fun H locs hP hD hS => ?_)
                    refine lv_goto (tgt := 124) hx hb gX12_next_9.2.1 (by decide) ?_
                    exact ihB (vt + 1) _ _ _ (by omega) (hdB.next a8275.2) (And.intro hP hD) hS (lv_sub hl [0] rfl)
                  · refine lv_if_eq (tgt := 183) hx hb gX12_next_8.2.2.2.2.1 (by decide) (fun _ => ?_) (fun c9 => absurd (by decide) c9)
                    refine toQ hQ0 ?_
                    exact RV hC hP hD hS [0, 1] (vf, vt, 2) rfl rfl (by decide) (⟨by (try dsimp only); omega, TOK.n2 (by (try dsimp only); omega) (by (try dsimp only); omega) (by first | assumption)⟩) gX12_next_9.2.2
              exact keyB (ktp + 1) (vf + 1) _ _ _ (by omega) (DG.zero.next a8271.2) (And.intro hP hD) hS (lv_sub hl [0] rfl)
            · refine lv_if_eq (tgt := 110) hx hb gX12_next_5.2.2.1 (by decide) (fun _ => ?_) (fun c9 => absurd (by decide) c9)
              refine lv_iconst (v := 3) hx hb gX12_next_5.2.2.2.2.2.1 (by decide) ?_
              refine pf_X12_217 hC rfl hK hP hD hS 0 (ws' := [(h0, oX12 nw nk mhasKept nt (nI ktp) nr mrowMany mroundOf mroundFrom mouts nm mfromHour mtoHour ns (nI vf) (nI vf) 3 misFault mdeep mcoded mlines nl nc nF np ntr nb mbestCost nso nsi nit nsh nsf nss nrc mtraced mdealer mnumber mwhose msize misParted), (nt, iA G 240 fnt)]) rfl (Nat.le_of_ble_eq_true rfl) rfl rfl rfl gX12_next_5.2.2.2.2.2.2.1 (fun H locs hP hD hS => ?_)
              refine lv_aload_n hx hb gX12_next_5.2.2.2.2.2.2.2.1 rfl (lv_at0 hl) ?_
              refine lv_dup hx hb gX12_next_5.2.2.2.2.2.2.2.2.1 rfl ?_
              refine gf_X12_211 hC rfl hK hP 0 rfl rfl gX12_next_5.2.2.2.2.2.2.2.2.2 ?_
              refine lv_iconst (v := 1) hx hb gX12_next_6.1 (by decide) ?_
              refine lv_iadd hx hb gX12_next_6.2.1 ?_
              refine eqi (x1 := nI (vf + 1)) (nI_add vf 1) ?_
              refine pf_X12_211 hC rfl hK hP hD hS 0 (ws' := [(h0, oX12 nw nk mhasKept nt (nI ktp) nr mrowMany mroundOf mroundFrom mouts nm mfromHour mtoHour ns (nI vf) (nI (vf + 1)) 3 misFault mdeep mcoded mlines nl nc nF np ntr nb mbestCost nso nsi nit nsh nsf nss nrc mtraced mdealer mnumber mwhose msize misParted), (nt, iA G 240 fnt)]) rfl (Nat.le_of_ble_eq_true rfl) rfl rfl rfl gX12_next_6.2.2.1 (fun H locs hP hD hS => ?_)
              refine lv_aload_n hx hb gX12_next_6.2.2.2.1 rfl (lv_at0 hl) ?_
              refine gf_X12_217 hC rfl hK hP 0 rfl rfl gX12_next_6.2.2.2.2.1 ?_
              refine lv_iconst (v := 1) hx hb gX12_next_6.2.2.2.2.2.1 (by decide) ?_
              refine lv_icmp_ne (tgt := 147) hx hb gX12_next_6.2.2.2.2.2.2.1 (by decide) (fun _ => ?_) (fun c9 => absurd c9 (by decide))
              refine lv_aload_n hx hb gX12_next_7.2.2.2.2.1 rfl (lv_at0 hl) ?_
              refine gf_X12_217 hC rfl hK hP 0 rfl rfl gX12_next_7.2.2.2.2.2.1 ?_
              refine lv_iconst (v := 2) hx hb gX12_next_7.2.2.2.2.2.2.1 (by decide) ?_
              refine lv_icmp_ne (tgt := 183) hx hb gX12_next_7.2.2.2.2.2.2.2.1 (by decide) (fun _ => ?_) (fun c9 => absurd c9 (by decide))
              refine toQ hQ0 ?_
              exact RV hC hP hD hS [0, 1] (vf, (vf + 1), 3) rfl rfl (by decide) (⟨by (try dsimp only); omega, TOK.n3 (by (try dsimp only); omega) (by (try dsimp only); omega)⟩) gX12_next_9.2.2
        · refine lv_aload_n hx hb gX12_next_3.2.2.1 rfl (lv_at0 hl) ?_
          refine lv_iconst (v := 0) hx hb gX12_next_3.2.2.2.1 (by decide) ?_
          refine pf_X12_217 hC rfl hK hP hD hS 0 (ws' := [(h0, oX12 nw nk mhasKept nt (nI ktp) nr mrowMany mroundOf mroundFrom mouts nm mfromHour mtoHour ns (nI vf) (nI vf) 0 misFault mdeep mcoded mlines nl nc nF np ntr nb mbestCost nso nsi nit nsh nsf nss nrc mtraced mdealer mnumber mwhose msize misParted), (nt, iA G 240 fnt)]) rfl (Nat.le_of_ble_eq_true rfl) rfl rfl rfl gX12_next_3.2.2.2.2.1 (fun H locs hP hD hS => ?_)
          refine toQ hQ0 ?_
          exact RV hC hP hD hS [0, 1] (vf, vf, 0) rfl rfl (by decide) (⟨by (try dsimp only); omega, TOK.n0 (by (try dsimp only); omega)⟩) gX12_next_3.2.2.2.2.2.1
      · have hvf9 := nge_nat (R := ktp) (k := vf) (by omega) (by omega) c_16_8264
        refine lv_aload_n hx hb gX12_next_0.2.2.2.2.2.2.2.2.2 rfl (lv_at0 hl) ?_
        refine gf_X12_16 hC rfl hK hP 0 rfl rfl gX12_next_1.1 ?_
        refine lv_aload_n hx hb gX12_next_1.2.1 rfl (lv_at0 hl) ?_
        refine gf_X12_214 hC rfl hK hP 0 rfl rfl gX12_next_1.2.2.1 ?_
        refine aldN hC hK hP 1 rfl (k := vf) (by omega) (Nat.le_of_ble_eq_true rfl) (v := fnt vf) rfl gX12_next_1.2.2.2.1 ?_
        refine lv_topi (fun x8276 ex8276 => ?_)
        refine lv_bipush (v := 32) hx hb gX12_next_1.2.2.2.2.1 (by decide) ?_
        refine lv_icmp_ne (tgt := 46) hx hb gX12_next_1.2.2.2.2.2.1 (by decide) (fun c_30_8277 => ?_) (fun c_30_8277 => ?_)
        · refine lv_aload_n hx hb gX12_next_2.2.2.2.1 rfl (lv_at0 hl) ?_
          refine lv_aload_n hx hb gX12_next_2.2.2.2.2.1 rfl (lv_at0 hl) ?_
          refine gf_X12_214 hC rfl hK hP 0 rfl rfl gX12_next_2.2.2.2.2.2.1 ?_
          refine pf_X12_211 hC rfl hK hP hD hS 0 (ws' := [(h0, oX12 nw nk mhasKept nt (nI ktp) nr mrowMany mroundOf mroundFrom mouts nm mfromHour mtoHour ns (nI vf) (nI vf) msort misFault mdeep mcoded mlines nl nc nF np ntr nb mbestCost nso nsi nit nsh nsf nss nrc mtraced mdealer mnumber mwhose msize misParted), (nt, iA G 240 fnt)]) rfl (Nat.le_of_ble_eq_true rfl) rfl rfl rfl gX12_next_2.2.2.2.2.2.2.1 (fun H locs hP hD hS => ?_)
          refine lv_aload_n hx hb gX12_next_2.2.2.2.2.2.2.2.1 rfl (lv_at0 hl) ?_
          refine gf_X12_214 hC rfl hK hP 0 rfl rfl gX12_next_2.2.2.2.2.2.2.2.2.1 ?_
          refine lv_aload_n hx hb gX12_next_2.2.2.2.2.2.2.2.2.2 rfl (lv_at0 hl) ?_
          refine gf_X12_206 hC rfl hK hP 0 rfl rfl gX12_next_3.1 ?_
          refine lv_icmp_ne (tgt := 71) hx hb gX12_next_3.2.1 (by decide) (fun c_62_8278 => ?_) (fun c_62_8278 => ?_)
          · have hvf8 := nI_neq (a := vf) (b := ktp) (by omega) (by omega) c_62_8278
            refine lv_aload_n hx hb gX12_next_3.2.2.2.2.2.2.1 rfl (lv_at0 hl) ?_
            refine lv_aload_n hx hb gX12_next_3.2.2.2.2.2.2.2.1 rfl (lv_at0 hl) ?_
            refine lv_aload_n hx hb gX12_next_3.2.2.2.2.2.2.2.2.1 rfl (lv_at0 hl) ?_
            refine gf_X12_214 hC rfl hK hP 0 rfl rfl gX12_next_3.2.2.2.2.2.2.2.2.2 ?_
            refine lv_bipush (v := 97) hx hb gX12_next_4.1 (by decide) ?_
            refine lv_bipush (v := 122) hx hb gX12_next_4.2.1 (by decide) ?_
            refine pV hC hK hl hP hD (m_isInT l G h0 vf 97 122 nw nk mhasKept nt ktp nr mrowMany mroundOf mroundFrom mouts nm mfromHour mtoHour ns (nI vf) (nI vf) msort misFault mdeep mcoded mlines nl nc nF np ntr nb mbestCost nso nsi nit nsh nsf nss nrc mtraced mdealer mnumber mwhose msize misParted fnt (by omega) (htp)) si_X12_220 [0, 1] sm_0_1 fm_0_1 nd_0_1 rfl rfl rfl rfl rfl (Nat.le_of_ble_eq_true rfl) rm_3_2_4 ⟨by first | exact Nat.le_of_ble_eq_true rfl | exact Nat.zero_le _, by first | exact Nat.le_of_ble_eq_true rfl | exact Nat.zero_le _⟩ gX12_next_4.2.2.1 (Kors (Keqa fun a8280 => ?_) (Keqr ?_))
            · refine lv_if_eq (tgt := 91) hx hb gX12_next_4.2.2.2.1 (by decide) (fun c9 => absurd c9 (by decide)) (fun _ => ?_)
              refine lv_iconst (v := 1) hx hb gX12_next_4.2.2.2.2.1 (by decide) ?_
              refine lv_goto (tgt := 111) hx hb gX12_next_4.2.2.2.2.2.1 (by decide) ?_
              refine pf_X12_217 hC rfl hK hP hD hS 0 (ws' := [(h0, oX12 nw nk mhasKept nt (nI ktp) nr mrowMany mroundOf mroundFrom mouts nm mfromHour mtoHour ns (nI vf) (nI vf) 1 misFault mdeep mcoded mlines nl nc nF np ntr nb mbestCost nso nsi nit nsh nsf nss nrc mtraced mdealer mnumber mwhose msize misParted), (nt, iA G 240 fnt)]) rfl (Nat.le_of_ble_eq_true rfl) rfl rfl rfl gX12_next_5.2.2.2.2.2.2.1 (fun H locs hP hD hS => ?_)
              refine lv_aload_n hx hb gX12_next_5.2.2.2.2.2.2.2.1 rfl (lv_at0 hl) ?_
              refine lv_dup hx hb gX12_next_5.2.2.2.2.2.2.2.2.1 rfl ?_
              refine gf_X12_211 hC rfl hK hP 0 rfl rfl gX12_next_5.2.2.2.2.2.2.2.2.2 ?_
              refine lv_iconst (v := 1) hx hb gX12_next_6.1 (by decide) ?_
              refine lv_iadd hx hb gX12_next_6.2.1 ?_
              refine eqi (x1 := nI (vf + 1)) (nI_add vf 1) ?_
              refine pf_X12_211 hC rfl hK hP hD hS 0 (ws' := [(h0, oX12 nw nk mhasKept nt (nI ktp) nr mrowMany mroundOf mroundFrom mouts nm mfromHour mtoHour ns (nI vf) (nI (vf + 1)) 1 misFault mdeep mcoded mlines nl nc nF np ntr nb mbestCost nso nsi nit nsh nsf nss nrc mtraced mdealer mnumber mwhose msize misParted), (nt, iA G 240 fnt)]) rfl (Nat.le_of_ble_eq_true rfl) rfl rfl rfl gX12_next_6.2.2.1 (fun H locs hP hD hS => ?_)
              have keyB : ∀ (nB : Nat) (vt : Nat) (H : Heap) (locs : List Loc) (ls : Array Slot), (vf < vt ∧ vt ≤ ktp ∧ ktp < vt + nB) → va_PD G A [(h0, oX12 nw nk mhasKept nt (nI ktp) nr mrowMany mroundOf mroundFrom mouts nm mfromHour mtoHour ns (nI vf) (nI vt) 1 misFault mdeep mcoded mlines nl nc nF np ntr nb mbestCost nso nsi nit nsh nsf nss nrc mtraced mdealer mnumber mwhose msize misParted), (nt, iA G 240 fnt)] H → va_S A s.heap H locs → lv_has ls 1 [(0, .ref h0)] → W p l e (RM 3 0 0) s m ([.ref h0] : List Value).toArray below meth c H locs 0 0 Q0 (F0 m 124 ls []) := by
                intro nB
                induction nB with
                | zero =>
                  intro vt H locs ls hiB hPD hS hl
                  refine Kan2 hPD (fun hP hD => ?_)
                  exact (show False by omega).elim
                | succ nB ihB =>
                  intro vt H locs ls hiB hPD hS hl
                  refine Kan2 hPD (fun hP hD => ?_)
                  refine lv_aload_n hx hb gX12_next_6.2.2.2.1 rfl (lv_at0 hl) ?_
                  refine gf_X12_217 hC rfl hK hP 0 rfl rfl gX12_next_6.2.2.2.2.1 ?_
                  refine lv_iconst (v := 1) hx hb gX12_next_6.2.2.2.2.2.1 (by decide) ?_
                  refine lv_icmp_ne (tgt := 147) hx hb gX12_next_6.2.2.2.2.2.2.1 (by decide) (fun c9 => absurd (by decide) c9) (fun _ => ?_)
                  refine lv_aload_n hx hb gX12_next_6.2.2.2.2.2.2.2.1 rfl (lv_at0 hl) ?_
                  refine lv_aload_n hx hb gX12_next_6.2.2.2.2.2.2.2.2.1 rfl (lv_at0 hl) ?_
                  refine gf_X12_211 hC rfl hK hP 0 rfl rfl gX12_next_6.2.2.2.2.2.2.2.2.2 ?_
                  refine lv_bipush (v := 97) hx hb gX12_next_7.1 (by decide) ?_
                  refine lv_bipush (v := 122) hx hb gX12_next_7.2.1 (by decide) ?_
                  refine pV hC hK hl hP hD (m_isInT l G h0 vt 97 122 nw nk mhasKept nt ktp nr mrowMany mroundOf mroundFrom mouts nm mfromHour mtoHour ns (nI vf) (nI vt) 1 misFault mdeep mcoded mlines nl nc nF np ntr nb mbestCost nso nsi nit nsh nsf nss nrc mtraced mdealer mnumber mwhose msize misParted fnt (by omega) (htp)) si_X12_220 [0, 1] sm_0_1 fm_0_1 nd_0_1 rfl rfl rfl rfl rfl (Nat.le_of_ble_eq_true rfl) rm_3_2_4 ⟨by first | exact Nat.le_of_ble_eq_true rfl | exact Nat.zero_le _, by first | exact Nat.le_of_ble_eq_true rfl | exact Nat.zero_le _⟩ gX12_next_7.2.2.1 (Kors (Keqa fun a8282 => ?_) (Keqr ?_))
                  · refine lv_if_ne (tgt := 170) hx hb gX12_next_7.2.2.2.1 (by decide) (fun _ => ?_) (fun c9 => absurd c9 (by decide))
                    refine lv_aload_n hx hb gX12_next_8.2.2.2.2.2.1 rfl (lv_at0 hl) ?_
                    refine lv_dup hx hb gX12_next_8.2.2.2.2.2.2.1 rfl ?_
                    refine gf_X12_211 hC rfl hK hP 0 rfl rfl gX12_next_8.2.2.2.2.2.2.2.1 ?_
                    refine lv_iconst (v := 1) hx hb gX12_next_8.2.2.2.2.2.2.2.2.1 (by decide) ?_
                    refine lv_iadd hx hb gX12_next_8.2.2.2.2.2.2.2.2.2 ?_
                    refine eqi (x1 := nI (vt + 1)) (nI_add vt 1) ?_
                    refine pf_X12_211 hC rfl hK hP hD hS 0 (ws' := [(h0, oX12 nw nk mhasKept nt (nI ktp) nr mrowMany mroundOf mroundFrom mouts nm mfromHour mtoHour ns (nI vf) (nI (vt + 1)) 1 misFault mdeep mcoded mlines nl nc nF np ntr nb mbestCost nso nsi nit nsh nsf nss nrc mtraced mdealer mnumber mwhose msize misParted), (nt, iA G 240 fnt)]) rfl (Nat.le_of_ble_eq_true rfl) rfl rfl rfl gX12_next_9.1 (fun H locs hP hD hS => ?_)
                    refine lv_goto (tgt := 124) hx hb gX12_next_9.2.1 (by decide) ?_
                    exact ihB (vt + 1) _ _ _ (by omega) (And.intro hP hD) hS (lv_sub hl [0] rfl)
                  · refine lv_if_ne (tgt := 170) hx hb gX12_next_7.2.2.2.1 (by decide) (fun c9 => absurd (by decide) c9) (fun _ => ?_)
                    refine lv_aload_n hx hb gX12_next_7.2.2.2.2.1 rfl (lv_at0 hl) ?_
                    refine gf_X12_217 hC rfl hK hP 0 rfl rfl gX12_next_7.2.2.2.2.2.1 ?_
                    refine lv_iconst (v := 2) hx hb gX12_next_7.2.2.2.2.2.2.1 (by decide) ?_
                    refine lv_icmp_ne (tgt := 183) hx hb gX12_next_7.2.2.2.2.2.2.2.1 (by decide) (fun _ => ?_) (fun c9 => absurd c9 (by decide))
                    refine toQ hQ0 ?_
                    exact RV hC hP hD hS [0, 1] (vf, vt, 1) rfl rfl (by decide) (⟨by (try dsimp only); omega, TOK.n1 (by (try dsimp only); omega) (by (try dsimp only); omega)⟩) gX12_next_9.2.2
              exact keyB (ktp + 1) (vf + 1) _ _ _ (by omega) (And.intro hP hD) hS (lv_sub hl [0] rfl)
            · refine lv_if_eq (tgt := 91) hx hb gX12_next_4.2.2.2.1 (by decide) (fun _ => ?_) (fun c9 => absurd (by decide) c9)
              refine lv_aload_n hx hb gX12_next_4.2.2.2.2.2.2.1 rfl (lv_at0 hl) ?_
              refine lv_aload_n hx hb gX12_next_4.2.2.2.2.2.2.2.1 rfl (lv_at0 hl) ?_
              refine gf_X12_214 hC rfl hK hP 0 rfl rfl gX12_next_4.2.2.2.2.2.2.2.2.1 ?_
              refine lv_bipush (v := 48) hx hb gX12_next_4.2.2.2.2.2.2.2.2.2 (by decide) ?_
              refine lv_bipush (v := 57) hx hb gX12_next_5.1 (by decide) ?_
              refine pV hC hK hl hP hD (m_isInT l G h0 vf 48 57 nw nk mhasKept nt ktp nr mrowMany mroundOf mroundFrom mouts nm mfromHour mtoHour ns (nI vf) (nI vf) msort misFault mdeep mcoded mlines nl nc nF np ntr nb mbestCost nso nsi nit nsh nsf nss nrc mtraced mdealer mnumber mwhose msize misParted fnt (by omega) (htp)) si_X12_220 [0, 1] sm_0_1 fm_0_1 nd_0_1 rfl rfl rfl rfl rfl (Nat.le_of_ble_eq_true rfl) rm_3_2_4 ⟨by first | exact Nat.le_of_ble_eq_true rfl | exact Nat.zero_le _, by first | exact Nat.le_of_ble_eq_true rfl | exact Nat.zero_le _⟩ gX12_next_5.2.1 (Kors (Keqa fun a8284 => ?_) (Keqr ?_))
              · refine lv_if_eq (tgt := 110) hx hb gX12_next_5.2.2.1 (by decide) (fun c9 => absurd c9 (by decide)) (fun _ => ?_)
                refine lv_iconst (v := 2) hx hb gX12_next_5.2.2.2.1 (by decide) ?_
                refine lv_goto (tgt := 111) hx hb gX12_next_5.2.2.2.2.1 (by decide) ?_
                refine pf_X12_217 hC rfl hK hP hD hS 0 (ws' := [(h0, oX12 nw nk mhasKept nt (nI ktp) nr mrowMany mroundOf mroundFrom mouts nm mfromHour mtoHour ns (nI vf) (nI vf) 2 misFault mdeep mcoded mlines nl nc nF np ntr nb mbestCost nso nsi nit nsh nsf nss nrc mtraced mdealer mnumber mwhose msize misParted), (nt, iA G 240 fnt)]) rfl (Nat.le_of_ble_eq_true rfl) rfl rfl rfl gX12_next_5.2.2.2.2.2.2.1 (fun H locs hP hD hS => ?_)
                refine lv_aload_n hx hb gX12_next_5.2.2.2.2.2.2.2.1 rfl (lv_at0 hl) ?_
                refine lv_dup hx hb gX12_next_5.2.2.2.2.2.2.2.2.1 rfl ?_
                refine gf_X12_211 hC rfl hK hP 0 rfl rfl gX12_next_5.2.2.2.2.2.2.2.2.2 ?_
                refine lv_iconst (v := 1) hx hb gX12_next_6.1 (by decide) ?_
                refine lv_iadd hx hb gX12_next_6.2.1 ?_
                refine eqi (x1 := nI (vf + 1)) (nI_add vf 1) ?_
                refine pf_X12_211 hC rfl hK hP hD hS 0 (ws' := [(h0, oX12 nw nk mhasKept nt (nI ktp) nr mrowMany mroundOf mroundFrom mouts nm mfromHour mtoHour ns (nI vf) (nI (vf + 1)) 2 misFault mdeep mcoded mlines nl nc nF np ntr nb mbestCost nso nsi nit nsh nsf nss nrc mtraced mdealer mnumber mwhose msize misParted), (nt, iA G 240 fnt)]) rfl (Nat.le_of_ble_eq_true rfl) rfl rfl rfl gX12_next_6.2.2.1 (fun H locs hP hD hS => ?_)
                have keyB : ∀ (nB : Nat) (vt : Nat) (H : Heap) (locs : List Loc) (ls : Array Slot), (vf < vt ∧ vt ≤ ktp ∧ ktp < vt + nB) → (DG fnt vf vt) → va_PD G A [(h0, oX12 nw nk mhasKept nt (nI ktp) nr mrowMany mroundOf mroundFrom mouts nm mfromHour mtoHour ns (nI vf) (nI vt) 2 misFault mdeep mcoded mlines nl nc nF np ntr nb mbestCost nso nsi nit nsh nsf nss nrc mtraced mdealer mnumber mwhose msize misParted), (nt, iA G 240 fnt)] H → va_S A s.heap H locs → lv_has ls 1 [(0, .ref h0)] → W p l e (RM 3 0 0) s m ([.ref h0] : List Value).toArray below meth c H locs 0 0 Q0 (F0 m 124 ls []) := by
                  intro nB
                  induction nB with
                  | zero =>
                    intro vt H locs ls hiB hdB hPD hS hl
                    refine Kan2 hPD (fun hP hD => ?_)
                    exact (show False by omega).elim
                  | succ nB ihB =>
                    intro vt H locs ls hiB hdB hPD hS hl
                    refine Kan2 hPD (fun hP hD => ?_)
                    refine lv_aload_n hx hb gX12_next_6.2.2.2.1 rfl (lv_at0 hl) ?_
                    refine gf_X12_217 hC rfl hK hP 0 rfl rfl gX12_next_6.2.2.2.2.1 ?_
                    refine lv_iconst (v := 1) hx hb gX12_next_6.2.2.2.2.2.1 (by decide) ?_
                    refine lv_icmp_ne (tgt := 147) hx hb gX12_next_6.2.2.2.2.2.2.1 (by decide) (fun _ => ?_) (fun c9 => absurd c9 (by decide))
                    refine lv_aload_n hx hb gX12_next_7.2.2.2.2.1 rfl (lv_at0 hl) ?_
                    refine gf_X12_217 hC rfl hK hP 0 rfl rfl gX12_next_7.2.2.2.2.2.1 ?_
                    refine lv_iconst (v := 2) hx hb gX12_next_7.2.2.2.2.2.2.1 (by decide) ?_
                    refine lv_icmp_ne (tgt := 183) hx hb gX12_next_7.2.2.2.2.2.2.2.1 (by decide) (fun c9 => absurd (by decide) c9) (fun _ => ?_)
                    refine lv_aload_n hx hb gX12_next_7.2.2.2.2.2.2.2.2.1 rfl (lv_at0 hl) ?_
                    refine lv_aload_n hx hb gX12_next_7.2.2.2.2.2.2.2.2.2 rfl (lv_at0 hl) ?_
                    refine gf_X12_211 hC rfl hK hP 0 rfl rfl gX12_next_8.1 ?_
                    refine lv_bipush (v := 48) hx hb gX12_next_8.2.1 (by decide) ?_
                    refine lv_bipush (v := 57) hx hb gX12_next_8.2.2.1 (by decide) ?_
                    refine pV hC hK hl hP hD (m_isInT l G h0 vt 48 57 nw nk mhasKept nt ktp nr mrowMany mroundOf mroundFrom mouts nm mfromHour mtoHour ns (nI vf) (nI vt) 2 misFault mdeep mcoded mlines nl nc nF np ntr nb mbestCost nso nsi nit nsh nsf nss nrc mtraced mdealer mnumber mwhose msize misParted fnt (by omega) (htp)) si_X12_220 [0, 1] sm_0_1 fm_0_1 nd_0_1 rfl rfl rfl rfl rfl (Nat.le_of_ble_eq_true rfl) rm_3_2_4 ⟨by first | exact Nat.le_of_ble_eq_true rfl | exact Nat.zero_le _, by first | exact Nat.le_of_ble_eq_true rfl | exact Nat.zero_le _⟩ gX12_next_8.2.2.2.1 (Kors (Keqa fun a8288 => ?_) (Keqr ?_))
                    · refine lv_if_eq (tgt := 183) hx hb gX12_next_8.2.2.2.2.1 (by decide) (fun c9 => absurd c9 (by decide)) (fun _ => ?_)
                      refine lv_aload_n hx hb gX12_next_8.2.2.2.2.2.1 rfl (lv_at0 hl) ?_
                      refine lv_dup hx hb gX12_next_8.2.2.2.2.2.2.1 rfl ?_
                      refine gf_X12_211 hC rfl hK hP 0 rfl rfl gX12_next_8.2.2.2.2.2.2.2.1 ?_
                      refine lv_iconst (v := 1) hx hb gX12_next_8.2.2.2.2.2.2.2.2.1 (by decide) ?_
                      refine lv_iadd hx hb gX12_next_8.2.2.2.2.2.2.2.2.2 ?_
                      refine eqi (x1 := nI (vt + 1)) (nI_add vt 1) ?_
                      refine pf_X12_211 hC rfl hK hP hD hS 0 (ws' := [(h0, oX12 nw nk mhasKept nt (nI ktp) nr mrowMany mroundOf mroundFrom mouts nm mfromHour mtoHour ns (nI vf) (nI (vt + 1)) 2 misFault mdeep mcoded mlines nl nc nF np ntr nb mbestCost nso nsi nit nsh nsf nss nrc mtraced mdealer mnumber mwhose msize misParted), (nt, iA G 240 fnt)]) rfl (Nat.le_of_ble_eq_true rfl) rfl rfl rfl gX12_next_9.1 (fun H locs hP hD hS => ?_)
                      refine lv_goto (tgt := 124) hx hb gX12_next_9.2.1 (by decide) ?_
                      exact ihB (vt + 1) _ _ _ (by omega) (hdB.next a8288.2) (And.intro hP hD) hS (lv_sub hl [0] rfl)
                    · refine lv_if_eq (tgt := 183) hx hb gX12_next_8.2.2.2.2.1 (by decide) (fun _ => ?_) (fun c9 => absurd (by decide) c9)
                      refine toQ hQ0 ?_
                      exact RV hC hP hD hS [0, 1] (vf, vt, 2) rfl rfl (by decide) (⟨by (try dsimp only); omega, TOK.n2 (by (try dsimp only); omega) (by (try dsimp only); omega) (by first | assumption)⟩) gX12_next_9.2.2
                exact keyB (ktp + 1) (vf + 1) _ _ _ (by omega) (DG.zero.next a8284.2) (And.intro hP hD) hS (lv_sub hl [0] rfl)
              · refine lv_if_eq (tgt := 110) hx hb gX12_next_5.2.2.1 (by decide) (fun _ => ?_) (fun c9 => absurd (by decide) c9)
                refine lv_iconst (v := 3) hx hb gX12_next_5.2.2.2.2.2.1 (by decide) ?_
                refine pf_X12_217 hC rfl hK hP hD hS 0 (ws' := [(h0, oX12 nw nk mhasKept nt (nI ktp) nr mrowMany mroundOf mroundFrom mouts nm mfromHour mtoHour ns (nI vf) (nI vf) 3 misFault mdeep mcoded mlines nl nc nF np ntr nb mbestCost nso nsi nit nsh nsf nss nrc mtraced mdealer mnumber mwhose msize misParted), (nt, iA G 240 fnt)]) rfl (Nat.le_of_ble_eq_true rfl) rfl rfl rfl gX12_next_5.2.2.2.2.2.2.1 (fun H locs hP hD hS => ?_)
                refine lv_aload_n hx hb gX12_next_5.2.2.2.2.2.2.2.1 rfl (lv_at0 hl) ?_
                refine lv_dup hx hb gX12_next_5.2.2.2.2.2.2.2.2.1 rfl ?_
                refine gf_X12_211 hC rfl hK hP 0 rfl rfl gX12_next_5.2.2.2.2.2.2.2.2.2 ?_
                refine lv_iconst (v := 1) hx hb gX12_next_6.1 (by decide) ?_
                refine lv_iadd hx hb gX12_next_6.2.1 ?_
                refine eqi (x1 := nI (vf + 1)) (nI_add vf 1) ?_
                refine pf_X12_211 hC rfl hK hP hD hS 0 (ws' := [(h0, oX12 nw nk mhasKept nt (nI ktp) nr mrowMany mroundOf mroundFrom mouts nm mfromHour mtoHour ns (nI vf) (nI (vf + 1)) 3 misFault mdeep mcoded mlines nl nc nF np ntr nb mbestCost nso nsi nit nsh nsf nss nrc mtraced mdealer mnumber mwhose msize misParted), (nt, iA G 240 fnt)]) rfl (Nat.le_of_ble_eq_true rfl) rfl rfl rfl gX12_next_6.2.2.1 (fun H locs hP hD hS => ?_)
                refine lv_aload_n hx hb gX12_next_6.2.2.2.1 rfl (lv_at0 hl) ?_
                refine gf_X12_217 hC rfl hK hP 0 rfl rfl gX12_next_6.2.2.2.2.1 ?_
                refine lv_iconst (v := 1) hx hb gX12_next_6.2.2.2.2.2.1 (by decide) ?_
                refine lv_icmp_ne (tgt := 147) hx hb gX12_next_6.2.2.2.2.2.2.1 (by decide) (fun _ => ?_) (fun c9 => absurd c9 (by decide))
                refine lv_aload_n hx hb gX12_next_7.2.2.2.2.1 rfl (lv_at0 hl) ?_
                refine gf_X12_217 hC rfl hK hP 0 rfl rfl gX12_next_7.2.2.2.2.2.1 ?_
                refine lv_iconst (v := 2) hx hb gX12_next_7.2.2.2.2.2.2.1 (by decide) ?_
                refine lv_icmp_ne (tgt := 183) hx hb gX12_next_7.2.2.2.2.2.2.2.1 (by decide) (fun _ => ?_) (fun c9 => absurd c9 (by decide))
                refine toQ hQ0 ?_
                exact RV hC hP hD hS [0, 1] (vf, (vf + 1), 3) rfl rfl (by decide) (⟨by (try dsimp only); omega, TOK.n3 (by (try dsimp only); omega) (by (try dsimp only); omega)⟩) gX12_next_9.2.2
          · refine lv_aload_n hx hb gX12_next_3.2.2.1 rfl (lv_at0 hl) ?_
            refine lv_iconst (v := 0) hx hb gX12_next_3.2.2.2.1 (by decide) ?_
            refine pf_X12_217 hC rfl hK hP hD hS 0 (ws' := [(h0, oX12 nw nk mhasKept nt (nI ktp) nr mrowMany mroundOf mroundFrom mouts nm mfromHour mtoHour ns (nI vf) (nI vf) 0 misFault mdeep mcoded mlines nl nc nF np ntr nb mbestCost nso nsi nit nsh nsf nss nrc mtraced mdealer mnumber mwhose msize misParted), (nt, iA G 240 fnt)]) rfl (Nat.le_of_ble_eq_true rfl) rfl rfl rfl gX12_next_3.2.2.2.2.1 (fun H locs hP hD hS => ?_)
            refine toQ hQ0 ?_
            exact RV hC hP hD hS [0, 1] (vf, vf, 0) rfl rfl (by decide) (⟨by (try dsimp only); omega, TOK.n0 (by (try dsimp only); omega)⟩) gX12_next_3.2.2.2.2.2.1
        · refine lv_aload_n hx hb gX12_next_1.2.2.2.2.2.2.1 rfl (lv_at0 hl) ?_
          refine lv_dup hx hb gX12_next_1.2.2.2.2.2.2.2.1 rfl ?_
          refine gf_X12_214 hC rfl hK hP 0 rfl rfl gX12_next_1.2.2.2.2.2.2.2.2.1 ?_
          refine lv_iconst (v := 1) hx hb gX12_next_1.2.2.2.2.2.2.2.2.2 (by decide) ?_
          refine lv_iadd hx hb gX12_next_2.1 ?_
          refine eqi (x1 := nI (vf + 1)) (nI_add vf 1) ?_
          refine pf_X12_214 hC rfl hK hP hD hS 0 (ws' := [(h0, oX12 nw nk mhasKept nt (nI ktp) nr mrowMany mroundOf mroundFrom mouts nm mfromHour mtoHour ns (nI (vf + 1)) (nI kt) msort misFault mdeep mcoded mlines nl nc nF np ntr nb mbestCost nso nsi nit nsh nsf nss nrc mtraced mdealer mnumber mwhose msize misParted), (nt, iA G 240 fnt)]) rfl (Nat.le_of_ble_eq_true rfl) rfl rfl rfl gX12_next_2.2.1 (fun H locs hP hD hS => ?_)
          refine lv_goto (tgt := 8) hx hb gX12_next_2.2.2.1 (by decide) ?_
          exact ihA (vf + 1) _ _ _ (by omega) (And.intro hP hD) hS (lv_sub hl [0] rfl)
  exact keyA (ktp + 1) kt _ _ _ (by omega) (And.intro hP hD) hS (lv_sub hl [0] rfl)
def K_m_isNameF (l : Launch) (G : GG) (K : OO) (i9 : Nat) (h0 : Nat) (nw : Nat) (nk : Nat) (mhasKept : Int32) (nt : Nat) (mtaped : Int32) (nr : Nat) (mrowMany : Int32) (mroundOf : Int32) (mroundFrom : Int32) (mouts : Int32) (nm : Nat) (mfromHour : Int32) (mtoHour : Int32) (ns : Nat) (mfrom : Int32) (mto : Int32) (msort : Int32) (mdeep : Int32) (mcoded : Int32) (mlines : Int32) (nl : Nat) (nc : Nat) (nF : Nat) (np : Nat) (ntr : Nat) (nb : Nat) (mbestCost : Int32) (nso : Nat) (nsi : Nat) (nit : Nat) (nsh : Nat) (nsf : Nat) (nss : Nat) (nrc : Nat) (mtraced : Int32) (mdealer : Int32) (mnumber : Int32) (mwhose : Int32) (msize : Int32) (misParted : Int32) : Prop := MPo l G K yX12_isName cX12_isName 4 (some .boolean) 5 [.ref h0, .ref (K.1 i9)] [(h0, oX12 nw nk mhasKept nt mtaped nr mrowMany mroundOf mroundFrom mouts nm mfromHour mtoHour ns mfrom mto msort 1 mdeep mcoded mlines nl nc nF np ntr nb mbestCost nso nsi nit nsh nsf nss nrc mtraced mdealer mnumber mwhose msize misParted)] (fun r : Int32 => r = 0)
set_option maxHeartbeats 4000000 in
set_option maxRecDepth 100000 in
theorem m_isNameF (l : Launch) (G : GG) (K : OO) (i9 : Nat) (h0 : Nat) (nw : Nat) (nk : Nat) (mhasKept : Int32) (nt : Nat) (mtaped : Int32) (nr : Nat) (mrowMany : Int32) (mroundOf : Int32) (mroundFrom : Int32) (mouts : Int32) (nm : Nat) (mfromHour : Int32) (mtoHour : Int32) (ns : Nat) (mfrom : Int32) (mto : Int32) (msort : Int32) (mdeep : Int32) (mcoded : Int32) (mlines : Int32) (nl : Nat) (nc : Nat) (nF : Nat) (np : Nat) (ntr : Nat) (nb : Nat) (mbestCost : Int32) (nso : Nat) (nsi : Nat) (nit : Nat) (nsh : Nat) (nsf : Nat) (nss : Nat) (nrc : Nat) (mtraced : Int32) (mdealer : Int32) (mnumber : Int32) (mwhose : Int32) (msize : Int32) (misParted : Int32) (hi9 : i9 < 16) : K_m_isNameF l G K i9 h0 nw nk mhasKept nt mtaped nr mrowMany mroundOf mroundFrom mouts nm mfromHour mtoHour ns mfrom mto msort mdeep mcoded mlines nl nc nF np ntr nb mbestCost nso nsi nit nsh nsf nss nrc mtraced mdealer mnumber mwhose msize misParted := by
  refine MPo.start (by decide +kernel) (Nat.le_of_ble_eq_true rfl) ?_
  intro p e s m below meth c ls hC hK hP hD hl hO hS
  refine absQ (fun Q0 hQ0 => ?_)
  have hl : lv_has ls 4 [(0, .ref h0), (1, .ref (K.1 i9))] := hl
  refine Kan8 hC (fun hx hb hr hml hB hown hlocks hnm => ?_)
  refine lv_aload_n hx hb gX12_isName_0.1 rfl (lv_at0 hl) ?_
  refine gf_X12_222 hC rfl hK hP 0 rfl rfl gX12_isName_0.2.1 ?_
  refine lv_if_ne (tgt := 35) hx hb gX12_isName_0.2.2.1 (by decide) (fun _ => ?_) (fun c9 => absurd c9 (by decide))
  refine lv_iconst (v := 0) hx hb gX12_isName_1.2.2.2.2.2.2.2.1 (by decide) ?_
  refine lv_istore_n (lv' := [(2, .int 0), (0, .ref h0), (1, .ref (K.1 i9))]) hx hb gX12_isName_1.2.2.2.2.2.2.2.2.1 rfl hl (by decide) rfl (fun ls hl => ?_)
  refine lv_iconst (v := 0) hx hb gX12_isName_1.2.2.2.2.2.2.2.2.2 (by decide) ?_
  refine lv_istore_n (lv' := [(3, .int 0), (2, .int 0), (0, .ref h0), (1, .ref (K.1 i9))]) hx hb gX12_isName_2.1 rfl hl (by decide) rfl (fun ls hl => ?_)
  refine lv_iload_n hx hb gX12_isName_2.2.1 rfl (lv_at1 hl) ?_
  refine lv_if_eq (tgt := 82) hx hb gX12_isName_2.2.2.1 (by decide) (fun _ => ?_) (fun c9 => absurd (by decide) c9)
  refine lv_iload_n hx hb gX12_isName_4.2.2.2.2.1 rfl (lv_at1 hl) ?_
  refine toQ hQ0 ?_
  exact RP (v := 0) hC (rfl) (by decide +kernel) gX12_isName_4.2.2.2.2.2
def K_m_isName0 (l : Launch) (G : GG) (K : OO) (i9 : Nat) (h0 : Nat) (nw : Nat) (nk : Nat) (mhasKept : Int32) (nt : Nat) (ktp : Nat) (nr : Nat) (mrowMany : Int32) (mroundOf : Int32) (mroundFrom : Int32) (mouts : Int32) (nm : Nat) (mfromHour : Int32) (mtoHour : Int32) (ns : Nat) (kf : Nat) (kt : Nat) (so : Int32) (mdeep : Int32) (mcoded : Int32) (mlines : Int32) (nl : Nat) (nc : Nat) (nF : Nat) (np : Nat) (ntr : Nat) (nb : Nat) (mbestCost : Int32) (nso : Nat) (nsi : Nat) (nit : Nat) (nsh : Nat) (nsf : Nat) (nss : Nat) (nrc : Nat) (mtraced : Int32) (mdealer : Int32) (mnumber : Int32) (mwhose : Int32) (msize : Int32) (misParted : Int32) (fnt : Nat → Int32) : Prop := MPo l G K yX12_isName cX12_isName 4 (some .boolean) 5 [.ref h0, .ref (K.1 i9)] [(h0, oX12 nw nk mhasKept nt (nI ktp) nr mrowMany mroundOf mroundFrom mouts nm mfromHour mtoHour ns (nI kf) (nI kt) so 0 mdeep mcoded mlines nl nc nF np ntr nb mbestCost nso nsi nit nsh nsf nss nrc mtraced mdealer mnumber mwhose msize misParted), (nt, iA G 240 fnt)] (fun r : Int32 => (r = 1 ∧ so = 1 ∧ kt = kf + SLEN.getD i9 0) ∨ r = 0)
set_option maxHeartbeats 4000000 in
set_option maxRecDepth 100000 in
theorem m_isName0 (l : Launch) (G : GG) (K : OO) (i9 : Nat) (h0 : Nat) (nw : Nat) (nk : Nat) (mhasKept : Int32) (nt : Nat) (ktp : Nat) (nr : Nat) (mrowMany : Int32) (mroundOf : Int32) (mroundFrom : Int32) (mouts : Int32) (nm : Nat) (mfromHour : Int32) (mtoHour : Int32) (ns : Nat) (kf : Nat) (kt : Nat) (so : Int32) (mdeep : Int32) (mcoded : Int32) (mlines : Int32) (nl : Nat) (nc : Nat) (nF : Nat) (np : Nat) (ntr : Nat) (nb : Nat) (mbestCost : Int32) (nso : Nat) (nsi : Nat) (nit : Nat) (nsh : Nat) (nsf : Nat) (nss : Nat) (nrc : Nat) (mtraced : Int32) (mdealer : Int32) (mnumber : Int32) (mwhose : Int32) (msize : Int32) (misParted : Int32) (fnt : Nat → Int32) (hi9 : i9 < 16) (hT : TOK fnt so kf kt ktp) (htp : ktp ≤ 240) : K_m_isName0 l G K i9 h0 nw nk mhasKept nt ktp nr mrowMany mroundOf mroundFrom mouts nm mfromHour mtoHour ns kf kt so mdeep mcoded mlines nl nc nF np ntr nb mbestCost nso nsi nit nsh nsf nss nrc mtraced mdealer mnumber mwhose msize misParted fnt := by
  refine MPo.start (by decide +kernel) (Nat.le_of_ble_eq_true rfl) ?_
  intro p e s m below meth c ls hC hK hP hD hl hO hS
  refine absQ (fun Q0 hQ0 => ?_)
  have hl : lv_has ls 4 [(0, .ref h0), (1, .ref (K.1 i9))] := hl
  refine Kan8 hC (fun hx hb hr hml hB hown hlocks hnm => ?_)
  have hs6 := slen6 i9 hi9
  have tA := hT.1
  have tB := hT.2.1
  refine lv_aload_n hx hb gX12_isName_0.1 rfl (lv_at0 hl) ?_
  refine gf_X12_222 hC rfl hK hP 0 rfl rfl gX12_isName_0.2.1 ?_
  refine lv_if_ne (tgt := 35) hx hb gX12_isName_0.2.2.1 (by decide) (fun c9 => absurd (by decide) c9) (fun _ => ?_)
  refine lv_aload_n hx hb gX12_isName_0.2.2.2.1 rfl (lv_at0 hl) ?_
  refine gf_X12_217 hC rfl hK hP 0 rfl rfl gX12_isName_0.2.2.2.2.1 ?_
  refine lv_iconst (v := 1) hx hb gX12_isName_0.2.2.2.2.2.1 (by decide) ?_
  refine lv_icmp_ne (tgt := 35) hx hb gX12_isName_0.2.2.2.2.2.2.1 (by decide) (fun c_12_8289 => ?_) (fun c_12_8289 => ?_)
  · refine lv_iconst (v := 0) hx hb gX12_isName_1.2.2.2.2.2.2.2.1 (by decide) ?_
    refine lv_istore_n (lv' := [(2, .int 0), (0, .ref h0), (1, .ref (K.1 i9))]) hx hb gX12_isName_1.2.2.2.2.2.2.2.2.1 rfl hl (by decide) rfl (fun ls hl => ?_)
    refine lv_iconst (v := 0) hx hb gX12_isName_1.2.2.2.2.2.2.2.2.2 (by decide) ?_
    refine lv_istore_n (lv' := [(3, .int 0), (2, .int 0), (0, .ref h0), (1, .ref (K.1 i9))]) hx hb gX12_isName_2.1 rfl hl (by decide) rfl (fun ls hl => ?_)
    refine lv_iload_n hx hb gX12_isName_2.2.1 rfl (lv_at1 hl) ?_
    refine lv_if_eq (tgt := 82) hx hb gX12_isName_2.2.2.1 (by decide) (fun _ => ?_) (fun c9 => absurd (by decide) c9)
    refine lv_iload_n hx hb gX12_isName_4.2.2.2.2.1 rfl (lv_at1 hl) ?_
    refine toQ hQ0 ?_
    exact RP (v := 0) hC (Or.inr rfl) (by decide +kernel) gX12_isName_4.2.2.2.2.2
  · refine lv_aload_n hx hb gX12_isName_0.2.2.2.2.2.2.2.1 rfl (lv_at0 hl) ?_
    refine gf_X12_211 hC rfl hK hP 0 rfl rfl gX12_isName_0.2.2.2.2.2.2.2.2.1 ?_
    refine lv_aload_n hx hb gX12_isName_0.2.2.2.2.2.2.2.2.2 rfl (lv_at0 hl) ?_
    refine gf_X12_214 hC rfl hK hP 0 rfl rfl gX12_isName_1.1 ?_
    refine lv_isub hx hb gX12_isName_1.2.1 ?_
    refine eqi (x1 := nI (kt - kf)) (nI_subR (by omega)) ?_
    refine lv_aload_n hx hb gX12_isName_1.2.2.1 rfl (lv_at1 hl) ?_
    refine pTo (i := i9) (hi9) hO hS hC hK hl (j_len l G K i9 ((hi9))) si_X12_226 rfl rfl (Nat.le_of_ble_eq_true rfl) rm_5_2_1 ⟨by first | exact Nat.le_of_ble_eq_true rfl | exact Nat.zero_le _, by first | exact Nat.le_of_ble_eq_true rfl | exact Nat.zero_le _⟩ gX12_isName_1.2.2.2.1 (fun r8290 hr8290 => ?_)
    obtain rfl := hr8290
    refine lv_icmp_ne (tgt := 35) hx hb gX12_isName_1.2.2.2.2.1 (by decide) (fun c_28_8292 => ?_) (fun c_28_8292 => ?_)
    · refine lv_iconst (v := 0) hx hb gX12_isName_1.2.2.2.2.2.2.2.1 (by decide) ?_
      refine lv_istore_n (lv' := [(2, .int 0), (0, .ref h0), (1, .ref (K.1 i9))]) hx hb gX12_isName_1.2.2.2.2.2.2.2.2.1 rfl hl (by decide) rfl (fun ls hl => ?_)
      refine lv_iconst (v := 0) hx hb gX12_isName_1.2.2.2.2.2.2.2.2.2 (by decide) ?_
      refine lv_istore_n (lv' := [(3, .int 0), (2, .int 0), (0, .ref h0), (1, .ref (K.1 i9))]) hx hb gX12_isName_2.1 rfl hl (by decide) rfl (fun ls hl => ?_)
      refine lv_iload_n hx hb gX12_isName_2.2.1 rfl (lv_at1 hl) ?_
      refine lv_if_eq (tgt := 82) hx hb gX12_isName_2.2.2.1 (by decide) (fun _ => ?_) (fun c9 => absurd (by decide) c9)
      refine lv_iload_n hx hb gX12_isName_4.2.2.2.2.1 rfl (lv_at1 hl) ?_
      refine toQ hQ0 ?_
      exact RP (v := 0) hC (Or.inr rfl) (by decide +kernel) gX12_isName_4.2.2.2.2.2
    · have hlen9 : kt - kf = SLEN.getD i9 0 := (nI_eq (by omega) (by omega)).mp c_28_8292
      refine lv_iconst (v := 1) hx hb gX12_isName_1.2.2.2.2.2.1 (by decide) ?_
      refine lv_goto (tgt := 36) hx hb gX12_isName_1.2.2.2.2.2.2.1 (by decide) ?_
      refine lv_istore_n (lv' := [(2, .int 1), (0, .ref h0), (1, .ref (K.1 i9))]) hx hb gX12_isName_1.2.2.2.2.2.2.2.2.1 rfl hl (by decide) rfl (fun ls hl => ?_)
      refine lv_iconst (v := 0) hx hb gX12_isName_1.2.2.2.2.2.2.2.2.2 (by decide) ?_
      refine lv_istore_n (lv' := [(3, .int 0), (2, .int 1), (0, .ref h0), (1, .ref (K.1 i9))]) hx hb gX12_isName_2.1 rfl hl (by decide) rfl (fun ls hl => ?_)
      have keyP : ∀ (nP kP : Nat) (is9 : Int32) (ls : Array Slot), kP + nP = (SLEN.getD i9 0) → (is9 = 0 ∨ is9 = 1) → lv_has ls 4 [(3, .int (nI kP)), (2, .int is9), (0, .ref h0), (1, .ref (K.1 i9))] → W p l e (RM 5 0 0) s m ([.ref h0, .ref (K.1 i9)] : List Value).toArray below meth c s.heap [] 0 0 Q0 (F0 m 39 ls []) := by
        intro nP
        induction nP with
        | zero =>
          intro kP is9 ls hkP his hl
          obtain rfl : (SLEN.getD i9 0) = kP := by omega
          have hl : lv_has ls 4 [(3, .int (nI (SLEN.getD i9 0))), (2, .int is9), (0, .ref h0), (1, .ref (K.1 i9))] := hl
          refine lv_iload_n hx hb gX12_isName_2.2.1 rfl (lv_at1 hl) ?_
          refine lv_if_eq (tgt := 82) hx hb gX12_isName_2.2.2.1 (by decide) (fun c_40_8293 => ?_) (fun c_40_8293 => ?_)
          · rcases his with rfl | rfl
            · refine lv_iload_n hx hb gX12_isName_4.2.2.2.2.1 rfl (lv_at1 hl) ?_
              refine toQ hQ0 ?_
              exact RP (v := 0) hC (Or.inr rfl) (by decide +kernel) gX12_isName_4.2.2.2.2.2
            · refine lv_iload_n hx hb gX12_isName_4.2.2.2.2.1 rfl (lv_at1 hl) ?_
              refine toQ hQ0 ?_
              exact RP (v := 1) hC (Or.inl ⟨rfl, c_12_8289, by omega⟩) (by decide +kernel) gX12_isName_4.2.2.2.2.2
          · refine lv_iload_n hx hb gX12_isName_2.2.2.2.1 rfl (lv_at0 hl) ?_
            refine lv_aload_n hx hb gX12_isName_2.2.2.2.2.1 rfl (lv_at3 hl) ?_
            refine pTo (i := i9) (hi9) hO hS hC hK hl (j_len l G K i9 ((hi9))) si_X12_226 rfl rfl (Nat.le_of_ble_eq_true rfl) rm_5_2_1 ⟨by first | exact Nat.le_of_ble_eq_true rfl | exact Nat.zero_le _, by first | exact Nat.le_of_ble_eq_true rfl | exact Nat.zero_le _⟩ gX12_isName_2.2.2.2.2.2.1 (fun r8294 hr8294 => ?_)
            obtain rfl := hr8294
            refine lv_icmp_ge (tgt := 82) hx hb gX12_isName_2.2.2.2.2.2.2.1 (by decide) (fun _ => ?_) (fun c9 => absurd (Int32.le_refl _) c9)
            rcases his with rfl | rfl
            · refine lv_iload_n hx hb gX12_isName_4.2.2.2.2.1 rfl (lv_at1 hl) ?_
              refine toQ hQ0 ?_
              exact RP (v := 0) hC (Or.inr rfl) (by decide +kernel) gX12_isName_4.2.2.2.2.2
            · refine lv_iload_n hx hb gX12_isName_4.2.2.2.2.1 rfl (lv_at1 hl) ?_
              refine toQ hQ0 ?_
              exact RP (v := 1) hC (Or.inl ⟨rfl, c_12_8289, by omega⟩) (by decide +kernel) gX12_isName_4.2.2.2.2.2
        | succ nP ihP =>
          intro kP is9 ls hkP his hl
          refine lv_iload_n hx hb gX12_isName_2.2.1 rfl (lv_at1 hl) ?_
          refine lv_if_eq (tgt := 82) hx hb gX12_isName_2.2.2.1 (by decide) (fun c_40_8296 => ?_) (fun c_40_8296 => ?_)
          · rcases his with rfl | rfl
            · refine lv_iload_n hx hb gX12_isName_4.2.2.2.2.1 rfl (lv_at1 hl) ?_
              refine toQ hQ0 ?_
              exact RP (v := 0) hC (Or.inr rfl) (by decide +kernel) gX12_isName_4.2.2.2.2.2
            · refine lv_iload_n hx hb gX12_isName_4.2.2.2.2.1 rfl (lv_at1 hl) ?_
              refine toQ hQ0 ?_
              exact RP (v := 1) hC (Or.inl ⟨rfl, c_12_8289, by omega⟩) (by decide +kernel) gX12_isName_4.2.2.2.2.2
          · refine lv_iload_n hx hb gX12_isName_2.2.2.2.1 rfl (lv_at0 hl) ?_
            refine lv_aload_n hx hb gX12_isName_2.2.2.2.2.1 rfl (lv_at3 hl) ?_
            refine pTo (i := i9) (hi9) hO hS hC hK hl (j_len l G K i9 ((hi9))) si_X12_226 rfl rfl (Nat.le_of_ble_eq_true rfl) rm_5_2_1 ⟨by first | exact Nat.le_of_ble_eq_true rfl | exact Nat.zero_le _, by first | exact Nat.le_of_ble_eq_true rfl | exact Nat.zero_le _⟩ gX12_isName_2.2.2.2.2.2.1 (fun r8297 hr8297 => ?_)
            obtain rfl := hr8297
            refine lv_icmp_ge (tgt := 82) hx hb gX12_isName_2.2.2.2.2.2.2.1 (by decide) (fun c9 => absurd c9 (nI_ge (a := kP) (b := (SLEN.getD i9 0)) (by omega) (by omega))) (fun _ => ?_)
            refine lv_aload_n hx hb gX12_isName_2.2.2.2.2.2.2.2.1 rfl (lv_at2 hl) ?_
            refine gf_X12_16 hC rfl hK hP 0 rfl rfl gX12_isName_2.2.2.2.2.2.2.2.2.1 ?_
            refine lv_aload_n hx hb gX12_isName_2.2.2.2.2.2.2.2.2.2 rfl (lv_at2 hl) ?_
            refine gf_X12_214 hC rfl hK hP 0 rfl rfl gX12_isName_3.1 ?_
            refine lv_iload_n hx hb gX12_isName_3.2.1 rfl (lv_at0 hl) ?_
            refine lv_iadd hx hb gX12_isName_3.2.2.1 ?_
            refine eqi (x1 := nI (kf + kP)) (nI_add kf kP) ?_
            refine aldN hC hK hP 1 rfl (k := (kf + kP)) (by omega) (Nat.le_of_ble_eq_true rfl) (v := fnt (kf + kP)) rfl gX12_isName_3.2.2.2.1 ?_
            refine lv_topi (fun x8299 ex8299 => ?_)
            refine lv_aload_n hx hb gX12_isName_3.2.2.2.2.1 rfl (lv_at3 hl) ?_
            refine lv_iload_n hx hb gX12_isName_3.2.2.2.2.2.1 rfl (lv_at0 hl) ?_
            refine pTo (i := i9) (hi9) hO hS hC hK hl (j_chr l G K i9 kP ((hi9)) (by omega)) si_X12_229 rfl rfl (Nat.le_of_ble_eq_true rfl) rm_5_4_2 ⟨by first | exact Nat.le_of_ble_eq_true rfl | exact Nat.zero_le _, by first | exact Nat.le_of_ble_eq_true rfl | exact Nat.zero_le _⟩ gX12_isName_3.2.2.2.2.2.2.1 (fun r8300 hr8300 => ?_)
            obtain rfl := hr8300
            refine lv_icmp_ne (tgt := 74) hx hb gX12_isName_3.2.2.2.2.2.2.2.1 (by decide) (fun c_67_8302 => ?_) (fun c_67_8302 => ?_)
            · refine lv_iconst (v := 0) hx hb gX12_isName_4.1 (by decide) ?_
              refine lv_istore_n (lv' := [(2, .int 0), (3, .int (nI kP)), (0, .ref h0), (1, .ref (K.1 i9))]) hx hb gX12_isName_4.2.1 rfl hl (by decide) rfl (fun ls hl => ?_)
              refine lv_iinc (v := nI (kP + 1)) (lv' := [(3, .int (nI (kP + 1))), (2, .int 0), (0, .ref h0), (1, .ref (K.1 i9))]) hx hb gX12_isName_4.2.2.1 hl (k := 1) rfl (nI_1 _) (by decide) rfl (fun ls hl => ?_)
              refine lv_goto (tgt := 39) hx hb gX12_isName_4.2.2.2.1 (by decide) ?_
              exact ihP (kP + 1) 0 _ (by omega) (by first | assumption | exact Or.inl rfl | exact Or.inr rfl) (lv_sub hl [0, 1, 2, 3] rfl)
            · refine lv_iconst (v := 1) hx hb gX12_isName_3.2.2.2.2.2.2.2.2.1 (by decide) ?_
              refine lv_goto (tgt := 75) hx hb gX12_isName_3.2.2.2.2.2.2.2.2.2 (by decide) ?_
              refine lv_istore_n (lv' := [(2, .int 1), (3, .int (nI kP)), (0, .ref h0), (1, .ref (K.1 i9))]) hx hb gX12_isName_4.2.1 rfl hl (by decide) rfl (fun ls hl => ?_)
              refine lv_iinc (v := nI (kP + 1)) (lv' := [(3, .int (nI (kP + 1))), (2, .int 1), (0, .ref h0), (1, .ref (K.1 i9))]) hx hb gX12_isName_4.2.2.1 hl (k := 1) rfl (nI_1 _) (by decide) rfl (fun ls hl => ?_)
              refine lv_goto (tgt := 39) hx hb gX12_isName_4.2.2.2.1 (by decide) ?_
              exact ihP (kP + 1) 1 _ (by omega) (by first | assumption | exact Or.inl rfl | exact Or.inr rfl) (lv_sub hl [0, 1, 2, 3] rfl)
      exact keyP (SLEN.getD i9 0) 0 1 _ (by omega) (by first | assumption | exact Or.inl rfl | exact Or.inr rfl) (lv_sub hl [0, 1, 2, 3] rfl)
def K_m_isSignF (l : Launch) (G : GG) (h0 : Nat) (cc : Int32) (nw : Nat) (nk : Nat) (mhasKept : Int32) (nt : Nat) (mtaped : Int32) (nr : Nat) (mrowMany : Int32) (mroundOf : Int32) (mroundFrom : Int32) (mouts : Int32) (nm : Nat) (mfromHour : Int32) (mtoHour : Int32) (ns : Nat) (mfrom : Int32) (mto : Int32) (msort : Int32) (mdeep : Int32) (mcoded : Int32) (mlines : Int32) (nl : Nat) (nc : Nat) (nF : Nat) (np : Nat) (ntr : Nat) (nb : Nat) (mbestCost : Int32) (nso : Nat) (nsi : Nat) (nit : Nat) (nsh : Nat) (nsf : Nat) (nss : Nat) (nrc : Nat) (mtraced : Int32) (mdealer : Int32) (mnumber : Int32) (mwhose : Int32) (msize : Int32) (misParted : Int32) : Prop := MP l G yX12_isSign cX12_isSign 2 (some .boolean) 1 [.ref h0, .int cc] [(h0, oX12 nw nk mhasKept nt mtaped nr mrowMany mroundOf mroundFrom mouts nm mfromHour mtoHour ns mfrom mto msort 1 mdeep mcoded mlines nl nc nF np ntr nb mbestCost nso nsi nit nsh nsf nss nrc mtraced mdealer mnumber mwhose msize misParted)] (fun r : Int32 => r = 0)
set_option maxHeartbeats 4000000 in
set_option maxRecDepth 100000 in
theorem m_isSignF (l : Launch) (G : GG) (h0 : Nat) (cc : Int32) (nw : Nat) (nk : Nat) (mhasKept : Int32) (nt : Nat) (mtaped : Int32) (nr : Nat) (mrowMany : Int32) (mroundOf : Int32) (mroundFrom : Int32) (mouts : Int32) (nm : Nat) (mfromHour : Int32) (mtoHour : Int32) (ns : Nat) (mfrom : Int32) (mto : Int32) (msort : Int32) (mdeep : Int32) (mcoded : Int32) (mlines : Int32) (nl : Nat) (nc : Nat) (nF : Nat) (np : Nat) (ntr : Nat) (nb : Nat) (mbestCost : Int32) (nso : Nat) (nsi : Nat) (nit : Nat) (nsh : Nat) (nsf : Nat) (nss : Nat) (nrc : Nat) (mtraced : Int32) (mdealer : Int32) (mnumber : Int32) (mwhose : Int32) (msize : Int32) (misParted : Int32) : K_m_isSignF l G h0 cc nw nk mhasKept nt mtaped nr mrowMany mroundOf mroundFrom mouts nm mfromHour mtoHour ns mfrom mto msort mdeep mcoded mlines nl nc nF np ntr nb mbestCost nso nsi nit nsh nsf nss nrc mtraced mdealer mnumber mwhose msize misParted := by
  refine MP.start (by decide +kernel) (Nat.le_of_ble_eq_true rfl) ?_
  intro p e s m below meth c ls hC hK hP hD hl
  refine absQ (fun Q0 hQ0 => ?_)
  have hl : lv_has ls 2 [(0, .ref h0), (1, .int cc)] := hl
  refine Kan8 hC (fun hx hb hr hml hB hown hlocks hnm => ?_)
  refine lv_aload_n hx hb gX12_isSign_0.1 rfl (lv_at0 hl) ?_
  refine gf_X12_222 hC rfl hK hP 0 rfl rfl gX12_isSign_0.2.1 ?_
  refine lv_if_ne (tgt := 32) hx hb gX12_isSign_0.2.2.1 (by decide) (fun _ => ?_) (fun c9 => absurd c9 (by decide))
  refine lv_iconst (v := 0) hx hb gX12_isSign_1.2.2.2.2.2.2.1 (by decide) ?_
  refine toQ hQ0 ?_
  exact RP (v := 0) hC (rfl) (by decide +kernel) gX12_isSign_1.2.2.2.2.2.2.2
def K_m_isSign0 (l : Launch) (G : GG) (h0 : Nat) (cc : Int32) (nw : Nat) (nk : Nat) (mhasKept : Int32) (nt : Nat) (ktp : Nat) (nr : Nat) (mrowMany : Int32) (mroundOf : Int32) (mroundFrom : Int32) (mouts : Int32) (nm : Nat) (mfromHour : Int32) (mtoHour : Int32) (ns : Nat) (kf : Nat) (kt : Nat) (so : Int32) (mdeep : Int32) (mcoded : Int32) (mlines : Int32) (nl : Nat) (nc : Nat) (nF : Nat) (np : Nat) (ntr : Nat) (nb : Nat) (mbestCost : Int32) (nso : Nat) (nsi : Nat) (nit : Nat) (nsh : Nat) (nsf : Nat) (nss : Nat) (nrc : Nat) (mtraced : Int32) (mdealer : Int32) (mnumber : Int32) (mwhose : Int32) (msize : Int32) (misParted : Int32) (fnt : Nat → Int32) : Prop := MP l G yX12_isSign cX12_isSign 2 (some .boolean) 1 [.ref h0, .int cc] [(h0, oX12 nw nk mhasKept nt (nI ktp) nr mrowMany mroundOf mroundFrom mouts nm mfromHour mtoHour ns (nI kf) (nI kt) so 0 mdeep mcoded mlines nl nc nF np ntr nb mbestCost nso nsi nit nsh nsf nss nrc mtraced mdealer mnumber mwhose msize misParted), (nt, iA G 240 fnt)] (fun r : Int32 => (r = 1 ∧ ISG fnt so kf kt cc) ∨ (r = 0 ∧ ¬ ISG fnt so kf kt cc))
set_option maxHeartbeats 4000000 in
set_option maxRecDepth 100000 in
theorem m_isSign0 (l : Launch) (G : GG) (h0 : Nat) (cc : Int32) (nw : Nat) (nk : Nat) (mhasKept : Int32) (nt : Nat) (ktp : Nat) (nr : Nat) (mrowMany : Int32) (mroundOf : Int32) (mroundFrom : Int32) (mouts : Int32) (nm : Nat) (mfromHour : Int32) (mtoHour : Int32) (ns : Nat) (kf : Nat) (kt : Nat) (so : Int32) (mdeep : Int32) (mcoded : Int32) (mlines : Int32) (nl : Nat) (nc : Nat) (nF : Nat) (np : Nat) (ntr : Nat) (nb : Nat) (mbestCost : Int32) (nso : Nat) (nsi : Nat) (nit : Nat) (nsh : Nat) (nsf : Nat) (nss : Nat) (nrc : Nat) (mtraced : Int32) (mdealer : Int32) (mnumber : Int32) (mwhose : Int32) (msize : Int32) (misParted : Int32) (fnt : Nat → Int32) (hT : TOK fnt so kf kt ktp) (htp : ktp ≤ 240) : K_m_isSign0 l G h0 cc nw nk mhasKept nt ktp nr mrowMany mroundOf mroundFrom mouts nm mfromHour mtoHour ns kf kt so mdeep mcoded mlines nl nc nF np ntr nb mbestCost nso nsi nit nsh nsf nss nrc mtraced mdealer mnumber mwhose msize misParted fnt := by
  refine MP.start (by decide +kernel) (Nat.le_of_ble_eq_true rfl) ?_
  intro p e s m below meth c ls hC hK hP hD hl
  refine absQ (fun Q0 hQ0 => ?_)
  have hl : lv_has ls 2 [(0, .ref h0), (1, .int cc)] := hl
  refine Kan8 hC (fun hx hb hr hml hB hown hlocks hnm => ?_)
  refine lv_aload_n hx hb gX12_isSign_0.1 rfl (lv_at0 hl) ?_
  refine gf_X12_222 hC rfl hK hP 0 rfl rfl gX12_isSign_0.2.1 ?_
  refine lv_if_ne (tgt := 32) hx hb gX12_isSign_0.2.2.1 (by decide) (fun c9 => absurd (by decide) c9) (fun _ => ?_)
  refine lv_aload_n hx hb gX12_isSign_0.2.2.2.1 rfl (lv_at0 hl) ?_
  refine gf_X12_217 hC rfl hK hP 0 rfl rfl gX12_isSign_0.2.2.2.2.1 ?_
  refine lv_iconst (v := 3) hx hb gX12_isSign_0.2.2.2.2.2.1 (by decide) ?_
  refine lv_icmp_ne (tgt := 32) hx hb gX12_isSign_0.2.2.2.2.2.2.1 (by decide) (fun c_12_8303 => ?_) (fun c_12_8303 => ?_)
  · refine lv_iconst (v := 0) hx hb gX12_isSign_1.2.2.2.2.2.2.1 (by decide) ?_
    refine toQ hQ0 ?_
    exact RP (v := 0) hC (Or.inr ⟨rfl, fun h9 => c_12_8303 h9.2.1⟩) (by decide +kernel) gX12_isSign_1.2.2.2.2.2.2.2
  · have hlt9 := hT.lt (by rw [c_12_8303]; decide)
    have tB := hT.2.1
    refine lv_aload_n hx hb gX12_isSign_0.2.2.2.2.2.2.2.1 rfl (lv_at0 hl) ?_
    refine gf_X12_16 hC rfl hK hP 0 rfl rfl gX12_isSign_0.2.2.2.2.2.2.2.2.1 ?_
    refine lv_aload_n hx hb gX12_isSign_0.2.2.2.2.2.2.2.2.2 rfl (lv_at0 hl) ?_
    refine gf_X12_214 hC rfl hK hP 0 rfl rfl gX12_isSign_1.1 ?_
    refine aldN hC hK hP 1 rfl (k := kf) (by omega) (Nat.le_of_ble_eq_true rfl) (v := fnt kf) rfl gX12_isSign_1.2.1 ?_
    refine lv_topi (fun x8304 ex8304 => ?_)
    refine lv_iload_n hx hb gX12_isSign_1.2.2.1 rfl (lv_at1 hl) ?_
    refine lv_icmp_ne (tgt := 32) hx hb gX12_isSign_1.2.2.2.1 (by decide) (fun c_25_8305 => ?_) (fun c_25_8305 => ?_)
    · refine lv_iconst (v := 0) hx hb gX12_isSign_1.2.2.2.2.2.2.1 (by decide) ?_
      refine toQ hQ0 ?_
      exact RP (v := 0) hC (Or.inr ⟨rfl, fun h9 => c_25_8305 (ex8304.trans h9.2.2)⟩) (by decide +kernel) gX12_isSign_1.2.2.2.2.2.2.2
    · refine lv_iconst (v := 1) hx hb gX12_isSign_1.2.2.2.2.1 (by decide) ?_
      refine lv_goto (tgt := 33) hx hb gX12_isSign_1.2.2.2.2.2.1 (by decide) ?_
      refine toQ hQ0 ?_
      exact RP (v := 1) hC (Or.inl ⟨rfl, hlt9, c_12_8303, ex8304.symm.trans c_25_8305⟩) (by decide +kernel) gX12_isSign_1.2.2.2.2.2.2.2
def K_m_needF (l : Launch) (G : GG) (h0 : Nat) (is9 : Int32) (nw : Nat) (nk : Nat) (mhasKept : Int32) (nt : Nat) (mtaped : Int32) (nr : Nat) (mrowMany : Int32) (mroundOf : Int32) (mroundFrom : Int32) (mouts : Int32) (nm : Nat) (mfromHour : Int32) (mtoHour : Int32) (ns : Nat) (mfrom : Int32) (mto : Int32) (msort : Int32) (mdeep : Int32) (mcoded : Int32) (mlines : Int32) (nl : Nat) (nc : Nat) (nF : Nat) (np : Nat) (ntr : Nat) (nb : Nat) (mbestCost : Int32) (nso : Nat) (nsi : Nat) (nit : Nat) (nsh : Nat) (nsf : Nat) (nss : Nat) (nrc : Nat) (mtraced : Int32) (mdealer : Int32) (mnumber : Int32) (mwhose : Int32) (msize : Int32) (misParted : Int32) : Prop := MV l G yX12_need cX12_need 2 4 0 0 [.ref h0, .int is9] [(h0, oX12 nw nk mhasKept nt mtaped nr mrowMany mroundOf mroundFrom mouts nm mfromHour mtoHour ns mfrom mto msort 1 mdeep mcoded mlines nl nc nF np ntr nb mbestCost nso nsi nit nsh nsf nss nrc mtraced mdealer mnumber mwhose msize misParted)] (fun u : Unit => True) (fun u : Unit => [(h0, oX12 nw nk mhasKept nt mtaped nr mrowMany mroundOf mroundFrom mouts nm mfromHour mtoHour ns mfrom mto msort 1 mdeep mcoded mlines nl nc nF np ntr nb mbestCost nso nsi nit nsh nsf nss nrc mtraced mdealer mnumber mwhose msize misParted)])
set_option maxHeartbeats 4000000 in
set_option maxRecDepth 100000 in
theorem m_needF (l : Launch) (G : GG) (h0 : Nat) (is9 : Int32) (nw : Nat) (nk : Nat) (mhasKept : Int32) (nt : Nat) (mtaped : Int32) (nr : Nat) (mrowMany : Int32) (mroundOf : Int32) (mroundFrom : Int32) (mouts : Int32) (nm : Nat) (mfromHour : Int32) (mtoHour : Int32) (ns : Nat) (mfrom : Int32) (mto : Int32) (msort : Int32) (mdeep : Int32) (mcoded : Int32) (mlines : Int32) (nl : Nat) (nc : Nat) (nF : Nat) (np : Nat) (ntr : Nat) (nb : Nat) (mbestCost : Int32) (nso : Nat) (nsi : Nat) (nit : Nat) (nsh : Nat) (nsf : Nat) (nss : Nat) (nrc : Nat) (mtraced : Int32) (mdealer : Int32) (mnumber : Int32) (mwhose : Int32) (msize : Int32) (misParted : Int32) : K_m_needF l G h0 is9 nw nk mhasKept nt mtaped nr mrowMany mroundOf mroundFrom mouts nm mfromHour mtoHour ns mfrom mto msort mdeep mcoded mlines nl nc nF np ntr nb mbestCost nso nsi nit nsh nsf nss nrc mtraced mdealer mnumber mwhose msize misParted := by
  refine MV.start (by decide +kernel) (Nat.le_of_ble_eq_true rfl) ?_
  intro p e s m below meth c A ls hC hK hP hD hS hA hl
  refine absQ (fun Q0 hQ0 => ?_)
  have hl : lv_has ls 2 [(0, .ref h0), (1, .int is9)] := hl
  refine Kan8 hC (fun hx hb hr hml hB hown hlocks hnm => ?_)
  refine lv_aload_n hx hb gX12_need_0.1 rfl (lv_at0 hl) ?_
  refine lv_aload_n hx hb gX12_need_0.2.1 rfl (lv_at0 hl) ?_
  refine gf_X12_222 hC rfl hK hP 0 rfl rfl gX12_need_0.2.2.1 ?_
  refine lv_if_ne (tgt := 12) hx hb gX12_need_0.2.2.2.1 (by decide) (fun _ => ?_) (fun c9 => absurd c9 (by decide))
  refine lv_iconst (v := 1) hx hb gX12_need_0.2.2.2.2.2.2.1 (by decide) ?_
  refine lv_goto (tgt := 17) hx hb gX12_need_0.2.2.2.2.2.2.2.1 (by decide) ?_
  refine pf_X12_222 hC rfl hK hP hD hS 0 (ws' := [(h0, oX12 nw nk mhasKept nt mtaped nr mrowMany mroundOf mroundFrom mouts nm mfromHour mtoHour ns mfrom mto msort 1 mdeep mcoded mlines nl nc nF np ntr nb mbestCost nso nsi nit nsh nsf nss nrc mtraced mdealer mnumber mwhose msize misParted)]) rfl (Nat.le_of_ble_eq_true rfl) rfl (by decide +kernel) (by decide +kernel) gX12_need_0.2.2.2.2.2.2.2.2.2 (fun H locs hP hD hS => ?_)
  refine lv_aload_n hx hb gX12_need_1.1 rfl (lv_at0 hl) ?_
  refine gf_X12_222 hC rfl hK hP 0 rfl rfl gX12_need_1.2.1 ?_
  refine lv_if_ne (tgt := 31) hx hb gX12_need_1.2.2.1 (by decide) (fun _ => ?_) (fun c9 => absurd c9 (by decide))
  refine toQ hQ0 ?_
  exact RV hC hP hD hS [0] () rfl rfl (by decide) (trivial) gX12_need_1.2.2.2.2.2
def K_m_need0 (l : Launch) (G : GG) (h0 : Nat) (nw : Nat) (nk : Nat) (mhasKept : Int32) (nt : Nat) (mtaped : Int32) (nr : Nat) (mrowMany : Int32) (mroundOf : Int32) (mroundFrom : Int32) (mouts : Int32) (nm : Nat) (mfromHour : Int32) (mtoHour : Int32) (ns : Nat) (mfrom : Int32) (mto : Int32) (msort : Int32) (mdeep : Int32) (mcoded : Int32) (mlines : Int32) (nl : Nat) (nc : Nat) (nF : Nat) (np : Nat) (ntr : Nat) (nb : Nat) (mbestCost : Int32) (nso : Nat) (nsi : Nat) (nit : Nat) (nsh : Nat) (nsf : Nat) (nss : Nat) (nrc : Nat) (mtraced : Int32) (mdealer : Int32) (mnumber : Int32) (mwhose : Int32) (msize : Int32) (misParted : Int32) : Prop := MV l G yX12_need cX12_need 2 4 0 0 [.ref h0, .int 0] [(h0, oX12 nw nk mhasKept nt mtaped nr mrowMany mroundOf mroundFrom mouts nm mfromHour mtoHour ns mfrom mto msort 0 mdeep mcoded mlines nl nc nF np ntr nb mbestCost nso nsi nit nsh nsf nss nrc mtraced mdealer mnumber mwhose msize misParted)] (fun u : Unit => True) (fun u : Unit => [(h0, oX12 nw nk mhasKept nt mtaped nr mrowMany mroundOf mroundFrom mouts nm mfromHour mtoHour ns mfrom mto msort 1 mdeep mcoded mlines nl nc nF np ntr nb mbestCost nso nsi nit nsh nsf nss nrc mtraced mdealer mnumber mwhose msize misParted)])
set_option maxHeartbeats 4000000 in
set_option maxRecDepth 100000 in
theorem m_need0 (l : Launch) (G : GG) (h0 : Nat) (nw : Nat) (nk : Nat) (mhasKept : Int32) (nt : Nat) (mtaped : Int32) (nr : Nat) (mrowMany : Int32) (mroundOf : Int32) (mroundFrom : Int32) (mouts : Int32) (nm : Nat) (mfromHour : Int32) (mtoHour : Int32) (ns : Nat) (mfrom : Int32) (mto : Int32) (msort : Int32) (mdeep : Int32) (mcoded : Int32) (mlines : Int32) (nl : Nat) (nc : Nat) (nF : Nat) (np : Nat) (ntr : Nat) (nb : Nat) (mbestCost : Int32) (nso : Nat) (nsi : Nat) (nit : Nat) (nsh : Nat) (nsf : Nat) (nss : Nat) (nrc : Nat) (mtraced : Int32) (mdealer : Int32) (mnumber : Int32) (mwhose : Int32) (msize : Int32) (misParted : Int32) : K_m_need0 l G h0 nw nk mhasKept nt mtaped nr mrowMany mroundOf mroundFrom mouts nm mfromHour mtoHour ns mfrom mto msort mdeep mcoded mlines nl nc nF np ntr nb mbestCost nso nsi nit nsh nsf nss nrc mtraced mdealer mnumber mwhose msize misParted := by
  refine MV.start (by decide +kernel) (Nat.le_of_ble_eq_true rfl) ?_
  intro p e s m below meth c A ls hC hK hP hD hS hA hl
  refine absQ (fun Q0 hQ0 => ?_)
  have hl : lv_has ls 2 [(0, .ref h0), (1, .int 0)] := hl
  refine Kan8 hC (fun hx hb hr hml hB hown hlocks hnm => ?_)
  refine lv_aload_n hx hb gX12_need_0.1 rfl (lv_at0 hl) ?_
  refine lv_aload_n hx hb gX12_need_0.2.1 rfl (lv_at0 hl) ?_
  refine gf_X12_222 hC rfl hK hP 0 rfl rfl gX12_need_0.2.2.1 ?_
  refine lv_if_ne (tgt := 12) hx hb gX12_need_0.2.2.2.1 (by decide) (fun c9 => absurd (by decide) c9) (fun _ => ?_)
  refine lv_iload_n hx hb gX12_need_0.2.2.2.2.1 rfl (lv_at1 hl) ?_
  refine lv_if_ne (tgt := 16) hx hb gX12_need_0.2.2.2.2.2.1 (by decide) (fun c9 => absurd (by decide) c9) (fun _ => ?_)
  refine lv_iconst (v := 1) hx hb gX12_need_0.2.2.2.2.2.2.1 (by decide) ?_
  refine lv_goto (tgt := 17) hx hb gX12_need_0.2.2.2.2.2.2.2.1 (by decide) ?_
  refine pf_X12_222 hC rfl hK hP hD hS 0 (ws' := [(h0, oX12 nw nk mhasKept nt mtaped nr mrowMany mroundOf mroundFrom mouts nm mfromHour mtoHour ns mfrom mto msort 1 mdeep mcoded mlines nl nc nF np ntr nb mbestCost nso nsi nit nsh nsf nss nrc mtraced mdealer mnumber mwhose msize misParted)]) rfl (Nat.le_of_ble_eq_true rfl) rfl (by decide +kernel) (by decide +kernel) gX12_need_0.2.2.2.2.2.2.2.2.2 (fun H locs hP hD hS => ?_)
  refine lv_aload_n hx hb gX12_need_1.1 rfl (lv_at0 hl) ?_
  refine gf_X12_222 hC rfl hK hP 0 rfl rfl gX12_need_1.2.1 ?_
  refine lv_if_ne (tgt := 31) hx hb gX12_need_1.2.2.1 (by decide) (fun _ => ?_) (fun c9 => absurd c9 (by decide))
  refine toQ hQ0 ?_
  exact RV hC hP hD hS [0] () rfl rfl (by decide) (trivial) gX12_need_1.2.2.2.2.2
def K_m_need1 (l : Launch) (G : GG) (h0 : Nat) (nw : Nat) (nk : Nat) (mhasKept : Int32) (nt : Nat) (ktp : Nat) (nr : Nat) (mrowMany : Int32) (mroundOf : Int32) (mroundFrom : Int32) (mouts : Int32) (nm : Nat) (mfromHour : Int32) (mtoHour : Int32) (ns : Nat) (mfrom : Int32) (kt : Nat) (msort : Int32) (mdeep : Int32) (mcoded : Int32) (mlines : Int32) (nl : Nat) (nc : Nat) (nF : Nat) (np : Nat) (ntr : Nat) (nb : Nat) (mbestCost : Int32) (nso : Nat) (nsi : Nat) (nit : Nat) (nsh : Nat) (nsf : Nat) (nss : Nat) (nrc : Nat) (mtraced : Int32) (mdealer : Int32) (mnumber : Int32) (mwhose : Int32) (msize : Int32) (misParted : Int32) (fnt : Nat → Int32) : Prop := MV l G yX12_need cX12_need 2 4 0 0 [.ref h0, .int 1] [(h0, oX12 nw nk mhasKept nt (nI ktp) nr mrowMany mroundOf mroundFrom mouts nm mfromHour mtoHour ns mfrom (nI kt) msort 0 mdeep mcoded mlines nl nc nF np ntr nb mbestCost nso nsi nit nsh nsf nss nrc mtraced mdealer mnumber mwhose msize misParted), (nt, iA G 240 fnt)] (fun u : Nat × Nat × Int32 => kt ≤ u.1 ∧ TOK fnt u.2.2 u.1 u.2.1 ktp) (fun u : Nat × Nat × Int32 => [(h0, oX12 nw nk mhasKept nt (nI ktp) nr mrowMany mroundOf mroundFrom mouts nm mfromHour mtoHour ns (nI u.1) (nI u.2.1) u.2.2 0 mdeep mcoded mlines nl nc nF np ntr nb mbestCost nso nsi nit nsh nsf nss nrc mtraced mdealer mnumber mwhose msize misParted), (nt, iA G 240 fnt)])
set_option maxHeartbeats 4000000 in
set_option maxRecDepth 100000 in
theorem m_need1 (l : Launch) (G : GG) (h0 : Nat) (nw : Nat) (nk : Nat) (mhasKept : Int32) (nt : Nat) (ktp : Nat) (nr : Nat) (mrowMany : Int32) (mroundOf : Int32) (mroundFrom : Int32) (mouts : Int32) (nm : Nat) (mfromHour : Int32) (mtoHour : Int32) (ns : Nat) (mfrom : Int32) (kt : Nat) (msort : Int32) (mdeep : Int32) (mcoded : Int32) (mlines : Int32) (nl : Nat) (nc : Nat) (nF : Nat) (np : Nat) (ntr : Nat) (nb : Nat) (mbestCost : Int32) (nso : Nat) (nsi : Nat) (nit : Nat) (nsh : Nat) (nsf : Nat) (nss : Nat) (nrc : Nat) (mtraced : Int32) (mdealer : Int32) (mnumber : Int32) (mwhose : Int32) (msize : Int32) (misParted : Int32) (fnt : Nat → Int32) (hkt : kt ≤ ktp) (htp : ktp ≤ 240) : K_m_need1 l G h0 nw nk mhasKept nt ktp nr mrowMany mroundOf mroundFrom mouts nm mfromHour mtoHour ns mfrom kt msort mdeep mcoded mlines nl nc nF np ntr nb mbestCost nso nsi nit nsh nsf nss nrc mtraced mdealer mnumber mwhose msize misParted fnt := by
  refine MV.start (by decide +kernel) (Nat.le_of_ble_eq_true rfl) ?_
  intro p e s m below meth c A ls hC hK hP hD hS hA hl
  refine absQ (fun Q0 hQ0 => ?_)
  have hl : lv_has ls 2 [(0, .ref h0), (1, .int 1)] := hl
  refine Kan8 hC (fun hx hb hr hml hB hown hlocks hnm => ?_)
  refine lv_aload_n hx hb gX12_need_0.1 rfl (lv_at0 hl) ?_
  refine lv_aload_n hx hb gX12_need_0.2.1 rfl (lv_at0 hl) ?_
  refine gf_X12_222 hC rfl hK hP 0 rfl rfl gX12_need_0.2.2.1 ?_
  refine lv_if_ne (tgt := 12) hx hb gX12_need_0.2.2.2.1 (by decide) (fun c9 => absurd (by decide) c9) (fun _ => ?_)
  refine lv_iload_n hx hb gX12_need_0.2.2.2.2.1 rfl (lv_at1 hl) ?_
  refine lv_if_ne (tgt := 16) hx hb gX12_need_0.2.2.2.2.2.1 (by decide) (fun _ => ?_) (fun c9 => absurd c9 (by decide))
  refine lv_iconst (v := 0) hx hb gX12_need_0.2.2.2.2.2.2.2.2.1 (by decide) ?_
  refine pf_X12_222 hC rfl hK hP hD hS 0 (ws' := [(h0, oX12 nw nk mhasKept nt (nI ktp) nr mrowMany mroundOf mroundFrom mouts nm mfromHour mtoHour ns mfrom (nI kt) msort 0 mdeep mcoded mlines nl nc nF np ntr nb mbestCost nso nsi nit nsh nsf nss nrc mtraced mdealer mnumber mwhose msize misParted), (nt, iA G 240 fnt)]) rfl (Nat.le_of_ble_eq_true rfl) rfl (by decide +kernel) (by decide +kernel) gX12_need_0.2.2.2.2.2.2.2.2.2 (fun H locs hP hD hS => ?_)
  refine lv_aload_n hx hb gX12_need_1.1 rfl (lv_at0 hl) ?_
  refine gf_X12_222 hC rfl hK hP 0 rfl rfl gX12_need_1.2.1 ?_
  refine lv_if_ne (tgt := 31) hx hb gX12_need_1.2.2.1 (by decide) (fun c9 => absurd (by decide) c9) (fun _ => ?_)
  refine lv_aload_n hx hb gX12_need_1.2.2.2.1 rfl (lv_at0 hl) ?_
  refine vV (wr := []) hC hK hl hP hD hS hA (m_next l G h0 nw nk mhasKept nt ktp nr mrowMany mroundOf mroundFrom mouts nm mfromHour mtoHour ns mfrom kt msort 0 mdeep mcoded mlines nl nc nF np ntr nb mbestCost nso nsi nit nsh nsf nss nrc mtraced mdealer mnumber mwhose msize misParted fnt (hkt) (htp)) si_X12_233 [0, 1] [] sm_0_1 fm_0_1 nd_0_1 rfl rfl (by decide) rfl rfl rfl rfl rfl (Nat.le_of_ble_eq_true rfl) rm_4_3_1 ⟨Nat.le_of_ble_eq_true rfl, Nat.le_of_ble_eq_true rfl⟩ gX12_need_1.2.2.2.2.1 (Ktu3 fun kf18308 kt18309 so18310 => ?_)
  intro H locs hr8306 hP hD hS
  try dsimp only at hr8306
  refine Kpdr (ws := [(h0, oX12 nw nk mhasKept nt (nI ktp) nr mrowMany mroundOf mroundFrom mouts nm mfromHour mtoHour ns (nI kf18308) (nI kt18309) so18310 0 mdeep mcoded mlines nl nc nF np ntr nb mbestCost nso nsi nit nsh nsf nss nrc mtraced mdealer mnumber mwhose msize misParted), (nt, iA G 240 fnt)]) hP hD (fun hP hD => ?_)
  have hw8312_0 := hr8306.1
  have hw8312_1 := hr8306.2
  have tA8314 := hw8312_1.1
  have tB8314 := hw8312_1.2.1
  refine toQ hQ0 ?_
  exact RV hC hP hD hS [0, 1] (kf18308, kt18309, so18310) rfl rfl (by decide) (⟨by assumption, by assumption⟩) gX12_need_1.2.2.2.2.2
def K_m_numberF (l : Launch) (G : GG) (h0 : Nat) (mo9 : Int32) (nw : Nat) (nk : Nat) (mhasKept : Int32) (nt : Nat) (mtaped : Int32) (nr : Nat) (mrowMany : Int32) (mroundOf : Int32) (mroundFrom : Int32) (mouts : Int32) (nm : Nat) (mfromHour : Int32) (mtoHour : Int32) (ns : Nat) (mfrom : Int32) (mto : Int32) (msort : Int32) (mdeep : Int32) (mcoded : Int32) (mlines : Int32) (nl : Nat) (nc : Nat) (nF : Nat) (np : Nat) (ntr : Nat) (nb : Nat) (mbestCost : Int32) (nso : Nat) (nsi : Nat) (nit : Nat) (nsh : Nat) (nsf : Nat) (nss : Nat) (nrc : Nat) (mtraced : Int32) (mdealer : Int32) (mnumber : Int32) (mwhose : Int32) (msize : Int32) (misParted : Int32) : Prop := MI l G yX12_number cX12_number 5 (some .int) 5 0 0 [.ref h0, .int mo9] [(h0, oX12 nw nk mhasKept nt mtaped nr mrowMany mroundOf mroundFrom mouts nm mfromHour mtoHour ns mfrom mto msort 1 mdeep mcoded mlines nl nc nF np ntr nb mbestCost nso nsi nit nsh nsf nss nrc mtraced mdealer mnumber mwhose msize misParted)] (fun (r : Int32) (u : Unit) => (r = 0)) (fun u : Unit => [(h0, oX12 nw nk mhasKept nt mtaped nr mrowMany mroundOf mroundFrom mouts nm mfromHour mtoHour ns mfrom mto msort 1 mdeep mcoded mlines nl nc nF np ntr nb mbestCost nso nsi nit nsh nsf nss nrc mtraced mdealer mnumber mwhose msize misParted)])
set_option maxHeartbeats 4000000 in
set_option maxRecDepth 100000 in
theorem m_numberF (l : Launch) (G : GG) (h0 : Nat) (mo9 : Int32) (nw : Nat) (nk : Nat) (mhasKept : Int32) (nt : Nat) (mtaped : Int32) (nr : Nat) (mrowMany : Int32) (mroundOf : Int32) (mroundFrom : Int32) (mouts : Int32) (nm : Nat) (mfromHour : Int32) (mtoHour : Int32) (ns : Nat) (mfrom : Int32) (mto : Int32) (msort : Int32) (mdeep : Int32) (mcoded : Int32) (mlines : Int32) (nl : Nat) (nc : Nat) (nF : Nat) (np : Nat) (ntr : Nat) (nb : Nat) (mbestCost : Int32) (nso : Nat) (nsi : Nat) (nit : Nat) (nsh : Nat) (nsf : Nat) (nss : Nat) (nrc : Nat) (mtraced : Int32) (mdealer : Int32) (mnumber : Int32) (mwhose : Int32) (msize : Int32) (misParted : Int32) : K_m_numberF l G h0 mo9 nw nk mhasKept nt mtaped nr mrowMany mroundOf mroundFrom mouts nm mfromHour mtoHour ns mfrom mto msort mdeep mcoded mlines nl nc nF np ntr nb mbestCost nso nsi nit nsh nsf nss nrc mtraced mdealer mnumber mwhose msize misParted := by
  refine MI.start (by decide +kernel) (Nat.le_of_ble_eq_true rfl) ?_
  intro p e s m below meth c A ls hC hK hP hD hS hA hl
  refine absQ (fun Q0 hQ0 => ?_)
  have hl : lv_has ls 5 [(0, .ref h0), (1, .int mo9)] := hl
  refine Kan8 hC (fun hx hb hr hml hB hown hlocks hnm => ?_)
  refine lv_iconst (v := 0) hx hb gX12_number_0.1 (by decide) ?_
  refine lv_istore_n (lv' := [(2, .int 0), (0, .ref h0), (1, .int mo9)]) hx hb gX12_number_0.2.1 rfl hl (by decide) rfl (fun ls hl => ?_)
  refine lv_aload_n hx hb gX12_number_0.2.2.1 rfl (lv_at1 hl) ?_
  refine gf_X12_222 hC rfl hK hP 0 rfl rfl gX12_number_0.2.2.2.1 ?_
  refine lv_if_ne (tgt := 34) hx hb gX12_number_0.2.2.2.2.1 (by decide) (fun _ => ?_) (fun c9 => absurd c9 (by decide))
  refine lv_iconst (v := 0) hx hb gX12_number_1.2.2.2.2.2.2.2.2.1 (by decide) ?_
  refine lv_istore_n (lv' := [(3, .int 0), (2, .int 0), (0, .ref h0), (1, .int mo9)]) hx hb gX12_number_1.2.2.2.2.2.2.2.2.2 rfl hl (by decide) rfl (fun ls hl => ?_)
  refine lv_aload_n hx hb gX12_number_2.1 rfl (lv_at2 hl) ?_
  refine gf_X12_214 hC rfl hK hP 0 rfl rfl gX12_number_2.2.1 ?_
  refine lv_istore (lv' := [(4, .int mfrom), (3, .int 0), (2, .int 0), (0, .ref h0), (1, .int mo9)]) hx hb gX12_number_2.2.2.1 hl (by decide) rfl (fun ls hl => ?_)
  refine lv_iload_n hx hb gX12_number_2.2.2.2.1 rfl (lv_at1 hl) ?_
  refine lv_if_eq (tgt := 77) hx hb gX12_number_2.2.2.2.2.1 (by decide) (fun _ => ?_) (fun c9 => absurd (by decide) c9)
  refine lv_aload_n hx hb gX12_number_4.2.2.1 rfl (lv_at3 hl) ?_
  refine lv_iload_n hx hb gX12_number_4.2.2.2.1 rfl (lv_at1 hl) ?_
  refine lv_if_eq (tgt := 91) hx hb gX12_number_4.2.2.2.2.1 (by decide) (fun _ => ?_) (fun c9 => absurd (by decide) c9)
  refine lv_iconst (v := 0) hx hb gX12_number_5.1 (by decide) ?_
  refine vV (wr := []) hC hK hl hP hD hS hA (m_needF l G h0 0 nw nk mhasKept nt mtaped nr mrowMany mroundOf mroundFrom mouts nm mfromHour mtoHour ns mfrom mto msort mdeep mcoded mlines nl nc nF np ntr nb mbestCost nso nsi nit nsh nsf nss nrc mtraced mdealer mnumber mwhose msize misParted) si_X12_236 [0] [] sm_0 fm_0 nd_0 rfl rfl (by decide) rfl rfl rfl rfl rfl (Nat.le_of_ble_eq_true rfl) rm_5_4_2 ⟨Nat.le_of_ble_eq_true rfl, Nat.le_of_ble_eq_true rfl⟩ gX12_number_5.2.1 (fun u8316 H locs hr8315 hP hD hS => ?_)
  refine Kpdr (ws := [(h0, oX12 nw nk mhasKept nt mtaped nr mrowMany mroundOf mroundFrom mouts nm mfromHour mtoHour ns mfrom mto msort 1 mdeep mcoded mlines nl nc nF np ntr nb mbestCost nso nsi nit nsh nsf nss nrc mtraced mdealer mnumber mwhose msize misParted)]) hP hD (fun hP hD => ?_)
  refine lv_iload_n hx hb gX12_number_5.2.2.1 rfl (lv_at2 hl) ?_
  refine toQ hQ0 ?_
  exact RI (v := 0) hC hP hD hS [0] () rfl rfl (by decide) (rfl) rfl gX12_number_5.2.2.2
def K_m_number0 (l : Launch) (G : GG) (h0 : Nat) (mq : Nat) (nw : Nat) (nk : Nat) (mhasKept : Int32) (nt : Nat) (ktp : Nat) (nr : Nat) (mrowMany : Int32) (mroundOf : Int32) (mroundFrom : Int32) (mouts : Int32) (nm : Nat) (mfromHour : Int32) (mtoHour : Int32) (ns : Nat) (kf : Nat) (kt : Nat) (so : Int32) (mdeep : Int32) (mcoded : Int32) (mlines : Int32) (nl : Nat) (nc : Nat) (nF : Nat) (np : Nat) (ntr : Nat) (nb : Nat) (mbestCost : Int32) (nso : Nat) (nsi : Nat) (nit : Nat) (nsh : Nat) (nsf : Nat) (nss : Nat) (nrc : Nat) (mtraced : Int32) (mdealer : Int32) (mnumber : Int32) (mwhose : Int32) (msize : Int32) (misParted : Int32) (fnt : Nat → Int32) : Prop := MI l G yX12_number cX12_number 5 (some .int) 5 0 0 [.ref h0, .int (nI mq)] [(h0, oX12 nw nk mhasKept nt (nI ktp) nr mrowMany mroundOf mroundFrom mouts nm mfromHour mtoHour ns (nI kf) (nI kt) so 0 mdeep mcoded mlines nl nc nF np ntr nb mbestCost nso nsi nit nsh nsf nss nrc mtraced mdealer mnumber mwhose msize misParted), (nt, iA G 240 fnt)] (fun (r : Int32) (u : Int32 × Nat × Nat × Int32) => (True) ∧ (u.1 = 1 ∨ (u.1 = 0 ∧ (∃ v, v ≤ mq ∧ r = nI v) ∧ kf < u.2.1 ∧ TOK fnt u.2.2.2 u.2.1 u.2.2.1 ktp))) (fun u : Int32 × Nat × Nat × Int32 => [(h0, oX12 nw nk mhasKept nt (nI ktp) nr mrowMany mroundOf mroundFrom mouts nm mfromHour mtoHour ns (nI u.2.1) (nI u.2.2.1) u.2.2.2 u.1 mdeep mcoded mlines nl nc nF np ntr nb mbestCost nso nsi nit nsh nsf nss nrc mtraced mdealer mnumber mwhose msize misParted), (nt, iA G 240 fnt)])
set_option maxHeartbeats 4000000 in
set_option maxRecDepth 100000 in
theorem m_number0 (l : Launch) (G : GG) (h0 : Nat) (mq : Nat) (nw : Nat) (nk : Nat) (mhasKept : Int32) (nt : Nat) (ktp : Nat) (nr : Nat) (mrowMany : Int32) (mroundOf : Int32) (mroundFrom : Int32) (mouts : Int32) (nm : Nat) (mfromHour : Int32) (mtoHour : Int32) (ns : Nat) (kf : Nat) (kt : Nat) (so : Int32) (mdeep : Int32) (mcoded : Int32) (mlines : Int32) (nl : Nat) (nc : Nat) (nF : Nat) (np : Nat) (ntr : Nat) (nb : Nat) (mbestCost : Int32) (nso : Nat) (nsi : Nat) (nit : Nat) (nsh : Nat) (nsf : Nat) (nss : Nat) (nrc : Nat) (mtraced : Int32) (mdealer : Int32) (mnumber : Int32) (mwhose : Int32) (msize : Int32) (misParted : Int32) (fnt : Nat → Int32) (hT : TOK fnt so kf kt ktp) (htp : ktp ≤ 240) (hmq : mq ≤ 999) : K_m_number0 l G h0 mq nw nk mhasKept nt ktp nr mrowMany mroundOf mroundFrom mouts nm mfromHour mtoHour ns kf kt so mdeep mcoded mlines nl nc nF np ntr nb mbestCost nso nsi nit nsh nsf nss nrc mtraced mdealer mnumber mwhose msize misParted fnt := by
  refine MI.start (by decide +kernel) (Nat.le_of_ble_eq_true rfl) ?_
  intro p e s m below meth c A ls hC hK hP hD hS hA hl
  refine absQ (fun Q0 hQ0 => ?_)
  have hl : lv_has ls 5 [(0, .ref h0), (1, .int (nI mq))] := hl
  refine Kan8 hC (fun hx hb hr hml hB hown hlocks hnm => ?_)
  have tA := hT.1
  have tB := hT.2.1
  refine lv_iconst (v := 0) hx hb gX12_number_0.1 (by decide) ?_
  refine lv_istore_n (lv' := [(2, .int 0), (0, .ref h0), (1, .int (nI mq))]) hx hb gX12_number_0.2.1 rfl hl (by decide) rfl (fun ls hl => ?_)
  refine lv_aload_n hx hb gX12_number_0.2.2.1 rfl (lv_at1 hl) ?_
  refine gf_X12_222 hC rfl hK hP 0 rfl rfl gX12_number_0.2.2.2.1 ?_
  refine lv_if_ne (tgt := 34) hx hb gX12_number_0.2.2.2.2.1 (by decide) (fun c9 => absurd (by decide) c9) (fun _ => ?_)
  refine lv_aload_n hx hb gX12_number_0.2.2.2.2.2.1 rfl (lv_at1 hl) ?_
  refine gf_X12_217 hC rfl hK hP 0 rfl rfl gX12_number_0.2.2.2.2.2.2.1 ?_
  refine lv_iconst (v := 2) hx hb gX12_number_0.2.2.2.2.2.2.2.1 (by decide) ?_
  refine lv_icmp_ne (tgt := 34) hx hb gX12_number_0.2.2.2.2.2.2.2.2.1 (by decide) (fun c_14_8317 => ?_) (fun c_14_8317 => ?_)
  · refine lv_iconst (v := 0) hx hb gX12_number_1.2.2.2.2.2.2.2.2.1 (by decide) ?_
    refine lv_istore_n (lv' := [(3, .int 0), (2, .int 0), (0, .ref h0), (1, .int (nI mq))]) hx hb gX12_number_1.2.2.2.2.2.2.2.2.2 rfl hl (by decide) rfl (fun ls hl => ?_)
    refine lv_aload_n hx hb gX12_number_2.1 rfl (lv_at2 hl) ?_
    refine gf_X12_214 hC rfl hK hP 0 rfl rfl gX12_number_2.2.1 ?_
    refine lv_istore (lv' := [(4, .int (nI kf)), (3, .int 0), (2, .int 0), (0, .ref h0), (1, .int (nI mq))]) hx hb gX12_number_2.2.2.1 hl (by decide) rfl (fun ls hl => ?_)
    refine lv_iload_n hx hb gX12_number_2.2.2.2.1 rfl (lv_at1 hl) ?_
    refine lv_if_eq (tgt := 77) hx hb gX12_number_2.2.2.2.2.1 (by decide) (fun _ => ?_) (fun c9 => absurd (by decide) c9)
    refine lv_aload_n hx hb gX12_number_4.2.2.1 rfl (lv_at3 hl) ?_
    refine lv_iload_n hx hb gX12_number_4.2.2.2.1 rfl (lv_at1 hl) ?_
    refine lv_if_eq (tgt := 91) hx hb gX12_number_4.2.2.2.2.1 (by decide) (fun _ => ?_) (fun c9 => absurd (by decide) c9)
    refine lv_iconst (v := 0) hx hb gX12_number_5.1 (by decide) ?_
    refine vV (wr := [(nt, iA G 240 fnt)]) hC hK hl hP hD hS hA (m_need0 l G h0 nw nk mhasKept nt (nI ktp) nr mrowMany mroundOf mroundFrom mouts nm mfromHour mtoHour ns (nI kf) (nI kt) so mdeep mcoded mlines nl nc nF np ntr nb mbestCost nso nsi nit nsh nsf nss nrc mtraced mdealer mnumber mwhose msize misParted) si_X12_236 [0] [1] sm_0 fm_0 nd_0 sm_1 nd_1 dj_0__1 rfl rfl rfl rfl rfl (Nat.le_of_ble_eq_true rfl) rm_5_4_2 ⟨Nat.le_of_ble_eq_true rfl, Nat.le_of_ble_eq_true rfl⟩ gX12_number_5.2.1 (fun u8319 H locs hr8318 hP hD hS => ?_)
    refine Kpdr (ws := [(nt, iA G 240 fnt), (h0, oX12 nw nk mhasKept nt (nI ktp) nr mrowMany mroundOf mroundFrom mouts nm mfromHour mtoHour ns (nI kf) (nI kt) so 1 mdeep mcoded mlines nl nc nF np ntr nb mbestCost nso nsi nit nsh nsf nss nrc mtraced mdealer mnumber mwhose msize misParted)]) hP hD (fun hP hD => ?_)
    refine lv_iload_n hx hb gX12_number_5.2.2.1 rfl (lv_at2 hl) ?_
    refine toQ hQ0 ?_
    exact RI (v := 0) hC hP hD hS [1, 0] (1, kf, kt, so) rfl rfl (by decide) (⟨trivial, Or.inl rfl⟩) rfl gX12_number_5.2.2.2
  · refine lv_aload_n hx hb gX12_number_0.2.2.2.2.2.2.2.2.2 rfl (lv_at1 hl) ?_
    refine gf_X12_211 hC rfl hK hP 0 rfl rfl gX12_number_1.1 ?_
    refine lv_aload_n hx hb gX12_number_1.2.1 rfl (lv_at1 hl) ?_
    refine gf_X12_214 hC rfl hK hP 0 rfl rfl gX12_number_1.2.2.1 ?_
    refine lv_isub hx hb gX12_number_1.2.2.2.1 ?_
    refine eqi (x1 := nI (kt - kf)) (nI_subR (by omega)) ?_
    refine lv_iconst (v := 3) hx hb gX12_number_1.2.2.2.2.1 (by decide) ?_
    refine lv_icmp_gt (tgt := 34) hx hb gX12_number_1.2.2.2.2.2.1 (by decide) (fun c_27_8320 => ?_) (fun c_27_8320 => ?_)
    · refine lv_iconst (v := 0) hx hb gX12_number_1.2.2.2.2.2.2.2.2.1 (by decide) ?_
      refine lv_istore_n (lv' := [(3, .int 0), (2, .int 0), (0, .ref h0), (1, .int (nI mq))]) hx hb gX12_number_1.2.2.2.2.2.2.2.2.2 rfl hl (by decide) rfl (fun ls hl => ?_)
      refine lv_aload_n hx hb gX12_number_2.1 rfl (lv_at2 hl) ?_
      refine gf_X12_214 hC rfl hK hP 0 rfl rfl gX12_number_2.2.1 ?_
      refine lv_istore (lv' := [(4, .int (nI kf)), (3, .int 0), (2, .int 0), (0, .ref h0), (1, .int (nI mq))]) hx hb gX12_number_2.2.2.1 hl (by decide) rfl (fun ls hl => ?_)
      refine lv_iload_n hx hb gX12_number_2.2.2.2.1 rfl (lv_at1 hl) ?_
      refine lv_if_eq (tgt := 77) hx hb gX12_number_2.2.2.2.2.1 (by decide) (fun _ => ?_) (fun c9 => absurd (by decide) c9)
      refine lv_aload_n hx hb gX12_number_4.2.2.1 rfl (lv_at3 hl) ?_
      refine lv_iload_n hx hb gX12_number_4.2.2.2.1 rfl (lv_at1 hl) ?_
      refine lv_if_eq (tgt := 91) hx hb gX12_number_4.2.2.2.2.1 (by decide) (fun _ => ?_) (fun c9 => absurd (by decide) c9)
      refine lv_iconst (v := 0) hx hb gX12_number_5.1 (by decide) ?_
      refine vV (wr := [(nt, iA G 240 fnt)]) hC hK hl hP hD hS hA (m_need0 l G h0 nw nk mhasKept nt (nI ktp) nr mrowMany mroundOf mroundFrom mouts nm mfromHour mtoHour ns (nI kf) (nI kt) so mdeep mcoded mlines nl nc nF np ntr nb mbestCost nso nsi nit nsh nsf nss nrc mtraced mdealer mnumber mwhose msize misParted) si_X12_236 [0] [1] sm_0 fm_0 nd_0 sm_1 nd_1 dj_0__1 rfl rfl rfl rfl rfl (Nat.le_of_ble_eq_true rfl) rm_5_4_2 ⟨Nat.le_of_ble_eq_true rfl, Nat.le_of_ble_eq_true rfl⟩ gX12_number_5.2.1 (fun u8322 H locs hr8321 hP hD hS => ?_)
      refine Kpdr (ws := [(nt, iA G 240 fnt), (h0, oX12 nw nk mhasKept nt (nI ktp) nr mrowMany mroundOf mroundFrom mouts nm mfromHour mtoHour ns (nI kf) (nI kt) so 1 mdeep mcoded mlines nl nc nF np ntr nb mbestCost nso nsi nit nsh nsf nss nrc mtraced mdealer mnumber mwhose msize misParted)]) hP hD (fun hP hD => ?_)
      refine lv_iload_n hx hb gX12_number_5.2.2.1 rfl (lv_at2 hl) ?_
      refine toQ hQ0 ?_
      exact RI (v := 0) hC hP hD hS [1, 0] (1, kf, kt, so) rfl rfl (by decide) (⟨trivial, Or.inl rfl⟩) rfl gX12_number_5.2.2.2
    · have hle3 : kt - kf ≤ 3 := nle_of (a := 3) (b := kt - kf) (by decide) (by omega) c_27_8320
      have hdg9 := hT.2.2.2 c_14_8317
      refine lv_iconst (v := 1) hx hb gX12_number_1.2.2.2.2.2.2.1 (by decide) ?_
      refine lv_goto (tgt := 35) hx hb gX12_number_1.2.2.2.2.2.2.2.1 (by decide) ?_
      refine lv_istore_n (lv' := [(3, .int 1), (2, .int 0), (0, .ref h0), (1, .int (nI mq))]) hx hb gX12_number_1.2.2.2.2.2.2.2.2.2 rfl hl (by decide) rfl (fun ls hl => ?_)
      refine lv_aload_n hx hb gX12_number_2.1 rfl (lv_at2 hl) ?_
      refine gf_X12_214 hC rfl hK hP 0 rfl rfl gX12_number_2.2.1 ?_
      refine lv_istore (lv' := [(4, .int (nI kf)), (3, .int 1), (2, .int 0), (0, .ref h0), (1, .int (nI mq))]) hx hb gX12_number_2.2.2.1 hl (by decide) rfl (fun ls hl => ?_)
      have keyP : ∀ (nP kP : Nat) (vv : Nat) (H : Heap) (locs : List Loc) (ls : Array Slot), kP + nP = kt → ((kP = kf ∧ vv = 0) ∨ (kP = kf + 1 ∧ vv ≤ 9) ∨ (kP = kf + 2 ∧ vv ≤ 99) ∨ (kP = kf + 3 ∧ vv ≤ 999)) → va_PD G A [(h0, oX12 nw nk mhasKept nt (nI ktp) nr mrowMany mroundOf mroundFrom mouts nm mfromHour mtoHour ns (nI kf) (nI kt) so 0 mdeep mcoded mlines nl nc nF np ntr nb mbestCost nso nsi nit nsh nsf nss nrc mtraced mdealer mnumber mwhose msize misParted), (nt, iA G 240 fnt)] H → va_S A s.heap H locs → lv_has ls 5 [(4, .int (nI kP)), (3, .int 1), (2, .int (nI vv)), (0, .ref h0), (1, .int (nI mq))] → W p l e (RM 5 0 0) s m ([.ref h0, .int (nI mq)] : List Value).toArray below meth c H locs 0 0 Q0 (F0 m 42 ls []) := by
        intro nP
        induction nP with
        | zero =>
          intro kP vv H locs ls hkP hvv hPD hS hl
          refine Kan2 hPD (fun hP hD => ?_)
          obtain rfl : kt = kP := by omega
          have hl : lv_has ls 5 [(4, .int (nI kt)), (3, .int 1), (2, .int (nI vv)), (0, .ref h0), (1, .int (nI mq))] := hl
          refine lv_iload_n hx hb gX12_number_2.2.2.2.1 rfl (lv_at1 hl) ?_
          refine lv_if_eq (tgt := 77) hx hb gX12_number_2.2.2.2.2.1 (by decide) (fun c9 => absurd c9 (by decide)) (fun _ => ?_)
          refine lv_iload hx hb gX12_number_2.2.2.2.2.2.1 (lv_at0 hl) ?_
          refine lv_aload_n hx hb gX12_number_2.2.2.2.2.2.2.1 rfl (lv_at3 hl) ?_
          refine gf_X12_211 hC rfl hK hP 0 rfl rfl gX12_number_2.2.2.2.2.2.2.2.1 ?_
          refine lv_icmp_ge (tgt := 77) hx hb gX12_number_2.2.2.2.2.2.2.2.2.1 (by decide) (fun _ => ?_) (fun c9 => absurd (Int32.le_refl _) c9)
          refine lv_aload_n hx hb gX12_number_4.2.2.1 rfl (lv_at3 hl) ?_
          refine lv_iload_n hx hb gX12_number_4.2.2.2.1 rfl (lv_at1 hl) ?_
          refine lv_if_eq (tgt := 91) hx hb gX12_number_4.2.2.2.2.1 (by decide) (fun c9 => absurd c9 (by decide)) (fun _ => ?_)
          refine lv_iload_n hx hb gX12_number_4.2.2.2.2.2.1 rfl (lv_at2 hl) ?_
          refine lv_iload_n hx hb gX12_number_4.2.2.2.2.2.2.1 rfl (lv_at4 hl) ?_
          refine lv_icmp_gt (tgt := 91) hx hb gX12_number_4.2.2.2.2.2.2.2.1 (by decide) (fun c_84_8323 => ?_) (fun c_84_8323 => ?_)
          · refine lv_iconst (v := 0) hx hb gX12_number_5.1 (by decide) ?_
            refine vV (wr := [(nt, iA G 240 fnt)]) hC hK hl hP hD hS hA (m_need0 l G h0 nw nk mhasKept nt (nI ktp) nr mrowMany mroundOf mroundFrom mouts nm mfromHour mtoHour ns (nI kf) (nI kt) so mdeep mcoded mlines nl nc nF np ntr nb mbestCost nso nsi nit nsh nsf nss nrc mtraced mdealer mnumber mwhose msize misParted) si_X12_236 [0] [1] sm_0 fm_0 nd_0 sm_1 nd_1 dj_0__1 rfl rfl rfl rfl rfl (Nat.le_of_ble_eq_true rfl) rm_5_4_2 ⟨Nat.le_of_ble_eq_true rfl, Nat.le_of_ble_eq_true rfl⟩ gX12_number_5.2.1 (fun u8325 H locs hr8324 hP hD hS => ?_)
            refine Kpdr (ws := [(nt, iA G 240 fnt), (h0, oX12 nw nk mhasKept nt (nI ktp) nr mrowMany mroundOf mroundFrom mouts nm mfromHour mtoHour ns (nI kf) (nI kt) so 1 mdeep mcoded mlines nl nc nF np ntr nb mbestCost nso nsi nit nsh nsf nss nrc mtraced mdealer mnumber mwhose msize misParted)]) hP hD (fun hP hD => ?_)
            refine lv_iload_n hx hb gX12_number_5.2.2.1 rfl (lv_at2 hl) ?_
            refine toQ hQ0 ?_
            exact RI (v := nI vv) hC hP hD hS [1, 0] (1, kf, kt, so) rfl rfl (by decide) (⟨trivial, Or.inl rfl⟩) rfl gX12_number_5.2.2.2
          · refine lv_iconst (v := 1) hx hb gX12_number_4.2.2.2.2.2.2.2.2.1 (by decide) ?_
            refine lv_goto (tgt := 92) hx hb gX12_number_4.2.2.2.2.2.2.2.2.2 (by decide) ?_
            have hlt8 := hT.lt (by rw [c_14_8317]; decide)
            refine vV (wr := []) hC hK hl hP hD hS hA (m_need1 l G h0 nw nk mhasKept nt ktp nr mrowMany mroundOf mroundFrom mouts nm mfromHour mtoHour ns (nI kf) kt so mdeep mcoded mlines nl nc nF np ntr nb mbestCost nso nsi nit nsh nsf nss nrc mtraced mdealer mnumber mwhose msize misParted fnt (by omega) (htp)) si_X12_236 [0, 1] [] sm_0_1 fm_0_1 nd_0_1 rfl rfl (by decide) rfl rfl rfl rfl rfl (Nat.le_of_ble_eq_true rfl) rm_5_4_2 ⟨Nat.le_of_ble_eq_true rfl, Nat.le_of_ble_eq_true rfl⟩ gX12_number_5.2.1 (Ktu3 fun kf18328 kt18329 so18330 => ?_)
            intro H locs hr8326 hP hD hS
            try dsimp only at hr8326
            refine Kpdr (ws := [(h0, oX12 nw nk mhasKept nt (nI ktp) nr mrowMany mroundOf mroundFrom mouts nm mfromHour mtoHour ns (nI kf18328) (nI kt18329) so18330 0 mdeep mcoded mlines nl nc nF np ntr nb mbestCost nso nsi nit nsh nsf nss nrc mtraced mdealer mnumber mwhose msize misParted), (nt, iA G 240 fnt)]) hP hD (fun hP hD => ?_)
            have hw8332_0 := hr8326.1
            have hw8332_1 := hr8326.2
            have tA8334 := hw8332_1.1
            have tB8334 := hw8332_1.2.1
            refine lv_iload_n hx hb gX12_number_5.2.2.1 rfl (lv_at2 hl) ?_
            refine toQ hQ0 ?_
            exact RI (v := nI vv) hC hP hD hS [0, 1] (0, kf18328, kt18329, so18330) rfl rfl (by decide) (⟨trivial, Or.inr ⟨rfl, ⟨_, nle_of (by omega) (by omega) c_84_8323, rfl⟩, by (try dsimp only); omega, hw8332_1⟩⟩) rfl gX12_number_5.2.2.2
        | succ nP ihP =>
          intro kP vv H locs ls hkP hvv hPD hS hl
          refine Kan2 hPD (fun hP hD => ?_)
          refine lv_iload_n hx hb gX12_number_2.2.2.2.1 rfl (lv_at1 hl) ?_
          refine lv_if_eq (tgt := 77) hx hb gX12_number_2.2.2.2.2.1 (by decide) (fun c9 => absurd c9 (by decide)) (fun _ => ?_)
          refine lv_iload hx hb gX12_number_2.2.2.2.2.2.1 (lv_at0 hl) ?_
          refine lv_aload_n hx hb gX12_number_2.2.2.2.2.2.2.1 rfl (lv_at3 hl) ?_
          refine gf_X12_211 hC rfl hK hP 0 rfl rfl gX12_number_2.2.2.2.2.2.2.2.1 ?_
          refine lv_icmp_ge (tgt := 77) hx hb gX12_number_2.2.2.2.2.2.2.2.2.1 (by decide) (fun c9 => absurd c9 (nI_ge (a := kP) (b := kt) (by omega) (by omega))) (fun _ => ?_)
          refine lv_bipush (v := 10) hx hb gX12_number_2.2.2.2.2.2.2.2.2.2 (by decide) ?_
          refine lv_iload_n hx hb gX12_number_3.1 rfl (lv_at2 hl) ?_
          refine lv_imul hx hb gX12_number_3.2.1 ?_
          refine eqi (x1 := nI (10 * vv)) (nI_mul 10 vv) ?_
          refine lv_aload_n hx hb gX12_number_3.2.2.1 rfl (lv_at3 hl) ?_
          refine gf_X12_16 hC rfl hK hP 0 rfl rfl gX12_number_3.2.2.2.1 ?_
          refine lv_iload hx hb gX12_number_3.2.2.2.2.1 (lv_at0 hl) ?_
          obtain ⟨dd, hdd, edd⟩ := hdg9 kP (by omega) (by omega)
          refine aldN hC hK hP 1 rfl (k := kP) (by omega) (Nat.le_of_ble_eq_true rfl) (v := nI (48 + dd)) (edd) gX12_number_3.2.2.2.2.2.1 ?_
          refine lv_iadd hx hb gX12_number_3.2.2.2.2.2.2.1 ?_
          refine eqi (x1 := nI (10 * vv + (48 + dd))) (nI_add (10 * vv) (48 + dd)) ?_
          refine lv_bipush (v := 48) hx hb gX12_number_3.2.2.2.2.2.2.2.1 (by decide) ?_
          refine lv_isub hx hb gX12_number_3.2.2.2.2.2.2.2.2.1 ?_
          refine eqi (x1 := nI (10 * vv + dd)) ((nI_subR (b := 48) (by omega)).trans (congrArg nI (by omega))) ?_
          refine lv_istore_n (lv' := [(2, .int (nI (10 * vv + dd))), (4, .int (nI kP)), (3, .int 1), (0, .ref h0), (1, .int (nI mq))]) hx hb gX12_number_3.2.2.2.2.2.2.2.2.2 rfl hl (by decide) rfl (fun ls hl => ?_)
          refine lv_iinc (v := nI (kP + 1)) (lv' := [(4, .int (nI (kP + 1))), (2, .int (nI (10 * vv + dd))), (3, .int 1), (0, .ref h0), (1, .int (nI mq))]) hx hb gX12_number_4.1 hl (k := 1) rfl (nI_1 _) (by decide) rfl (fun ls hl => ?_)
          refine lv_goto (tgt := 42) hx hb gX12_number_4.2.1 (by decide) ?_
          exact ihP (kP + 1) (10 * vv + dd) _ _ _ (by omega) (by first | assumption | exact Or.inl rfl | exact Or.inr rfl | omega | omega) (And.intro hP hD) hS (lv_sub hl [0, 2, 1, 3, 4] rfl)
      exact keyP (kt - kf) kf 0 _ _ _ (by omega) (by first | assumption | exact Or.inl rfl | exact Or.inr rfl | omega | omega) (And.intro hP hD) hS (lv_sub hl [0, 1, 2, 3, 4] rfl)
def K_m_codesF (l : Launch) (G : GG) (h0 : Nat) (vv : Int32) (nw : Nat) (nk : Nat) (mhasKept : Int32) (nt : Nat) (mtaped : Int32) (nr : Nat) (mrowMany : Int32) (mroundOf : Int32) (mroundFrom : Int32) (mouts : Int32) (nm : Nat) (mfromHour : Int32) (mtoHour : Int32) (ns : Nat) (mfrom : Int32) (mto : Int32) (msort : Int32) (mdeep : Int32) (mcoded : Int32) (mlines : Int32) (nl : Nat) (nc : Nat) (nF : Nat) (np : Nat) (ntr : Nat) (nb : Nat) (mbestCost : Int32) (nso : Nat) (nsi : Nat) (nit : Nat) (nsh : Nat) (nsf : Nat) (nss : Nat) (nrc : Nat) (mtraced : Int32) (mdealer : Int32) (mnumber : Int32) (mwhose : Int32) (msize : Int32) (misParted : Int32) : Prop := MV l G yX12_codes cX12_codes 2 1 0 0 [.ref h0, .int vv] [(h0, oX12 nw nk mhasKept nt mtaped nr mrowMany mroundOf mroundFrom mouts nm mfromHour mtoHour ns mfrom mto msort 1 mdeep mcoded mlines nl nc nF np ntr nb mbestCost nso nsi nit nsh nsf nss nrc mtraced mdealer mnumber mwhose msize misParted)] (fun u : Unit => True) (fun u : Unit => [(h0, oX12 nw nk mhasKept nt mtaped nr mrowMany mroundOf mroundFrom mouts nm mfromHour mtoHour ns mfrom mto msort 1 mdeep mcoded mlines nl nc nF np ntr nb mbestCost nso nsi nit nsh nsf nss nrc mtraced mdealer mnumber mwhose msize misParted)])
set_option maxHeartbeats 4000000 in
set_option maxRecDepth 100000 in
theorem m_codesF (l : Launch) (G : GG) (h0 : Nat) (vv : Int32) (nw : Nat) (nk : Nat) (mhasKept : Int32) (nt : Nat) (mtaped : Int32) (nr : Nat) (mrowMany : Int32) (mroundOf : Int32) (mroundFrom : Int32) (mouts : Int32) (nm : Nat) (mfromHour : Int32) (mtoHour : Int32) (ns : Nat) (mfrom : Int32) (mto : Int32) (msort : Int32) (mdeep : Int32) (mcoded : Int32) (mlines : Int32) (nl : Nat) (nc : Nat) (nF : Nat) (np : Nat) (ntr : Nat) (nb : Nat) (mbestCost : Int32) (nso : Nat) (nsi : Nat) (nit : Nat) (nsh : Nat) (nsf : Nat) (nss : Nat) (nrc : Nat) (mtraced : Int32) (mdealer : Int32) (mnumber : Int32) (mwhose : Int32) (msize : Int32) (misParted : Int32) : K_m_codesF l G h0 vv nw nk mhasKept nt mtaped nr mrowMany mroundOf mroundFrom mouts nm mfromHour mtoHour ns mfrom mto msort mdeep mcoded mlines nl nc nF np ntr nb mbestCost nso nsi nit nsh nsf nss nrc mtraced mdealer mnumber mwhose msize misParted := by
  refine MV.start (by decide +kernel) (Nat.le_of_ble_eq_true rfl) ?_
  intro p e s m below meth c A ls hC hK hP hD hS hA hl
  refine absQ (fun Q0 hQ0 => ?_)
  have hl : lv_has ls 2 [(0, .ref h0), (1, .int vv)] := hl
  refine Kan8 hC (fun hx hb hr hml hB hown hlocks hnm => ?_)
  refine lv_aload_n hx hb gX12_codes_0.1 rfl (lv_at0 hl) ?_
  refine gf_X12_222 hC rfl hK hP 0 rfl rfl gX12_codes_0.2.1 ?_
  refine lv_if_ne (tgt := 27) hx hb gX12_codes_0.2.2.1 (by decide) (fun _ => ?_) (fun c9 => absurd c9 (by decide))
  refine toQ hQ0 ?_
  exact RV hC hP hD hS [0] () rfl rfl (by decide) (trivial) gX12_codes_1.2.2.2.2.2
def K_m_codes0 (l : Launch) (G : GG) (h0 : Nat) (vv : Int32) (nw : Nat) (nk : Nat) (mhasKept : Int32) (nt : Nat) (mtaped : Int32) (nr : Nat) (mrowMany : Int32) (mroundOf : Int32) (mroundFrom : Int32) (mouts : Int32) (nm : Nat) (mfromHour : Int32) (mtoHour : Int32) (ns : Nat) (mfrom : Int32) (mto : Int32) (msort : Int32) (mdeep : Int32) (kc : Nat) (mlines : Int32) (nl : Nat) (nc : Nat) (nF : Nat) (np : Nat) (ntr : Nat) (nb : Nat) (mbestCost : Int32) (nso : Nat) (nsi : Nat) (nit : Nat) (nsh : Nat) (nsf : Nat) (nss : Nat) (nrc : Nat) (mtraced : Int32) (mdealer : Int32) (mnumber : Int32) (mwhose : Int32) (msize : Int32) (misParted : Int32) (fnc : Nat → Int32) : Prop := MV l G yX12_codes cX12_codes 2 1 0 0 [.ref h0, .int vv] [(h0, oX12 nw nk mhasKept nt mtaped nr mrowMany mroundOf mroundFrom mouts nm mfromHour mtoHour ns mfrom mto msort 0 mdeep (nI kc) mlines nl nc nF np ntr nb mbestCost nso nsi nit nsh nsf nss nrc mtraced mdealer mnumber mwhose msize misParted), (nc, iA G 100 fnc)] (fun u : Unit => True) (fun u : Unit => [(h0, oX12 nw nk mhasKept nt mtaped nr mrowMany mroundOf mroundFrom mouts nm mfromHour mtoHour ns mfrom mto msort 0 mdeep (nI (kc + 1)) mlines nl nc nF np ntr nb mbestCost nso nsi nit nsh nsf nss nrc mtraced mdealer mnumber mwhose msize misParted), (nc, iA G 100 (upd fnc kc vv))])
set_option maxHeartbeats 4000000 in
set_option maxRecDepth 100000 in
theorem m_codes0 (l : Launch) (G : GG) (h0 : Nat) (vv : Int32) (nw : Nat) (nk : Nat) (mhasKept : Int32) (nt : Nat) (mtaped : Int32) (nr : Nat) (mrowMany : Int32) (mroundOf : Int32) (mroundFrom : Int32) (mouts : Int32) (nm : Nat) (mfromHour : Int32) (mtoHour : Int32) (ns : Nat) (mfrom : Int32) (mto : Int32) (msort : Int32) (mdeep : Int32) (kc : Nat) (mlines : Int32) (nl : Nat) (nc : Nat) (nF : Nat) (np : Nat) (ntr : Nat) (nb : Nat) (mbestCost : Int32) (nso : Nat) (nsi : Nat) (nit : Nat) (nsh : Nat) (nsf : Nat) (nss : Nat) (nrc : Nat) (mtraced : Int32) (mdealer : Int32) (mnumber : Int32) (mwhose : Int32) (msize : Int32) (misParted : Int32) (fnc : Nat → Int32) (hkc : kc < 100) : K_m_codes0 l G h0 vv nw nk mhasKept nt mtaped nr mrowMany mroundOf mroundFrom mouts nm mfromHour mtoHour ns mfrom mto msort mdeep kc mlines nl nc nF np ntr nb mbestCost nso nsi nit nsh nsf nss nrc mtraced mdealer mnumber mwhose msize misParted fnc := by
  refine MV.start (by decide +kernel) (Nat.le_of_ble_eq_true rfl) ?_
  intro p e s m below meth c A ls hC hK hP hD hS hA hl
  refine absQ (fun Q0 hQ0 => ?_)
  have hl : lv_has ls 2 [(0, .ref h0), (1, .int vv)] := hl
  refine Kan8 hC (fun hx hb hr hml hB hown hlocks hnm => ?_)
  refine lv_aload_n hx hb gX12_codes_0.1 rfl (lv_at0 hl) ?_
  refine gf_X12_222 hC rfl hK hP 0 rfl rfl gX12_codes_0.2.1 ?_
  refine lv_if_ne (tgt := 27) hx hb gX12_codes_0.2.2.1 (by decide) (fun c9 => absurd (by decide) c9) (fun _ => ?_)
  refine lv_aload_n hx hb gX12_codes_0.2.2.2.1 rfl (lv_at0 hl) ?_
  refine gf_X12_35 hC rfl hK hP 0 rfl rfl gX12_codes_0.2.2.2.2.1 ?_
  refine lv_aload_n hx hb gX12_codes_0.2.2.2.2.2.1 rfl (lv_at0 hl) ?_
  refine gf_X12_240 hC rfl hK hP 0 rfl rfl gX12_codes_0.2.2.2.2.2.2.1 ?_
  refine lv_iload_n hx hb gX12_codes_0.2.2.2.2.2.2.2.1 rfl (lv_at1 hl) ?_
  refine astN hC hK hP hD hS 1 (ws' := [(h0, oX12 nw nk mhasKept nt mtaped nr mrowMany mroundOf mroundFrom mouts nm mfromHour mtoHour ns mfrom mto msort 0 mdeep (nI kc) mlines nl nc nF np ntr nb mbestCost nso nsi nit nsh nsf nss nrc mtraced mdealer mnumber mwhose msize misParted), (nc, iA G 100 (upd fnc kc vv))]) rfl (k := kc) (by omega) (Nat.le_of_ble_eq_true rfl) (rfl) gX12_codes_0.2.2.2.2.2.2.2.2.1 (fun H locs hP hD hS => ?_)
  refine lv_aload_n hx hb gX12_codes_0.2.2.2.2.2.2.2.2.2 rfl (lv_at0 hl) ?_
  refine lv_dup hx hb gX12_codes_1.1 rfl ?_
  refine gf_X12_240 hC rfl hK hP 0 rfl rfl gX12_codes_1.2.1 ?_
  refine lv_iconst (v := 1) hx hb gX12_codes_1.2.2.1 (by decide) ?_
  refine lv_iadd hx hb gX12_codes_1.2.2.2.1 ?_
  refine eqi (x1 := nI (kc + 1)) (nI_add kc 1) ?_
  refine pf_X12_240 hC rfl hK hP hD hS 0 (ws' := [(h0, oX12 nw nk mhasKept nt mtaped nr mrowMany mroundOf mroundFrom mouts nm mfromHour mtoHour ns mfrom mto msort 0 mdeep (nI (kc + 1)) mlines nl nc nF np ntr nb mbestCost nso nsi nit nsh nsf nss nrc mtraced mdealer mnumber mwhose msize misParted), (nc, iA G 100 (upd fnc kc vv))]) rfl (Nat.le_of_ble_eq_true rfl) rfl rfl rfl gX12_codes_1.2.2.2.2.1 (fun H locs hP hD hS => ?_)
  refine toQ hQ0 ?_
  exact RV hC hP hD hS [0, 1] () rfl rfl (by decide) (trivial) gX12_codes_1.2.2.2.2.2
def K_m_oneF (l : Launch) (G : GG) (K : OO) (h0 : Nat) (nw : Nat) (nk : Nat) (mhasKept : Int32) (nt : Nat) (mtaped : Int32) (nr : Nat) (mrowMany : Int32) (mroundOf : Int32) (mroundFrom : Int32) (mouts : Int32) (nm : Nat) (mfromHour : Int32) (mtoHour : Int32) (ns : Nat) (mfrom : Int32) (mto : Int32) (msort : Int32) (mdeep : Int32) (mcoded : Int32) (mlines : Int32) (nl : Nat) (nc : Nat) (nF : Nat) (np : Nat) (ntr : Nat) (nb : Nat) (mbestCost : Int32) (nso : Nat) (nsi : Nat) (nit : Nat) (nsh : Nat) (nsf : Nat) (nss : Nat) (nrc : Nat) (mtraced : Int32) (mdealer : Int32) (mnumber : Int32) (mwhose : Int32) (msize : Int32) (misParted : Int32) : Prop := MVo l G K yX12_one cX12_one 5 7 0 0 [.ref h0] [(h0, oX12 nw nk mhasKept nt mtaped nr mrowMany mroundOf mroundFrom mouts nm mfromHour mtoHour ns mfrom mto msort 1 mdeep mcoded mlines nl nc nF np ntr nb mbestCost nso nsi nit nsh nsf nss nrc mtraced mdealer mnumber mwhose msize misParted), (nF, sA G 5 (FCT K))] (fun u : Unit => True) (fun u : Unit => [(h0, oX12 nw nk mhasKept nt mtaped nr mrowMany mroundOf mroundFrom mouts nm mfromHour mtoHour ns mfrom mto msort 1 mdeep mcoded mlines nl nc nF np ntr nb mbestCost nso nsi nit nsh nsf nss nrc mtraced mdealer mnumber mwhose msize misParted), (nF, sA G 5 (FCT K))])
set_option maxHeartbeats 4000000 in
set_option maxRecDepth 100000 in
theorem m_oneF (l : Launch) (G : GG) (K : OO) (h0 : Nat) (nw : Nat) (nk : Nat) (mhasKept : Int32) (nt : Nat) (mtaped : Int32) (nr : Nat) (mrowMany : Int32) (mroundOf : Int32) (mroundFrom : Int32) (mouts : Int32) (nm : Nat) (mfromHour : Int32) (mtoHour : Int32) (ns : Nat) (mfrom : Int32) (mto : Int32) (msort : Int32) (mdeep : Int32) (mcoded : Int32) (mlines : Int32) (nl : Nat) (nc : Nat) (nF : Nat) (np : Nat) (ntr : Nat) (nb : Nat) (mbestCost : Int32) (nso : Nat) (nsi : Nat) (nit : Nat) (nsh : Nat) (nsf : Nat) (nss : Nat) (nrc : Nat) (mtraced : Int32) (mdealer : Int32) (mnumber : Int32) (mwhose : Int32) (msize : Int32) (misParted : Int32) : K_m_oneF l G K h0 nw nk mhasKept nt mtaped nr mrowMany mroundOf mroundFrom mouts nm mfromHour mtoHour ns mfrom mto msort mdeep mcoded mlines nl nc nF np ntr nb mbestCost nso nsi nit nsh nsf nss nrc mtraced mdealer mnumber mwhose msize misParted := by
  refine MVo.start (by decide +kernel) (Nat.le_of_ble_eq_true rfl) ?_
  intro p e s m below meth c A ls hC hK hP hD hS hA hl hO
  refine absQ (fun Q0 hQ0 => ?_)
  have hl : lv_has ls 5 [(0, .ref h0)] := hl
  refine Kan8 hC (fun hx hb hr hml hB hown hlocks hnm => ?_)
  refine lv_iconst (v := 0) hx hb gX12_one_0.1 (by decide) ?_
  refine lv_istore_n (lv' := [(1, .int 0), (0, .ref h0)]) hx hb gX12_one_0.2.1 rfl hl (by decide) rfl (fun ls hl => ?_)
  refine lv_aload_n hx hb gX12_one_0.2.2.1 rfl (lv_at1 hl) ?_
  refine va_ldcSw (index := 260) (tx := "not") hx hb hown (hO.2.2 10 (by decide)) gX12_one_0.2.2.2.1 ?_
  refine pVo hO hS hC hK hl hP hD (m_isNameF l G K 10 h0 nw nk mhasKept nt mtaped nr mrowMany mroundOf mroundFrom mouts nm mfromHour mtoHour ns mfrom mto msort mdeep mcoded mlines nl nc nF np ntr nb mbestCost nso nsi nit nsh nsf nss nrc mtraced mdealer mnumber mwhose msize misParted ((by decide))) si_X12_248 [0] sm_0 fm_0 nd_0 rfl rfl rfl rfl rfl (Nat.le_of_ble_eq_true rfl) rm_7_5_4 ⟨by first | exact Nat.le_of_ble_eq_true rfl | exact Nat.zero_le _, by first | exact Nat.le_of_ble_eq_true rfl | exact Nat.zero_le _⟩ gX12_one_0.2.2.2.2.1 (Keqr ?_)
  refine lv_if_eq (tgt := 22) hx hb gX12_one_0.2.2.2.2.2.1 (by decide) (fun _ => ?_) (fun c9 => absurd (by decide) c9)
  refine lv_aload_n hx hb gX12_one_1.1 rfl (lv_at1 hl) ?_
  refine lv_bipush (v := 40) hx hb gX12_one_1.2.1 (by decide) ?_
  refine pV hC hK hl hP hD (m_isSignF l G h0 40 nw nk mhasKept nt mtaped nr mrowMany mroundOf mroundFrom mouts nm mfromHour mtoHour ns mfrom mto msort mdeep mcoded mlines nl nc nF np ntr nb mbestCost nso nsi nit nsh nsf nss nrc mtraced mdealer mnumber mwhose msize misParted) si_X12_262 [0] sm_0 fm_0 nd_0 rfl rfl rfl rfl rfl (Nat.le_of_ble_eq_true rfl) rm_7_1_2 ⟨by first | exact Nat.le_of_ble_eq_true rfl | exact Nat.zero_le _, by first | exact Nat.le_of_ble_eq_true rfl | exact Nat.zero_le _⟩ gX12_one_1.2.2.1 (Keqr ?_)
  refine lv_if_eq (tgt := 85) hx hb gX12_one_1.2.2.2.1 (by decide) (fun _ => ?_) (fun c9 => absurd (by decide) c9)
  refine lv_iconst (v := (-1)) hx hb gX12_one_4.2.2.2.1 (by decide) ?_
  refine lv_istore_n (lv' := [(2, .int (-1)), (1, .int 0), (0, .ref h0)]) hx hb gX12_one_4.2.2.2.2.1 rfl hl (by decide) rfl (fun ls hl => ?_)
  refine lv_iconst (v := 0) hx hb gX12_one_4.2.2.2.2.2.1 (by decide) ?_
  refine lv_istore_n (lv' := [(3, .int 0), (2, .int (-1)), (1, .int 0), (0, .ref h0)]) hx hb gX12_one_4.2.2.2.2.2.2.1 rfl hl (by decide) rfl (fun ls hl => ?_)
  refine lv_iload_n hx hb gX12_one_4.2.2.2.2.2.2.2.1 rfl (lv_at0 hl) ?_
  refine lv_iconst (v := 5) hx hb gX12_one_4.2.2.2.2.2.2.2.2.1 (by decide) ?_
  refine lv_icmp_ge (tgt := 119) hx hb gX12_one_4.2.2.2.2.2.2.2.2.2 (by decide) (fun c9 => absurd c9 (by decide)) (fun _ => ?_)
  refine lv_aload_n hx hb gX12_one_5.1 rfl (lv_at3 hl) ?_
  refine lv_aload_n hx hb gX12_one_5.2.1 rfl (lv_at3 hl) ?_
  refine gf_X12_50 hC rfl hK hP 0 rfl rfl gX12_one_5.2.2.1 ?_
  refine lv_iload_n hx hb gX12_one_5.2.2.2.1 rfl (lv_at0 hl) ?_
  refine aldS hC hK hP 1 rfl (vin (by decide +kernel)) (k := 0) (by decide +kernel) (v := (K.1 11)) (rfl) gX12_one_5.2.2.2.2.1 ?_
  refine pVo hO hS hC hK hl hP hD (m_isNameF l G K 11 h0 nw nk mhasKept nt mtaped nr mrowMany mroundOf mroundFrom mouts nm mfromHour mtoHour ns mfrom mto msort mdeep mcoded mlines nl nc nF np ntr nb mbestCost nso nsi nit nsh nsf nss nrc mtraced mdealer mnumber mwhose msize misParted ((by decide))) si_X12_248 [0] sm_0 fm_0 nd_0 rfl rfl rfl rfl rfl (Nat.le_of_ble_eq_true rfl) rm_7_5_4 ⟨by first | exact Nat.le_of_ble_eq_true rfl | exact Nat.zero_le _, by first | exact Nat.le_of_ble_eq_true rfl | exact Nat.zero_le _⟩ gX12_one_5.2.2.2.2.2.1 (Keqr ?_)
  refine lv_if_eq (tgt := 111) hx hb gX12_one_5.2.2.2.2.2.2.1 (by decide) (fun _ => ?_) (fun c9 => absurd (by decide) c9)
  refine lv_iload_n hx hb gX12_one_5.2.2.2.2.2.2.2.2.2 rfl (lv_at1 hl) ?_
  refine lv_istore_n (lv' := [(2, .int (-1)), (3, .int 0), (1, .int 0), (0, .ref h0)]) hx hb gX12_one_6.1 rfl hl (by decide) rfl (fun ls hl => ?_)
  refine lv_iinc (v := 1) (lv' := [(3, .int 1), (2, .int (-1)), (1, .int 0), (0, .ref h0)]) hx hb gX12_one_6.2.1 hl (k := 1) rfl (by decide) (by decide) rfl (fun ls hl => ?_)
  refine lv_goto (tgt := 89) hx hb gX12_one_6.2.2.1 (by decide) ?_
  refine lv_iload_n hx hb gX12_one_4.2.2.2.2.2.2.2.1 rfl (lv_at0 hl) ?_
  refine lv_iconst (v := 5) hx hb gX12_one_4.2.2.2.2.2.2.2.2.1 (by decide) ?_
  refine lv_icmp_ge (tgt := 119) hx hb gX12_one_4.2.2.2.2.2.2.2.2.2 (by decide) (fun c9 => absurd c9 (by decide)) (fun _ => ?_)
  refine lv_aload_n hx hb gX12_one_5.1 rfl (lv_at3 hl) ?_
  refine lv_aload_n hx hb gX12_one_5.2.1 rfl (lv_at3 hl) ?_
  refine gf_X12_50 hC rfl hK hP 0 rfl rfl gX12_one_5.2.2.1 ?_
  refine lv_iload_n hx hb gX12_one_5.2.2.2.1 rfl (lv_at0 hl) ?_
  refine aldS hC hK hP 1 rfl (vin (by decide +kernel)) (k := 1) (by decide +kernel) (v := (K.1 12)) (rfl) gX12_one_5.2.2.2.2.1 ?_
  refine pVo hO hS hC hK hl hP hD (m_isNameF l G K 12 h0 nw nk mhasKept nt mtaped nr mrowMany mroundOf mroundFrom mouts nm mfromHour mtoHour ns mfrom mto msort mdeep mcoded mlines nl nc nF np ntr nb mbestCost nso nsi nit nsh nsf nss nrc mtraced mdealer mnumber mwhose msize misParted ((by decide))) si_X12_248 [0] sm_0 fm_0 nd_0 rfl rfl rfl rfl rfl (Nat.le_of_ble_eq_true rfl) rm_7_5_4 ⟨by first | exact Nat.le_of_ble_eq_true rfl | exact Nat.zero_le _, by first | exact Nat.le_of_ble_eq_true rfl | exact Nat.zero_le _⟩ gX12_one_5.2.2.2.2.2.1 (Keqr ?_)
  refine lv_if_eq (tgt := 111) hx hb gX12_one_5.2.2.2.2.2.2.1 (by decide) (fun _ => ?_) (fun c9 => absurd (by decide) c9)
  refine lv_iload_n hx hb gX12_one_5.2.2.2.2.2.2.2.2.2 rfl (lv_at1 hl) ?_
  refine lv_istore_n (lv' := [(2, .int (-1)), (3, .int 1), (1, .int 0), (0, .ref h0)]) hx hb gX12_one_6.1 rfl hl (by decide) rfl (fun ls hl => ?_)
  refine lv_iinc (v := 2) (lv' := [(3, .int 2), (2, .int (-1)), (1, .int 0), (0, .ref h0)]) hx hb gX12_one_6.2.1 hl (k := 1) rfl (by decide) (by decide) rfl (fun ls hl => ?_)
  refine lv_goto (tgt := 89) hx hb gX12_one_6.2.2.1 (by decide) ?_
  refine lv_iload_n hx hb gX12_one_4.2.2.2.2.2.2.2.1 rfl (lv_at0 hl) ?_
  refine lv_iconst (v := 5) hx hb gX12_one_4.2.2.2.2.2.2.2.2.1 (by decide) ?_
  refine lv_icmp_ge (tgt := 119) hx hb gX12_one_4.2.2.2.2.2.2.2.2.2 (by decide) (fun c9 => absurd c9 (by decide)) (fun _ => ?_)
  refine lv_aload_n hx hb gX12_one_5.1 rfl (lv_at3 hl) ?_
  refine lv_aload_n hx hb gX12_one_5.2.1 rfl (lv_at3 hl) ?_
  refine gf_X12_50 hC rfl hK hP 0 rfl rfl gX12_one_5.2.2.1 ?_
  refine lv_iload_n hx hb gX12_one_5.2.2.2.1 rfl (lv_at0 hl) ?_
  refine aldS hC hK hP 1 rfl (vin (by decide +kernel)) (k := 2) (by decide +kernel) (v := (K.1 13)) (rfl) gX12_one_5.2.2.2.2.1 ?_
  refine pVo hO hS hC hK hl hP hD (m_isNameF l G K 13 h0 nw nk mhasKept nt mtaped nr mrowMany mroundOf mroundFrom mouts nm mfromHour mtoHour ns mfrom mto msort mdeep mcoded mlines nl nc nF np ntr nb mbestCost nso nsi nit nsh nsf nss nrc mtraced mdealer mnumber mwhose msize misParted ((by decide))) si_X12_248 [0] sm_0 fm_0 nd_0 rfl rfl rfl rfl rfl (Nat.le_of_ble_eq_true rfl) rm_7_5_4 ⟨by first | exact Nat.le_of_ble_eq_true rfl | exact Nat.zero_le _, by first | exact Nat.le_of_ble_eq_true rfl | exact Nat.zero_le _⟩ gX12_one_5.2.2.2.2.2.1 (Keqr ?_)
  refine lv_if_eq (tgt := 111) hx hb gX12_one_5.2.2.2.2.2.2.1 (by decide) (fun _ => ?_) (fun c9 => absurd (by decide) c9)
  refine lv_iload_n hx hb gX12_one_5.2.2.2.2.2.2.2.2.2 rfl (lv_at1 hl) ?_
  refine lv_istore_n (lv' := [(2, .int (-1)), (3, .int 2), (1, .int 0), (0, .ref h0)]) hx hb gX12_one_6.1 rfl hl (by decide) rfl (fun ls hl => ?_)
  refine lv_iinc (v := 3) (lv' := [(3, .int 3), (2, .int (-1)), (1, .int 0), (0, .ref h0)]) hx hb gX12_one_6.2.1 hl (k := 1) rfl (by decide) (by decide) rfl (fun ls hl => ?_)
  refine lv_goto (tgt := 89) hx hb gX12_one_6.2.2.1 (by decide) ?_
  refine lv_iload_n hx hb gX12_one_4.2.2.2.2.2.2.2.1 rfl (lv_at0 hl) ?_
  refine lv_iconst (v := 5) hx hb gX12_one_4.2.2.2.2.2.2.2.2.1 (by decide) ?_
  refine lv_icmp_ge (tgt := 119) hx hb gX12_one_4.2.2.2.2.2.2.2.2.2 (by decide) (fun c9 => absurd c9 (by decide)) (fun _ => ?_)
  refine lv_aload_n hx hb gX12_one_5.1 rfl (lv_at3 hl) ?_
  refine lv_aload_n hx hb gX12_one_5.2.1 rfl (lv_at3 hl) ?_
  refine gf_X12_50 hC rfl hK hP 0 rfl rfl gX12_one_5.2.2.1 ?_
  refine lv_iload_n hx hb gX12_one_5.2.2.2.1 rfl (lv_at0 hl) ?_
  refine aldS hC hK hP 1 rfl (vin (by decide +kernel)) (k := 3) (by decide +kernel) (v := (K.1 14)) (rfl) gX12_one_5.2.2.2.2.1 ?_
  refine pVo hO hS hC hK hl hP hD (m_isNameF l G K 14 h0 nw nk mhasKept nt mtaped nr mrowMany mroundOf mroundFrom mouts nm mfromHour mtoHour ns mfrom mto msort mdeep mcoded mlines nl nc nF np ntr nb mbestCost nso nsi nit nsh nsf nss nrc mtraced mdealer mnumber mwhose msize misParted ((by decide))) si_X12_248 [0] sm_0 fm_0 nd_0 rfl rfl rfl rfl rfl (Nat.le_of_ble_eq_true rfl) rm_7_5_4 ⟨by first | exact Nat.le_of_ble_eq_true rfl | exact Nat.zero_le _, by first | exact Nat.le_of_ble_eq_true rfl | exact Nat.zero_le _⟩ gX12_one_5.2.2.2.2.2.1 (Keqr ?_)
  refine lv_if_eq (tgt := 111) hx hb gX12_one_5.2.2.2.2.2.2.1 (by decide) (fun _ => ?_) (fun c9 => absurd (by decide) c9)
  refine lv_iload_n hx hb gX12_one_5.2.2.2.2.2.2.2.2.2 rfl (lv_at1 hl) ?_
  refine lv_istore_n (lv' := [(2, .int (-1)), (3, .int 3), (1, .int 0), (0, .ref h0)]) hx hb gX12_one_6.1 rfl hl (by decide) rfl (fun ls hl => ?_)
  refine lv_iinc (v := 4) (lv' := [(3, .int 4), (2, .int (-1)), (1, .int 0), (0, .ref h0)]) hx hb gX12_one_6.2.1 hl (k := 1) rfl (by decide) (by decide) rfl (fun ls hl => ?_)
  refine lv_goto (tgt := 89) hx hb gX12_one_6.2.2.1 (by decide) ?_
  refine lv_iload_n hx hb gX12_one_4.2.2.2.2.2.2.2.1 rfl (lv_at0 hl) ?_
  refine lv_iconst (v := 5) hx hb gX12_one_4.2.2.2.2.2.2.2.2.1 (by decide) ?_
  refine lv_icmp_ge (tgt := 119) hx hb gX12_one_4.2.2.2.2.2.2.2.2.2 (by decide) (fun c9 => absurd c9 (by decide)) (fun _ => ?_)
  refine lv_aload_n hx hb gX12_one_5.1 rfl (lv_at3 hl) ?_
  refine lv_aload_n hx hb gX12_one_5.2.1 rfl (lv_at3 hl) ?_
  refine gf_X12_50 hC rfl hK hP 0 rfl rfl gX12_one_5.2.2.1 ?_
  refine lv_iload_n hx hb gX12_one_5.2.2.2.1 rfl (lv_at0 hl) ?_
  refine aldS hC hK hP 1 rfl (vin (by decide +kernel)) (k := 4) (by decide +kernel) (v := (K.1 15)) (rfl) gX12_one_5.2.2.2.2.1 ?_
  refine pVo hO hS hC hK hl hP hD (m_isNameF l G K 15 h0 nw nk mhasKept nt mtaped nr mrowMany mroundOf mroundFrom mouts nm mfromHour mtoHour ns mfrom mto msort mdeep mcoded mlines nl nc nF np ntr nb mbestCost nso nsi nit nsh nsf nss nrc mtraced mdealer mnumber mwhose msize misParted ((by decide))) si_X12_248 [0] sm_0 fm_0 nd_0 rfl rfl rfl rfl rfl (Nat.le_of_ble_eq_true rfl) rm_7_5_4 ⟨by first | exact Nat.le_of_ble_eq_true rfl | exact Nat.zero_le _, by first | exact Nat.le_of_ble_eq_true rfl | exact Nat.zero_le _⟩ gX12_one_5.2.2.2.2.2.1 (Keqr ?_)
  refine lv_if_eq (tgt := 111) hx hb gX12_one_5.2.2.2.2.2.2.1 (by decide) (fun _ => ?_) (fun c9 => absurd (by decide) c9)
  refine lv_iload_n hx hb gX12_one_5.2.2.2.2.2.2.2.2.2 rfl (lv_at1 hl) ?_
  refine lv_istore_n (lv' := [(2, .int (-1)), (3, .int 4), (1, .int 0), (0, .ref h0)]) hx hb gX12_one_6.1 rfl hl (by decide) rfl (fun ls hl => ?_)
  refine lv_iinc (v := 5) (lv' := [(3, .int 5), (2, .int (-1)), (1, .int 0), (0, .ref h0)]) hx hb gX12_one_6.2.1 hl (k := 1) rfl (by decide) (by decide) rfl (fun ls hl => ?_)
  refine lv_goto (tgt := 89) hx hb gX12_one_6.2.2.1 (by decide) ?_
  refine lv_iload_n hx hb gX12_one_4.2.2.2.2.2.2.2.1 rfl (lv_at0 hl) ?_
  refine lv_iconst (v := 5) hx hb gX12_one_4.2.2.2.2.2.2.2.2.1 (by decide) ?_
  refine lv_icmp_ge (tgt := 119) hx hb gX12_one_4.2.2.2.2.2.2.2.2.2 (by decide) (fun _ => ?_) (fun c9 => absurd (by decide) c9)
  refine lv_aload_n hx hb gX12_one_6.2.2.2.1 rfl (lv_at3 hl) ?_
  refine lv_iload_n hx hb gX12_one_6.2.2.2.2.1 rfl (lv_at1 hl) ?_
  refine lv_if_lt (tgt := 128) hx hb gX12_one_6.2.2.2.2.2.1 (by decide) (fun _ => ?_) (fun c9 => absurd (by decide) c9)
  refine lv_iconst (v := 0) hx hb gX12_one_6.2.2.2.2.2.2.2.2.1 (by decide) ?_
  refine vV (wr := [(nF, sA G 5 (FCT K))]) hC hK hl hP hD hS hA (m_needF l G h0 0 nw nk mhasKept nt mtaped nr mrowMany mroundOf mroundFrom mouts nm mfromHour mtoHour ns mfrom mto msort mdeep mcoded mlines nl nc nF np ntr nb mbestCost nso nsi nit nsh nsf nss nrc mtraced mdealer mnumber mwhose msize misParted) si_X12_236 [0] [1] sm_0 fm_0 nd_0 sm_1 nd_1 dj_0__1 rfl rfl rfl rfl rfl (Nat.le_of_ble_eq_true rfl) rm_7_4_2 ⟨Nat.le_of_ble_eq_true rfl, Nat.le_of_ble_eq_true rfl⟩ gX12_one_6.2.2.2.2.2.2.2.2.2 (fun u8350 H locs hr8349 hP hD hS => ?_)
  refine Kpdr (ws := [(nF, sA G 5 (FCT K)), (h0, oX12 nw nk mhasKept nt mtaped nr mrowMany mroundOf mroundFrom mouts nm mfromHour mtoHour ns mfrom mto msort 1 mdeep mcoded mlines nl nc nF np ntr nb mbestCost nso nsi nit nsh nsf nss nrc mtraced mdealer mnumber mwhose msize misParted)]) hP hD (fun hP hD => ?_)
  refine lv_aload_n hx hb gX12_one_7.1 rfl (lv_at3 hl) ?_
  refine lv_bipush (v := 60) hx hb gX12_one_7.2.1 (by decide) ?_
  refine pV hC hK hl hP hD (m_isSignF l G h0 60 nw nk mhasKept nt mtaped nr mrowMany mroundOf mroundFrom mouts nm mfromHour mtoHour ns mfrom mto msort mdeep mcoded mlines nl nc nF np ntr nb mbestCost nso nsi nit nsh nsf nss nrc mtraced mdealer mnumber mwhose msize misParted) si_X12_262 [1] sm_1 fm_1 nd_1 rfl rfl rfl rfl rfl (Nat.le_of_ble_eq_true rfl) rm_7_1_2 ⟨by first | exact Nat.le_of_ble_eq_true rfl | exact Nat.zero_le _, by first | exact Nat.le_of_ble_eq_true rfl | exact Nat.zero_le _⟩ gX12_one_7.2.2.1 (Keqr ?_)
  refine lv_if_eq (tgt := 145) hx hb gX12_one_7.2.2.2.1 (by decide) (fun _ => ?_) (fun c9 => absurd (by decide) c9)
  refine lv_aload_n hx hb gX12_one_7.2.2.2.2.2.2.1 rfl (lv_at3 hl) ?_
  refine lv_bipush (v := 61) hx hb gX12_one_7.2.2.2.2.2.2.2.1 (by decide) ?_
  refine pV hC hK hl hP hD (m_isSignF l G h0 61 nw nk mhasKept nt mtaped nr mrowMany mroundOf mroundFrom mouts nm mfromHour mtoHour ns mfrom mto msort mdeep mcoded mlines nl nc nF np ntr nb mbestCost nso nsi nit nsh nsf nss nrc mtraced mdealer mnumber mwhose msize misParted) si_X12_262 [1] sm_1 fm_1 nd_1 rfl rfl rfl rfl rfl (Nat.le_of_ble_eq_true rfl) rm_7_1_2 ⟨by first | exact Nat.le_of_ble_eq_true rfl | exact Nat.zero_le _, by first | exact Nat.le_of_ble_eq_true rfl | exact Nat.zero_le _⟩ gX12_one_7.2.2.2.2.2.2.2.2.1 (Keqr ?_)
  refine lv_if_eq (tgt := 158) hx hb gX12_one_7.2.2.2.2.2.2.2.2.2 (by decide) (fun _ => ?_) (fun c9 => absurd (by decide) c9)
  refine lv_iconst (v := 2) hx hb gX12_one_8.2.2.1 (by decide) ?_
  refine lv_istore_n (lv' := [(3, .int 2), (2, .int (-1)), (1, .int 0), (0, .ref h0)]) hx hb gX12_one_8.2.2.2.1 rfl hl (by decide) rfl (fun ls hl => ?_)
  refine lv_aload_n hx hb gX12_one_8.2.2.2.2.1 rfl (lv_at3 hl) ?_
  refine lv_aload_n hx hb gX12_one_8.2.2.2.2.2.1 rfl (lv_at3 hl) ?_
  refine lv_bipush (v := 60) hx hb gX12_one_8.2.2.2.2.2.2.1 (by decide) ?_
  refine pV hC hK hl hP hD (m_isSignF l G h0 60 nw nk mhasKept nt mtaped nr mrowMany mroundOf mroundFrom mouts nm mfromHour mtoHour ns mfrom mto msort mdeep mcoded mlines nl nc nF np ntr nb mbestCost nso nsi nit nsh nsf nss nrc mtraced mdealer mnumber mwhose msize misParted) si_X12_262 [1] sm_1 fm_1 nd_1 rfl rfl rfl rfl rfl (Nat.le_of_ble_eq_true rfl) rm_7_1_2 ⟨by first | exact Nat.le_of_ble_eq_true rfl | exact Nat.zero_le _, by first | exact Nat.le_of_ble_eq_true rfl | exact Nat.zero_le _⟩ gX12_one_8.2.2.2.2.2.2.2.1 (Keqr ?_)
  refine lv_if_ne (tgt := 188) hx hb gX12_one_8.2.2.2.2.2.2.2.2.1 (by decide) (fun c9 => absurd (by decide) c9) (fun _ => ?_)
  refine lv_aload_n hx hb gX12_one_8.2.2.2.2.2.2.2.2.2 rfl (lv_at3 hl) ?_
  refine lv_bipush (v := 61) hx hb gX12_one_9.1 (by decide) ?_
  refine pV hC hK hl hP hD (m_isSignF l G h0 61 nw nk mhasKept nt mtaped nr mrowMany mroundOf mroundFrom mouts nm mfromHour mtoHour ns mfrom mto msort mdeep mcoded mlines nl nc nF np ntr nb mbestCost nso nsi nit nsh nsf nss nrc mtraced mdealer mnumber mwhose msize misParted) si_X12_262 [1] sm_1 fm_1 nd_1 rfl rfl rfl rfl rfl (Nat.le_of_ble_eq_true rfl) rm_7_1_2 ⟨by first | exact Nat.le_of_ble_eq_true rfl | exact Nat.zero_le _, by first | exact Nat.le_of_ble_eq_true rfl | exact Nat.zero_le _⟩ gX12_one_9.2.1 (Keqr ?_)
  refine lv_if_ne (tgt := 188) hx hb gX12_one_9.2.2.1 (by decide) (fun c9 => absurd (by decide) c9) (fun _ => ?_)
  refine lv_aload_n hx hb gX12_one_9.2.2.2.1 rfl (lv_at3 hl) ?_
  refine lv_bipush (v := 62) hx hb gX12_one_9.2.2.2.2.1 (by decide) ?_
  refine pV hC hK hl hP hD (m_isSignF l G h0 62 nw nk mhasKept nt mtaped nr mrowMany mroundOf mroundFrom mouts nm mfromHour mtoHour ns mfrom mto msort mdeep mcoded mlines nl nc nF np ntr nb mbestCost nso nsi nit nsh nsf nss nrc mtraced mdealer mnumber mwhose msize misParted) si_X12_262 [1] sm_1 fm_1 nd_1 rfl rfl rfl rfl rfl (Nat.le_of_ble_eq_true rfl) rm_7_1_2 ⟨by first | exact Nat.le_of_ble_eq_true rfl | exact Nat.zero_le _, by first | exact Nat.le_of_ble_eq_true rfl | exact Nat.zero_le _⟩ gX12_one_9.2.2.2.2.2.1 (Keqr ?_)
  refine lv_if_eq (tgt := 192) hx hb gX12_one_9.2.2.2.2.2.2.1 (by decide) (fun _ => ?_) (fun c9 => absurd (by decide) c9)
  refine lv_iconst (v := 0) hx hb gX12_one_9.2.2.2.2.2.2.2.2.2 (by decide) ?_
  refine vV (wr := [(nF, sA G 5 (FCT K))]) hC hK hl hP hD hS hA (m_needF l G h0 0 nw nk mhasKept nt mtaped nr mrowMany mroundOf mroundFrom mouts nm mfromHour mtoHour ns mfrom mto msort mdeep mcoded mlines nl nc nF np ntr nb mbestCost nso nsi nit nsh nsf nss nrc mtraced mdealer mnumber mwhose msize misParted) si_X12_236 [1] [0] sm_1 fm_1 nd_1 sm_0 nd_0 dj_1__0 rfl rfl rfl rfl rfl (Nat.le_of_ble_eq_true rfl) rm_7_4_2 ⟨Nat.le_of_ble_eq_true rfl, Nat.le_of_ble_eq_true rfl⟩ gX12_one_10.1 (fun u8362 H locs hr8361 hP hD hS => ?_)
  refine Kpdr (ws := [(nF, sA G 5 (FCT K)), (h0, oX12 nw nk mhasKept nt mtaped nr mrowMany mroundOf mroundFrom mouts nm mfromHour mtoHour ns mfrom mto msort 1 mdeep mcoded mlines nl nc nF np ntr nb mbestCost nso nsi nit nsh nsf nss nrc mtraced mdealer mnumber mwhose msize misParted)]) hP hD (fun hP hD => ?_)
  refine lv_aload_n hx hb gX12_one_10.2.1 rfl (lv_at3 hl) ?_
  refine lv_sipush (v := 999) hx hb gX12_one_10.2.2.1 (by decide) ?_
  refine iV (wr := [(nF, sA G 5 (FCT K))]) hC hK hl hP hD hS hA (m_numberF l G h0 999 nw nk mhasKept nt mtaped nr mrowMany mroundOf mroundFrom mouts nm mfromHour mtoHour ns mfrom mto msort mdeep mcoded mlines nl nc nF np ntr nb mbestCost nso nsi nit nsh nsf nss nrc mtraced mdealer mnumber mwhose msize misParted) si_X12_271 [1] [0] sm_1 fm_1 nd_1 sm_0 nd_0 dj_1__0 rfl rfl rfl rfl rfl (Nat.le_of_ble_eq_true rfl) rm_7_5_5 ⟨Nat.le_of_ble_eq_true rfl, Nat.le_of_ble_eq_true rfl⟩ gX12_one_10.2.2.2.1 (fun r8363 u8364 H locs hr8363 hP hD hS => ?_)
  refine Kpdr (ws := [(nF, sA G 5 (FCT K)), (h0, oX12 nw nk mhasKept nt mtaped nr mrowMany mroundOf mroundFrom mouts nm mfromHour mtoHour ns mfrom mto msort 1 mdeep mcoded mlines nl nc nF np ntr nb mbestCost nso nsi nit nsh nsf nss nrc mtraced mdealer mnumber mwhose msize misParted)]) hP hD (fun hP hD => ?_)
  obtain rfl := hr8363
  refine lv_istore (lv' := [(4, .int 0), (3, .int 2), (2, .int (-1)), (1, .int 0), (0, .ref h0)]) hx hb gX12_one_10.2.2.2.2.1 hl (by decide) rfl (fun ls hl => ?_)
  refine lv_aload_n hx hb gX12_one_10.2.2.2.2.2.1 rfl (lv_at4 hl) ?_
  refine lv_sipush (v := 3000) hx hb gX12_one_10.2.2.2.2.2.2.1 (by decide) ?_
  refine lv_iload_n hx hb gX12_one_10.2.2.2.2.2.2.2.1 rfl (lv_at2 hl) ?_
  refine lv_imul hx hb gX12_one_10.2.2.2.2.2.2.2.2.1 ?_
  refine eqi (x1 := (-3000)) (by decide) ?_
  refine lv_sipush (v := 1000) hx hb gX12_one_10.2.2.2.2.2.2.2.2.2 (by decide) ?_
  refine lv_iload_n hx hb gX12_one_11.1 rfl (lv_at1 hl) ?_
  refine lv_imul hx hb gX12_one_11.2.1 ?_
  refine eqi (x1 := 2000) (by decide) ?_
  refine lv_iadd hx hb gX12_one_11.2.2.1 ?_
  refine eqi (x1 := (-1000)) (by decide) ?_
  refine lv_iload hx hb gX12_one_11.2.2.2.1 (lv_at0 hl) ?_
  refine lv_iadd hx hb gX12_one_11.2.2.2.2.1 ?_
  refine eqi (x1 := (-1000)) (by decide) ?_
  refine vV (wr := [(nF, sA G 5 (FCT K))]) hC hK hl hP hD hS hA (m_codesF l G h0 (-1000) nw nk mhasKept nt mtaped nr mrowMany mroundOf mroundFrom mouts nm mfromHour mtoHour ns mfrom mto msort mdeep mcoded mlines nl nc nF np ntr nb mbestCost nso nsi nit nsh nsf nss nrc mtraced mdealer mnumber mwhose msize misParted) si_X12_252 [1] [0] sm_1 fm_1 nd_1 sm_0 nd_0 dj_1__0 rfl rfl rfl rfl rfl (Nat.le_of_ble_eq_true rfl) rm_7_1_2 ⟨Nat.le_of_ble_eq_true rfl, Nat.le_of_ble_eq_true rfl⟩ gX12_one_11.2.2.2.2.2.1 (fun u8367 H locs hr8366 hP hD hS => ?_)
  refine Kpdr (ws := [(nF, sA G 5 (FCT K)), (h0, oX12 nw nk mhasKept nt mtaped nr mrowMany mroundOf mroundFrom mouts nm mfromHour mtoHour ns mfrom mto msort 1 mdeep mcoded mlines nl nc nF np ntr nb mbestCost nso nsi nit nsh nsf nss nrc mtraced mdealer mnumber mwhose msize misParted)]) hP hD (fun hP hD => ?_)
  refine lv_iconst (v := 0) hx hb gX12_one_11.2.2.2.2.2.2.1 (by decide) ?_
  refine lv_istore_n (lv' := [(2, .int 0), (4, .int 0), (3, .int 2), (1, .int 0), (0, .ref h0)]) hx hb gX12_one_11.2.2.2.2.2.2.2.1 rfl hl (by decide) rfl (fun ls hl => ?_)
  refine lv_iload_n hx hb gX12_one_11.2.2.2.2.2.2.2.2.1 rfl (lv_at0 hl) ?_
  refine lv_iload_n hx hb gX12_one_11.2.2.2.2.2.2.2.2.2 rfl (lv_at3 hl) ?_
  refine lv_icmp_ge (tgt := 243) hx hb gX12_one_12.1 (by decide) (fun _ => ?_) (fun c9 => absurd (by decide) c9)
  refine toQ hQ0 ?_
  exact RV hC hP hD hS [1, 0] () rfl rfl (by decide) (trivial) gX12_one_12.2.2.2.2.2.2
def K_m_allF (l : Launch) (G : GG) (K : OO) (h0 : Nat) (nw : Nat) (nk : Nat) (mhasKept : Int32) (nt : Nat) (mtaped : Int32) (nr : Nat) (mrowMany : Int32) (mroundOf : Int32) (mroundFrom : Int32) (mouts : Int32) (nm : Nat) (mfromHour : Int32) (mtoHour : Int32) (ns : Nat) (mfrom : Int32) (mto : Int32) (msort : Int32) (mdeep : Int32) (mcoded : Int32) (mlines : Int32) (nl : Nat) (nc : Nat) (nF : Nat) (np : Nat) (ntr : Nat) (nb : Nat) (mbestCost : Int32) (nso : Nat) (nsi : Nat) (nit : Nat) (nsh : Nat) (nsf : Nat) (nss : Nat) (nrc : Nat) (mtraced : Int32) (mdealer : Int32) (mnumber : Int32) (mwhose : Int32) (msize : Int32) (misParted : Int32) : Prop := MVo l G K yX12_all cX12_all 1 8 0 0 [.ref h0] [(h0, oX12 nw nk mhasKept nt mtaped nr mrowMany mroundOf mroundFrom mouts nm mfromHour mtoHour ns mfrom mto msort 1 mdeep mcoded mlines nl nc nF np ntr nb mbestCost nso nsi nit nsh nsf nss nrc mtraced mdealer mnumber mwhose msize misParted), (nF, sA G 5 (FCT K))] (fun u : Unit => True) (fun u : Unit => [(h0, oX12 nw nk mhasKept nt mtaped nr mrowMany mroundOf mroundFrom mouts nm mfromHour mtoHour ns mfrom mto msort 1 mdeep mcoded mlines nl nc nF np ntr nb mbestCost nso nsi nit nsh nsf nss nrc mtraced mdealer mnumber mwhose msize misParted), (nF, sA G 5 (FCT K))])
set_option maxHeartbeats 4000000 in
set_option maxRecDepth 100000 in
theorem m_allF (l : Launch) (G : GG) (K : OO) (h0 : Nat) (nw : Nat) (nk : Nat) (mhasKept : Int32) (nt : Nat) (mtaped : Int32) (nr : Nat) (mrowMany : Int32) (mroundOf : Int32) (mroundFrom : Int32) (mouts : Int32) (nm : Nat) (mfromHour : Int32) (mtoHour : Int32) (ns : Nat) (mfrom : Int32) (mto : Int32) (msort : Int32) (mdeep : Int32) (mcoded : Int32) (mlines : Int32) (nl : Nat) (nc : Nat) (nF : Nat) (np : Nat) (ntr : Nat) (nb : Nat) (mbestCost : Int32) (nso : Nat) (nsi : Nat) (nit : Nat) (nsh : Nat) (nsf : Nat) (nss : Nat) (nrc : Nat) (mtraced : Int32) (mdealer : Int32) (mnumber : Int32) (mwhose : Int32) (msize : Int32) (misParted : Int32) : K_m_allF l G K h0 nw nk mhasKept nt mtaped nr mrowMany mroundOf mroundFrom mouts nm mfromHour mtoHour ns mfrom mto msort mdeep mcoded mlines nl nc nF np ntr nb mbestCost nso nsi nit nsh nsf nss nrc mtraced mdealer mnumber mwhose msize misParted := by
  refine MVo.start (by decide +kernel) (Nat.le_of_ble_eq_true rfl) ?_
  intro p e s m below meth c A ls hC hK hP hD hS hA hl hO
  refine absQ (fun Q0 hQ0 => ?_)
  have hl : lv_has ls 1 [(0, .ref h0)] := hl
  refine Kan8 hC (fun hx hb hr hml hB hown hlocks hnm => ?_)
  refine lv_aload_n hx hb gX12_all_0.1 rfl (lv_at0 hl) ?_
  refine vVo (wr := []) hO hC hK hl hP hD hS hA (m_oneF l G K h0 nw nk mhasKept nt mtaped nr mrowMany mroundOf mroundFrom mouts nm mfromHour mtoHour ns mfrom mto msort mdeep mcoded mlines nl nc nF np ntr nb mbestCost nso nsi nit nsh nsf nss nrc mtraced mdealer mnumber mwhose msize misParted) si_X12_255 [0, 1] [] sm_0_1 fm_0_1 nd_0_1 rfl rfl (by decide) rfl rfl rfl rfl rfl (Nat.le_of_ble_eq_true rfl) rm_8_7_5 ⟨Nat.le_of_ble_eq_true rfl, Nat.le_of_ble_eq_true rfl⟩ gX12_all_0.2.1 (fun u8369 H locs hr8368 hP hD hS => ?_)
  refine Kpdr (ws := [(h0, oX12 nw nk mhasKept nt mtaped nr mrowMany mroundOf mroundFrom mouts nm mfromHour mtoHour ns mfrom mto msort 1 mdeep mcoded mlines nl nc nF np ntr nb mbestCost nso nsi nit nsh nsf nss nrc mtraced mdealer mnumber mwhose msize misParted), (nF, sA G 5 (FCT K))]) hP hD (fun hP hD => ?_)
  refine lv_aload_n hx hb gX12_all_0.2.2.1 rfl (lv_at0 hl) ?_
  refine va_ldcSw (index := 258) (tx := "and") hx hb hown (hO.2.2 9 (by decide)) gX12_all_0.2.2.2.1 ?_
  refine pVo hO hS hC hK hl hP hD (m_isNameF l G K 9 h0 nw nk mhasKept nt mtaped nr mrowMany mroundOf mroundFrom mouts nm mfromHour mtoHour ns mfrom mto msort mdeep mcoded mlines nl nc nF np ntr nb mbestCost nso nsi nit nsh nsf nss nrc mtraced mdealer mnumber mwhose msize misParted ((by decide))) si_X12_248 [0] sm_0 fm_0 nd_0 rfl rfl rfl rfl rfl (Nat.le_of_ble_eq_true rfl) rm_8_5_4 ⟨by first | exact Nat.le_of_ble_eq_true rfl | exact Nat.zero_le _, by first | exact Nat.le_of_ble_eq_true rfl | exact Nat.zero_le _⟩ gX12_all_0.2.2.2.2.1 (Keqr ?_)
  refine lv_if_eq (tgt := 32) hx hb gX12_all_0.2.2.2.2.2.1 (by decide) (fun _ => ?_) (fun c9 => absurd (by decide) c9)
  refine toQ hQ0 ?_
  exact RV hC hP hD hS [0, 1] () rfl rfl (by decide) (trivial) gX12_all_1.2.2.2.2
def K_m_eitherF (l : Launch) (G : GG) (K : OO) (h0 : Nat) (nw : Nat) (nk : Nat) (mhasKept : Int32) (nt : Nat) (mtaped : Int32) (nr : Nat) (mrowMany : Int32) (mroundOf : Int32) (mroundFrom : Int32) (mouts : Int32) (nm : Nat) (mfromHour : Int32) (mtoHour : Int32) (ns : Nat) (mfrom : Int32) (mto : Int32) (msort : Int32) (mdeep : Int32) (mcoded : Int32) (mlines : Int32) (nl : Nat) (nc : Nat) (nF : Nat) (np : Nat) (ntr : Nat) (nb : Nat) (mbestCost : Int32) (nso : Nat) (nsi : Nat) (nit : Nat) (nsh : Nat) (nsf : Nat) (nss : Nat) (nrc : Nat) (mtraced : Int32) (mdealer : Int32) (mnumber : Int32) (mwhose : Int32) (msize : Int32) (misParted : Int32) : Prop := MVo l G K yX12_either cX12_either 1 9 0 0 [.ref h0] [(h0, oX12 nw nk mhasKept nt mtaped nr mrowMany mroundOf mroundFrom mouts nm mfromHour mtoHour ns mfrom mto msort 1 mdeep mcoded mlines nl nc nF np ntr nb mbestCost nso nsi nit nsh nsf nss nrc mtraced mdealer mnumber mwhose msize misParted), (nF, sA G 5 (FCT K))] (fun u : Unit => True) (fun u : Unit => [(h0, oX12 nw nk mhasKept nt mtaped nr mrowMany mroundOf mroundFrom mouts nm mfromHour mtoHour ns mfrom mto msort 1 mdeep mcoded mlines nl nc nF np ntr nb mbestCost nso nsi nit nsh nsf nss nrc mtraced mdealer mnumber mwhose msize misParted), (nF, sA G 5 (FCT K))])
set_option maxHeartbeats 4000000 in
set_option maxRecDepth 100000 in
theorem m_eitherF (l : Launch) (G : GG) (K : OO) (h0 : Nat) (nw : Nat) (nk : Nat) (mhasKept : Int32) (nt : Nat) (mtaped : Int32) (nr : Nat) (mrowMany : Int32) (mroundOf : Int32) (mroundFrom : Int32) (mouts : Int32) (nm : Nat) (mfromHour : Int32) (mtoHour : Int32) (ns : Nat) (mfrom : Int32) (mto : Int32) (msort : Int32) (mdeep : Int32) (mcoded : Int32) (mlines : Int32) (nl : Nat) (nc : Nat) (nF : Nat) (np : Nat) (ntr : Nat) (nb : Nat) (mbestCost : Int32) (nso : Nat) (nsi : Nat) (nit : Nat) (nsh : Nat) (nsf : Nat) (nss : Nat) (nrc : Nat) (mtraced : Int32) (mdealer : Int32) (mnumber : Int32) (mwhose : Int32) (msize : Int32) (misParted : Int32) : K_m_eitherF l G K h0 nw nk mhasKept nt mtaped nr mrowMany mroundOf mroundFrom mouts nm mfromHour mtoHour ns mfrom mto msort mdeep mcoded mlines nl nc nF np ntr nb mbestCost nso nsi nit nsh nsf nss nrc mtraced mdealer mnumber mwhose msize misParted := by
  refine MVo.start (by decide +kernel) (Nat.le_of_ble_eq_true rfl) ?_
  intro p e s m below meth c A ls hC hK hP hD hS hA hl hO
  refine absQ (fun Q0 hQ0 => ?_)
  have hl : lv_has ls 1 [(0, .ref h0)] := hl
  refine Kan8 hC (fun hx hb hr hml hB hown hlocks hnm => ?_)
  refine lv_aload_n hx hb gX12_either_0.1 rfl (lv_at0 hl) ?_
  refine vVo (wr := []) hO hC hK hl hP hD hS hA (m_allF l G K h0 nw nk mhasKept nt mtaped nr mrowMany mroundOf mroundFrom mouts nm mfromHour mtoHour ns mfrom mto msort mdeep mcoded mlines nl nc nF np ntr nb mbestCost nso nsi nit nsh nsf nss nrc mtraced mdealer mnumber mwhose msize misParted) si_X12_243 [0, 1] [] sm_0_1 fm_0_1 nd_0_1 rfl rfl (by decide) rfl rfl rfl rfl rfl (Nat.le_of_ble_eq_true rfl) rm_9_8_1 ⟨Nat.le_of_ble_eq_true rfl, Nat.le_of_ble_eq_true rfl⟩ gX12_either_0.2.1 (fun u8373 H locs hr8372 hP hD hS => ?_)
  refine Kpdr (ws := [(h0, oX12 nw nk mhasKept nt mtaped nr mrowMany mroundOf mroundFrom mouts nm mfromHour mtoHour ns mfrom mto msort 1 mdeep mcoded mlines nl nc nF np ntr nb mbestCost nso nsi nit nsh nsf nss nrc mtraced mdealer mnumber mwhose msize misParted), (nF, sA G 5 (FCT K))]) hP hD (fun hP hD => ?_)
  refine lv_aload_n hx hb gX12_either_0.2.2.1 rfl (lv_at0 hl) ?_
  refine va_ldcS (index := 246) (tx := "o\x72") hx hb hown (hO.2.2 8 (by decide)) gX12_either_0.2.2.2.1 ?_
  refine pVo hO hS hC hK hl hP hD (m_isNameF l G K 8 h0 nw nk mhasKept nt mtaped nr mrowMany mroundOf mroundFrom mouts nm mfromHour mtoHour ns mfrom mto msort mdeep mcoded mlines nl nc nF np ntr nb mbestCost nso nsi nit nsh nsf nss nrc mtraced mdealer mnumber mwhose msize misParted ((by decide))) si_X12_248 [0] sm_0 fm_0 nd_0 rfl rfl rfl rfl rfl (Nat.le_of_ble_eq_true rfl) rm_9_5_4 ⟨by first | exact Nat.le_of_ble_eq_true rfl | exact Nat.zero_le _, by first | exact Nat.le_of_ble_eq_true rfl | exact Nat.zero_le _⟩ gX12_either_0.2.2.2.2.1 (Keqr ?_)
  refine lv_if_eq (tgt := 31) hx hb gX12_either_0.2.2.2.2.2.1 (by decide) (fun _ => ?_) (fun c9 => absurd (by decide) c9)
  refine toQ hQ0 ?_
  exact RV hC hP hD hS [0, 1] () rfl rfl (by decide) (trivial) gX12_either_1.2.2.2.2
def K_m_one (l : Launch) (G : GG) (K : OO) (mn : Nat) (h0 : Nat) (nw : Nat) (nk : Nat) (mhasKept : Int32) (nt : Nat) (ktp : Nat) (nr : Nat) (mrowMany : Int32) (mroundOf : Int32) (mroundFrom : Int32) (mouts : Int32) (nm : Nat) (mfromHour : Int32) (mtoHour : Int32) (ns : Nat) (kf : Nat) (kt : Nat) (so : Int32) (jd : Nat) (kc : Nat) (mlines : Int32) (nl : Nat) (nc : Nat) (nF : Nat) (np : Nat) (ntr : Nat) (nb : Nat) (mbestCost : Int32) (nso : Nat) (nsi : Nat) (nit : Nat) (nsh : Nat) (nsf : Nat) (nss : Nat) (nrc : Nat) (mtraced : Int32) (mdealer : Int32) (mnumber : Int32) (mwhose : Int32) (msize : Int32) (misParted : Int32) (fnt : Nat → Int32) (fnc : Nat → Int32) : Prop := MVo l G K yX12_one cX12_one 5 (10 + 4 * mn) 0 0 [.ref h0] [(h0, oX12 nw nk mhasKept nt (nI ktp) nr mrowMany mroundOf mroundFrom mouts nm mfromHour mtoHour ns (nI kf) (nI kt) so 0 (nI jd) (nI kc) mlines nl nc nF np ntr nb mbestCost nso nsi nit nsh nsf nss nrc mtraced mdealer mnumber mwhose msize misParted), (nt, iA G 240 fnt), (nc, iA G 100 fnc), (nF, sA G 5 (FCT K))] (fun u : Int32 × Nat × Nat × Int32 × Nat × (Nat → Int32) => u.1 = 1 ∨ (u.1 = 0 ∧ TOK fnt u.2.2.2.1 u.2.1 u.2.2.1 ktp ∧ EXPR fnc u.2.2.2.2.2 kc u.2.2.2.2.1 kf u.2.1)) (fun u : Int32 × Nat × Nat × Int32 × Nat × (Nat → Int32) => [(h0, oX12 nw nk mhasKept nt (nI ktp) nr mrowMany mroundOf mroundFrom mouts nm mfromHour mtoHour ns (nI u.2.1) (nI u.2.2.1) u.2.2.2.1 u.1 (nI jd) (nI u.2.2.2.2.1) mlines nl nc nF np ntr nb mbestCost nso nsi nit nsh nsf nss nrc mtraced mdealer mnumber mwhose msize misParted), (nt, iA G 240 fnt), (nc, iA G 100 u.2.2.2.2.2), (nF, sA G 5 (FCT K))])
set_option maxHeartbeats 4000000 in
set_option maxRecDepth 100000 in
theorem m_one (l : Launch) (G : GG) (K : OO) (mn : Nat) (h0 : Nat) (nw : Nat) (nk : Nat) (mhasKept : Int32) (nt : Nat) (ktp : Nat) (nr : Nat) (mrowMany : Int32) (mroundOf : Int32) (mroundFrom : Int32) (mouts : Int32) (nm : Nat) (mfromHour : Int32) (mtoHour : Int32) (ns : Nat) (kf : Nat) (kt : Nat) (so : Int32) (jd : Nat) (kc : Nat) (mlines : Int32) (nl : Nat) (nc : Nat) (nF : Nat) (np : Nat) (ntr : Nat) (nb : Nat) (mbestCost : Int32) (nso : Nat) (nsi : Nat) (nit : Nat) (nsh : Nat) (nsf : Nat) (nss : Nat) (nrc : Nat) (mtraced : Int32) (mdealer : Int32) (mnumber : Int32) (mwhose : Int32) (msize : Int32) (misParted : Int32) (fnt : Nat → Int32) (fnc : Nat → Int32) (hT : TOK fnt so kf kt ktp) (htp : ktp ≤ 240) (h3c : 3 * kc ≤ kf) (hjm : jd + mn = 4) (ihE : ∀ m9, m9 < mn → ∀ (h0 : Nat) (nw : Nat) (nk : Nat) (mhasKept : Int32) (nt : Nat) (ktp : Nat) (nr : Nat) (mrowMany : Int32) (mroundOf : Int32) (mroundFrom : Int32) (mouts : Int32) (nm : Nat) (mfromHour : Int32) (mtoHour : Int32) (ns : Nat) (kf : Nat) (kt : Nat) (so : Int32) (jd : Nat) (kc : Nat) (mlines : Int32) (nl : Nat) (nc : Nat) (nF : Nat) (np : Nat) (ntr : Nat) (nb : Nat) (mbestCost : Int32) (nso : Nat) (nsi : Nat) (nit : Nat) (nsh : Nat) (nsf : Nat) (nss : Nat) (nrc : Nat) (mtraced : Int32) (mdealer : Int32) (mnumber : Int32) (mwhose : Int32) (msize : Int32) (misParted : Int32) (fnt : Nat → Int32) (fnc : Nat → Int32) (hT : TOK fnt so kf kt ktp) (htp : ktp ≤ 240) (h3c : 3 * kc ≤ kf) (hjm : jd + m9 = 4), MVo l G K yX12_either cX12_either 1 (12 + 4 * m9) 0 0 [.ref h0] [(h0, oX12 nw nk mhasKept nt (nI ktp) nr mrowMany mroundOf mroundFrom mouts nm mfromHour mtoHour ns (nI kf) (nI kt) so 0 (nI jd) (nI kc) mlines nl nc nF np ntr nb mbestCost nso nsi nit nsh nsf nss nrc mtraced mdealer mnumber mwhose msize misParted), (nt, iA G 240 fnt), (nc, iA G 100 fnc), (nF, sA G 5 (FCT K))] (fun u : Int32 × Nat × Nat × Int32 × Nat × (Nat → Int32) => u.1 = 1 ∨ (u.1 = 0 ∧ TOK fnt u.2.2.2.1 u.2.1 u.2.2.1 ktp ∧ EXPR fnc u.2.2.2.2.2 kc u.2.2.2.2.1 kf u.2.1)) (fun u : Int32 × Nat × Nat × Int32 × Nat × (Nat → Int32) => [(h0, oX12 nw nk mhasKept nt (nI ktp) nr mrowMany mroundOf mroundFrom mouts nm mfromHour mtoHour ns (nI u.2.1) (nI u.2.2.1) u.2.2.2.1 u.1 (nI jd) (nI u.2.2.2.2.1) mlines nl nc nF np ntr nb mbestCost nso nsi nit nsh nsf nss nrc mtraced mdealer mnumber mwhose msize misParted), (nt, iA G 240 fnt), (nc, iA G 100 u.2.2.2.2.2), (nF, sA G 5 (FCT K))])) : K_m_one l G K mn h0 nw nk mhasKept nt ktp nr mrowMany mroundOf mroundFrom mouts nm mfromHour mtoHour ns kf kt so jd kc mlines nl nc nF np ntr nb mbestCost nso nsi nit nsh nsf nss nrc mtraced mdealer mnumber mwhose msize misParted fnt fnc := by
  refine MVo.start (by decide +kernel) (Nat.le_of_ble_eq_true rfl) ?_
  intro p e s m below meth c A ls hC hK hP hD hS hA hl hO
  refine absQ (fun Q0 hQ0 => ?_)
  have hl : lv_has ls 5 [(0, .ref h0)] := hl
  refine Kan8 hC (fun hx hb hr hml hB hown hlocks hnm => ?_)
  refine lv_iconst (v := 0) hx hb gX12_one_0.1 (by decide) ?_
  refine lv_istore_n (lv' := [(1, .int 0), (0, .ref h0)]) hx hb gX12_one_0.2.1 rfl hl (by decide) rfl (fun ls hl => ?_)
  have keyT : ∀ (nT : Nat) (vn : Nat) (vs : Int32) (vf : Nat) (vt : Nat) (H : Heap) (locs : List Loc) (ls : Array Slot), (TOK fnt vs vf vt ktp) → (kf + 3 * vn ≤ vf) → (241 ≤ vf + nT) → va_PD G A [(h0, oX12 nw nk mhasKept nt (nI ktp) nr mrowMany mroundOf mroundFrom mouts nm mfromHour mtoHour ns (nI vf) (nI vt) vs 0 (nI jd) (nI kc) mlines nl nc nF np ntr nb mbestCost nso nsi nit nsh nsf nss nrc mtraced mdealer mnumber mwhose msize misParted), (nt, iA G 240 fnt), (nc, iA G 100 fnc), (nF, sA G 5 (FCT K))] H → va_S A s.heap H locs → lv_has ls 5 [(1, .int (nI vn)), (0, .ref h0)] → W p l e (RM (10 + 4 * mn) 0 0) s m ([.ref h0] : List Value).toArray below meth c H locs 0 0 Q0 (F0 m 2 ls []) := by
    intro nT
    induction nT with
    | zero =>
      intro vn vs vf vt H locs ls hTT hT2 hT3 hPD hS hl
      refine Kan2 hPD (fun hP hD => ?_)
      have tA8376 := hTT.1
      have tB8376 := hTT.2.1
      exact (show False by omega).elim
    | succ nT ihT =>
      intro vn vs vf vt H locs ls hTT hT2 hT3 hPD hS hl
      refine Kan2 hPD (fun hP hD => ?_)
      have tA8378 := hTT.1
      have tB8378 := hTT.2.1
      refine lv_aload_n hx hb gX12_one_0.2.2.1 rfl (lv_at1 hl) ?_
      refine va_ldcSw (index := 260) (tx := "not") hx hb hown (hO.2.2 10 (by decide)) gX12_one_0.2.2.2.1 ?_
      refine pVo hO hS hC hK hl hP hD (m_isName0 l G K 10 h0 nw nk mhasKept nt ktp nr mrowMany mroundOf mroundFrom mouts nm mfromHour mtoHour ns vf vt vs (nI jd) (nI kc) mlines nl nc nF np ntr nb mbestCost nso nsi nit nsh nsf nss nrc mtraced mdealer mnumber mwhose msize misParted fnt ((by decide)) (hTT) (htp)) si_X12_248 [0, 1] sm_0_1 fm_0_1 nd_0_1 rfl rfl rfl rfl rfl (Nat.le_of_ble_eq_true rfl) (rmT (Nat.le_of_ble_eq_true rfl) (Nat.le_of_ble_eq_true rfl)) ⟨by first | exact Nat.le_of_ble_eq_true rfl | exact Nat.zero_le _, by first | exact Nat.le_of_ble_eq_true rfl | exact Nat.zero_le _⟩ gX12_one_0.2.2.2.2.1 (Kors (Keqa fun a8381 => ?_) (Keqr ?_))
      · refine lv_if_eq (tgt := 22) hx hb gX12_one_0.2.2.2.2.2.1 (by decide) (fun c9 => absurd c9 (by decide)) (fun _ => ?_)
        refine lv_aload_n hx hb gX12_one_0.2.2.2.2.2.2.1 rfl (lv_at1 hl) ?_
        have tI8382 : vt = vf + 3 := a8381.2
        refine vV (wr := [(nc, iA G 100 fnc), (nF, sA G 5 (FCT K))]) hC hK hl hP hD hS hA (m_next l G h0 nw nk mhasKept nt ktp nr mrowMany mroundOf mroundFrom mouts nm mfromHour mtoHour ns (nI vf) vt vs 0 (nI jd) (nI kc) mlines nl nc nF np ntr nb mbestCost nso nsi nit nsh nsf nss nrc mtraced mdealer mnumber mwhose msize misParted fnt (by omega) (htp)) si_X12_233 [0, 1] [2, 3] sm_0_1 fm_0_1 nd_0_1 sm_2_3 nd_2_3 dj_0_1__2_3 rfl rfl rfl rfl rfl (Nat.le_of_ble_eq_true rfl) (rmT (Nat.le_of_ble_eq_true rfl) (Nat.le_of_ble_eq_true rfl)) ⟨Nat.le_of_ble_eq_true rfl, Nat.le_of_ble_eq_true rfl⟩ gX12_one_0.2.2.2.2.2.2.2.1 (Ktu3 fun kf18385 kt18386 so18387 => ?_)
        intro H locs hr8383 hP hD hS
        try dsimp only at hr8383
        refine Kpdr (ws := [(nc, iA G 100 fnc), (nF, sA G 5 (FCT K)), (h0, oX12 nw nk mhasKept nt (nI ktp) nr mrowMany mroundOf mroundFrom mouts nm mfromHour mtoHour ns (nI kf18385) (nI kt18386) so18387 0 (nI jd) (nI kc) mlines nl nc nF np ntr nb mbestCost nso nsi nit nsh nsf nss nrc mtraced mdealer mnumber mwhose msize misParted), (nt, iA G 240 fnt)]) hP hD (fun hP hD => ?_)
        have hw8389_0 := hr8383.1
        have hw8389_1 := hr8383.2
        have tA8391 := hw8389_1.1
        have tB8391 := hw8389_1.2.1
        refine lv_iinc (v := nI (vn + 1)) (lv' := [(1, .int (nI (vn + 1))), (0, .ref h0)]) hx hb gX12_one_0.2.2.2.2.2.2.2.2.1 hl (k := 0) rfl (nI_1 _) (by decide) rfl (fun ls hl => ?_)
        refine lv_goto (tgt := 2) hx hb gX12_one_0.2.2.2.2.2.2.2.2.2 (by decide) ?_
        refine Kpds (ws' := [(h0, oX12 nw nk mhasKept nt (nI ktp) nr mrowMany mroundOf mroundFrom mouts nm mfromHour mtoHour ns (nI kf18385) (nI kt18386) so18387 0 (nI jd) (nI kc) mlines nl nc nF np ntr nb mbestCost nso nsi nit nsh nsf nss nrc mtraced mdealer mnumber mwhose msize misParted), (nt, iA G 240 fnt), (nc, iA G 100 fnc), (nF, sA G 5 (FCT K))]) hP hD [2, 3, 0, 1] fm_2_3_0_1 nd_2_3_0_1 sm_2_3_0_1 (fun hP hD => ?_)
        exact ihT (vn + 1) so18387 kf18385 kt18386 _ _ _ (hw8389_1) (by omega) (by omega) (And.intro hP hD) hS (lv_sub hl [0, 1] rfl)
      · refine lv_if_eq (tgt := 22) hx hb gX12_one_0.2.2.2.2.2.1 (by decide) (fun _ => ?_) (fun c9 => absurd (by decide) c9)
        refine lv_aload_n hx hb gX12_one_1.1 rfl (lv_at1 hl) ?_
        refine lv_bipush (v := 40) hx hb gX12_one_1.2.1 (by decide) ?_
        refine pV hC hK hl hP hD (m_isSign0 l G h0 40 nw nk mhasKept nt ktp nr mrowMany mroundOf mroundFrom mouts nm mfromHour mtoHour ns vf vt vs (nI jd) (nI kc) mlines nl nc nF np ntr nb mbestCost nso nsi nit nsh nsf nss nrc mtraced mdealer mnumber mwhose msize misParted fnt (hTT) (htp)) si_X12_262 [0, 1] sm_0_1 fm_0_1 nd_0_1 rfl rfl rfl rfl rfl (Nat.le_of_ble_eq_true rfl) (rmT (Nat.le_of_ble_eq_true rfl) (Nat.le_of_ble_eq_true rfl)) ⟨by first | exact Nat.le_of_ble_eq_true rfl | exact Nat.zero_le _, by first | exact Nat.le_of_ble_eq_true rfl | exact Nat.zero_le _⟩ gX12_one_1.2.2.1 (Kors (Keqa fun a8393 => ?_) (Keqa fun a8393 => ?_))
        · refine lv_if_eq (tgt := 85) hx hb gX12_one_1.2.2.2.1 (by decide) (fun c9 => absurd c9 (by decide)) (fun _ => ?_)
          refine lv_aload_n hx hb gX12_one_1.2.2.2.2.1 rfl (lv_at1 hl) ?_
          refine lv_dup hx hb gX12_one_1.2.2.2.2.2.1 rfl ?_
          refine gf_X12_265 hC rfl hK hP 0 rfl rfl gX12_one_1.2.2.2.2.2.2.1 ?_
          refine lv_iconst (v := 1) hx hb gX12_one_1.2.2.2.2.2.2.2.1 (by decide) ?_
          refine lv_iadd hx hb gX12_one_1.2.2.2.2.2.2.2.2.1 ?_
          refine eqi (x1 := nI (jd + 1)) (nI_add jd 1) ?_
          refine pf_X12_265 hC rfl hK hP hD hS 0 (ws' := [(h0, oX12 nw nk mhasKept nt (nI ktp) nr mrowMany mroundOf mroundFrom mouts nm mfromHour mtoHour ns (nI vf) (nI vt) vs 0 (nI (jd + 1)) (nI kc) mlines nl nc nF np ntr nb mbestCost nso nsi nit nsh nsf nss nrc mtraced mdealer mnumber mwhose msize misParted), (nt, iA G 240 fnt), (nc, iA G 100 fnc), (nF, sA G 5 (FCT K))]) rfl (Nat.le_of_ble_eq_true rfl) rfl rfl rfl gX12_one_1.2.2.2.2.2.2.2.2.2 (fun H locs hP hD hS => ?_)
          refine lv_aload_n hx hb gX12_one_2.1 rfl (lv_at1 hl) ?_
          refine lv_aload_n hx hb gX12_one_2.2.1 rfl (lv_at1 hl) ?_
          refine gf_X12_265 hC rfl hK hP 0 rfl rfl gX12_one_2.2.2.1 ?_
          refine lv_iconst (v := 4) hx hb gX12_one_2.2.2.2.1 (by decide) ?_
          refine lv_icmp_gt (tgt := 54) hx hb gX12_one_2.2.2.2.2.1 (by decide) (fun c_47_8394 => ?_) (fun c_47_8394 => ?_)
          · refine lv_iconst (v := 0) hx hb gX12_one_2.2.2.2.2.2.2.2.1 (by decide) ?_
            have tI8395 := a8393.1
            refine vV (wr := [(nt, iA G 240 fnt), (nc, iA G 100 fnc), (nF, sA G 5 (FCT K))]) hC hK hl hP hD hS hA (m_need0 l G h0 nw nk mhasKept nt (nI ktp) nr mrowMany mroundOf mroundFrom mouts nm mfromHour mtoHour ns (nI vf) (nI vt) vs (nI (jd + 1)) (nI kc) mlines nl nc nF np ntr nb mbestCost nso nsi nit nsh nsf nss nrc mtraced mdealer mnumber mwhose msize misParted) si_X12_236 [0] [1, 2, 3] sm_0 fm_0 nd_0 sm_1_2_3 nd_1_2_3 dj_0__1_2_3 rfl rfl rfl rfl rfl (Nat.le_of_ble_eq_true rfl) (rmT (Nat.le_of_ble_eq_true rfl) (Nat.le_of_ble_eq_true rfl)) ⟨Nat.le_of_ble_eq_true rfl, Nat.le_of_ble_eq_true rfl⟩ gX12_one_2.2.2.2.2.2.2.2.2.1 (fun u8397 H locs hr8396 hP hD hS => ?_)
            refine Kpdr (ws := [(nt, iA G 240 fnt), (nc, iA G 100 fnc), (nF, sA G 5 (FCT K)), (h0, oX12 nw nk mhasKept nt (nI ktp) nr mrowMany mroundOf mroundFrom mouts nm mfromHour mtoHour ns (nI vf) (nI vt) vs 1 (nI (jd + 1)) (nI kc) mlines nl nc nF np ntr nb mbestCost nso nsi nit nsh nsf nss nrc mtraced mdealer mnumber mwhose msize misParted)]) hP hD (fun hP hD => ?_)
            refine lv_aload_n hx hb gX12_one_2.2.2.2.2.2.2.2.2.2 rfl (lv_at1 hl) ?_
            refine vVo (wr := [(nt, iA G 240 fnt), (nc, iA G 100 fnc)]) hO hC hK hl hP hD hS hA (m_eitherF l G K h0 nw nk mhasKept nt (nI ktp) nr mrowMany mroundOf mroundFrom mouts nm mfromHour mtoHour ns (nI vf) (nI vt) vs (nI (jd + 1)) (nI kc) mlines nl nc nF np ntr nb mbestCost nso nsi nit nsh nsf nss nrc mtraced mdealer mnumber mwhose msize misParted) si_X12_268 [3, 2] [0, 1] sm_3_2 fm_3_2 nd_3_2 sm_0_1 nd_0_1 dj_3_2__0_1 rfl rfl rfl rfl rfl (Nat.le_of_ble_eq_true rfl) (rmT (Nat.le_of_ble_eq_true rfl) (Nat.le_of_ble_eq_true rfl)) ⟨Nat.le_of_ble_eq_true rfl, Nat.le_of_ble_eq_true rfl⟩ gX12_one_3.1 (fun u8399 H locs hr8398 hP hD hS => ?_)
            refine Kpdr (ws := [(nt, iA G 240 fnt), (nc, iA G 100 fnc), (h0, oX12 nw nk mhasKept nt (nI ktp) nr mrowMany mroundOf mroundFrom mouts nm mfromHour mtoHour ns (nI vf) (nI vt) vs 1 (nI (jd + 1)) (nI kc) mlines nl nc nF np ntr nb mbestCost nso nsi nit nsh nsf nss nrc mtraced mdealer mnumber mwhose msize misParted), (nF, sA G 5 (FCT K))]) hP hD (fun hP hD => ?_)
            refine lv_aload_n hx hb gX12_one_3.2.1 rfl (lv_at1 hl) ?_
            refine lv_aload_n hx hb gX12_one_3.2.2.1 rfl (lv_at1 hl) ?_
            refine lv_bipush (v := 41) hx hb gX12_one_3.2.2.2.1 (by decide) ?_
            refine pV hC hK hl hP hD (m_isSignF l G h0 41 nw nk mhasKept nt (nI ktp) nr mrowMany mroundOf mroundFrom mouts nm mfromHour mtoHour ns (nI vf) (nI vt) vs (nI (jd + 1)) (nI kc) mlines nl nc nF np ntr nb mbestCost nso nsi nit nsh nsf nss nrc mtraced mdealer mnumber mwhose msize misParted) si_X12_262 [2] sm_2 fm_2 nd_2 rfl rfl rfl rfl rfl (Nat.le_of_ble_eq_true rfl) (rmT (Nat.le_of_ble_eq_true rfl) (Nat.le_of_ble_eq_true rfl)) ⟨by first | exact Nat.le_of_ble_eq_true rfl | exact Nat.zero_le _, by first | exact Nat.le_of_ble_eq_true rfl | exact Nat.zero_le _⟩ gX12_one_3.2.2.2.2.1 (Keqr ?_)
            refine vV (wr := [(nt, iA G 240 fnt), (nc, iA G 100 fnc), (nF, sA G 5 (FCT K))]) hC hK hl hP hD hS hA (m_needF l G h0 0 nw nk mhasKept nt (nI ktp) nr mrowMany mroundOf mroundFrom mouts nm mfromHour mtoHour ns (nI vf) (nI vt) vs (nI (jd + 1)) (nI kc) mlines nl nc nF np ntr nb mbestCost nso nsi nit nsh nsf nss nrc mtraced mdealer mnumber mwhose msize misParted) si_X12_236 [2] [0, 1, 3] sm_2 fm_2 nd_2 sm_0_1_3 nd_0_1_3 dj_2__0_1_3 rfl rfl rfl rfl rfl (Nat.le_of_ble_eq_true rfl) (rmT (Nat.le_of_ble_eq_true rfl) (Nat.le_of_ble_eq_true rfl)) ⟨Nat.le_of_ble_eq_true rfl, Nat.le_of_ble_eq_true rfl⟩ gX12_one_3.2.2.2.2.2.1 (fun u8403 H locs hr8402 hP hD hS => ?_)
            refine Kpdr (ws := [(nt, iA G 240 fnt), (nc, iA G 100 fnc), (nF, sA G 5 (FCT K)), (h0, oX12 nw nk mhasKept nt (nI ktp) nr mrowMany mroundOf mroundFrom mouts nm mfromHour mtoHour ns (nI vf) (nI vt) vs 1 (nI (jd + 1)) (nI kc) mlines nl nc nF np ntr nb mbestCost nso nsi nit nsh nsf nss nrc mtraced mdealer mnumber mwhose msize misParted)]) hP hD (fun hP hD => ?_)
            refine lv_aload_n hx hb gX12_one_3.2.2.2.2.2.2.1 rfl (lv_at1 hl) ?_
            refine lv_dup hx hb gX12_one_3.2.2.2.2.2.2.2.1 rfl ?_
            refine gf_X12_265 hC rfl hK hP 3 rfl rfl gX12_one_3.2.2.2.2.2.2.2.2.1 ?_
            refine lv_iconst (v := 1) hx hb gX12_one_3.2.2.2.2.2.2.2.2.2 (by decide) ?_
            refine lv_isub hx hb gX12_one_4.1 ?_
            refine eqi (x1 := nI jd) (nI_sub1 jd) ?_
            refine pf_X12_265 hC rfl hK hP hD hS 3 (ws' := [(nt, iA G 240 fnt), (nc, iA G 100 fnc), (nF, sA G 5 (FCT K)), (h0, oX12 nw nk mhasKept nt (nI ktp) nr mrowMany mroundOf mroundFrom mouts nm mfromHour mtoHour ns (nI vf) (nI vt) vs 1 (nI jd) (nI kc) mlines nl nc nF np ntr nb mbestCost nso nsi nit nsh nsf nss nrc mtraced mdealer mnumber mwhose msize misParted)]) rfl (Nat.le_of_ble_eq_true rfl) rfl rfl rfl gX12_one_4.2.1 (fun H locs hP hD hS => ?_)
            refine lv_goto (tgt := 223) hx hb gX12_one_4.2.2.1 (by decide) ?_
            refine lv_iconst (v := 0) hx hb gX12_one_11.2.2.2.2.2.2.1 (by decide) ?_
            refine lv_istore_n (lv' := [(2, .int 0), (1, .int (nI vn)), (0, .ref h0)]) hx hb gX12_one_11.2.2.2.2.2.2.2.1 rfl hl (by decide) rfl (fun ls hl => ?_)
            have keyN : ∀ (nN kN : Nat) (H : Heap) (locs : List Loc) (ls : Array Slot), kN + nN = vn → va_PD G A [(nt, iA G 240 fnt), (nc, iA G 100 fnc), (nF, sA G 5 (FCT K)), (h0, oX12 nw nk mhasKept nt (nI ktp) nr mrowMany mroundOf mroundFrom mouts nm mfromHour mtoHour ns (nI vf) (nI vt) vs 1 (nI jd) (nI kc) mlines nl nc nF np ntr nb mbestCost nso nsi nit nsh nsf nss nrc mtraced mdealer mnumber mwhose msize misParted)] H → va_S A s.heap H locs → lv_has ls 5 [(2, .int (nI kN)), (1, .int (nI vn)), (0, .ref h0)] → W p l e (RM (10 + 4 * mn) 0 0) s m ([.ref h0] : List Value).toArray below meth c H locs 0 0 Q0 (F0 m 225 ls []) := by
              intro nN
              induction nN with
              | zero =>
                intro kN H locs ls hkN hPD hS hl
                refine Kan2 hPD (fun hP hD => ?_)
                obtain rfl : vn = kN := by omega
                have hl : lv_has ls 5 [(2, .int (nI vn)), (1, .int (nI vn)), (0, .ref h0)] := hl
                refine lv_iload_n hx hb gX12_one_11.2.2.2.2.2.2.2.2.1 rfl (lv_at0 hl) ?_
                refine lv_iload_n hx hb gX12_one_11.2.2.2.2.2.2.2.2.2 rfl (lv_at1 hl) ?_
                refine lv_icmp_ge (tgt := 243) hx hb gX12_one_12.1 (by decide) (fun _ => ?_) (fun c9 => absurd (Int32.le_refl _) c9)
                refine toQ hQ0 ?_
                exact RV hC hP hD hS [3, 0, 1, 2] (1, vf, vt, vs, kc, fnc) rfl rfl (by decide) (Or.inl rfl) gX12_one_12.2.2.2.2.2.2
              | succ nN ihN =>
                intro kN H locs ls hkN hPD hS hl
                refine Kan2 hPD (fun hP hD => ?_)
                refine lv_iload_n hx hb gX12_one_11.2.2.2.2.2.2.2.2.1 rfl (lv_at0 hl) ?_
                refine lv_iload_n hx hb gX12_one_11.2.2.2.2.2.2.2.2.2 rfl (lv_at1 hl) ?_
                refine lv_icmp_ge (tgt := 243) hx hb gX12_one_12.1 (by decide) (fun c9 => absurd c9 (nI_ge (a := kN) (b := vn) (by omega) (by omega))) (fun _ => ?_)
                refine lv_aload_n hx hb gX12_one_12.2.1 rfl (lv_at2 hl) ?_
                refine lv_sipush (v := 30000) hx hb gX12_one_12.2.2.1 (by decide) ?_
                refine vV (wr := [(nt, iA G 240 fnt), (nc, iA G 100 fnc), (nF, sA G 5 (FCT K))]) hC hK hl hP hD hS hA (m_codesF l G h0 30000 nw nk mhasKept nt (nI ktp) nr mrowMany mroundOf mroundFrom mouts nm mfromHour mtoHour ns (nI vf) (nI vt) vs (nI jd) (nI kc) mlines nl nc nF np ntr nb mbestCost nso nsi nit nsh nsf nss nrc mtraced mdealer mnumber mwhose msize misParted) si_X12_252 [3] [0, 1, 2] sm_3 fm_3 nd_3 sm_0_1_2 nd_0_1_2 dj_3__0_1_2 rfl rfl rfl rfl rfl (Nat.le_of_ble_eq_true rfl) (rmT (Nat.le_of_ble_eq_true rfl) (Nat.le_of_ble_eq_true rfl)) ⟨Nat.le_of_ble_eq_true rfl, Nat.le_of_ble_eq_true rfl⟩ gX12_one_12.2.2.2.1 (fun u8405 H locs hr8404 hP hD hS => ?_)
                refine Kpdr (ws := [(nt, iA G 240 fnt), (nc, iA G 100 fnc), (nF, sA G 5 (FCT K)), (h0, oX12 nw nk mhasKept nt (nI ktp) nr mrowMany mroundOf mroundFrom mouts nm mfromHour mtoHour ns (nI vf) (nI vt) vs 1 (nI jd) (nI kc) mlines nl nc nF np ntr nb mbestCost nso nsi nit nsh nsf nss nrc mtraced mdealer mnumber mwhose msize misParted)]) hP hD (fun hP hD => ?_)
                refine lv_iinc (v := nI (kN + 1)) (lv' := [(2, .int (nI (kN + 1))), (1, .int (nI vn)), (0, .ref h0)]) hx hb gX12_one_12.2.2.2.2.1 hl (k := 0) rfl (nI_1 _) (by decide) rfl (fun ls hl => ?_)
                refine lv_goto (tgt := 225) hx hb gX12_one_12.2.2.2.2.2.1 (by decide) ?_
                exact ihN (kN + 1) _ _ _ (by omega) (And.intro hP hD) hS (lv_sub hl [0, 1, 2] rfl)
            exact keyN vn 0 _ _ _ (by omega) (And.intro hP hD) hS (lv_sub hl [0, 1, 2] rfl)
          · refine lv_iconst (v := 1) hx hb gX12_one_2.2.2.2.2.2.1 (by decide) ?_
            refine lv_goto (tgt := 55) hx hb gX12_one_2.2.2.2.2.2.2.1 (by decide) ?_
            have tI8406 := a8393.1
            refine vV (wr := [(nc, iA G 100 fnc), (nF, sA G 5 (FCT K))]) hC hK hl hP hD hS hA (m_need1 l G h0 nw nk mhasKept nt ktp nr mrowMany mroundOf mroundFrom mouts nm mfromHour mtoHour ns (nI vf) vt vs (nI (jd + 1)) (nI kc) mlines nl nc nF np ntr nb mbestCost nso nsi nit nsh nsf nss nrc mtraced mdealer mnumber mwhose msize misParted fnt (by omega) (htp)) si_X12_236 [0, 1] [2, 3] sm_0_1 fm_0_1 nd_0_1 sm_2_3 nd_2_3 dj_0_1__2_3 rfl rfl rfl rfl rfl (Nat.le_of_ble_eq_true rfl) (rmT (Nat.le_of_ble_eq_true rfl) (Nat.le_of_ble_eq_true rfl)) ⟨Nat.le_of_ble_eq_true rfl, Nat.le_of_ble_eq_true rfl⟩ gX12_one_2.2.2.2.2.2.2.2.2.1 (Ktu3 fun kf18409 kt18410 so18411 => ?_)
            intro H locs hr8407 hP hD hS
            try dsimp only at hr8407
            refine Kpdr (ws := [(nc, iA G 100 fnc), (nF, sA G 5 (FCT K)), (h0, oX12 nw nk mhasKept nt (nI ktp) nr mrowMany mroundOf mroundFrom mouts nm mfromHour mtoHour ns (nI kf18409) (nI kt18410) so18411 0 (nI (jd + 1)) (nI kc) mlines nl nc nF np ntr nb mbestCost nso nsi nit nsh nsf nss nrc mtraced mdealer mnumber mwhose msize misParted), (nt, iA G 240 fnt)]) hP hD (fun hP hD => ?_)
            have hw8413_0 := hr8407.1
            have hw8413_1 := hr8407.2
            have tA8415 := hw8413_1.1
            have tB8415 := hw8413_1.2.1
            refine lv_aload_n hx hb gX12_one_2.2.2.2.2.2.2.2.2.2 rfl (lv_at1 hl) ?_
            have hjd4 : jd + 1 ≤ 4 := nle_of (a := 4) (b := jd + 1) (by decide) (by omega) c_47_8394
            refine vVo (wr := []) hO hC hK hl hP hD hS hA (ihE (mn - 1) (by omega) h0 nw nk mhasKept nt ktp nr mrowMany mroundOf mroundFrom mouts nm mfromHour mtoHour ns kf18409 kt18410 so18411 (jd + 1) kc mlines nl nc nF np ntr nb mbestCost nso nsi nit nsh nsf nss nrc mtraced mdealer mnumber mwhose msize misParted fnt fnc (hw8413_1) (by omega) (by omega) (by omega)) si_X12_268 [2, 3, 0, 1] [] sm_2_3_0_1 fm_2_3_0_1 nd_2_3_0_1 rfl rfl (by decide) rfl rfl rfl rfl rfl (Nat.le_of_ble_eq_true rfl) ⟨by simp only [RM]; omega, by simp only [RM]; omega⟩ ⟨Nat.le_of_ble_eq_true rfl, Nat.le_of_ble_eq_true rfl⟩ gX12_one_3.1 (Ktu6 fun ff18418 kf18419 kt18420 so18421 kc18422 gnc8423 => ?_)
            intro H locs hr8416 hP hD hS
            try dsimp only at hr8416
            refine Kpdr (ws := [(h0, oX12 nw nk mhasKept nt (nI ktp) nr mrowMany mroundOf mroundFrom mouts nm mfromHour mtoHour ns (nI kf18419) (nI kt18420) so18421 ff18418 (nI (jd + 1)) (nI kc18422) mlines nl nc nF np ntr nb mbestCost nso nsi nit nsh nsf nss nrc mtraced mdealer mnumber mwhose msize misParted), (nt, iA G 240 fnt), (nc, iA G 100 gnc8423), (nF, sA G 5 (FCT K))]) hP hD (fun hP hD => ?_)
            have w8424 := hr8416
            rcases w8424 with rfl | ⟨rfl, hw8425_0, hw8425_1⟩
            · refine lv_aload_n hx hb gX12_one_3.2.1 rfl (lv_at1 hl) ?_
              refine lv_aload_n hx hb gX12_one_3.2.2.1 rfl (lv_at1 hl) ?_
              refine lv_bipush (v := 41) hx hb gX12_one_3.2.2.2.1 (by decide) ?_
              refine pV hC hK hl hP hD (m_isSignF l G h0 41 nw nk mhasKept nt (nI ktp) nr mrowMany mroundOf mroundFrom mouts nm mfromHour mtoHour ns (nI kf18419) (nI kt18420) so18421 (nI (jd + 1)) (nI kc18422) mlines nl nc nF np ntr nb mbestCost nso nsi nit nsh nsf nss nrc mtraced mdealer mnumber mwhose msize misParted) si_X12_262 [0] sm_0 fm_0 nd_0 rfl rfl rfl rfl rfl (Nat.le_of_ble_eq_true rfl) (rmT (Nat.le_of_ble_eq_true rfl) (Nat.le_of_ble_eq_true rfl)) ⟨by first | exact Nat.le_of_ble_eq_true rfl | exact Nat.zero_le _, by first | exact Nat.le_of_ble_eq_true rfl | exact Nat.zero_le _⟩ gX12_one_3.2.2.2.2.1 (Keqr ?_)
              refine vV (wr := [(nt, iA G 240 fnt), (nc, iA G 100 gnc8423), (nF, sA G 5 (FCT K))]) hC hK hl hP hD hS hA (m_needF l G h0 0 nw nk mhasKept nt (nI ktp) nr mrowMany mroundOf mroundFrom mouts nm mfromHour mtoHour ns (nI kf18419) (nI kt18420) so18421 (nI (jd + 1)) (nI kc18422) mlines nl nc nF np ntr nb mbestCost nso nsi nit nsh nsf nss nrc mtraced mdealer mnumber mwhose msize misParted) si_X12_236 [0] [1, 2, 3] sm_0 fm_0 nd_0 sm_1_2_3 nd_1_2_3 dj_0__1_2_3 rfl rfl rfl rfl rfl (Nat.le_of_ble_eq_true rfl) (rmT (Nat.le_of_ble_eq_true rfl) (Nat.le_of_ble_eq_true rfl)) ⟨Nat.le_of_ble_eq_true rfl, Nat.le_of_ble_eq_true rfl⟩ gX12_one_3.2.2.2.2.2.1 (fun u8429 H locs hr8428 hP hD hS => ?_)
              refine Kpdr (ws := [(nt, iA G 240 fnt), (nc, iA G 100 gnc8423), (nF, sA G 5 (FCT K)), (h0, oX12 nw nk mhasKept nt (nI ktp) nr mrowMany mroundOf mroundFrom mouts nm mfromHour mtoHour ns (nI kf18419) (nI kt18420) so18421 1 (nI (jd + 1)) (nI kc18422) mlines nl nc nF np ntr nb mbestCost nso nsi nit nsh nsf nss nrc mtraced mdealer mnumber mwhose msize misParted)]) hP hD (fun hP hD => ?_)
              refine lv_aload_n hx hb gX12_one_3.2.2.2.2.2.2.1 rfl (lv_at1 hl) ?_
              refine lv_dup hx hb gX12_one_3.2.2.2.2.2.2.2.1 rfl ?_
              refine gf_X12_265 hC rfl hK hP 3 rfl rfl gX12_one_3.2.2.2.2.2.2.2.2.1 ?_
              refine lv_iconst (v := 1) hx hb gX12_one_3.2.2.2.2.2.2.2.2.2 (by decide) ?_
              refine lv_isub hx hb gX12_one_4.1 ?_
              refine eqi (x1 := nI jd) (nI_sub1 jd) ?_
              refine pf_X12_265 hC rfl hK hP hD hS 3 (ws' := [(nt, iA G 240 fnt), (nc, iA G 100 gnc8423), (nF, sA G 5 (FCT K)), (h0, oX12 nw nk mhasKept nt (nI ktp) nr mrowMany mroundOf mroundFrom mouts nm mfromHour mtoHour ns (nI kf18419) (nI kt18420) so18421 1 (nI jd) (nI kc18422) mlines nl nc nF np ntr nb mbestCost nso nsi nit nsh nsf nss nrc mtraced mdealer mnumber mwhose msize misParted)]) rfl (Nat.le_of_ble_eq_true rfl) rfl rfl rfl gX12_one_4.2.1 (fun H locs hP hD hS => ?_)
              refine lv_goto (tgt := 223) hx hb gX12_one_4.2.2.1 (by decide) ?_
              refine lv_iconst (v := 0) hx hb gX12_one_11.2.2.2.2.2.2.1 (by decide) ?_
              refine lv_istore_n (lv' := [(2, .int 0), (1, .int (nI vn)), (0, .ref h0)]) hx hb gX12_one_11.2.2.2.2.2.2.2.1 rfl hl (by decide) rfl (fun ls hl => ?_)
              have keyN : ∀ (nN kN : Nat) (H : Heap) (locs : List Loc) (ls : Array Slot), kN + nN = vn → va_PD G A [(nt, iA G 240 fnt), (nc, iA G 100 gnc8423), (nF, sA G 5 (FCT K)), (h0, oX12 nw nk mhasKept nt (nI ktp) nr mrowMany mroundOf mroundFrom mouts nm mfromHour mtoHour ns (nI kf18419) (nI kt18420) so18421 1 (nI jd) (nI kc18422) mlines nl nc nF np ntr nb mbestCost nso nsi nit nsh nsf nss nrc mtraced mdealer mnumber mwhose msize misParted)] H → va_S A s.heap H locs → lv_has ls 5 [(2, .int (nI kN)), (1, .int (nI vn)), (0, .ref h0)] → W p l e (RM (10 + 4 * mn) 0 0) s m ([.ref h0] : List Value).toArray below meth c H locs 0 0 Q0 (F0 m 225 ls []) := by
                intro nN
                induction nN with
                | zero =>
                  intro kN H locs ls hkN hPD hS hl
                  refine Kan2 hPD (fun hP hD => ?_)
                  obtain rfl : vn = kN := by omega
                  have hl : lv_has ls 5 [(2, .int (nI vn)), (1, .int (nI vn)), (0, .ref h0)] := hl
                  refine lv_iload_n hx hb gX12_one_11.2.2.2.2.2.2.2.2.1 rfl (lv_at0 hl) ?_
                  refine lv_iload_n hx hb gX12_one_11.2.2.2.2.2.2.2.2.2 rfl (lv_at1 hl) ?_
                  refine lv_icmp_ge (tgt := 243) hx hb gX12_one_12.1 (by decide) (fun _ => ?_) (fun c9 => absurd (Int32.le_refl _) c9)
                  refine toQ hQ0 ?_
                  exact RV hC hP hD hS [3, 0, 1, 2] (1, kf18419, kt18420, so18421, kc18422, gnc8423) rfl rfl (by decide) (Or.inl rfl) gX12_one_12.2.2.2.2.2.2
                | succ nN ihN =>
                  intro kN H locs ls hkN hPD hS hl
                  refine Kan2 hPD (fun hP hD => ?_)
                  refine lv_iload_n hx hb gX12_one_11.2.2.2.2.2.2.2.2.1 rfl (lv_at0 hl) ?_
                  refine lv_iload_n hx hb gX12_one_11.2.2.2.2.2.2.2.2.2 rfl (lv_at1 hl) ?_
                  refine lv_icmp_ge (tgt := 243) hx hb gX12_one_12.1 (by decide) (fun c9 => absurd c9 (nI_ge (a := kN) (b := vn) (by omega) (by omega))) (fun _ => ?_)
                  refine lv_aload_n hx hb gX12_one_12.2.1 rfl (lv_at2 hl) ?_
                  refine lv_sipush (v := 30000) hx hb gX12_one_12.2.2.1 (by decide) ?_
                  refine vV (wr := [(nt, iA G 240 fnt), (nc, iA G 100 gnc8423), (nF, sA G 5 (FCT K))]) hC hK hl hP hD hS hA (m_codesF l G h0 30000 nw nk mhasKept nt (nI ktp) nr mrowMany mroundOf mroundFrom mouts nm mfromHour mtoHour ns (nI kf18419) (nI kt18420) so18421 (nI jd) (nI kc18422) mlines nl nc nF np ntr nb mbestCost nso nsi nit nsh nsf nss nrc mtraced mdealer mnumber mwhose msize misParted) si_X12_252 [3] [0, 1, 2] sm_3 fm_3 nd_3 sm_0_1_2 nd_0_1_2 dj_3__0_1_2 rfl rfl rfl rfl rfl (Nat.le_of_ble_eq_true rfl) (rmT (Nat.le_of_ble_eq_true rfl) (Nat.le_of_ble_eq_true rfl)) ⟨Nat.le_of_ble_eq_true rfl, Nat.le_of_ble_eq_true rfl⟩ gX12_one_12.2.2.2.1 (fun u8431 H locs hr8430 hP hD hS => ?_)
                  refine Kpdr (ws := [(nt, iA G 240 fnt), (nc, iA G 100 gnc8423), (nF, sA G 5 (FCT K)), (h0, oX12 nw nk mhasKept nt (nI ktp) nr mrowMany mroundOf mroundFrom mouts nm mfromHour mtoHour ns (nI kf18419) (nI kt18420) so18421 1 (nI jd) (nI kc18422) mlines nl nc nF np ntr nb mbestCost nso nsi nit nsh nsf nss nrc mtraced mdealer mnumber mwhose msize misParted)]) hP hD (fun hP hD => ?_)
                  refine lv_iinc (v := nI (kN + 1)) (lv' := [(2, .int (nI (kN + 1))), (1, .int (nI vn)), (0, .ref h0)]) hx hb gX12_one_12.2.2.2.2.1 hl (k := 0) rfl (nI_1 _) (by decide) rfl (fun ls hl => ?_)
                  refine lv_goto (tgt := 225) hx hb gX12_one_12.2.2.2.2.2.1 (by decide) ?_
                  exact ihN (kN + 1) _ _ _ (by omega) (And.intro hP hD) hS (lv_sub hl [0, 1, 2] rfl)
              exact keyN vn 0 _ _ _ (by omega) (And.intro hP hD) hS (lv_sub hl [0, 1, 2] rfl)
            · have tA8432 := hw8425_0.1
              have tB8432 := hw8425_0.2.1
              have tA8433 := hw8425_1.1
              have tB8433 := hw8425_1.2.1
              refine lv_aload_n hx hb gX12_one_3.2.1 rfl (lv_at1 hl) ?_
              refine lv_aload_n hx hb gX12_one_3.2.2.1 rfl (lv_at1 hl) ?_
              refine lv_bipush (v := 41) hx hb gX12_one_3.2.2.2.1 (by decide) ?_
              refine pV hC hK hl hP hD (m_isSign0 l G h0 41 nw nk mhasKept nt ktp nr mrowMany mroundOf mroundFrom mouts nm mfromHour mtoHour ns kf18419 kt18420 so18421 (nI (jd + 1)) (nI kc18422) mlines nl nc nF np ntr nb mbestCost nso nsi nit nsh nsf nss nrc mtraced mdealer mnumber mwhose msize misParted fnt (hw8425_0) (htp)) si_X12_262 [0, 1] sm_0_1 fm_0_1 nd_0_1 rfl rfl rfl rfl rfl (Nat.le_of_ble_eq_true rfl) (rmT (Nat.le_of_ble_eq_true rfl) (Nat.le_of_ble_eq_true rfl)) ⟨by first | exact Nat.le_of_ble_eq_true rfl | exact Nat.zero_le _, by first | exact Nat.le_of_ble_eq_true rfl | exact Nat.zero_le _⟩ gX12_one_3.2.2.2.2.1 (Kors (Keqa fun a8435 => ?_) (Keqa fun a8435 => ?_))
              · have tI8436 := a8435.1
                refine vV (wr := [(nc, iA G 100 gnc8423), (nF, sA G 5 (FCT K))]) hC hK hl hP hD hS hA (m_need1 l G h0 nw nk mhasKept nt ktp nr mrowMany mroundOf mroundFrom mouts nm mfromHour mtoHour ns (nI kf18419) kt18420 so18421 (nI (jd + 1)) (nI kc18422) mlines nl nc nF np ntr nb mbestCost nso nsi nit nsh nsf nss nrc mtraced mdealer mnumber mwhose msize misParted fnt (by omega) (htp)) si_X12_236 [0, 1] [2, 3] sm_0_1 fm_0_1 nd_0_1 sm_2_3 nd_2_3 dj_0_1__2_3 rfl rfl rfl rfl rfl (Nat.le_of_ble_eq_true rfl) (rmT (Nat.le_of_ble_eq_true rfl) (Nat.le_of_ble_eq_true rfl)) ⟨Nat.le_of_ble_eq_true rfl, Nat.le_of_ble_eq_true rfl⟩ gX12_one_3.2.2.2.2.2.1 (Ktu3 fun kf18439 kt18440 so18441 => ?_)
                intro H locs hr8437 hP hD hS
                try dsimp only at hr8437
                refine Kpdr (ws := [(nc, iA G 100 gnc8423), (nF, sA G 5 (FCT K)), (h0, oX12 nw nk mhasKept nt (nI ktp) nr mrowMany mroundOf mroundFrom mouts nm mfromHour mtoHour ns (nI kf18439) (nI kt18440) so18441 0 (nI (jd + 1)) (nI kc18422) mlines nl nc nF np ntr nb mbestCost nso nsi nit nsh nsf nss nrc mtraced mdealer mnumber mwhose msize misParted), (nt, iA G 240 fnt)]) hP hD (fun hP hD => ?_)
                have hw8443_0 := hr8437.1
                have hw8443_1 := hr8437.2
                have tA8445 := hw8443_1.1
                have tB8445 := hw8443_1.2.1
                refine lv_aload_n hx hb gX12_one_3.2.2.2.2.2.2.1 rfl (lv_at1 hl) ?_
                refine lv_dup hx hb gX12_one_3.2.2.2.2.2.2.2.1 rfl ?_
                refine gf_X12_265 hC rfl hK hP 2 rfl rfl gX12_one_3.2.2.2.2.2.2.2.2.1 ?_
                refine lv_iconst (v := 1) hx hb gX12_one_3.2.2.2.2.2.2.2.2.2 (by decide) ?_
                refine lv_isub hx hb gX12_one_4.1 ?_
                refine eqi (x1 := nI jd) (nI_sub1 jd) ?_
                refine pf_X12_265 hC rfl hK hP hD hS 2 (ws' := [(nc, iA G 100 gnc8423), (nF, sA G 5 (FCT K)), (h0, oX12 nw nk mhasKept nt (nI ktp) nr mrowMany mroundOf mroundFrom mouts nm mfromHour mtoHour ns (nI kf18439) (nI kt18440) so18441 0 (nI jd) (nI kc18422) mlines nl nc nF np ntr nb mbestCost nso nsi nit nsh nsf nss nrc mtraced mdealer mnumber mwhose msize misParted), (nt, iA G 240 fnt)]) rfl (Nat.le_of_ble_eq_true rfl) rfl rfl rfl gX12_one_4.2.1 (fun H locs hP hD hS => ?_)
                refine lv_goto (tgt := 223) hx hb gX12_one_4.2.2.1 (by decide) ?_
                refine lv_iconst (v := 0) hx hb gX12_one_11.2.2.2.2.2.2.1 (by decide) ?_
                refine lv_istore_n (lv' := [(2, .int 0), (1, .int (nI vn)), (0, .ref h0)]) hx hb gX12_one_11.2.2.2.2.2.2.2.1 rfl hl (by decide) rfl (fun ls hl => ?_)
                have hbase9 : vf + 3 * kc18422 + 2 ≤ kf18439 + 3 * kc := by omega
                have keyN : ∀ (nN kN : Nat) (vC : Nat → Int32) (H : Heap) (locs : List Loc) (ls : Array Slot), kN + nN = vn → (EXPR fnc vC kc (kc18422 + kN) kf kf18439) → va_PD G A [(nc, iA G 100 vC), (nF, sA G 5 (FCT K)), (h0, oX12 nw nk mhasKept nt (nI ktp) nr mrowMany mroundOf mroundFrom mouts nm mfromHour mtoHour ns (nI kf18439) (nI kt18440) so18441 0 (nI jd) (nI (kc18422 + kN)) mlines nl nc nF np ntr nb mbestCost nso nsi nit nsh nsf nss nrc mtraced mdealer mnumber mwhose msize misParted), (nt, iA G 240 fnt)] H → va_S A s.heap H locs → lv_has ls 5 [(2, .int (nI kN)), (1, .int (nI vn)), (0, .ref h0)] → W p l e (RM (10 + 4 * mn) 0 0) s m ([.ref h0] : List Value).toArray below meth c H locs 0 0 Q0 (F0 m 225 ls []) := by
                  intro nN
                  induction nN with
                  | zero =>
                    intro kN vC H locs ls hkN hEx hPD hS hl
                    refine Kan2 hPD (fun hP hD => ?_)
                    obtain rfl : vn = kN := by omega
                    refine Kpdr (ws := [(nc, iA G 100 vC), (nF, sA G 5 (FCT K)), (h0, oX12 nw nk mhasKept nt (nI ktp) nr mrowMany mroundOf mroundFrom mouts nm mfromHour mtoHour ns (nI kf18439) (nI kt18440) so18441 0 (nI jd) (nI (kc18422 + vn)) mlines nl nc nF np ntr nb mbestCost nso nsi nit nsh nsf nss nrc mtraced mdealer mnumber mwhose msize misParted), (nt, iA G 240 fnt)]) hP hD (fun hP hD => ?_)
                    have hl : lv_has ls 5 [(2, .int (nI vn)), (1, .int (nI vn)), (0, .ref h0)] := hl
                    refine lv_iload_n hx hb gX12_one_11.2.2.2.2.2.2.2.2.1 rfl (lv_at0 hl) ?_
                    refine lv_iload_n hx hb gX12_one_11.2.2.2.2.2.2.2.2.2 rfl (lv_at1 hl) ?_
                    refine lv_icmp_ge (tgt := 243) hx hb gX12_one_12.1 (by decide) (fun _ => ?_) (fun c9 => absurd (Int32.le_refl _) c9)
                    refine toQ hQ0 ?_
                    exact RV hC hP hD hS [2, 3, 0, 1] (0, kf18439, kt18440, so18441, (kc18422 + vn), vC) rfl rfl (by decide) (Or.inr ⟨rfl, hw8443_1, EXPR.wid hEx (by (try dsimp only); omega)⟩) gX12_one_12.2.2.2.2.2.2
                  | succ nN ihN =>
                    intro kN vC H locs ls hkN hEx hPD hS hl
                    refine Kan2 hPD (fun hP hD => ?_)
                    refine lv_iload_n hx hb gX12_one_11.2.2.2.2.2.2.2.2.1 rfl (lv_at0 hl) ?_
                    refine lv_iload_n hx hb gX12_one_11.2.2.2.2.2.2.2.2.2 rfl (lv_at1 hl) ?_
                    refine lv_icmp_ge (tgt := 243) hx hb gX12_one_12.1 (by decide) (fun c9 => absurd c9 (nI_ge (a := kN) (b := vn) (by omega) (by omega))) (fun _ => ?_)
                    refine lv_aload_n hx hb gX12_one_12.2.1 rfl (lv_at2 hl) ?_
                    refine lv_sipush (v := 30000) hx hb gX12_one_12.2.2.1 (by decide) ?_
                    refine vV (wr := [(nF, sA G 5 (FCT K)), (nt, iA G 240 fnt)]) hC hK hl hP hD hS hA (m_codes0 l G h0 30000 nw nk mhasKept nt (nI ktp) nr mrowMany mroundOf mroundFrom mouts nm mfromHour mtoHour ns (nI kf18439) (nI kt18440) so18441 (nI jd) (kc18422 + kN) mlines nl nc nF np ntr nb mbestCost nso nsi nit nsh nsf nss nrc mtraced mdealer mnumber mwhose msize misParted vC (by omega)) si_X12_252 [2, 0] [1, 3] sm_2_0 fm_2_0 nd_2_0 sm_1_3 nd_1_3 dj_2_0__1_3 rfl rfl rfl rfl rfl (Nat.le_of_ble_eq_true rfl) (rmT (Nat.le_of_ble_eq_true rfl) (Nat.le_of_ble_eq_true rfl)) ⟨Nat.le_of_ble_eq_true rfl, Nat.le_of_ble_eq_true rfl⟩ gX12_one_12.2.2.2.1 (fun u8447 H locs hr8446 hP hD hS => ?_)
                    refine Kpdr (ws := [(nF, sA G 5 (FCT K)), (nt, iA G 240 fnt), (h0, oX12 nw nk mhasKept nt (nI ktp) nr mrowMany mroundOf mroundFrom mouts nm mfromHour mtoHour ns (nI kf18439) (nI kt18440) so18441 0 (nI jd) (nI ((kc18422 + kN) + 1)) mlines nl nc nF np ntr nb mbestCost nso nsi nit nsh nsf nss nrc mtraced mdealer mnumber mwhose msize misParted), (nc, iA G 100 (upd vC (kc18422 + kN) 30000))]) hP hD (fun hP hD => ?_)
                    refine lv_iinc (v := nI (kN + 1)) (lv' := [(2, .int (nI (kN + 1))), (1, .int (nI vn)), (0, .ref h0)]) hx hb gX12_one_12.2.2.2.2.1 hl (k := 0) rfl (nI_1 _) (by decide) rfl (fun ls hl => ?_)
                    refine lv_goto (tgt := 225) hx hb gX12_one_12.2.2.2.2.2.1 (by decide) ?_
                    refine Kpds (ws' := [(nc, iA G 100 (upd vC (kc18422 + kN) 30000)), (nF, sA G 5 (FCT K)), (h0, oX12 nw nk mhasKept nt (nI ktp) nr mrowMany mroundOf mroundFrom mouts nm mfromHour mtoHour ns (nI kf18439) (nI kt18440) so18441 0 (nI jd) (nI ((kc18422 + kN) + 1)) mlines nl nc nF np ntr nb mbestCost nso nsi nit nsh nsf nss nrc mtraced mdealer mnumber mwhose msize misParted), (nt, iA G 240 fnt)]) hP hD [3, 0, 2, 1] fm_3_0_2_1 nd_3_0_2_1 sm_3_0_2_1 (fun hP hD => ?_)
                    exact ihN (kN + 1) (upd vC (kc18422 + kN) 30000) _ _ _ (by omega) (by first | assumption | exact Or.inl rfl | exact Or.inr rfl | exact EXPR.not hEx (by omega)) (And.intro hP hD) hS (lv_sub hl [0, 1, 2] rfl)
                exact keyN vn 0 gnc8423 _ _ _ (by omega) (by first | assumption | exact Or.inl rfl | exact Or.inr rfl | exact EXPR.wid (hw8425_1) (by omega) | exact EXPR.not hEx (by omega)) (And.intro hP hD) hS (lv_sub hl [0, 1, 2] rfl)
              · refine vV (wr := [(nt, iA G 240 fnt), (nc, iA G 100 gnc8423), (nF, sA G 5 (FCT K))]) hC hK hl hP hD hS hA (m_need0 l G h0 nw nk mhasKept nt (nI ktp) nr mrowMany mroundOf mroundFrom mouts nm mfromHour mtoHour ns (nI kf18419) (nI kt18420) so18421 (nI (jd + 1)) (nI kc18422) mlines nl nc nF np ntr nb mbestCost nso nsi nit nsh nsf nss nrc mtraced mdealer mnumber mwhose msize misParted) si_X12_236 [0] [1, 2, 3] sm_0 fm_0 nd_0 sm_1_2_3 nd_1_2_3 dj_0__1_2_3 rfl rfl rfl rfl rfl (Nat.le_of_ble_eq_true rfl) (rmT (Nat.le_of_ble_eq_true rfl) (Nat.le_of_ble_eq_true rfl)) ⟨Nat.le_of_ble_eq_true rfl, Nat.le_of_ble_eq_true rfl⟩ gX12_one_3.2.2.2.2.2.1 (fun u8449 H locs hr8448 hP hD hS => ?_)
                refine Kpdr (ws := [(nt, iA G 240 fnt), (nc, iA G 100 gnc8423), (nF, sA G 5 (FCT K)), (h0, oX12 nw nk mhasKept nt (nI ktp) nr mrowMany mroundOf mroundFrom mouts nm mfromHour mtoHour ns (nI kf18419) (nI kt18420) so18421 1 (nI (jd + 1)) (nI kc18422) mlines nl nc nF np ntr nb mbestCost nso nsi nit nsh nsf nss nrc mtraced mdealer mnumber mwhose msize misParted)]) hP hD (fun hP hD => ?_)
                refine lv_aload_n hx hb gX12_one_3.2.2.2.2.2.2.1 rfl (lv_at1 hl) ?_
                refine lv_dup hx hb gX12_one_3.2.2.2.2.2.2.2.1 rfl ?_
                refine gf_X12_265 hC rfl hK hP 3 rfl rfl gX12_one_3.2.2.2.2.2.2.2.2.1 ?_
                refine lv_iconst (v := 1) hx hb gX12_one_3.2.2.2.2.2.2.2.2.2 (by decide) ?_
                refine lv_isub hx hb gX12_one_4.1 ?_
                refine eqi (x1 := nI jd) (nI_sub1 jd) ?_
                refine pf_X12_265 hC rfl hK hP hD hS 3 (ws' := [(nt, iA G 240 fnt), (nc, iA G 100 gnc8423), (nF, sA G 5 (FCT K)), (h0, oX12 nw nk mhasKept nt (nI ktp) nr mrowMany mroundOf mroundFrom mouts nm mfromHour mtoHour ns (nI kf18419) (nI kt18420) so18421 1 (nI jd) (nI kc18422) mlines nl nc nF np ntr nb mbestCost nso nsi nit nsh nsf nss nrc mtraced mdealer mnumber mwhose msize misParted)]) rfl (Nat.le_of_ble_eq_true rfl) rfl rfl rfl gX12_one_4.2.1 (fun H locs hP hD hS => ?_)
                refine lv_goto (tgt := 223) hx hb gX12_one_4.2.2.1 (by decide) ?_
                refine lv_iconst (v := 0) hx hb gX12_one_11.2.2.2.2.2.2.1 (by decide) ?_
                refine lv_istore_n (lv' := [(2, .int 0), (1, .int (nI vn)), (0, .ref h0)]) hx hb gX12_one_11.2.2.2.2.2.2.2.1 rfl hl (by decide) rfl (fun ls hl => ?_)
                have keyN : ∀ (nN kN : Nat) (H : Heap) (locs : List Loc) (ls : Array Slot), kN + nN = vn → va_PD G A [(nt, iA G 240 fnt), (nc, iA G 100 gnc8423), (nF, sA G 5 (FCT K)), (h0, oX12 nw nk mhasKept nt (nI ktp) nr mrowMany mroundOf mroundFrom mouts nm mfromHour mtoHour ns (nI kf18419) (nI kt18420) so18421 1 (nI jd) (nI kc18422) mlines nl nc nF np ntr nb mbestCost nso nsi nit nsh nsf nss nrc mtraced mdealer mnumber mwhose msize misParted)] H → va_S A s.heap H locs → lv_has ls 5 [(2, .int (nI kN)), (1, .int (nI vn)), (0, .ref h0)] → W p l e (RM (10 + 4 * mn) 0 0) s m ([.ref h0] : List Value).toArray below meth c H locs 0 0 Q0 (F0 m 225 ls []) := by
                  intro nN
                  induction nN with
                  | zero =>
                    intro kN H locs ls hkN hPD hS hl
                    refine Kan2 hPD (fun hP hD => ?_)
                    obtain rfl : vn = kN := by omega
                    have hl : lv_has ls 5 [(2, .int (nI vn)), (1, .int (nI vn)), (0, .ref h0)] := hl
                    refine lv_iload_n hx hb gX12_one_11.2.2.2.2.2.2.2.2.1 rfl (lv_at0 hl) ?_
                    refine lv_iload_n hx hb gX12_one_11.2.2.2.2.2.2.2.2.2 rfl (lv_at1 hl) ?_
                    refine lv_icmp_ge (tgt := 243) hx hb gX12_one_12.1 (by decide) (fun _ => ?_) (fun c9 => absurd (Int32.le_refl _) c9)
                    refine toQ hQ0 ?_
                    exact RV hC hP hD hS [3, 0, 1, 2] (1, kf18419, kt18420, so18421, kc18422, gnc8423) rfl rfl (by decide) (Or.inl rfl) gX12_one_12.2.2.2.2.2.2
                  | succ nN ihN =>
                    intro kN H locs ls hkN hPD hS hl
                    refine Kan2 hPD (fun hP hD => ?_)
                    refine lv_iload_n hx hb gX12_one_11.2.2.2.2.2.2.2.2.1 rfl (lv_at0 hl) ?_
                    refine lv_iload_n hx hb gX12_one_11.2.2.2.2.2.2.2.2.2 rfl (lv_at1 hl) ?_
                    refine lv_icmp_ge (tgt := 243) hx hb gX12_one_12.1 (by decide) (fun c9 => absurd c9 (nI_ge (a := kN) (b := vn) (by omega) (by omega))) (fun _ => ?_)
                    refine lv_aload_n hx hb gX12_one_12.2.1 rfl (lv_at2 hl) ?_
                    refine lv_sipush (v := 30000) hx hb gX12_one_12.2.2.1 (by decide) ?_
                    refine vV (wr := [(nt, iA G 240 fnt), (nc, iA G 100 gnc8423), (nF, sA G 5 (FCT K))]) hC hK hl hP hD hS hA (m_codesF l G h0 30000 nw nk mhasKept nt (nI ktp) nr mrowMany mroundOf mroundFrom mouts nm mfromHour mtoHour ns (nI kf18419) (nI kt18420) so18421 (nI jd) (nI kc18422) mlines nl nc nF np ntr nb mbestCost nso nsi nit nsh nsf nss nrc mtraced mdealer mnumber mwhose msize misParted) si_X12_252 [3] [0, 1, 2] sm_3 fm_3 nd_3 sm_0_1_2 nd_0_1_2 dj_3__0_1_2 rfl rfl rfl rfl rfl (Nat.le_of_ble_eq_true rfl) (rmT (Nat.le_of_ble_eq_true rfl) (Nat.le_of_ble_eq_true rfl)) ⟨Nat.le_of_ble_eq_true rfl, Nat.le_of_ble_eq_true rfl⟩ gX12_one_12.2.2.2.1 (fun u8451 H locs hr8450 hP hD hS => ?_)
                    refine Kpdr (ws := [(nt, iA G 240 fnt), (nc, iA G 100 gnc8423), (nF, sA G 5 (FCT K)), (h0, oX12 nw nk mhasKept nt (nI ktp) nr mrowMany mroundOf mroundFrom mouts nm mfromHour mtoHour ns (nI kf18419) (nI kt18420) so18421 1 (nI jd) (nI kc18422) mlines nl nc nF np ntr nb mbestCost nso nsi nit nsh nsf nss nrc mtraced mdealer mnumber mwhose msize misParted)]) hP hD (fun hP hD => ?_)
                    refine lv_iinc (v := nI (kN + 1)) (lv' := [(2, .int (nI (kN + 1))), (1, .int (nI vn)), (0, .ref h0)]) hx hb gX12_one_12.2.2.2.2.1 hl (k := 0) rfl (nI_1 _) (by decide) rfl (fun ls hl => ?_)
                    refine lv_goto (tgt := 225) hx hb gX12_one_12.2.2.2.2.2.1 (by decide) ?_
                    exact ihN (kN + 1) _ _ _ (by omega) (And.intro hP hD) hS (lv_sub hl [0, 1, 2] rfl)
                exact keyN vn 0 _ _ _ (by omega) (And.intro hP hD) hS (lv_sub hl [0, 1, 2] rfl)
        · refine lv_if_eq (tgt := 85) hx hb gX12_one_1.2.2.2.1 (by decide) (fun _ => ?_) (fun c9 => absurd (by decide) c9)
          refine lv_iconst (v := (-1)) hx hb gX12_one_4.2.2.2.1 (by decide) ?_
          refine lv_istore_n (lv' := [(2, .int (-1)), (1, .int (nI vn)), (0, .ref h0)]) hx hb gX12_one_4.2.2.2.2.1 rfl hl (by decide) rfl (fun ls hl => ?_)
          refine lv_iconst (v := 0) hx hb gX12_one_4.2.2.2.2.2.1 (by decide) ?_
          refine lv_istore_n (lv' := [(3, .int 0), (2, .int (-1)), (1, .int (nI vn)), (0, .ref h0)]) hx hb gX12_one_4.2.2.2.2.2.2.1 rfl hl (by decide) rfl (fun ls hl => ?_)
          have keyF5 : ∀ (nF5 kF5 : Nat) (fa9 : Int32) (H : Heap) (locs : List Loc) (ls : Array Slot), kF5 + nF5 = 5 → (fa9 = (-1) ∨ ∃ j, j < 5 ∧ fa9 = nI j ∧ vf + 3 ≤ vt) → va_PD G A [(h0, oX12 nw nk mhasKept nt (nI ktp) nr mrowMany mroundOf mroundFrom mouts nm mfromHour mtoHour ns (nI vf) (nI vt) vs 0 (nI jd) (nI kc) mlines nl nc nF np ntr nb mbestCost nso nsi nit nsh nsf nss nrc mtraced mdealer mnumber mwhose msize misParted), (nt, iA G 240 fnt), (nc, iA G 100 fnc), (nF, sA G 5 (FCT K))] H → va_S A s.heap H locs → lv_has ls 5 [(3, .int (nI kF5)), (2, .int fa9), (1, .int (nI vn)), (0, .ref h0)] → W p l e (RM (10 + 4 * mn) 0 0) s m ([.ref h0] : List Value).toArray below meth c H locs 0 0 Q0 (F0 m 89 ls []) := by
            intro nF5
            induction nF5 with
            | zero =>
              intro kF5 fa9 H locs ls hkF5 hfa hPD hS hl
              refine Kan2 hPD (fun hP hD => ?_)
              obtain rfl : 5 = kF5 := by omega
              have hl : lv_has ls 5 [(3, .int 5), (2, .int fa9), (1, .int (nI vn)), (0, .ref h0)] := hl
              refine lv_iload_n hx hb gX12_one_4.2.2.2.2.2.2.2.1 rfl (lv_at0 hl) ?_
              refine lv_iconst (v := 5) hx hb gX12_one_4.2.2.2.2.2.2.2.2.1 (by decide) ?_
              refine lv_icmp_ge (tgt := 119) hx hb gX12_one_4.2.2.2.2.2.2.2.2.2 (by decide) (fun _ => ?_) (fun c9 => absurd (by decide) c9)
              rcases hfa with rfl | ⟨jfa, hjfa, rfl, hfa3⟩
              · refine lv_aload_n hx hb gX12_one_6.2.2.2.1 rfl (lv_at3 hl) ?_
                refine lv_iload_n hx hb gX12_one_6.2.2.2.2.1 rfl (lv_at1 hl) ?_
                refine lv_if_lt (tgt := 128) hx hb gX12_one_6.2.2.2.2.2.1 (by decide) (fun _ => ?_) (fun c9 => absurd (by decide) c9)
                refine lv_iconst (v := 0) hx hb gX12_one_6.2.2.2.2.2.2.2.2.1 (by decide) ?_
                refine vV (wr := [(nt, iA G 240 fnt), (nc, iA G 100 fnc), (nF, sA G 5 (FCT K))]) hC hK hl hP hD hS hA (m_need0 l G h0 nw nk mhasKept nt (nI ktp) nr mrowMany mroundOf mroundFrom mouts nm mfromHour mtoHour ns (nI vf) (nI vt) vs (nI jd) (nI kc) mlines nl nc nF np ntr nb mbestCost nso nsi nit nsh nsf nss nrc mtraced mdealer mnumber mwhose msize misParted) si_X12_236 [0] [1, 2, 3] sm_0 fm_0 nd_0 sm_1_2_3 nd_1_2_3 dj_0__1_2_3 rfl rfl rfl rfl rfl (Nat.le_of_ble_eq_true rfl) (rmT (Nat.le_of_ble_eq_true rfl) (Nat.le_of_ble_eq_true rfl)) ⟨Nat.le_of_ble_eq_true rfl, Nat.le_of_ble_eq_true rfl⟩ gX12_one_6.2.2.2.2.2.2.2.2.2 (fun u8453 H locs hr8452 hP hD hS => ?_)
                refine Kpdr (ws := [(nt, iA G 240 fnt), (nc, iA G 100 fnc), (nF, sA G 5 (FCT K)), (h0, oX12 nw nk mhasKept nt (nI ktp) nr mrowMany mroundOf mroundFrom mouts nm mfromHour mtoHour ns (nI vf) (nI vt) vs 1 (nI jd) (nI kc) mlines nl nc nF np ntr nb mbestCost nso nsi nit nsh nsf nss nrc mtraced mdealer mnumber mwhose msize misParted)]) hP hD (fun hP hD => ?_)
                refine lv_aload_n hx hb gX12_one_7.1 rfl (lv_at3 hl) ?_
                refine lv_bipush (v := 60) hx hb gX12_one_7.2.1 (by decide) ?_
                refine pV hC hK hl hP hD (m_isSignF l G h0 60 nw nk mhasKept nt (nI ktp) nr mrowMany mroundOf mroundFrom mouts nm mfromHour mtoHour ns (nI vf) (nI vt) vs (nI jd) (nI kc) mlines nl nc nF np ntr nb mbestCost nso nsi nit nsh nsf nss nrc mtraced mdealer mnumber mwhose msize misParted) si_X12_262 [3] sm_3 fm_3 nd_3 rfl rfl rfl rfl rfl (Nat.le_of_ble_eq_true rfl) (rmT (Nat.le_of_ble_eq_true rfl) (Nat.le_of_ble_eq_true rfl)) ⟨by first | exact Nat.le_of_ble_eq_true rfl | exact Nat.zero_le _, by first | exact Nat.le_of_ble_eq_true rfl | exact Nat.zero_le _⟩ gX12_one_7.2.2.1 (Keqr ?_)
                refine lv_if_eq (tgt := 145) hx hb gX12_one_7.2.2.2.1 (by decide) (fun _ => ?_) (fun c9 => absurd (by decide) c9)
                refine lv_aload_n hx hb gX12_one_7.2.2.2.2.2.2.1 rfl (lv_at3 hl) ?_
                refine lv_bipush (v := 61) hx hb gX12_one_7.2.2.2.2.2.2.2.1 (by decide) ?_
                refine pV hC hK hl hP hD (m_isSignF l G h0 61 nw nk mhasKept nt (nI ktp) nr mrowMany mroundOf mroundFrom mouts nm mfromHour mtoHour ns (nI vf) (nI vt) vs (nI jd) (nI kc) mlines nl nc nF np ntr nb mbestCost nso nsi nit nsh nsf nss nrc mtraced mdealer mnumber mwhose msize misParted) si_X12_262 [3] sm_3 fm_3 nd_3 rfl rfl rfl rfl rfl (Nat.le_of_ble_eq_true rfl) (rmT (Nat.le_of_ble_eq_true rfl) (Nat.le_of_ble_eq_true rfl)) ⟨by first | exact Nat.le_of_ble_eq_true rfl | exact Nat.zero_le _, by first | exact Nat.le_of_ble_eq_true rfl | exact Nat.zero_le _⟩ gX12_one_7.2.2.2.2.2.2.2.2.1 (Keqr ?_)
                refine lv_if_eq (tgt := 158) hx hb gX12_one_7.2.2.2.2.2.2.2.2.2 (by decide) (fun _ => ?_) (fun c9 => absurd (by decide) c9)
                refine lv_iconst (v := 2) hx hb gX12_one_8.2.2.1 (by decide) ?_
                refine lv_istore_n (lv' := [(3, .int 2), (2, .int (-1)), (1, .int (nI vn)), (0, .ref h0)]) hx hb gX12_one_8.2.2.2.1 rfl hl (by decide) rfl (fun ls hl => ?_)
                refine lv_aload_n hx hb gX12_one_8.2.2.2.2.1 rfl (lv_at3 hl) ?_
                refine lv_aload_n hx hb gX12_one_8.2.2.2.2.2.1 rfl (lv_at3 hl) ?_
                refine lv_bipush (v := 60) hx hb gX12_one_8.2.2.2.2.2.2.1 (by decide) ?_
                refine pV hC hK hl hP hD (m_isSignF l G h0 60 nw nk mhasKept nt (nI ktp) nr mrowMany mroundOf mroundFrom mouts nm mfromHour mtoHour ns (nI vf) (nI vt) vs (nI jd) (nI kc) mlines nl nc nF np ntr nb mbestCost nso nsi nit nsh nsf nss nrc mtraced mdealer mnumber mwhose msize misParted) si_X12_262 [3] sm_3 fm_3 nd_3 rfl rfl rfl rfl rfl (Nat.le_of_ble_eq_true rfl) (rmT (Nat.le_of_ble_eq_true rfl) (Nat.le_of_ble_eq_true rfl)) ⟨by first | exact Nat.le_of_ble_eq_true rfl | exact Nat.zero_le _, by first | exact Nat.le_of_ble_eq_true rfl | exact Nat.zero_le _⟩ gX12_one_8.2.2.2.2.2.2.2.1 (Keqr ?_)
                refine lv_if_ne (tgt := 188) hx hb gX12_one_8.2.2.2.2.2.2.2.2.1 (by decide) (fun c9 => absurd (by decide) c9) (fun _ => ?_)
                refine lv_aload_n hx hb gX12_one_8.2.2.2.2.2.2.2.2.2 rfl (lv_at3 hl) ?_
                refine lv_bipush (v := 61) hx hb gX12_one_9.1 (by decide) ?_
                refine pV hC hK hl hP hD (m_isSignF l G h0 61 nw nk mhasKept nt (nI ktp) nr mrowMany mroundOf mroundFrom mouts nm mfromHour mtoHour ns (nI vf) (nI vt) vs (nI jd) (nI kc) mlines nl nc nF np ntr nb mbestCost nso nsi nit nsh nsf nss nrc mtraced mdealer mnumber mwhose msize misParted) si_X12_262 [3] sm_3 fm_3 nd_3 rfl rfl rfl rfl rfl (Nat.le_of_ble_eq_true rfl) (rmT (Nat.le_of_ble_eq_true rfl) (Nat.le_of_ble_eq_true rfl)) ⟨by first | exact Nat.le_of_ble_eq_true rfl | exact Nat.zero_le _, by first | exact Nat.le_of_ble_eq_true rfl | exact Nat.zero_le _⟩ gX12_one_9.2.1 (Keqr ?_)
                refine lv_if_ne (tgt := 188) hx hb gX12_one_9.2.2.1 (by decide) (fun c9 => absurd (by decide) c9) (fun _ => ?_)
                refine lv_aload_n hx hb gX12_one_9.2.2.2.1 rfl (lv_at3 hl) ?_
                refine lv_bipush (v := 62) hx hb gX12_one_9.2.2.2.2.1 (by decide) ?_
                refine pV hC hK hl hP hD (m_isSignF l G h0 62 nw nk mhasKept nt (nI ktp) nr mrowMany mroundOf mroundFrom mouts nm mfromHour mtoHour ns (nI vf) (nI vt) vs (nI jd) (nI kc) mlines nl nc nF np ntr nb mbestCost nso nsi nit nsh nsf nss nrc mtraced mdealer mnumber mwhose msize misParted) si_X12_262 [3] sm_3 fm_3 nd_3 rfl rfl rfl rfl rfl (Nat.le_of_ble_eq_true rfl) (rmT (Nat.le_of_ble_eq_true rfl) (Nat.le_of_ble_eq_true rfl)) ⟨by first | exact Nat.le_of_ble_eq_true rfl | exact Nat.zero_le _, by first | exact Nat.le_of_ble_eq_true rfl | exact Nat.zero_le _⟩ gX12_one_9.2.2.2.2.2.1 (Keqr ?_)
                refine lv_if_eq (tgt := 192) hx hb gX12_one_9.2.2.2.2.2.2.1 (by decide) (fun _ => ?_) (fun c9 => absurd (by decide) c9)
                refine lv_iconst (v := 0) hx hb gX12_one_9.2.2.2.2.2.2.2.2.2 (by decide) ?_
                refine vV (wr := [(nt, iA G 240 fnt), (nc, iA G 100 fnc), (nF, sA G 5 (FCT K))]) hC hK hl hP hD hS hA (m_needF l G h0 0 nw nk mhasKept nt (nI ktp) nr mrowMany mroundOf mroundFrom mouts nm mfromHour mtoHour ns (nI vf) (nI vt) vs (nI jd) (nI kc) mlines nl nc nF np ntr nb mbestCost nso nsi nit nsh nsf nss nrc mtraced mdealer mnumber mwhose msize misParted) si_X12_236 [3] [0, 1, 2] sm_3 fm_3 nd_3 sm_0_1_2 nd_0_1_2 dj_3__0_1_2 rfl rfl rfl rfl rfl (Nat.le_of_ble_eq_true rfl) (rmT (Nat.le_of_ble_eq_true rfl) (Nat.le_of_ble_eq_true rfl)) ⟨Nat.le_of_ble_eq_true rfl, Nat.le_of_ble_eq_true rfl⟩ gX12_one_10.1 (fun u8465 H locs hr8464 hP hD hS => ?_)
                refine Kpdr (ws := [(nt, iA G 240 fnt), (nc, iA G 100 fnc), (nF, sA G 5 (FCT K)), (h0, oX12 nw nk mhasKept nt (nI ktp) nr mrowMany mroundOf mroundFrom mouts nm mfromHour mtoHour ns (nI vf) (nI vt) vs 1 (nI jd) (nI kc) mlines nl nc nF np ntr nb mbestCost nso nsi nit nsh nsf nss nrc mtraced mdealer mnumber mwhose msize misParted)]) hP hD (fun hP hD => ?_)
                refine lv_aload_n hx hb gX12_one_10.2.1 rfl (lv_at3 hl) ?_
                refine lv_sipush (v := 999) hx hb gX12_one_10.2.2.1 (by decide) ?_
                refine iV (wr := [(nt, iA G 240 fnt), (nc, iA G 100 fnc), (nF, sA G 5 (FCT K))]) hC hK hl hP hD hS hA (m_numberF l G h0 999 nw nk mhasKept nt (nI ktp) nr mrowMany mroundOf mroundFrom mouts nm mfromHour mtoHour ns (nI vf) (nI vt) vs (nI jd) (nI kc) mlines nl nc nF np ntr nb mbestCost nso nsi nit nsh nsf nss nrc mtraced mdealer mnumber mwhose msize misParted) si_X12_271 [3] [0, 1, 2] sm_3 fm_3 nd_3 sm_0_1_2 nd_0_1_2 dj_3__0_1_2 rfl rfl rfl rfl rfl (Nat.le_of_ble_eq_true rfl) (rmT (Nat.le_of_ble_eq_true rfl) (Nat.le_of_ble_eq_true rfl)) ⟨Nat.le_of_ble_eq_true rfl, Nat.le_of_ble_eq_true rfl⟩ gX12_one_10.2.2.2.1 (fun r8466 u8467 H locs hr8466 hP hD hS => ?_)
                refine Kpdr (ws := [(nt, iA G 240 fnt), (nc, iA G 100 fnc), (nF, sA G 5 (FCT K)), (h0, oX12 nw nk mhasKept nt (nI ktp) nr mrowMany mroundOf mroundFrom mouts nm mfromHour mtoHour ns (nI vf) (nI vt) vs 1 (nI jd) (nI kc) mlines nl nc nF np ntr nb mbestCost nso nsi nit nsh nsf nss nrc mtraced mdealer mnumber mwhose msize misParted)]) hP hD (fun hP hD => ?_)
                obtain rfl := hr8466
                refine lv_istore (lv' := [(4, .int 0), (3, .int 2), (2, .int (-1)), (1, .int (nI vn)), (0, .ref h0)]) hx hb gX12_one_10.2.2.2.2.1 hl (by decide) rfl (fun ls hl => ?_)
                refine lv_aload_n hx hb gX12_one_10.2.2.2.2.2.1 rfl (lv_at4 hl) ?_
                refine lv_sipush (v := 3000) hx hb gX12_one_10.2.2.2.2.2.2.1 (by decide) ?_
                refine lv_iload_n hx hb gX12_one_10.2.2.2.2.2.2.2.1 rfl (lv_at2 hl) ?_
                refine lv_imul hx hb gX12_one_10.2.2.2.2.2.2.2.2.1 ?_
                refine eqi (x1 := (-3000)) (by decide) ?_
                refine lv_sipush (v := 1000) hx hb gX12_one_10.2.2.2.2.2.2.2.2.2 (by decide) ?_
                refine lv_iload_n hx hb gX12_one_11.1 rfl (lv_at1 hl) ?_
                refine lv_imul hx hb gX12_one_11.2.1 ?_
                refine eqi (x1 := 2000) (by decide) ?_
                refine lv_iadd hx hb gX12_one_11.2.2.1 ?_
                refine eqi (x1 := (-1000)) (by decide) ?_
                refine lv_iload hx hb gX12_one_11.2.2.2.1 (lv_at0 hl) ?_
                refine lv_iadd hx hb gX12_one_11.2.2.2.2.1 ?_
                refine eqi (x1 := (-1000)) (by decide) ?_
                refine vV (wr := [(nt, iA G 240 fnt), (nc, iA G 100 fnc), (nF, sA G 5 (FCT K))]) hC hK hl hP hD hS hA (m_codesF l G h0 (-1000) nw nk mhasKept nt (nI ktp) nr mrowMany mroundOf mroundFrom mouts nm mfromHour mtoHour ns (nI vf) (nI vt) vs (nI jd) (nI kc) mlines nl nc nF np ntr nb mbestCost nso nsi nit nsh nsf nss nrc mtraced mdealer mnumber mwhose msize misParted) si_X12_252 [3] [0, 1, 2] sm_3 fm_3 nd_3 sm_0_1_2 nd_0_1_2 dj_3__0_1_2 rfl rfl rfl rfl rfl (Nat.le_of_ble_eq_true rfl) (rmT (Nat.le_of_ble_eq_true rfl) (Nat.le_of_ble_eq_true rfl)) ⟨Nat.le_of_ble_eq_true rfl, Nat.le_of_ble_eq_true rfl⟩ gX12_one_11.2.2.2.2.2.1 (fun u8470 H locs hr8469 hP hD hS => ?_)
                refine Kpdr (ws := [(nt, iA G 240 fnt), (nc, iA G 100 fnc), (nF, sA G 5 (FCT K)), (h0, oX12 nw nk mhasKept nt (nI ktp) nr mrowMany mroundOf mroundFrom mouts nm mfromHour mtoHour ns (nI vf) (nI vt) vs 1 (nI jd) (nI kc) mlines nl nc nF np ntr nb mbestCost nso nsi nit nsh nsf nss nrc mtraced mdealer mnumber mwhose msize misParted)]) hP hD (fun hP hD => ?_)
                refine lv_iconst (v := 0) hx hb gX12_one_11.2.2.2.2.2.2.1 (by decide) ?_
                refine lv_istore_n (lv' := [(2, .int 0), (4, .int 0), (3, .int 2), (1, .int (nI vn)), (0, .ref h0)]) hx hb gX12_one_11.2.2.2.2.2.2.2.1 rfl hl (by decide) rfl (fun ls hl => ?_)
                have keyN : ∀ (nN kN : Nat) (H : Heap) (locs : List Loc) (ls : Array Slot), kN + nN = vn → va_PD G A [(nt, iA G 240 fnt), (nc, iA G 100 fnc), (nF, sA G 5 (FCT K)), (h0, oX12 nw nk mhasKept nt (nI ktp) nr mrowMany mroundOf mroundFrom mouts nm mfromHour mtoHour ns (nI vf) (nI vt) vs 1 (nI jd) (nI kc) mlines nl nc nF np ntr nb mbestCost nso nsi nit nsh nsf nss nrc mtraced mdealer mnumber mwhose msize misParted)] H → va_S A s.heap H locs → lv_has ls 5 [(2, .int (nI kN)), (4, .int 0), (3, .int 2), (1, .int (nI vn)), (0, .ref h0)] → W p l e (RM (10 + 4 * mn) 0 0) s m ([.ref h0] : List Value).toArray below meth c H locs 0 0 Q0 (F0 m 225 ls []) := by
                  intro nN
                  induction nN with
                  | zero =>
                    intro kN H locs ls hkN hPD hS hl
                    refine Kan2 hPD (fun hP hD => ?_)
                    obtain rfl : vn = kN := by omega
                    have hl : lv_has ls 5 [(2, .int (nI vn)), (4, .int 0), (3, .int 2), (1, .int (nI vn)), (0, .ref h0)] := hl
                    refine lv_iload_n hx hb gX12_one_11.2.2.2.2.2.2.2.2.1 rfl (lv_at0 hl) ?_
                    refine lv_iload_n hx hb gX12_one_11.2.2.2.2.2.2.2.2.2 rfl (lv_at3 hl) ?_
                    refine lv_icmp_ge (tgt := 243) hx hb gX12_one_12.1 (by decide) (fun _ => ?_) (fun c9 => absurd (Int32.le_refl _) c9)
                    refine toQ hQ0 ?_
                    exact RV hC hP hD hS [3, 0, 1, 2] (1, vf, vt, vs, kc, fnc) rfl rfl (by decide) (Or.inl rfl) gX12_one_12.2.2.2.2.2.2
                  | succ nN ihN =>
                    intro kN H locs ls hkN hPD hS hl
                    refine Kan2 hPD (fun hP hD => ?_)
                    refine lv_iload_n hx hb gX12_one_11.2.2.2.2.2.2.2.2.1 rfl (lv_at0 hl) ?_
                    refine lv_iload_n hx hb gX12_one_11.2.2.2.2.2.2.2.2.2 rfl (lv_at3 hl) ?_
                    refine lv_icmp_ge (tgt := 243) hx hb gX12_one_12.1 (by decide) (fun c9 => absurd c9 (nI_ge (a := kN) (b := vn) (by omega) (by omega))) (fun _ => ?_)
                    refine lv_aload_n hx hb gX12_one_12.2.1 rfl (lv_at4 hl) ?_
                    refine lv_sipush (v := 30000) hx hb gX12_one_12.2.2.1 (by decide) ?_
                    refine vV (wr := [(nt, iA G 240 fnt), (nc, iA G 100 fnc), (nF, sA G 5 (FCT K))]) hC hK hl hP hD hS hA (m_codesF l G h0 30000 nw nk mhasKept nt (nI ktp) nr mrowMany mroundOf mroundFrom mouts nm mfromHour mtoHour ns (nI vf) (nI vt) vs (nI jd) (nI kc) mlines nl nc nF np ntr nb mbestCost nso nsi nit nsh nsf nss nrc mtraced mdealer mnumber mwhose msize misParted) si_X12_252 [3] [0, 1, 2] sm_3 fm_3 nd_3 sm_0_1_2 nd_0_1_2 dj_3__0_1_2 rfl rfl rfl rfl rfl (Nat.le_of_ble_eq_true rfl) (rmT (Nat.le_of_ble_eq_true rfl) (Nat.le_of_ble_eq_true rfl)) ⟨Nat.le_of_ble_eq_true rfl, Nat.le_of_ble_eq_true rfl⟩ gX12_one_12.2.2.2.1 (fun u8472 H locs hr8471 hP hD hS => ?_)
                    refine Kpdr (ws := [(nt, iA G 240 fnt), (nc, iA G 100 fnc), (nF, sA G 5 (FCT K)), (h0, oX12 nw nk mhasKept nt (nI ktp) nr mrowMany mroundOf mroundFrom mouts nm mfromHour mtoHour ns (nI vf) (nI vt) vs 1 (nI jd) (nI kc) mlines nl nc nF np ntr nb mbestCost nso nsi nit nsh nsf nss nrc mtraced mdealer mnumber mwhose msize misParted)]) hP hD (fun hP hD => ?_)
                    refine lv_iinc (v := nI (kN + 1)) (lv' := [(2, .int (nI (kN + 1))), (4, .int 0), (3, .int 2), (1, .int (nI vn)), (0, .ref h0)]) hx hb gX12_one_12.2.2.2.2.1 hl (k := 0) rfl (nI_1 _) (by decide) rfl (fun ls hl => ?_)
                    refine lv_goto (tgt := 225) hx hb gX12_one_12.2.2.2.2.2.1 (by decide) ?_
                    exact ihN (kN + 1) _ _ _ (by omega) (And.intro hP hD) hS (lv_sub hl [0, 1, 2, 3, 4] rfl)
                exact keyN vn 0 _ _ _ (by omega) (And.intro hP hD) hS (lv_sub hl [0, 1, 2, 3, 4] rfl)
              · refine lv_aload_n hx hb gX12_one_6.2.2.2.1 rfl (lv_at3 hl) ?_
                refine lv_iload_n hx hb gX12_one_6.2.2.2.2.1 rfl (lv_at1 hl) ?_
                refine lv_if_lt (tgt := 128) hx hb gX12_one_6.2.2.2.2.2.1 (by decide) (fun c9 => absurd c9 (nI_pos (by omega))) (fun _ => ?_)
                refine lv_iconst (v := 1) hx hb gX12_one_6.2.2.2.2.2.2.1 (by decide) ?_
                refine lv_goto (tgt := 129) hx hb gX12_one_6.2.2.2.2.2.2.2.1 (by decide) ?_
                refine vV (wr := [(nc, iA G 100 fnc), (nF, sA G 5 (FCT K))]) hC hK hl hP hD hS hA (m_need1 l G h0 nw nk mhasKept nt ktp nr mrowMany mroundOf mroundFrom mouts nm mfromHour mtoHour ns (nI vf) vt vs (nI jd) (nI kc) mlines nl nc nF np ntr nb mbestCost nso nsi nit nsh nsf nss nrc mtraced mdealer mnumber mwhose msize misParted fnt (by omega) (htp)) si_X12_236 [0, 1] [2, 3] sm_0_1 fm_0_1 nd_0_1 sm_2_3 nd_2_3 dj_0_1__2_3 rfl rfl rfl rfl rfl (Nat.le_of_ble_eq_true rfl) (rmT (Nat.le_of_ble_eq_true rfl) (Nat.le_of_ble_eq_true rfl)) ⟨Nat.le_of_ble_eq_true rfl, Nat.le_of_ble_eq_true rfl⟩ gX12_one_6.2.2.2.2.2.2.2.2.2 (Ktu3 fun kf18475 kt18476 so18477 => ?_)
                intro H locs hr8473 hP hD hS
                try dsimp only at hr8473
                refine Kpdr (ws := [(nc, iA G 100 fnc), (nF, sA G 5 (FCT K)), (h0, oX12 nw nk mhasKept nt (nI ktp) nr mrowMany mroundOf mroundFrom mouts nm mfromHour mtoHour ns (nI kf18475) (nI kt18476) so18477 0 (nI jd) (nI kc) mlines nl nc nF np ntr nb mbestCost nso nsi nit nsh nsf nss nrc mtraced mdealer mnumber mwhose msize misParted), (nt, iA G 240 fnt)]) hP hD (fun hP hD => ?_)
                have hw8479_0 := hr8473.1
                have hw8479_1 := hr8473.2
                have tA8481 := hw8479_1.1
                have tB8481 := hw8479_1.2.1
                refine lv_aload_n hx hb gX12_one_7.1 rfl (lv_at3 hl) ?_
                refine lv_bipush (v := 60) hx hb gX12_one_7.2.1 (by decide) ?_
                refine pV hC hK hl hP hD (m_isSign0 l G h0 60 nw nk mhasKept nt ktp nr mrowMany mroundOf mroundFrom mouts nm mfromHour mtoHour ns kf18475 kt18476 so18477 (nI jd) (nI kc) mlines nl nc nF np ntr nb mbestCost nso nsi nit nsh nsf nss nrc mtraced mdealer mnumber mwhose msize misParted fnt (hw8479_1) (htp)) si_X12_262 [2, 3] sm_2_3 fm_2_3 nd_2_3 rfl rfl rfl rfl rfl (Nat.le_of_ble_eq_true rfl) (rmT (Nat.le_of_ble_eq_true rfl) (Nat.le_of_ble_eq_true rfl)) ⟨by first | exact Nat.le_of_ble_eq_true rfl | exact Nat.zero_le _, by first | exact Nat.le_of_ble_eq_true rfl | exact Nat.zero_le _⟩ gX12_one_7.2.2.1 (Kors (Keqa fun a8483 => ?_) (Keqa fun a8483 => ?_))
                · refine lv_if_eq (tgt := 145) hx hb gX12_one_7.2.2.2.1 (by decide) (fun c9 => absurd c9 (by decide)) (fun _ => ?_)
                  refine lv_iconst (v := 0) hx hb gX12_one_7.2.2.2.2.1 (by decide) ?_
                  refine lv_goto (tgt := 159) hx hb gX12_one_7.2.2.2.2.2.1 (by decide) ?_
                  refine lv_istore_n (lv' := [(3, .int 0), (2, .int (nI jfa)), (1, .int (nI vn)), (0, .ref h0)]) hx hb gX12_one_8.2.2.2.1 rfl hl (by decide) rfl (fun ls hl => ?_)
                  refine lv_aload_n hx hb gX12_one_8.2.2.2.2.1 rfl (lv_at3 hl) ?_
                  refine lv_aload_n hx hb gX12_one_8.2.2.2.2.2.1 rfl (lv_at3 hl) ?_
                  refine lv_bipush (v := 60) hx hb gX12_one_8.2.2.2.2.2.2.1 (by decide) ?_
                  have tI8484 := a8483.1
                  refine pV hC hK hl hP hD (m_isSign0 l G h0 60 nw nk mhasKept nt ktp nr mrowMany mroundOf mroundFrom mouts nm mfromHour mtoHour ns kf18475 kt18476 so18477 (nI jd) (nI kc) mlines nl nc nF np ntr nb mbestCost nso nsi nit nsh nsf nss nrc mtraced mdealer mnumber mwhose msize misParted fnt (hw8479_1) (htp)) si_X12_262 [2, 3] sm_2_3 fm_2_3 nd_2_3 rfl rfl rfl rfl rfl (Nat.le_of_ble_eq_true rfl) (rmT (Nat.le_of_ble_eq_true rfl) (Nat.le_of_ble_eq_true rfl)) ⟨by first | exact Nat.le_of_ble_eq_true rfl | exact Nat.zero_le _, by first | exact Nat.le_of_ble_eq_true rfl | exact Nat.zero_le _⟩ gX12_one_8.2.2.2.2.2.2.2.1 (Kors (Keqa fun a8486 => ?_) (Keqa fun a8486 => ?_))
                  · refine lv_if_ne (tgt := 188) hx hb gX12_one_8.2.2.2.2.2.2.2.2.1 (by decide) (fun _ => ?_) (fun c9 => absurd c9 (by decide))
                    refine lv_iconst (v := 1) hx hb gX12_one_9.2.2.2.2.2.2.2.1 (by decide) ?_
                    refine lv_goto (tgt := 193) hx hb gX12_one_9.2.2.2.2.2.2.2.2.1 (by decide) ?_
                    refine vV (wr := [(nc, iA G 100 fnc), (nF, sA G 5 (FCT K))]) hC hK hl hP hD hS hA (m_need1 l G h0 nw nk mhasKept nt ktp nr mrowMany mroundOf mroundFrom mouts nm mfromHour mtoHour ns (nI kf18475) kt18476 so18477 (nI jd) (nI kc) mlines nl nc nF np ntr nb mbestCost nso nsi nit nsh nsf nss nrc mtraced mdealer mnumber mwhose msize misParted fnt (by omega) (htp)) si_X12_236 [2, 3] [0, 1] sm_2_3 fm_2_3 nd_2_3 sm_0_1 nd_0_1 dj_2_3__0_1 rfl rfl rfl rfl rfl (Nat.le_of_ble_eq_true rfl) (rmT (Nat.le_of_ble_eq_true rfl) (Nat.le_of_ble_eq_true rfl)) ⟨Nat.le_of_ble_eq_true rfl, Nat.le_of_ble_eq_true rfl⟩ gX12_one_10.1 (Ktu3 fun kf18489 kt18490 so18491 => ?_)
                    intro H locs hr8487 hP hD hS
                    try dsimp only at hr8487
                    refine Kpdr (ws := [(nc, iA G 100 fnc), (nF, sA G 5 (FCT K)), (h0, oX12 nw nk mhasKept nt (nI ktp) nr mrowMany mroundOf mroundFrom mouts nm mfromHour mtoHour ns (nI kf18489) (nI kt18490) so18491 0 (nI jd) (nI kc) mlines nl nc nF np ntr nb mbestCost nso nsi nit nsh nsf nss nrc mtraced mdealer mnumber mwhose msize misParted), (nt, iA G 240 fnt)]) hP hD (fun hP hD => ?_)
                    have hw8493_0 := hr8487.1
                    have hw8493_1 := hr8487.2
                    have tA8495 := hw8493_1.1
                    have tB8495 := hw8493_1.2.1
                    refine lv_aload_n hx hb gX12_one_10.2.1 rfl (lv_at3 hl) ?_
                    refine lv_sipush (v := 999) hx hb gX12_one_10.2.2.1 (by decide) ?_
                    refine iV (wr := [(nc, iA G 100 fnc), (nF, sA G 5 (FCT K))]) hC hK hl hP hD hS hA (m_number0 l G h0 999 nw nk mhasKept nt ktp nr mrowMany mroundOf mroundFrom mouts nm mfromHour mtoHour ns kf18489 kt18490 so18491 (nI jd) (nI kc) mlines nl nc nF np ntr nb mbestCost nso nsi nit nsh nsf nss nrc mtraced mdealer mnumber mwhose msize misParted fnt (hw8493_1) (htp) (by omega)) si_X12_271 [2, 3] [0, 1] sm_2_3 fm_2_3 nd_2_3 sm_0_1 nd_0_1 dj_2_3__0_1 rfl rfl rfl rfl rfl (Nat.le_of_ble_eq_true rfl) (rmT (Nat.le_of_ble_eq_true rfl) (Nat.le_of_ble_eq_true rfl)) ⟨Nat.le_of_ble_eq_true rfl, Nat.le_of_ble_eq_true rfl⟩ gX12_one_10.2.2.2.1 (fun r8496 => Ktu4 fun ff18498 kf18499 kt18500 so18501 => ?_)
                    intro H locs hr8496 hP hD hS
                    try dsimp only at hr8496
                    refine Kpdr (ws := [(nc, iA G 100 fnc), (nF, sA G 5 (FCT K)), (h0, oX12 nw nk mhasKept nt (nI ktp) nr mrowMany mroundOf mroundFrom mouts nm mfromHour mtoHour ns (nI kf18499) (nI kt18500) so18501 ff18498 (nI jd) (nI kc) mlines nl nc nF np ntr nb mbestCost nso nsi nit nsh nsf nss nrc mtraced mdealer mnumber mwhose msize misParted), (nt, iA G 240 fnt)]) hP hD (fun hP hD => ?_)
                    obtain ⟨hr8496, w8502⟩ := hr8496
                    rcases w8502 with rfl | ⟨rfl, ⟨v_8503, hv_8503, rfl⟩, hw8503_1, hw8503_2⟩
                    · refine lv_istore (lv' := [(4, .int r8496), (3, .int 0), (2, .int (nI jfa)), (1, .int (nI vn)), (0, .ref h0)]) hx hb gX12_one_10.2.2.2.2.1 hl (by decide) rfl (fun ls hl => ?_)
                      refine lv_aload_n hx hb gX12_one_10.2.2.2.2.2.1 rfl (lv_at4 hl) ?_
                      refine lv_sipush (v := 3000) hx hb gX12_one_10.2.2.2.2.2.2.1 (by decide) ?_
                      refine lv_iload_n hx hb gX12_one_10.2.2.2.2.2.2.2.1 rfl (lv_at2 hl) ?_
                      refine lv_imul hx hb gX12_one_10.2.2.2.2.2.2.2.2.1 ?_
                      refine eqi (x1 := nI (3000 * jfa)) (nI_mul 3000 jfa) ?_
                      refine lv_sipush (v := 1000) hx hb gX12_one_10.2.2.2.2.2.2.2.2.2 (by decide) ?_
                      refine lv_iload_n hx hb gX12_one_11.1 rfl (lv_at1 hl) ?_
                      refine lv_imul hx hb gX12_one_11.2.1 ?_
                      refine eqi (x1 := 0) (by decide) ?_
                      refine lv_iadd hx hb gX12_one_11.2.2.1 ?_
                      refine eqi (x1 := nI (3000 * jfa + 0)) (nI_add (3000 * jfa) 0) ?_
                      refine lv_iload hx hb gX12_one_11.2.2.2.1 (lv_at0 hl) ?_
                      refine lv_iadd hx hb gX12_one_11.2.2.2.2.1 ?_
                      refine vV (wr := [(nc, iA G 100 fnc), (nF, sA G 5 (FCT K)), (nt, iA G 240 fnt)]) hC hK hl hP hD hS hA (m_codesF l G h0 ((nI (3000 * jfa + 0)) + r8496) nw nk mhasKept nt (nI ktp) nr mrowMany mroundOf mroundFrom mouts nm mfromHour mtoHour ns (nI kf18499) (nI kt18500) so18501 (nI jd) (nI kc) mlines nl nc nF np ntr nb mbestCost nso nsi nit nsh nsf nss nrc mtraced mdealer mnumber mwhose msize misParted) si_X12_252 [2] [0, 1, 3] sm_2 fm_2 nd_2 sm_0_1_3 nd_0_1_3 dj_2__0_1_3 rfl rfl rfl rfl rfl (Nat.le_of_ble_eq_true rfl) (rmT (Nat.le_of_ble_eq_true rfl) (Nat.le_of_ble_eq_true rfl)) ⟨Nat.le_of_ble_eq_true rfl, Nat.le_of_ble_eq_true rfl⟩ gX12_one_11.2.2.2.2.2.1 (fun u8505 H locs hr8504 hP hD hS => ?_)
                      refine Kpdr (ws := [(nc, iA G 100 fnc), (nF, sA G 5 (FCT K)), (nt, iA G 240 fnt), (h0, oX12 nw nk mhasKept nt (nI ktp) nr mrowMany mroundOf mroundFrom mouts nm mfromHour mtoHour ns (nI kf18499) (nI kt18500) so18501 1 (nI jd) (nI kc) mlines nl nc nF np ntr nb mbestCost nso nsi nit nsh nsf nss nrc mtraced mdealer mnumber mwhose msize misParted)]) hP hD (fun hP hD => ?_)
                      refine lv_iconst (v := 0) hx hb gX12_one_11.2.2.2.2.2.2.1 (by decide) ?_
                      refine lv_istore_n (lv' := [(2, .int 0), (4, .int r8496), (3, .int 0), (1, .int (nI vn)), (0, .ref h0)]) hx hb gX12_one_11.2.2.2.2.2.2.2.1 rfl hl (by decide) rfl (fun ls hl => ?_)
                      have keyN : ∀ (nN kN : Nat) (H : Heap) (locs : List Loc) (ls : Array Slot), kN + nN = vn → va_PD G A [(nc, iA G 100 fnc), (nF, sA G 5 (FCT K)), (nt, iA G 240 fnt), (h0, oX12 nw nk mhasKept nt (nI ktp) nr mrowMany mroundOf mroundFrom mouts nm mfromHour mtoHour ns (nI kf18499) (nI kt18500) so18501 1 (nI jd) (nI kc) mlines nl nc nF np ntr nb mbestCost nso nsi nit nsh nsf nss nrc mtraced mdealer mnumber mwhose msize misParted)] H → va_S A s.heap H locs → lv_has ls 5 [(2, .int (nI kN)), (4, .int r8496), (3, .int 0), (1, .int (nI vn)), (0, .ref h0)] → W p l e (RM (10 + 4 * mn) 0 0) s m ([.ref h0] : List Value).toArray below meth c H locs 0 0 Q0 (F0 m 225 ls []) := by
                        intro nN
                        induction nN with
                        | zero =>
                          intro kN H locs ls hkN hPD hS hl
                          refine Kan2 hPD (fun hP hD => ?_)
                          obtain rfl : vn = kN := by omega
                          have hl : lv_has ls 5 [(2, .int (nI vn)), (4, .int r8496), (3, .int 0), (1, .int (nI vn)), (0, .ref h0)] := hl
                          refine lv_iload_n hx hb gX12_one_11.2.2.2.2.2.2.2.2.1 rfl (lv_at0 hl) ?_
                          refine lv_iload_n hx hb gX12_one_11.2.2.2.2.2.2.2.2.2 rfl (lv_at3 hl) ?_
                          refine lv_icmp_ge (tgt := 243) hx hb gX12_one_12.1 (by decide) (fun _ => ?_) (fun c9 => absurd (Int32.le_refl _) c9)
                          refine toQ hQ0 ?_
                          exact RV hC hP hD hS [3, 2, 0, 1] (1, kf18499, kt18500, so18501, kc, fnc) rfl rfl (by decide) (Or.inl rfl) gX12_one_12.2.2.2.2.2.2
                        | succ nN ihN =>
                          intro kN H locs ls hkN hPD hS hl
                          refine Kan2 hPD (fun hP hD => ?_)
                          refine lv_iload_n hx hb gX12_one_11.2.2.2.2.2.2.2.2.1 rfl (lv_at0 hl) ?_
                          refine lv_iload_n hx hb gX12_one_11.2.2.2.2.2.2.2.2.2 rfl (lv_at3 hl) ?_
                          refine lv_icmp_ge (tgt := 243) hx hb gX12_one_12.1 (by decide) (fun c9 => absurd c9 (nI_ge (a := kN) (b := vn) (by omega) (by omega))) (fun _ => ?_)
                          refine lv_aload_n hx hb gX12_one_12.2.1 rfl (lv_at4 hl) ?_
                          refine lv_sipush (v := 30000) hx hb gX12_one_12.2.2.1 (by decide) ?_
                          refine vV (wr := [(nc, iA G 100 fnc), (nF, sA G 5 (FCT K)), (nt, iA G 240 fnt)]) hC hK hl hP hD hS hA (m_codesF l G h0 30000 nw nk mhasKept nt (nI ktp) nr mrowMany mroundOf mroundFrom mouts nm mfromHour mtoHour ns (nI kf18499) (nI kt18500) so18501 (nI jd) (nI kc) mlines nl nc nF np ntr nb mbestCost nso nsi nit nsh nsf nss nrc mtraced mdealer mnumber mwhose msize misParted) si_X12_252 [3] [0, 1, 2] sm_3 fm_3 nd_3 sm_0_1_2 nd_0_1_2 dj_3__0_1_2 rfl rfl rfl rfl rfl (Nat.le_of_ble_eq_true rfl) (rmT (Nat.le_of_ble_eq_true rfl) (Nat.le_of_ble_eq_true rfl)) ⟨Nat.le_of_ble_eq_true rfl, Nat.le_of_ble_eq_true rfl⟩ gX12_one_12.2.2.2.1 (fun u8507 H locs hr8506 hP hD hS => ?_)
                          refine Kpdr (ws := [(nc, iA G 100 fnc), (nF, sA G 5 (FCT K)), (nt, iA G 240 fnt), (h0, oX12 nw nk mhasKept nt (nI ktp) nr mrowMany mroundOf mroundFrom mouts nm mfromHour mtoHour ns (nI kf18499) (nI kt18500) so18501 1 (nI jd) (nI kc) mlines nl nc nF np ntr nb mbestCost nso nsi nit nsh nsf nss nrc mtraced mdealer mnumber mwhose msize misParted)]) hP hD (fun hP hD => ?_)
                          refine lv_iinc (v := nI (kN + 1)) (lv' := [(2, .int (nI (kN + 1))), (4, .int r8496), (3, .int 0), (1, .int (nI vn)), (0, .ref h0)]) hx hb gX12_one_12.2.2.2.2.1 hl (k := 0) rfl (nI_1 _) (by decide) rfl (fun ls hl => ?_)
                          refine lv_goto (tgt := 225) hx hb gX12_one_12.2.2.2.2.2.1 (by decide) ?_
                          exact ihN (kN + 1) _ _ _ (by omega) (And.intro hP hD) hS (lv_sub hl [0, 1, 2, 3, 4] rfl)
                      exact keyN vn 0 _ _ _ (by omega) (And.intro hP hD) hS (lv_sub hl [0, 1, 2, 3, 4] rfl)
                    · have tA8509 := hw8503_2.1
                      have tB8509 := hw8503_2.2.1
                      refine lv_istore (lv' := [(4, .int (nI v_8503)), (3, .int 0), (2, .int (nI jfa)), (1, .int (nI vn)), (0, .ref h0)]) hx hb gX12_one_10.2.2.2.2.1 hl (by decide) rfl (fun ls hl => ?_)
                      refine lv_aload_n hx hb gX12_one_10.2.2.2.2.2.1 rfl (lv_at4 hl) ?_
                      refine lv_sipush (v := 3000) hx hb gX12_one_10.2.2.2.2.2.2.1 (by decide) ?_
                      refine lv_iload_n hx hb gX12_one_10.2.2.2.2.2.2.2.1 rfl (lv_at2 hl) ?_
                      refine lv_imul hx hb gX12_one_10.2.2.2.2.2.2.2.2.1 ?_
                      refine eqi (x1 := nI (3000 * jfa)) (nI_mul 3000 jfa) ?_
                      refine lv_sipush (v := 1000) hx hb gX12_one_10.2.2.2.2.2.2.2.2.2 (by decide) ?_
                      refine lv_iload_n hx hb gX12_one_11.1 rfl (lv_at1 hl) ?_
                      refine lv_imul hx hb gX12_one_11.2.1 ?_
                      refine eqi (x1 := 0) (by decide) ?_
                      refine lv_iadd hx hb gX12_one_11.2.2.1 ?_
                      refine eqi (x1 := nI (3000 * jfa + 0)) (nI_add (3000 * jfa) 0) ?_
                      refine lv_iload hx hb gX12_one_11.2.2.2.1 (lv_at0 hl) ?_
                      refine lv_iadd hx hb gX12_one_11.2.2.2.2.1 ?_
                      refine eqi (x1 := nI (3000 * jfa + 0 + v_8503)) (nI_add (3000 * jfa + 0) v_8503) ?_
                      refine vV (wr := [(nF, sA G 5 (FCT K)), (nt, iA G 240 fnt)]) hC hK hl hP hD hS hA (m_codes0 l G h0 (nI (3000 * jfa + 0 + v_8503)) nw nk mhasKept nt (nI ktp) nr mrowMany mroundOf mroundFrom mouts nm mfromHour mtoHour ns (nI kf18499) (nI kt18500) so18501 (nI jd) kc mlines nl nc nF np ntr nb mbestCost nso nsi nit nsh nsf nss nrc mtraced mdealer mnumber mwhose msize misParted fnc (by omega)) si_X12_252 [2, 0] [1, 3] sm_2_0 fm_2_0 nd_2_0 sm_1_3 nd_1_3 dj_2_0__1_3 rfl rfl rfl rfl rfl (Nat.le_of_ble_eq_true rfl) (rmT (Nat.le_of_ble_eq_true rfl) (Nat.le_of_ble_eq_true rfl)) ⟨Nat.le_of_ble_eq_true rfl, Nat.le_of_ble_eq_true rfl⟩ gX12_one_11.2.2.2.2.2.1 (fun u8511 H locs hr8510 hP hD hS => ?_)
                      refine Kpdr (ws := [(nF, sA G 5 (FCT K)), (nt, iA G 240 fnt), (h0, oX12 nw nk mhasKept nt (nI ktp) nr mrowMany mroundOf mroundFrom mouts nm mfromHour mtoHour ns (nI kf18499) (nI kt18500) so18501 0 (nI jd) (nI (kc + 1)) mlines nl nc nF np ntr nb mbestCost nso nsi nit nsh nsf nss nrc mtraced mdealer mnumber mwhose msize misParted), (nc, iA G 100 (upd fnc kc (nI (3000 * jfa + 0 + v_8503))))]) hP hD (fun hP hD => ?_)
                      refine lv_iconst (v := 0) hx hb gX12_one_11.2.2.2.2.2.2.1 (by decide) ?_
                      refine lv_istore_n (lv' := [(2, .int 0), (4, .int (nI v_8503)), (3, .int 0), (1, .int (nI vn)), (0, .ref h0)]) hx hb gX12_one_11.2.2.2.2.2.2.2.1 rfl hl (by decide) rfl (fun ls hl => ?_)
                      have hbase9 : vf + 3 * (kc + 1) + 2 ≤ kf18499 + 3 * kc := by omega
                      have keyN : ∀ (nN kN : Nat) (vC : Nat → Int32) (H : Heap) (locs : List Loc) (ls : Array Slot), kN + nN = vn → (EXPR fnc vC kc ((kc + 1) + kN) kf kf18499) → va_PD G A [(nF, sA G 5 (FCT K)), (nt, iA G 240 fnt), (h0, oX12 nw nk mhasKept nt (nI ktp) nr mrowMany mroundOf mroundFrom mouts nm mfromHour mtoHour ns (nI kf18499) (nI kt18500) so18501 0 (nI jd) (nI ((kc + 1) + kN)) mlines nl nc nF np ntr nb mbestCost nso nsi nit nsh nsf nss nrc mtraced mdealer mnumber mwhose msize misParted), (nc, iA G 100 vC)] H → va_S A s.heap H locs → lv_has ls 5 [(2, .int (nI kN)), (4, .int (nI v_8503)), (3, .int 0), (1, .int (nI vn)), (0, .ref h0)] → W p l e (RM (10 + 4 * mn) 0 0) s m ([.ref h0] : List Value).toArray below meth c H locs 0 0 Q0 (F0 m 225 ls []) := by
                        intro nN
                        induction nN with
                        | zero =>
                          intro kN vC H locs ls hkN hEx hPD hS hl
                          refine Kan2 hPD (fun hP hD => ?_)
                          obtain rfl : vn = kN := by omega
                          refine Kpdr (ws := [(nF, sA G 5 (FCT K)), (nt, iA G 240 fnt), (h0, oX12 nw nk mhasKept nt (nI ktp) nr mrowMany mroundOf mroundFrom mouts nm mfromHour mtoHour ns (nI kf18499) (nI kt18500) so18501 0 (nI jd) (nI ((kc + 1) + vn)) mlines nl nc nF np ntr nb mbestCost nso nsi nit nsh nsf nss nrc mtraced mdealer mnumber mwhose msize misParted), (nc, iA G 100 vC)]) hP hD (fun hP hD => ?_)
                          have hl : lv_has ls 5 [(2, .int (nI vn)), (4, .int (nI v_8503)), (3, .int 0), (1, .int (nI vn)), (0, .ref h0)] := hl
                          refine lv_iload_n hx hb gX12_one_11.2.2.2.2.2.2.2.2.1 rfl (lv_at0 hl) ?_
                          refine lv_iload_n hx hb gX12_one_11.2.2.2.2.2.2.2.2.2 rfl (lv_at3 hl) ?_
                          refine lv_icmp_ge (tgt := 243) hx hb gX12_one_12.1 (by decide) (fun _ => ?_) (fun c9 => absurd (Int32.le_refl _) c9)
                          refine toQ hQ0 ?_
                          exact RV hC hP hD hS [2, 1, 3, 0] (0, kf18499, kt18500, so18501, ((kc + 1) + vn), vC) rfl rfl (by decide) (Or.inr ⟨rfl, hw8503_2, EXPR.wid hEx (by (try dsimp only); omega)⟩) gX12_one_12.2.2.2.2.2.2
                        | succ nN ihN =>
                          intro kN vC H locs ls hkN hEx hPD hS hl
                          refine Kan2 hPD (fun hP hD => ?_)
                          refine lv_iload_n hx hb gX12_one_11.2.2.2.2.2.2.2.2.1 rfl (lv_at0 hl) ?_
                          refine lv_iload_n hx hb gX12_one_11.2.2.2.2.2.2.2.2.2 rfl (lv_at3 hl) ?_
                          refine lv_icmp_ge (tgt := 243) hx hb gX12_one_12.1 (by decide) (fun c9 => absurd c9 (nI_ge (a := kN) (b := vn) (by omega) (by omega))) (fun _ => ?_)
                          refine lv_aload_n hx hb gX12_one_12.2.1 rfl (lv_at4 hl) ?_
                          refine lv_sipush (v := 30000) hx hb gX12_one_12.2.2.1 (by decide) ?_
                          refine vV (wr := [(nF, sA G 5 (FCT K)), (nt, iA G 240 fnt)]) hC hK hl hP hD hS hA (m_codes0 l G h0 30000 nw nk mhasKept nt (nI ktp) nr mrowMany mroundOf mroundFrom mouts nm mfromHour mtoHour ns (nI kf18499) (nI kt18500) so18501 (nI jd) ((kc + 1) + kN) mlines nl nc nF np ntr nb mbestCost nso nsi nit nsh nsf nss nrc mtraced mdealer mnumber mwhose msize misParted vC (by omega)) si_X12_252 [2, 3] [0, 1] sm_2_3 fm_2_3 nd_2_3 sm_0_1 nd_0_1 dj_2_3__0_1 rfl rfl rfl rfl rfl (Nat.le_of_ble_eq_true rfl) (rmT (Nat.le_of_ble_eq_true rfl) (Nat.le_of_ble_eq_true rfl)) ⟨Nat.le_of_ble_eq_true rfl, Nat.le_of_ble_eq_true rfl⟩ gX12_one_12.2.2.2.1 (fun u8513 H locs hr8512 hP hD hS => ?_)
                          refine Kpdr (ws := [(nF, sA G 5 (FCT K)), (nt, iA G 240 fnt), (h0, oX12 nw nk mhasKept nt (nI ktp) nr mrowMany mroundOf mroundFrom mouts nm mfromHour mtoHour ns (nI kf18499) (nI kt18500) so18501 0 (nI jd) (nI (((kc + 1) + kN) + 1)) mlines nl nc nF np ntr nb mbestCost nso nsi nit nsh nsf nss nrc mtraced mdealer mnumber mwhose msize misParted), (nc, iA G 100 (upd vC ((kc + 1) + kN) 30000))]) hP hD (fun hP hD => ?_)
                          refine lv_iinc (v := nI (kN + 1)) (lv' := [(2, .int (nI (kN + 1))), (4, .int (nI v_8503)), (3, .int 0), (1, .int (nI vn)), (0, .ref h0)]) hx hb gX12_one_12.2.2.2.2.1 hl (k := 0) rfl (nI_1 _) (by decide) rfl (fun ls hl => ?_)
                          refine lv_goto (tgt := 225) hx hb gX12_one_12.2.2.2.2.2.1 (by decide) ?_
                          exact ihN (kN + 1) (upd vC ((kc + 1) + kN) 30000) _ _ _ (by omega) (by first | assumption | exact Or.inl rfl | exact Or.inr rfl | exact EXPR.not hEx (by omega)) (And.intro hP hD) hS (lv_sub hl [0, 1, 2, 3, 4] rfl)
                      exact keyN vn 0 (upd fnc kc (nI (3000 * jfa + 0 + v_8503))) _ _ _ (by omega) (by first | assumption | exact Or.inl rfl | exact Or.inr rfl | exact EXPR.fact (fct_lt (by omega) (by decide) (by omega)) (by omega) | exact EXPR.not hEx (by omega)) (And.intro hP hD) hS (lv_sub hl [0, 1, 2, 3, 4] rfl)
                  · exact absurd a8483 a8486
                · refine lv_if_eq (tgt := 145) hx hb gX12_one_7.2.2.2.1 (by decide) (fun _ => ?_) (fun c9 => absurd (by decide) c9)
                  refine lv_aload_n hx hb gX12_one_7.2.2.2.2.2.2.1 rfl (lv_at3 hl) ?_
                  refine lv_bipush (v := 61) hx hb gX12_one_7.2.2.2.2.2.2.2.1 (by decide) ?_
                  refine pV hC hK hl hP hD (m_isSign0 l G h0 61 nw nk mhasKept nt ktp nr mrowMany mroundOf mroundFrom mouts nm mfromHour mtoHour ns kf18475 kt18476 so18477 (nI jd) (nI kc) mlines nl nc nF np ntr nb mbestCost nso nsi nit nsh nsf nss nrc mtraced mdealer mnumber mwhose msize misParted fnt (hw8479_1) (htp)) si_X12_262 [2, 3] sm_2_3 fm_2_3 nd_2_3 rfl rfl rfl rfl rfl (Nat.le_of_ble_eq_true rfl) (rmT (Nat.le_of_ble_eq_true rfl) (Nat.le_of_ble_eq_true rfl)) ⟨by first | exact Nat.le_of_ble_eq_true rfl | exact Nat.zero_le _, by first | exact Nat.le_of_ble_eq_true rfl | exact Nat.zero_le _⟩ gX12_one_7.2.2.2.2.2.2.2.2.1 (Kors (Keqa fun a8515 => ?_) (Keqa fun a8515 => ?_))
                  · refine lv_if_eq (tgt := 158) hx hb gX12_one_7.2.2.2.2.2.2.2.2.2 (by decide) (fun c9 => absurd c9 (by decide)) (fun _ => ?_)
                    refine lv_iconst (v := 1) hx hb gX12_one_8.1 (by decide) ?_
                    refine lv_goto (tgt := 159) hx hb gX12_one_8.2.1 (by decide) ?_
                    refine lv_istore_n (lv' := [(3, .int 1), (2, .int (nI jfa)), (1, .int (nI vn)), (0, .ref h0)]) hx hb gX12_one_8.2.2.2.1 rfl hl (by decide) rfl (fun ls hl => ?_)
                    refine lv_aload_n hx hb gX12_one_8.2.2.2.2.1 rfl (lv_at3 hl) ?_
                    refine lv_aload_n hx hb gX12_one_8.2.2.2.2.2.1 rfl (lv_at3 hl) ?_
                    refine lv_bipush (v := 60) hx hb gX12_one_8.2.2.2.2.2.2.1 (by decide) ?_
                    have tI8516 := a8515.1
                    refine pV hC hK hl hP hD (m_isSign0 l G h0 60 nw nk mhasKept nt ktp nr mrowMany mroundOf mroundFrom mouts nm mfromHour mtoHour ns kf18475 kt18476 so18477 (nI jd) (nI kc) mlines nl nc nF np ntr nb mbestCost nso nsi nit nsh nsf nss nrc mtraced mdealer mnumber mwhose msize misParted fnt (hw8479_1) (htp)) si_X12_262 [2, 3] sm_2_3 fm_2_3 nd_2_3 rfl rfl rfl rfl rfl (Nat.le_of_ble_eq_true rfl) (rmT (Nat.le_of_ble_eq_true rfl) (Nat.le_of_ble_eq_true rfl)) ⟨by first | exact Nat.le_of_ble_eq_true rfl | exact Nat.zero_le _, by first | exact Nat.le_of_ble_eq_true rfl | exact Nat.zero_le _⟩ gX12_one_8.2.2.2.2.2.2.2.1 (Kors (Keqa fun a8518 => ?_) (Keqa fun a8518 => ?_))
                    · exact absurd a8518 a8483
                    · refine lv_if_ne (tgt := 188) hx hb gX12_one_8.2.2.2.2.2.2.2.2.1 (by decide) (fun c9 => absurd (by decide) c9) (fun _ => ?_)
                      refine lv_aload_n hx hb gX12_one_8.2.2.2.2.2.2.2.2.2 rfl (lv_at3 hl) ?_
                      refine lv_bipush (v := 61) hx hb gX12_one_9.1 (by decide) ?_
                      refine pV hC hK hl hP hD (m_isSign0 l G h0 61 nw nk mhasKept nt ktp nr mrowMany mroundOf mroundFrom mouts nm mfromHour mtoHour ns kf18475 kt18476 so18477 (nI jd) (nI kc) mlines nl nc nF np ntr nb mbestCost nso nsi nit nsh nsf nss nrc mtraced mdealer mnumber mwhose msize misParted fnt (hw8479_1) (htp)) si_X12_262 [2, 3] sm_2_3 fm_2_3 nd_2_3 rfl rfl rfl rfl rfl (Nat.le_of_ble_eq_true rfl) (rmT (Nat.le_of_ble_eq_true rfl) (Nat.le_of_ble_eq_true rfl)) ⟨by first | exact Nat.le_of_ble_eq_true rfl | exact Nat.zero_le _, by first | exact Nat.le_of_ble_eq_true rfl | exact Nat.zero_le _⟩ gX12_one_9.2.1 (Kors (Keqa fun a8520 => ?_) (Keqa fun a8520 => ?_))
                      · refine lv_if_ne (tgt := 188) hx hb gX12_one_9.2.2.1 (by decide) (fun _ => ?_) (fun c9 => absurd c9 (by decide))
                        refine lv_iconst (v := 1) hx hb gX12_one_9.2.2.2.2.2.2.2.1 (by decide) ?_
                        refine lv_goto (tgt := 193) hx hb gX12_one_9.2.2.2.2.2.2.2.2.1 (by decide) ?_
                        refine vV (wr := [(nc, iA G 100 fnc), (nF, sA G 5 (FCT K))]) hC hK hl hP hD hS hA (m_need1 l G h0 nw nk mhasKept nt ktp nr mrowMany mroundOf mroundFrom mouts nm mfromHour mtoHour ns (nI kf18475) kt18476 so18477 (nI jd) (nI kc) mlines nl nc nF np ntr nb mbestCost nso nsi nit nsh nsf nss nrc mtraced mdealer mnumber mwhose msize misParted fnt (by omega) (htp)) si_X12_236 [2, 3] [0, 1] sm_2_3 fm_2_3 nd_2_3 sm_0_1 nd_0_1 dj_2_3__0_1 rfl rfl rfl rfl rfl (Nat.le_of_ble_eq_true rfl) (rmT (Nat.le_of_ble_eq_true rfl) (Nat.le_of_ble_eq_true rfl)) ⟨Nat.le_of_ble_eq_true rfl, Nat.le_of_ble_eq_true rfl⟩ gX12_one_10.1 (Ktu3 fun kf18523 kt18524 so18525 => ?_)
                        intro H locs hr8521 hP hD hS
                        try dsimp only at hr8521
                        refine Kpdr (ws := [(nc, iA G 100 fnc), (nF, sA G 5 (FCT K)), (h0, oX12 nw nk mhasKept nt (nI ktp) nr mrowMany mroundOf mroundFrom mouts nm mfromHour mtoHour ns (nI kf18523) (nI kt18524) so18525 0 (nI jd) (nI kc) mlines nl nc nF np ntr nb mbestCost nso nsi nit nsh nsf nss nrc mtraced mdealer mnumber mwhose msize misParted), (nt, iA G 240 fnt)]) hP hD (fun hP hD => ?_)
                        have hw8527_0 := hr8521.1
                        have hw8527_1 := hr8521.2
                        have tA8529 := hw8527_1.1
                        have tB8529 := hw8527_1.2.1
                        refine lv_aload_n hx hb gX12_one_10.2.1 rfl (lv_at3 hl) ?_
                        refine lv_sipush (v := 999) hx hb gX12_one_10.2.2.1 (by decide) ?_
                        refine iV (wr := [(nc, iA G 100 fnc), (nF, sA G 5 (FCT K))]) hC hK hl hP hD hS hA (m_number0 l G h0 999 nw nk mhasKept nt ktp nr mrowMany mroundOf mroundFrom mouts nm mfromHour mtoHour ns kf18523 kt18524 so18525 (nI jd) (nI kc) mlines nl nc nF np ntr nb mbestCost nso nsi nit nsh nsf nss nrc mtraced mdealer mnumber mwhose msize misParted fnt (hw8527_1) (htp) (by omega)) si_X12_271 [2, 3] [0, 1] sm_2_3 fm_2_3 nd_2_3 sm_0_1 nd_0_1 dj_2_3__0_1 rfl rfl rfl rfl rfl (Nat.le_of_ble_eq_true rfl) (rmT (Nat.le_of_ble_eq_true rfl) (Nat.le_of_ble_eq_true rfl)) ⟨Nat.le_of_ble_eq_true rfl, Nat.le_of_ble_eq_true rfl⟩ gX12_one_10.2.2.2.1 (fun r8530 => Ktu4 fun ff18532 kf18533 kt18534 so18535 => ?_)
                        intro H locs hr8530 hP hD hS
                        try dsimp only at hr8530
                        refine Kpdr (ws := [(nc, iA G 100 fnc), (nF, sA G 5 (FCT K)), (h0, oX12 nw nk mhasKept nt (nI ktp) nr mrowMany mroundOf mroundFrom mouts nm mfromHour mtoHour ns (nI kf18533) (nI kt18534) so18535 ff18532 (nI jd) (nI kc) mlines nl nc nF np ntr nb mbestCost nso nsi nit nsh nsf nss nrc mtraced mdealer mnumber mwhose msize misParted), (nt, iA G 240 fnt)]) hP hD (fun hP hD => ?_)
                        obtain ⟨hr8530, w8536⟩ := hr8530
                        rcases w8536 with rfl | ⟨rfl, ⟨v_8537, hv_8537, rfl⟩, hw8537_1, hw8537_2⟩
                        · refine lv_istore (lv' := [(4, .int r8530), (3, .int 1), (2, .int (nI jfa)), (1, .int (nI vn)), (0, .ref h0)]) hx hb gX12_one_10.2.2.2.2.1 hl (by decide) rfl (fun ls hl => ?_)
                          refine lv_aload_n hx hb gX12_one_10.2.2.2.2.2.1 rfl (lv_at4 hl) ?_
                          refine lv_sipush (v := 3000) hx hb gX12_one_10.2.2.2.2.2.2.1 (by decide) ?_
                          refine lv_iload_n hx hb gX12_one_10.2.2.2.2.2.2.2.1 rfl (lv_at2 hl) ?_
                          refine lv_imul hx hb gX12_one_10.2.2.2.2.2.2.2.2.1 ?_
                          refine eqi (x1 := nI (3000 * jfa)) (nI_mul 3000 jfa) ?_
                          refine lv_sipush (v := 1000) hx hb gX12_one_10.2.2.2.2.2.2.2.2.2 (by decide) ?_
                          refine lv_iload_n hx hb gX12_one_11.1 rfl (lv_at1 hl) ?_
                          refine lv_imul hx hb gX12_one_11.2.1 ?_
                          refine eqi (x1 := 1000) (by decide) ?_
                          refine lv_iadd hx hb gX12_one_11.2.2.1 ?_
                          refine eqi (x1 := nI (3000 * jfa + 1000)) (nI_add (3000 * jfa) 1000) ?_
                          refine lv_iload hx hb gX12_one_11.2.2.2.1 (lv_at0 hl) ?_
                          refine lv_iadd hx hb gX12_one_11.2.2.2.2.1 ?_
                          refine vV (wr := [(nc, iA G 100 fnc), (nF, sA G 5 (FCT K)), (nt, iA G 240 fnt)]) hC hK hl hP hD hS hA (m_codesF l G h0 ((nI (3000 * jfa + 1000)) + r8530) nw nk mhasKept nt (nI ktp) nr mrowMany mroundOf mroundFrom mouts nm mfromHour mtoHour ns (nI kf18533) (nI kt18534) so18535 (nI jd) (nI kc) mlines nl nc nF np ntr nb mbestCost nso nsi nit nsh nsf nss nrc mtraced mdealer mnumber mwhose msize misParted) si_X12_252 [2] [0, 1, 3] sm_2 fm_2 nd_2 sm_0_1_3 nd_0_1_3 dj_2__0_1_3 rfl rfl rfl rfl rfl (Nat.le_of_ble_eq_true rfl) (rmT (Nat.le_of_ble_eq_true rfl) (Nat.le_of_ble_eq_true rfl)) ⟨Nat.le_of_ble_eq_true rfl, Nat.le_of_ble_eq_true rfl⟩ gX12_one_11.2.2.2.2.2.1 (fun u8539 H locs hr8538 hP hD hS => ?_)
                          refine Kpdr (ws := [(nc, iA G 100 fnc), (nF, sA G 5 (FCT K)), (nt, iA G 240 fnt), (h0, oX12 nw nk mhasKept nt (nI ktp) nr mrowMany mroundOf mroundFrom mouts nm mfromHour mtoHour ns (nI kf18533) (nI kt18534) so18535 1 (nI jd) (nI kc) mlines nl nc nF np ntr nb mbestCost nso nsi nit nsh nsf nss nrc mtraced mdealer mnumber mwhose msize misParted)]) hP hD (fun hP hD => ?_)
                          refine lv_iconst (v := 0) hx hb gX12_one_11.2.2.2.2.2.2.1 (by decide) ?_
                          refine lv_istore_n (lv' := [(2, .int 0), (4, .int r8530), (3, .int 1), (1, .int (nI vn)), (0, .ref h0)]) hx hb gX12_one_11.2.2.2.2.2.2.2.1 rfl hl (by decide) rfl (fun ls hl => ?_)
                          have keyN : ∀ (nN kN : Nat) (H : Heap) (locs : List Loc) (ls : Array Slot), kN + nN = vn → va_PD G A [(nc, iA G 100 fnc), (nF, sA G 5 (FCT K)), (nt, iA G 240 fnt), (h0, oX12 nw nk mhasKept nt (nI ktp) nr mrowMany mroundOf mroundFrom mouts nm mfromHour mtoHour ns (nI kf18533) (nI kt18534) so18535 1 (nI jd) (nI kc) mlines nl nc nF np ntr nb mbestCost nso nsi nit nsh nsf nss nrc mtraced mdealer mnumber mwhose msize misParted)] H → va_S A s.heap H locs → lv_has ls 5 [(2, .int (nI kN)), (4, .int r8530), (3, .int 1), (1, .int (nI vn)), (0, .ref h0)] → W p l e (RM (10 + 4 * mn) 0 0) s m ([.ref h0] : List Value).toArray below meth c H locs 0 0 Q0 (F0 m 225 ls []) := by
                            intro nN
                            induction nN with
                            | zero =>
                              intro kN H locs ls hkN hPD hS hl
                              refine Kan2 hPD (fun hP hD => ?_)
                              obtain rfl : vn = kN := by omega
                              have hl : lv_has ls 5 [(2, .int (nI vn)), (4, .int r8530), (3, .int 1), (1, .int (nI vn)), (0, .ref h0)] := hl
                              refine lv_iload_n hx hb gX12_one_11.2.2.2.2.2.2.2.2.1 rfl (lv_at0 hl) ?_
                              refine lv_iload_n hx hb gX12_one_11.2.2.2.2.2.2.2.2.2 rfl (lv_at3 hl) ?_
                              refine lv_icmp_ge (tgt := 243) hx hb gX12_one_12.1 (by decide) (fun _ => ?_) (fun c9 => absurd (Int32.le_refl _) c9)
                              refine toQ hQ0 ?_
                              exact RV hC hP hD hS [3, 2, 0, 1] (1, kf18533, kt18534, so18535, kc, fnc) rfl rfl (by decide) (Or.inl rfl) gX12_one_12.2.2.2.2.2.2
                            | succ nN ihN =>
                              intro kN H locs ls hkN hPD hS hl
                              refine Kan2 hPD (fun hP hD => ?_)
                              refine lv_iload_n hx hb gX12_one_11.2.2.2.2.2.2.2.2.1 rfl (lv_at0 hl) ?_
                              refine lv_iload_n hx hb gX12_one_11.2.2.2.2.2.2.2.2.2 rfl (lv_at3 hl) ?_
                              refine lv_icmp_ge (tgt := 243) hx hb gX12_one_12.1 (by decide) (fun c9 => absurd c9 (nI_ge (a := kN) (b := vn) (by omega) (by omega))) (fun _ => ?_)
                              refine lv_aload_n hx hb gX12_one_12.2.1 rfl (lv_at4 hl) ?_
                              refine lv_sipush (v := 30000) hx hb gX12_one_12.2.2.1 (by decide) ?_
                              refine vV (wr := [(nc, iA G 100 fnc), (nF, sA G 5 (FCT K)), (nt, iA G 240 fnt)]) hC hK hl hP hD hS hA (m_codesF l G h0 30000 nw nk mhasKept nt (nI ktp) nr mrowMany mroundOf mroundFrom mouts nm mfromHour mtoHour ns (nI kf18533) (nI kt18534) so18535 (nI jd) (nI kc) mlines nl nc nF np ntr nb mbestCost nso nsi nit nsh nsf nss nrc mtraced mdealer mnumber mwhose msize misParted) si_X12_252 [3] [0, 1, 2] sm_3 fm_3 nd_3 sm_0_1_2 nd_0_1_2 dj_3__0_1_2 rfl rfl rfl rfl rfl (Nat.le_of_ble_eq_true rfl) (rmT (Nat.le_of_ble_eq_true rfl) (Nat.le_of_ble_eq_true rfl)) ⟨Nat.le_of_ble_eq_true rfl, Nat.le_of_ble_eq_true rfl⟩ gX12_one_12.2.2.2.1 (fun u8541 H locs hr8540 hP hD hS => ?_)
                              refine Kpdr (ws := [(nc, iA G 100 fnc), (nF, sA G 5 (FCT K)), (nt, iA G 240 fnt), (h0, oX12 nw nk mhasKept nt (nI ktp) nr mrowMany mroundOf mroundFrom mouts nm mfromHour mtoHour ns (nI kf18533) (nI kt18534) so18535 1 (nI jd) (nI kc) mlines nl nc nF np ntr nb mbestCost nso nsi nit nsh nsf nss nrc mtraced mdealer mnumber mwhose msize misParted)]) hP hD (fun hP hD => ?_)
                              refine lv_iinc (v := nI (kN + 1)) (lv' := [(2, .int (nI (kN + 1))), (4, .int r8530), (3, .int 1), (1, .int (nI vn)), (0, .ref h0)]) hx hb gX12_one_12.2.2.2.2.1 hl (k := 0) rfl (nI_1 _) (by decide) rfl (fun ls hl => ?_)
                              refine lv_goto (tgt := 225) hx hb gX12_one_12.2.2.2.2.2.1 (by decide) ?_
                              exact ihN (kN + 1) _ _ _ (by omega) (And.intro hP hD) hS (lv_sub hl [0, 1, 2, 3, 4] rfl)
                          exact keyN vn 0 _ _ _ (by omega) (And.intro hP hD) hS (lv_sub hl [0, 1, 2, 3, 4] rfl)
                        · have tA8543 := hw8537_2.1
                          have tB8543 := hw8537_2.2.1
                          refine lv_istore (lv' := [(4, .int (nI v_8537)), (3, .int 1), (2, .int (nI jfa)), (1, .int (nI vn)), (0, .ref h0)]) hx hb gX12_one_10.2.2.2.2.1 hl (by decide) rfl (fun ls hl => ?_)
                          refine lv_aload_n hx hb gX12_one_10.2.2.2.2.2.1 rfl (lv_at4 hl) ?_
                          refine lv_sipush (v := 3000) hx hb gX12_one_10.2.2.2.2.2.2.1 (by decide) ?_
                          refine lv_iload_n hx hb gX12_one_10.2.2.2.2.2.2.2.1 rfl (lv_at2 hl) ?_
                          refine lv_imul hx hb gX12_one_10.2.2.2.2.2.2.2.2.1 ?_
                          refine eqi (x1 := nI (3000 * jfa)) (nI_mul 3000 jfa) ?_
                          refine lv_sipush (v := 1000) hx hb gX12_one_10.2.2.2.2.2.2.2.2.2 (by decide) ?_
                          refine lv_iload_n hx hb gX12_one_11.1 rfl (lv_at1 hl) ?_
                          refine lv_imul hx hb gX12_one_11.2.1 ?_
                          refine eqi (x1 := 1000) (by decide) ?_
                          refine lv_iadd hx hb gX12_one_11.2.2.1 ?_
                          refine eqi (x1 := nI (3000 * jfa + 1000)) (nI_add (3000 * jfa) 1000) ?_
                          refine lv_iload hx hb gX12_one_11.2.2.2.1 (lv_at0 hl) ?_
                          refine lv_iadd hx hb gX12_one_11.2.2.2.2.1 ?_
                          refine eqi (x1 := nI (3000 * jfa + 1000 + v_8537)) (nI_add (3000 * jfa + 1000) v_8537) ?_
                          refine vV (wr := [(nF, sA G 5 (FCT K)), (nt, iA G 240 fnt)]) hC hK hl hP hD hS hA (m_codes0 l G h0 (nI (3000 * jfa + 1000 + v_8537)) nw nk mhasKept nt (nI ktp) nr mrowMany mroundOf mroundFrom mouts nm mfromHour mtoHour ns (nI kf18533) (nI kt18534) so18535 (nI jd) kc mlines nl nc nF np ntr nb mbestCost nso nsi nit nsh nsf nss nrc mtraced mdealer mnumber mwhose msize misParted fnc (by omega)) si_X12_252 [2, 0] [1, 3] sm_2_0 fm_2_0 nd_2_0 sm_1_3 nd_1_3 dj_2_0__1_3 rfl rfl rfl rfl rfl (Nat.le_of_ble_eq_true rfl) (rmT (Nat.le_of_ble_eq_true rfl) (Nat.le_of_ble_eq_true rfl)) ⟨Nat.le_of_ble_eq_true rfl, Nat.le_of_ble_eq_true rfl⟩ gX12_one_11.2.2.2.2.2.1 (fun u8545 H locs hr8544 hP hD hS => ?_)
                          refine Kpdr (ws := [(nF, sA G 5 (FCT K)), (nt, iA G 240 fnt), (h0, oX12 nw nk mhasKept nt (nI ktp) nr mrowMany mroundOf mroundFrom mouts nm mfromHour mtoHour ns (nI kf18533) (nI kt18534) so18535 0 (nI jd) (nI (kc + 1)) mlines nl nc nF np ntr nb mbestCost nso nsi nit nsh nsf nss nrc mtraced mdealer mnumber mwhose msize misParted), (nc, iA G 100 (upd fnc kc (nI (3000 * jfa + 1000 + v_8537))))]) hP hD (fun hP hD => ?_)
                          refine lv_iconst (v := 0) hx hb gX12_one_11.2.2.2.2.2.2.1 (by decide) ?_
                          refine lv_istore_n (lv' := [(2, .int 0), (4, .int (nI v_8537)), (3, .int 1), (1, .int (nI vn)), (0, .ref h0)]) hx hb gX12_one_11.2.2.2.2.2.2.2.1 rfl hl (by decide) rfl (fun ls hl => ?_)
                          have hbase9 : vf + 3 * (kc + 1) + 2 ≤ kf18533 + 3 * kc := by omega
                          have keyN : ∀ (nN kN : Nat) (vC : Nat → Int32) (H : Heap) (locs : List Loc) (ls : Array Slot), kN + nN = vn → (EXPR fnc vC kc ((kc + 1) + kN) kf kf18533) → va_PD G A [(nF, sA G 5 (FCT K)), (nt, iA G 240 fnt), (h0, oX12 nw nk mhasKept nt (nI ktp) nr mrowMany mroundOf mroundFrom mouts nm mfromHour mtoHour ns (nI kf18533) (nI kt18534) so18535 0 (nI jd) (nI ((kc + 1) + kN)) mlines nl nc nF np ntr nb mbestCost nso nsi nit nsh nsf nss nrc mtraced mdealer mnumber mwhose msize misParted), (nc, iA G 100 vC)] H → va_S A s.heap H locs → lv_has ls 5 [(2, .int (nI kN)), (4, .int (nI v_8537)), (3, .int 1), (1, .int (nI vn)), (0, .ref h0)] → W p l e (RM (10 + 4 * mn) 0 0) s m ([.ref h0] : List Value).toArray below meth c H locs 0 0 Q0 (F0 m 225 ls []) := by
                            intro nN
                            induction nN with
                            | zero =>
                              intro kN vC H locs ls hkN hEx hPD hS hl
                              refine Kan2 hPD (fun hP hD => ?_)
                              obtain rfl : vn = kN := by omega
                              refine Kpdr (ws := [(nF, sA G 5 (FCT K)), (nt, iA G 240 fnt), (h0, oX12 nw nk mhasKept nt (nI ktp) nr mrowMany mroundOf mroundFrom mouts nm mfromHour mtoHour ns (nI kf18533) (nI kt18534) so18535 0 (nI jd) (nI ((kc + 1) + vn)) mlines nl nc nF np ntr nb mbestCost nso nsi nit nsh nsf nss nrc mtraced mdealer mnumber mwhose msize misParted), (nc, iA G 100 vC)]) hP hD (fun hP hD => ?_)
                              have hl : lv_has ls 5 [(2, .int (nI vn)), (4, .int (nI v_8537)), (3, .int 1), (1, .int (nI vn)), (0, .ref h0)] := hl
                              refine lv_iload_n hx hb gX12_one_11.2.2.2.2.2.2.2.2.1 rfl (lv_at0 hl) ?_
                              refine lv_iload_n hx hb gX12_one_11.2.2.2.2.2.2.2.2.2 rfl (lv_at3 hl) ?_
                              refine lv_icmp_ge (tgt := 243) hx hb gX12_one_12.1 (by decide) (fun _ => ?_) (fun c9 => absurd (Int32.le_refl _) c9)
                              refine toQ hQ0 ?_
                              exact RV hC hP hD hS [2, 1, 3, 0] (0, kf18533, kt18534, so18535, ((kc + 1) + vn), vC) rfl rfl (by decide) (Or.inr ⟨rfl, hw8537_2, EXPR.wid hEx (by (try dsimp only); omega)⟩) gX12_one_12.2.2.2.2.2.2
                            | succ nN ihN =>
                              intro kN vC H locs ls hkN hEx hPD hS hl
                              refine Kan2 hPD (fun hP hD => ?_)
                              refine lv_iload_n hx hb gX12_one_11.2.2.2.2.2.2.2.2.1 rfl (lv_at0 hl) ?_
                              refine lv_iload_n hx hb gX12_one_11.2.2.2.2.2.2.2.2.2 rfl (lv_at3 hl) ?_
                              refine lv_icmp_ge (tgt := 243) hx hb gX12_one_12.1 (by decide) (fun c9 => absurd c9 (nI_ge (a := kN) (b := vn) (by omega) (by omega))) (fun _ => ?_)
                              refine lv_aload_n hx hb gX12_one_12.2.1 rfl (lv_at4 hl) ?_
                              refine lv_sipush (v := 30000) hx hb gX12_one_12.2.2.1 (by decide) ?_
                              refine vV (wr := [(nF, sA G 5 (FCT K)), (nt, iA G 240 fnt)]) hC hK hl hP hD hS hA (m_codes0 l G h0 30000 nw nk mhasKept nt (nI ktp) nr mrowMany mroundOf mroundFrom mouts nm mfromHour mtoHour ns (nI kf18533) (nI kt18534) so18535 (nI jd) ((kc + 1) + kN) mlines nl nc nF np ntr nb mbestCost nso nsi nit nsh nsf nss nrc mtraced mdealer mnumber mwhose msize misParted vC (by omega)) si_X12_252 [2, 3] [0, 1] sm_2_3 fm_2_3 nd_2_3 sm_0_1 nd_0_1 dj_2_3__0_1 rfl rfl rfl rfl rfl (Nat.le_of_ble_eq_true rfl) (rmT (Nat.le_of_ble_eq_true rfl) (Nat.le_of_ble_eq_true rfl)) ⟨Nat.le_of_ble_eq_true rfl, Nat.le_of_ble_eq_true rfl⟩ gX12_one_12.2.2.2.1 (fun u8547 H locs hr8546 hP hD hS => ?_)
                              refine Kpdr (ws := [(nF, sA G 5 (FCT K)), (nt, iA G 240 fnt), (h0, oX12 nw nk mhasKept nt (nI ktp) nr mrowMany mroundOf mroundFrom mouts nm mfromHour mtoHour ns (nI kf18533) (nI kt18534) so18535 0 (nI jd) (nI (((kc + 1) + kN) + 1)) mlines nl nc nF np ntr nb mbestCost nso nsi nit nsh nsf nss nrc mtraced mdealer mnumber mwhose msize misParted), (nc, iA G 100 (upd vC ((kc + 1) + kN) 30000))]) hP hD (fun hP hD => ?_)
                              refine lv_iinc (v := nI (kN + 1)) (lv' := [(2, .int (nI (kN + 1))), (4, .int (nI v_8537)), (3, .int 1), (1, .int (nI vn)), (0, .ref h0)]) hx hb gX12_one_12.2.2.2.2.1 hl (k := 0) rfl (nI_1 _) (by decide) rfl (fun ls hl => ?_)
                              refine lv_goto (tgt := 225) hx hb gX12_one_12.2.2.2.2.2.1 (by decide) ?_
                              exact ihN (kN + 1) (upd vC ((kc + 1) + kN) 30000) _ _ _ (by omega) (by first | assumption | exact Or.inl rfl | exact Or.inr rfl | exact EXPR.not hEx (by omega)) (And.intro hP hD) hS (lv_sub hl [0, 1, 2, 3, 4] rfl)
                          exact keyN vn 0 (upd fnc kc (nI (3000 * jfa + 1000 + v_8537))) _ _ _ (by omega) (by first | assumption | exact Or.inl rfl | exact Or.inr rfl | exact EXPR.fact (fct_lt (by omega) (by decide) (by omega)) (by omega) | exact EXPR.not hEx (by omega)) (And.intro hP hD) hS (lv_sub hl [0, 1, 2, 3, 4] rfl)
                      · exact absurd a8515 a8520
                  · refine lv_if_eq (tgt := 158) hx hb gX12_one_7.2.2.2.2.2.2.2.2.2 (by decide) (fun _ => ?_) (fun c9 => absurd (by decide) c9)
                    refine lv_iconst (v := 2) hx hb gX12_one_8.2.2.1 (by decide) ?_
                    refine lv_istore_n (lv' := [(3, .int 2), (2, .int (nI jfa)), (1, .int (nI vn)), (0, .ref h0)]) hx hb gX12_one_8.2.2.2.1 rfl hl (by decide) rfl (fun ls hl => ?_)
                    refine lv_aload_n hx hb gX12_one_8.2.2.2.2.1 rfl (lv_at3 hl) ?_
                    refine lv_aload_n hx hb gX12_one_8.2.2.2.2.2.1 rfl (lv_at3 hl) ?_
                    refine lv_bipush (v := 60) hx hb gX12_one_8.2.2.2.2.2.2.1 (by decide) ?_
                    refine pV hC hK hl hP hD (m_isSign0 l G h0 60 nw nk mhasKept nt ktp nr mrowMany mroundOf mroundFrom mouts nm mfromHour mtoHour ns kf18475 kt18476 so18477 (nI jd) (nI kc) mlines nl nc nF np ntr nb mbestCost nso nsi nit nsh nsf nss nrc mtraced mdealer mnumber mwhose msize misParted fnt (hw8479_1) (htp)) si_X12_262 [2, 3] sm_2_3 fm_2_3 nd_2_3 rfl rfl rfl rfl rfl (Nat.le_of_ble_eq_true rfl) (rmT (Nat.le_of_ble_eq_true rfl) (Nat.le_of_ble_eq_true rfl)) ⟨by first | exact Nat.le_of_ble_eq_true rfl | exact Nat.zero_le _, by first | exact Nat.le_of_ble_eq_true rfl | exact Nat.zero_le _⟩ gX12_one_8.2.2.2.2.2.2.2.1 (Kors (Keqa fun a8549 => ?_) (Keqa fun a8549 => ?_))
                    · exact absurd a8549 a8483
                    · refine lv_if_ne (tgt := 188) hx hb gX12_one_8.2.2.2.2.2.2.2.2.1 (by decide) (fun c9 => absurd (by decide) c9) (fun _ => ?_)
                      refine lv_aload_n hx hb gX12_one_8.2.2.2.2.2.2.2.2.2 rfl (lv_at3 hl) ?_
                      refine lv_bipush (v := 61) hx hb gX12_one_9.1 (by decide) ?_
                      refine pV hC hK hl hP hD (m_isSign0 l G h0 61 nw nk mhasKept nt ktp nr mrowMany mroundOf mroundFrom mouts nm mfromHour mtoHour ns kf18475 kt18476 so18477 (nI jd) (nI kc) mlines nl nc nF np ntr nb mbestCost nso nsi nit nsh nsf nss nrc mtraced mdealer mnumber mwhose msize misParted fnt (hw8479_1) (htp)) si_X12_262 [2, 3] sm_2_3 fm_2_3 nd_2_3 rfl rfl rfl rfl rfl (Nat.le_of_ble_eq_true rfl) (rmT (Nat.le_of_ble_eq_true rfl) (Nat.le_of_ble_eq_true rfl)) ⟨by first | exact Nat.le_of_ble_eq_true rfl | exact Nat.zero_le _, by first | exact Nat.le_of_ble_eq_true rfl | exact Nat.zero_le _⟩ gX12_one_9.2.1 (Kors (Keqa fun a8551 => ?_) (Keqa fun a8551 => ?_))
                      · exact absurd a8551 a8515
                      · refine lv_if_ne (tgt := 188) hx hb gX12_one_9.2.2.1 (by decide) (fun c9 => absurd (by decide) c9) (fun _ => ?_)
                        refine lv_aload_n hx hb gX12_one_9.2.2.2.1 rfl (lv_at3 hl) ?_
                        refine lv_bipush (v := 62) hx hb gX12_one_9.2.2.2.2.1 (by decide) ?_
                        refine pV hC hK hl hP hD (m_isSign0 l G h0 62 nw nk mhasKept nt ktp nr mrowMany mroundOf mroundFrom mouts nm mfromHour mtoHour ns kf18475 kt18476 so18477 (nI jd) (nI kc) mlines nl nc nF np ntr nb mbestCost nso nsi nit nsh nsf nss nrc mtraced mdealer mnumber mwhose msize misParted fnt (hw8479_1) (htp)) si_X12_262 [2, 3] sm_2_3 fm_2_3 nd_2_3 rfl rfl rfl rfl rfl (Nat.le_of_ble_eq_true rfl) (rmT (Nat.le_of_ble_eq_true rfl) (Nat.le_of_ble_eq_true rfl)) ⟨by first | exact Nat.le_of_ble_eq_true rfl | exact Nat.zero_le _, by first | exact Nat.le_of_ble_eq_true rfl | exact Nat.zero_le _⟩ gX12_one_9.2.2.2.2.2.1 (Kors (Keqa fun a8553 => ?_) (Keqa fun a8553 => ?_))
                        · refine lv_if_eq (tgt := 192) hx hb gX12_one_9.2.2.2.2.2.2.1 (by decide) (fun c9 => absurd c9 (by decide)) (fun _ => ?_)
                          refine lv_iconst (v := 1) hx hb gX12_one_9.2.2.2.2.2.2.2.1 (by decide) ?_
                          refine lv_goto (tgt := 193) hx hb gX12_one_9.2.2.2.2.2.2.2.2.1 (by decide) ?_
                          have tI8554 := a8553.1
                          refine vV (wr := [(nc, iA G 100 fnc), (nF, sA G 5 (FCT K))]) hC hK hl hP hD hS hA (m_need1 l G h0 nw nk mhasKept nt ktp nr mrowMany mroundOf mroundFrom mouts nm mfromHour mtoHour ns (nI kf18475) kt18476 so18477 (nI jd) (nI kc) mlines nl nc nF np ntr nb mbestCost nso nsi nit nsh nsf nss nrc mtraced mdealer mnumber mwhose msize misParted fnt (by omega) (htp)) si_X12_236 [2, 3] [0, 1] sm_2_3 fm_2_3 nd_2_3 sm_0_1 nd_0_1 dj_2_3__0_1 rfl rfl rfl rfl rfl (Nat.le_of_ble_eq_true rfl) (rmT (Nat.le_of_ble_eq_true rfl) (Nat.le_of_ble_eq_true rfl)) ⟨Nat.le_of_ble_eq_true rfl, Nat.le_of_ble_eq_true rfl⟩ gX12_one_10.1 (Ktu3 fun kf18557 kt18558 so18559 => ?_)
                          intro H locs hr8555 hP hD hS
                          try dsimp only at hr8555
                          refine Kpdr (ws := [(nc, iA G 100 fnc), (nF, sA G 5 (FCT K)), (h0, oX12 nw nk mhasKept nt (nI ktp) nr mrowMany mroundOf mroundFrom mouts nm mfromHour mtoHour ns (nI kf18557) (nI kt18558) so18559 0 (nI jd) (nI kc) mlines nl nc nF np ntr nb mbestCost nso nsi nit nsh nsf nss nrc mtraced mdealer mnumber mwhose msize misParted), (nt, iA G 240 fnt)]) hP hD (fun hP hD => ?_)
                          have hw8561_0 := hr8555.1
                          have hw8561_1 := hr8555.2
                          have tA8563 := hw8561_1.1
                          have tB8563 := hw8561_1.2.1
                          refine lv_aload_n hx hb gX12_one_10.2.1 rfl (lv_at3 hl) ?_
                          refine lv_sipush (v := 999) hx hb gX12_one_10.2.2.1 (by decide) ?_
                          refine iV (wr := [(nc, iA G 100 fnc), (nF, sA G 5 (FCT K))]) hC hK hl hP hD hS hA (m_number0 l G h0 999 nw nk mhasKept nt ktp nr mrowMany mroundOf mroundFrom mouts nm mfromHour mtoHour ns kf18557 kt18558 so18559 (nI jd) (nI kc) mlines nl nc nF np ntr nb mbestCost nso nsi nit nsh nsf nss nrc mtraced mdealer mnumber mwhose msize misParted fnt (hw8561_1) (htp) (by omega)) si_X12_271 [2, 3] [0, 1] sm_2_3 fm_2_3 nd_2_3 sm_0_1 nd_0_1 dj_2_3__0_1 rfl rfl rfl rfl rfl (Nat.le_of_ble_eq_true rfl) (rmT (Nat.le_of_ble_eq_true rfl) (Nat.le_of_ble_eq_true rfl)) ⟨Nat.le_of_ble_eq_true rfl, Nat.le_of_ble_eq_true rfl⟩ gX12_one_10.2.2.2.1 (fun r8564 => Ktu4 fun ff18566 kf18567 kt18568 so18569 => ?_)
                          intro H locs hr8564 hP hD hS
                          try dsimp only at hr8564
                          refine Kpdr (ws := [(nc, iA G 100 fnc), (nF, sA G 5 (FCT K)), (h0, oX12 nw nk mhasKept nt (nI ktp) nr mrowMany mroundOf mroundFrom mouts nm mfromHour mtoHour ns (nI kf18567) (nI kt18568) so18569 ff18566 (nI jd) (nI kc) mlines nl nc nF np ntr nb mbestCost nso nsi nit nsh nsf nss nrc mtraced mdealer mnumber mwhose msize misParted), (nt, iA G 240 fnt)]) hP hD (fun hP hD => ?_)
                          obtain ⟨hr8564, w8570⟩ := hr8564
                          rcases w8570 with rfl | ⟨rfl, ⟨v_8571, hv_8571, rfl⟩, hw8571_1, hw8571_2⟩
                          · refine lv_istore (lv' := [(4, .int r8564), (3, .int 2), (2, .int (nI jfa)), (1, .int (nI vn)), (0, .ref h0)]) hx hb gX12_one_10.2.2.2.2.1 hl (by decide) rfl (fun ls hl => ?_)
                            refine lv_aload_n hx hb gX12_one_10.2.2.2.2.2.1 rfl (lv_at4 hl) ?_
                            refine lv_sipush (v := 3000) hx hb gX12_one_10.2.2.2.2.2.2.1 (by decide) ?_
                            refine lv_iload_n hx hb gX12_one_10.2.2.2.2.2.2.2.1 rfl (lv_at2 hl) ?_
                            refine lv_imul hx hb gX12_one_10.2.2.2.2.2.2.2.2.1 ?_
                            refine eqi (x1 := nI (3000 * jfa)) (nI_mul 3000 jfa) ?_
                            refine lv_sipush (v := 1000) hx hb gX12_one_10.2.2.2.2.2.2.2.2.2 (by decide) ?_
                            refine lv_iload_n hx hb gX12_one_11.1 rfl (lv_at1 hl) ?_
                            refine lv_imul hx hb gX12_one_11.2.1 ?_
                            refine eqi (x1 := 2000) (by decide) ?_
                            refine lv_iadd hx hb gX12_one_11.2.2.1 ?_
                            refine eqi (x1 := nI (3000 * jfa + 2000)) (nI_add (3000 * jfa) 2000) ?_
                            refine lv_iload hx hb gX12_one_11.2.2.2.1 (lv_at0 hl) ?_
                            refine lv_iadd hx hb gX12_one_11.2.2.2.2.1 ?_
                            refine vV (wr := [(nc, iA G 100 fnc), (nF, sA G 5 (FCT K)), (nt, iA G 240 fnt)]) hC hK hl hP hD hS hA (m_codesF l G h0 ((nI (3000 * jfa + 2000)) + r8564) nw nk mhasKept nt (nI ktp) nr mrowMany mroundOf mroundFrom mouts nm mfromHour mtoHour ns (nI kf18567) (nI kt18568) so18569 (nI jd) (nI kc) mlines nl nc nF np ntr nb mbestCost nso nsi nit nsh nsf nss nrc mtraced mdealer mnumber mwhose msize misParted) si_X12_252 [2] [0, 1, 3] sm_2 fm_2 nd_2 sm_0_1_3 nd_0_1_3 dj_2__0_1_3 rfl rfl rfl rfl rfl (Nat.le_of_ble_eq_true rfl) (rmT (Nat.le_of_ble_eq_true rfl) (Nat.le_of_ble_eq_true rfl)) ⟨Nat.le_of_ble_eq_true rfl, Nat.le_of_ble_eq_true rfl⟩ gX12_one_11.2.2.2.2.2.1 (fun u8573 H locs hr8572 hP hD hS => ?_)
                            refine Kpdr (ws := [(nc, iA G 100 fnc), (nF, sA G 5 (FCT K)), (nt, iA G 240 fnt), (h0, oX12 nw nk mhasKept nt (nI ktp) nr mrowMany mroundOf mroundFrom mouts nm mfromHour mtoHour ns (nI kf18567) (nI kt18568) so18569 1 (nI jd) (nI kc) mlines nl nc nF np ntr nb mbestCost nso nsi nit nsh nsf nss nrc mtraced mdealer mnumber mwhose msize misParted)]) hP hD (fun hP hD => ?_)
                            refine lv_iconst (v := 0) hx hb gX12_one_11.2.2.2.2.2.2.1 (by decide) ?_
                            refine lv_istore_n (lv' := [(2, .int 0), (4, .int r8564), (3, .int 2), (1, .int (nI vn)), (0, .ref h0)]) hx hb gX12_one_11.2.2.2.2.2.2.2.1 rfl hl (by decide) rfl (fun ls hl => ?_)
                            have keyN : ∀ (nN kN : Nat) (H : Heap) (locs : List Loc) (ls : Array Slot), kN + nN = vn → va_PD G A [(nc, iA G 100 fnc), (nF, sA G 5 (FCT K)), (nt, iA G 240 fnt), (h0, oX12 nw nk mhasKept nt (nI ktp) nr mrowMany mroundOf mroundFrom mouts nm mfromHour mtoHour ns (nI kf18567) (nI kt18568) so18569 1 (nI jd) (nI kc) mlines nl nc nF np ntr nb mbestCost nso nsi nit nsh nsf nss nrc mtraced mdealer mnumber mwhose msize misParted)] H → va_S A s.heap H locs → lv_has ls 5 [(2, .int (nI kN)), (4, .int r8564), (3, .int 2), (1, .int (nI vn)), (0, .ref h0)] → W p l e (RM (10 + 4 * mn) 0 0) s m ([.ref h0] : List Value).toArray below meth c H locs 0 0 Q0 (F0 m 225 ls []) := by
                              intro nN
                              induction nN with
                              | zero =>
                                intro kN H locs ls hkN hPD hS hl
                                refine Kan2 hPD (fun hP hD => ?_)
                                obtain rfl : vn = kN := by omega
                                have hl : lv_has ls 5 [(2, .int (nI vn)), (4, .int r8564), (3, .int 2), (1, .int (nI vn)), (0, .ref h0)] := hl
                                refine lv_iload_n hx hb gX12_one_11.2.2.2.2.2.2.2.2.1 rfl (lv_at0 hl) ?_
                                refine lv_iload_n hx hb gX12_one_11.2.2.2.2.2.2.2.2.2 rfl (lv_at3 hl) ?_
                                refine lv_icmp_ge (tgt := 243) hx hb gX12_one_12.1 (by decide) (fun _ => ?_) (fun c9 => absurd (Int32.le_refl _) c9)
                                refine toQ hQ0 ?_
                                exact RV hC hP hD hS [3, 2, 0, 1] (1, kf18567, kt18568, so18569, kc, fnc) rfl rfl (by decide) (Or.inl rfl) gX12_one_12.2.2.2.2.2.2
                              | succ nN ihN =>
                                intro kN H locs ls hkN hPD hS hl
                                refine Kan2 hPD (fun hP hD => ?_)
                                refine lv_iload_n hx hb gX12_one_11.2.2.2.2.2.2.2.2.1 rfl (lv_at0 hl) ?_
                                refine lv_iload_n hx hb gX12_one_11.2.2.2.2.2.2.2.2.2 rfl (lv_at3 hl) ?_
                                refine lv_icmp_ge (tgt := 243) hx hb gX12_one_12.1 (by decide) (fun c9 => absurd c9 (nI_ge (a := kN) (b := vn) (by omega) (by omega))) (fun _ => ?_)
                                refine lv_aload_n hx hb gX12_one_12.2.1 rfl (lv_at4 hl) ?_
                                refine lv_sipush (v := 30000) hx hb gX12_one_12.2.2.1 (by decide) ?_
                                refine vV (wr := [(nc, iA G 100 fnc), (nF, sA G 5 (FCT K)), (nt, iA G 240 fnt)]) hC hK hl hP hD hS hA (m_codesF l G h0 30000 nw nk mhasKept nt (nI ktp) nr mrowMany mroundOf mroundFrom mouts nm mfromHour mtoHour ns (nI kf18567) (nI kt18568) so18569 (nI jd) (nI kc) mlines nl nc nF np ntr nb mbestCost nso nsi nit nsh nsf nss nrc mtraced mdealer mnumber mwhose msize misParted) si_X12_252 [3] [0, 1, 2] sm_3 fm_3 nd_3 sm_0_1_2 nd_0_1_2 dj_3__0_1_2 rfl rfl rfl rfl rfl (Nat.le_of_ble_eq_true rfl) (rmT (Nat.le_of_ble_eq_true rfl) (Nat.le_of_ble_eq_true rfl)) ⟨Nat.le_of_ble_eq_true rfl, Nat.le_of_ble_eq_true rfl⟩ gX12_one_12.2.2.2.1 (fun u8575 H locs hr8574 hP hD hS => ?_)
                                refine Kpdr (ws := [(nc, iA G 100 fnc), (nF, sA G 5 (FCT K)), (nt, iA G 240 fnt), (h0, oX12 nw nk mhasKept nt (nI ktp) nr mrowMany mroundOf mroundFrom mouts nm mfromHour mtoHour ns (nI kf18567) (nI kt18568) so18569 1 (nI jd) (nI kc) mlines nl nc nF np ntr nb mbestCost nso nsi nit nsh nsf nss nrc mtraced mdealer mnumber mwhose msize misParted)]) hP hD (fun hP hD => ?_)
                                refine lv_iinc (v := nI (kN + 1)) (lv' := [(2, .int (nI (kN + 1))), (4, .int r8564), (3, .int 2), (1, .int (nI vn)), (0, .ref h0)]) hx hb gX12_one_12.2.2.2.2.1 hl (k := 0) rfl (nI_1 _) (by decide) rfl (fun ls hl => ?_)
                                refine lv_goto (tgt := 225) hx hb gX12_one_12.2.2.2.2.2.1 (by decide) ?_
                                exact ihN (kN + 1) _ _ _ (by omega) (And.intro hP hD) hS (lv_sub hl [0, 1, 2, 3, 4] rfl)
                            exact keyN vn 0 _ _ _ (by omega) (And.intro hP hD) hS (lv_sub hl [0, 1, 2, 3, 4] rfl)
                          · have tA8577 := hw8571_2.1
                            have tB8577 := hw8571_2.2.1
                            refine lv_istore (lv' := [(4, .int (nI v_8571)), (3, .int 2), (2, .int (nI jfa)), (1, .int (nI vn)), (0, .ref h0)]) hx hb gX12_one_10.2.2.2.2.1 hl (by decide) rfl (fun ls hl => ?_)
                            refine lv_aload_n hx hb gX12_one_10.2.2.2.2.2.1 rfl (lv_at4 hl) ?_
                            refine lv_sipush (v := 3000) hx hb gX12_one_10.2.2.2.2.2.2.1 (by decide) ?_
                            refine lv_iload_n hx hb gX12_one_10.2.2.2.2.2.2.2.1 rfl (lv_at2 hl) ?_
                            refine lv_imul hx hb gX12_one_10.2.2.2.2.2.2.2.2.1 ?_
                            refine eqi (x1 := nI (3000 * jfa)) (nI_mul 3000 jfa) ?_
                            refine lv_sipush (v := 1000) hx hb gX12_one_10.2.2.2.2.2.2.2.2.2 (by decide) ?_
                            refine lv_iload_n hx hb gX12_one_11.1 rfl (lv_at1 hl) ?_
                            refine lv_imul hx hb gX12_one_11.2.1 ?_
                            refine eqi (x1 := 2000) (by decide) ?_
                            refine lv_iadd hx hb gX12_one_11.2.2.1 ?_
                            refine eqi (x1 := nI (3000 * jfa + 2000)) (nI_add (3000 * jfa) 2000) ?_
                            refine lv_iload hx hb gX12_one_11.2.2.2.1 (lv_at0 hl) ?_
                            refine lv_iadd hx hb gX12_one_11.2.2.2.2.1 ?_
                            refine eqi (x1 := nI (3000 * jfa + 2000 + v_8571)) (nI_add (3000 * jfa + 2000) v_8571) ?_
                            refine vV (wr := [(nF, sA G 5 (FCT K)), (nt, iA G 240 fnt)]) hC hK hl hP hD hS hA (m_codes0 l G h0 (nI (3000 * jfa + 2000 + v_8571)) nw nk mhasKept nt (nI ktp) nr mrowMany mroundOf mroundFrom mouts nm mfromHour mtoHour ns (nI kf18567) (nI kt18568) so18569 (nI jd) kc mlines nl nc nF np ntr nb mbestCost nso nsi nit nsh nsf nss nrc mtraced mdealer mnumber mwhose msize misParted fnc (by omega)) si_X12_252 [2, 0] [1, 3] sm_2_0 fm_2_0 nd_2_0 sm_1_3 nd_1_3 dj_2_0__1_3 rfl rfl rfl rfl rfl (Nat.le_of_ble_eq_true rfl) (rmT (Nat.le_of_ble_eq_true rfl) (Nat.le_of_ble_eq_true rfl)) ⟨Nat.le_of_ble_eq_true rfl, Nat.le_of_ble_eq_true rfl⟩ gX12_one_11.2.2.2.2.2.1 (fun u8579 H locs hr8578 hP hD hS => ?_)
                            refine Kpdr (ws := [(nF, sA G 5 (FCT K)), (nt, iA G 240 fnt), (h0, oX12 nw nk mhasKept nt (nI ktp) nr mrowMany mroundOf mroundFrom mouts nm mfromHour mtoHour ns (nI kf18567) (nI kt18568) so18569 0 (nI jd) (nI (kc + 1)) mlines nl nc nF np ntr nb mbestCost nso nsi nit nsh nsf nss nrc mtraced mdealer mnumber mwhose msize misParted), (nc, iA G 100 (upd fnc kc (nI (3000 * jfa + 2000 + v_8571))))]) hP hD (fun hP hD => ?_)
                            refine lv_iconst (v := 0) hx hb gX12_one_11.2.2.2.2.2.2.1 (by decide) ?_
                            refine lv_istore_n (lv' := [(2, .int 0), (4, .int (nI v_8571)), (3, .int 2), (1, .int (nI vn)), (0, .ref h0)]) hx hb gX12_one_11.2.2.2.2.2.2.2.1 rfl hl (by decide) rfl (fun ls hl => ?_)
                            have hbase9 : vf + 3 * (kc + 1) + 2 ≤ kf18567 + 3 * kc := by omega
                            have keyN : ∀ (nN kN : Nat) (vC : Nat → Int32) (H : Heap) (locs : List Loc) (ls : Array Slot), kN + nN = vn → (EXPR fnc vC kc ((kc + 1) + kN) kf kf18567) → va_PD G A [(nF, sA G 5 (FCT K)), (nt, iA G 240 fnt), (h0, oX12 nw nk mhasKept nt (nI ktp) nr mrowMany mroundOf mroundFrom mouts nm mfromHour mtoHour ns (nI kf18567) (nI kt18568) so18569 0 (nI jd) (nI ((kc + 1) + kN)) mlines nl nc nF np ntr nb mbestCost nso nsi nit nsh nsf nss nrc mtraced mdealer mnumber mwhose msize misParted), (nc, iA G 100 vC)] H → va_S A s.heap H locs → lv_has ls 5 [(2, .int (nI kN)), (4, .int (nI v_8571)), (3, .int 2), (1, .int (nI vn)), (0, .ref h0)] → W p l e (RM (10 + 4 * mn) 0 0) s m ([.ref h0] : List Value).toArray below meth c H locs 0 0 Q0 (F0 m 225 ls []) := by
                              intro nN
                              induction nN with
                              | zero =>
                                intro kN vC H locs ls hkN hEx hPD hS hl
                                refine Kan2 hPD (fun hP hD => ?_)
                                obtain rfl : vn = kN := by omega
                                refine Kpdr (ws := [(nF, sA G 5 (FCT K)), (nt, iA G 240 fnt), (h0, oX12 nw nk mhasKept nt (nI ktp) nr mrowMany mroundOf mroundFrom mouts nm mfromHour mtoHour ns (nI kf18567) (nI kt18568) so18569 0 (nI jd) (nI ((kc + 1) + vn)) mlines nl nc nF np ntr nb mbestCost nso nsi nit nsh nsf nss nrc mtraced mdealer mnumber mwhose msize misParted), (nc, iA G 100 vC)]) hP hD (fun hP hD => ?_)
                                have hl : lv_has ls 5 [(2, .int (nI vn)), (4, .int (nI v_8571)), (3, .int 2), (1, .int (nI vn)), (0, .ref h0)] := hl
                                refine lv_iload_n hx hb gX12_one_11.2.2.2.2.2.2.2.2.1 rfl (lv_at0 hl) ?_
                                refine lv_iload_n hx hb gX12_one_11.2.2.2.2.2.2.2.2.2 rfl (lv_at3 hl) ?_
                                refine lv_icmp_ge (tgt := 243) hx hb gX12_one_12.1 (by decide) (fun _ => ?_) (fun c9 => absurd (Int32.le_refl _) c9)
                                refine toQ hQ0 ?_
                                exact RV hC hP hD hS [2, 1, 3, 0] (0, kf18567, kt18568, so18569, ((kc + 1) + vn), vC) rfl rfl (by decide) (Or.inr ⟨rfl, hw8571_2, EXPR.wid hEx (by (try dsimp only); omega)⟩) gX12_one_12.2.2.2.2.2.2
                              | succ nN ihN =>
                                intro kN vC H locs ls hkN hEx hPD hS hl
                                refine Kan2 hPD (fun hP hD => ?_)
                                refine lv_iload_n hx hb gX12_one_11.2.2.2.2.2.2.2.2.1 rfl (lv_at0 hl) ?_
                                refine lv_iload_n hx hb gX12_one_11.2.2.2.2.2.2.2.2.2 rfl (lv_at3 hl) ?_
                                refine lv_icmp_ge (tgt := 243) hx hb gX12_one_12.1 (by decide) (fun c9 => absurd c9 (nI_ge (a := kN) (b := vn) (by omega) (by omega))) (fun _ => ?_)
                                refine lv_aload_n hx hb gX12_one_12.2.1 rfl (lv_at4 hl) ?_
                                refine lv_sipush (v := 30000) hx hb gX12_one_12.2.2.1 (by decide) ?_
                                refine vV (wr := [(nF, sA G 5 (FCT K)), (nt, iA G 240 fnt)]) hC hK hl hP hD hS hA (m_codes0 l G h0 30000 nw nk mhasKept nt (nI ktp) nr mrowMany mroundOf mroundFrom mouts nm mfromHour mtoHour ns (nI kf18567) (nI kt18568) so18569 (nI jd) ((kc + 1) + kN) mlines nl nc nF np ntr nb mbestCost nso nsi nit nsh nsf nss nrc mtraced mdealer mnumber mwhose msize misParted vC (by omega)) si_X12_252 [2, 3] [0, 1] sm_2_3 fm_2_3 nd_2_3 sm_0_1 nd_0_1 dj_2_3__0_1 rfl rfl rfl rfl rfl (Nat.le_of_ble_eq_true rfl) (rmT (Nat.le_of_ble_eq_true rfl) (Nat.le_of_ble_eq_true rfl)) ⟨Nat.le_of_ble_eq_true rfl, Nat.le_of_ble_eq_true rfl⟩ gX12_one_12.2.2.2.1 (fun u8581 H locs hr8580 hP hD hS => ?_)
                                refine Kpdr (ws := [(nF, sA G 5 (FCT K)), (nt, iA G 240 fnt), (h0, oX12 nw nk mhasKept nt (nI ktp) nr mrowMany mroundOf mroundFrom mouts nm mfromHour mtoHour ns (nI kf18567) (nI kt18568) so18569 0 (nI jd) (nI (((kc + 1) + kN) + 1)) mlines nl nc nF np ntr nb mbestCost nso nsi nit nsh nsf nss nrc mtraced mdealer mnumber mwhose msize misParted), (nc, iA G 100 (upd vC ((kc + 1) + kN) 30000))]) hP hD (fun hP hD => ?_)
                                refine lv_iinc (v := nI (kN + 1)) (lv' := [(2, .int (nI (kN + 1))), (4, .int (nI v_8571)), (3, .int 2), (1, .int (nI vn)), (0, .ref h0)]) hx hb gX12_one_12.2.2.2.2.1 hl (k := 0) rfl (nI_1 _) (by decide) rfl (fun ls hl => ?_)
                                refine lv_goto (tgt := 225) hx hb gX12_one_12.2.2.2.2.2.1 (by decide) ?_
                                exact ihN (kN + 1) (upd vC ((kc + 1) + kN) 30000) _ _ _ (by omega) (by first | assumption | exact Or.inl rfl | exact Or.inr rfl | exact EXPR.not hEx (by omega)) (And.intro hP hD) hS (lv_sub hl [0, 1, 2, 3, 4] rfl)
                            exact keyN vn 0 (upd fnc kc (nI (3000 * jfa + 2000 + v_8571))) _ _ _ (by omega) (by first | assumption | exact Or.inl rfl | exact Or.inr rfl | exact EXPR.fact (fct_lt (by omega) (by decide) (by omega)) (by omega) | exact EXPR.not hEx (by omega)) (And.intro hP hD) hS (lv_sub hl [0, 1, 2, 3, 4] rfl)
                        · refine lv_if_eq (tgt := 192) hx hb gX12_one_9.2.2.2.2.2.2.1 (by decide) (fun _ => ?_) (fun c9 => absurd (by decide) c9)
                          refine lv_iconst (v := 0) hx hb gX12_one_9.2.2.2.2.2.2.2.2.2 (by decide) ?_
                          refine vV (wr := [(nc, iA G 100 fnc), (nF, sA G 5 (FCT K)), (nt, iA G 240 fnt)]) hC hK hl hP hD hS hA (m_need0 l G h0 nw nk mhasKept nt (nI ktp) nr mrowMany mroundOf mroundFrom mouts nm mfromHour mtoHour ns (nI kf18475) (nI kt18476) so18477 (nI jd) (nI kc) mlines nl nc nF np ntr nb mbestCost nso nsi nit nsh nsf nss nrc mtraced mdealer mnumber mwhose msize misParted) si_X12_236 [2] [0, 1, 3] sm_2 fm_2 nd_2 sm_0_1_3 nd_0_1_3 dj_2__0_1_3 rfl rfl rfl rfl rfl (Nat.le_of_ble_eq_true rfl) (rmT (Nat.le_of_ble_eq_true rfl) (Nat.le_of_ble_eq_true rfl)) ⟨Nat.le_of_ble_eq_true rfl, Nat.le_of_ble_eq_true rfl⟩ gX12_one_10.1 (fun u8583 H locs hr8582 hP hD hS => ?_)
                          refine Kpdr (ws := [(nc, iA G 100 fnc), (nF, sA G 5 (FCT K)), (nt, iA G 240 fnt), (h0, oX12 nw nk mhasKept nt (nI ktp) nr mrowMany mroundOf mroundFrom mouts nm mfromHour mtoHour ns (nI kf18475) (nI kt18476) so18477 1 (nI jd) (nI kc) mlines nl nc nF np ntr nb mbestCost nso nsi nit nsh nsf nss nrc mtraced mdealer mnumber mwhose msize misParted)]) hP hD (fun hP hD => ?_)
                          refine lv_aload_n hx hb gX12_one_10.2.1 rfl (lv_at3 hl) ?_
                          refine lv_sipush (v := 999) hx hb gX12_one_10.2.2.1 (by decide) ?_
                          refine iV (wr := [(nc, iA G 100 fnc), (nF, sA G 5 (FCT K)), (nt, iA G 240 fnt)]) hC hK hl hP hD hS hA (m_numberF l G h0 999 nw nk mhasKept nt (nI ktp) nr mrowMany mroundOf mroundFrom mouts nm mfromHour mtoHour ns (nI kf18475) (nI kt18476) so18477 (nI jd) (nI kc) mlines nl nc nF np ntr nb mbestCost nso nsi nit nsh nsf nss nrc mtraced mdealer mnumber mwhose msize misParted) si_X12_271 [3] [0, 1, 2] sm_3 fm_3 nd_3 sm_0_1_2 nd_0_1_2 dj_3__0_1_2 rfl rfl rfl rfl rfl (Nat.le_of_ble_eq_true rfl) (rmT (Nat.le_of_ble_eq_true rfl) (Nat.le_of_ble_eq_true rfl)) ⟨Nat.le_of_ble_eq_true rfl, Nat.le_of_ble_eq_true rfl⟩ gX12_one_10.2.2.2.1 (fun r8584 u8585 H locs hr8584 hP hD hS => ?_)
                          refine Kpdr (ws := [(nc, iA G 100 fnc), (nF, sA G 5 (FCT K)), (nt, iA G 240 fnt), (h0, oX12 nw nk mhasKept nt (nI ktp) nr mrowMany mroundOf mroundFrom mouts nm mfromHour mtoHour ns (nI kf18475) (nI kt18476) so18477 1 (nI jd) (nI kc) mlines nl nc nF np ntr nb mbestCost nso nsi nit nsh nsf nss nrc mtraced mdealer mnumber mwhose msize misParted)]) hP hD (fun hP hD => ?_)
                          obtain rfl := hr8584
                          refine lv_istore (lv' := [(4, .int 0), (3, .int 2), (2, .int (nI jfa)), (1, .int (nI vn)), (0, .ref h0)]) hx hb gX12_one_10.2.2.2.2.1 hl (by decide) rfl (fun ls hl => ?_)
                          refine lv_aload_n hx hb gX12_one_10.2.2.2.2.2.1 rfl (lv_at4 hl) ?_
                          refine lv_sipush (v := 3000) hx hb gX12_one_10.2.2.2.2.2.2.1 (by decide) ?_
                          refine lv_iload_n hx hb gX12_one_10.2.2.2.2.2.2.2.1 rfl (lv_at2 hl) ?_
                          refine lv_imul hx hb gX12_one_10.2.2.2.2.2.2.2.2.1 ?_
                          refine eqi (x1 := nI (3000 * jfa)) (nI_mul 3000 jfa) ?_
                          refine lv_sipush (v := 1000) hx hb gX12_one_10.2.2.2.2.2.2.2.2.2 (by decide) ?_
                          refine lv_iload_n hx hb gX12_one_11.1 rfl (lv_at1 hl) ?_
                          refine lv_imul hx hb gX12_one_11.2.1 ?_
                          refine eqi (x1 := 2000) (by decide) ?_
                          refine lv_iadd hx hb gX12_one_11.2.2.1 ?_
                          refine eqi (x1 := nI (3000 * jfa + 2000)) (nI_add (3000 * jfa) 2000) ?_
                          refine lv_iload hx hb gX12_one_11.2.2.2.1 (lv_at0 hl) ?_
                          refine lv_iadd hx hb gX12_one_11.2.2.2.2.1 ?_
                          refine eqi (x1 := nI (3000 * jfa + 2000 + 0)) (nI_add (3000 * jfa + 2000) 0) ?_
                          refine vV (wr := [(nc, iA G 100 fnc), (nF, sA G 5 (FCT K)), (nt, iA G 240 fnt)]) hC hK hl hP hD hS hA (m_codesF l G h0 (nI (3000 * jfa + 2000 + 0)) nw nk mhasKept nt (nI ktp) nr mrowMany mroundOf mroundFrom mouts nm mfromHour mtoHour ns (nI kf18475) (nI kt18476) so18477 (nI jd) (nI kc) mlines nl nc nF np ntr nb mbestCost nso nsi nit nsh nsf nss nrc mtraced mdealer mnumber mwhose msize misParted) si_X12_252 [3] [0, 1, 2] sm_3 fm_3 nd_3 sm_0_1_2 nd_0_1_2 dj_3__0_1_2 rfl rfl rfl rfl rfl (Nat.le_of_ble_eq_true rfl) (rmT (Nat.le_of_ble_eq_true rfl) (Nat.le_of_ble_eq_true rfl)) ⟨Nat.le_of_ble_eq_true rfl, Nat.le_of_ble_eq_true rfl⟩ gX12_one_11.2.2.2.2.2.1 (fun u8588 H locs hr8587 hP hD hS => ?_)
                          refine Kpdr (ws := [(nc, iA G 100 fnc), (nF, sA G 5 (FCT K)), (nt, iA G 240 fnt), (h0, oX12 nw nk mhasKept nt (nI ktp) nr mrowMany mroundOf mroundFrom mouts nm mfromHour mtoHour ns (nI kf18475) (nI kt18476) so18477 1 (nI jd) (nI kc) mlines nl nc nF np ntr nb mbestCost nso nsi nit nsh nsf nss nrc mtraced mdealer mnumber mwhose msize misParted)]) hP hD (fun hP hD => ?_)
                          refine lv_iconst (v := 0) hx hb gX12_one_11.2.2.2.2.2.2.1 (by decide) ?_
                          refine lv_istore_n (lv' := [(2, .int 0), (4, .int 0), (3, .int 2), (1, .int (nI vn)), (0, .ref h0)]) hx hb gX12_one_11.2.2.2.2.2.2.2.1 rfl hl (by decide) rfl (fun ls hl => ?_)
                          have keyN : ∀ (nN kN : Nat) (H : Heap) (locs : List Loc) (ls : Array Slot), kN + nN = vn → va_PD G A [(nc, iA G 100 fnc), (nF, sA G 5 (FCT K)), (nt, iA G 240 fnt), (h0, oX12 nw nk mhasKept nt (nI ktp) nr mrowMany mroundOf mroundFrom mouts nm mfromHour mtoHour ns (nI kf18475) (nI kt18476) so18477 1 (nI jd) (nI kc) mlines nl nc nF np ntr nb mbestCost nso nsi nit nsh nsf nss nrc mtraced mdealer mnumber mwhose msize misParted)] H → va_S A s.heap H locs → lv_has ls 5 [(2, .int (nI kN)), (4, .int 0), (3, .int 2), (1, .int (nI vn)), (0, .ref h0)] → W p l e (RM (10 + 4 * mn) 0 0) s m ([.ref h0] : List Value).toArray below meth c H locs 0 0 Q0 (F0 m 225 ls []) := by
                            intro nN
                            induction nN with
                            | zero =>
                              intro kN H locs ls hkN hPD hS hl
                              refine Kan2 hPD (fun hP hD => ?_)
                              obtain rfl : vn = kN := by omega
                              have hl : lv_has ls 5 [(2, .int (nI vn)), (4, .int 0), (3, .int 2), (1, .int (nI vn)), (0, .ref h0)] := hl
                              refine lv_iload_n hx hb gX12_one_11.2.2.2.2.2.2.2.2.1 rfl (lv_at0 hl) ?_
                              refine lv_iload_n hx hb gX12_one_11.2.2.2.2.2.2.2.2.2 rfl (lv_at3 hl) ?_
                              refine lv_icmp_ge (tgt := 243) hx hb gX12_one_12.1 (by decide) (fun _ => ?_) (fun c9 => absurd (Int32.le_refl _) c9)
                              refine toQ hQ0 ?_
                              exact RV hC hP hD hS [3, 2, 0, 1] (1, kf18475, kt18476, so18477, kc, fnc) rfl rfl (by decide) (Or.inl rfl) gX12_one_12.2.2.2.2.2.2
                            | succ nN ihN =>
                              intro kN H locs ls hkN hPD hS hl
                              refine Kan2 hPD (fun hP hD => ?_)
                              refine lv_iload_n hx hb gX12_one_11.2.2.2.2.2.2.2.2.1 rfl (lv_at0 hl) ?_
                              refine lv_iload_n hx hb gX12_one_11.2.2.2.2.2.2.2.2.2 rfl (lv_at3 hl) ?_
                              refine lv_icmp_ge (tgt := 243) hx hb gX12_one_12.1 (by decide) (fun c9 => absurd c9 (nI_ge (a := kN) (b := vn) (by omega) (by omega))) (fun _ => ?_)
                              refine lv_aload_n hx hb gX12_one_12.2.1 rfl (lv_at4 hl) ?_
                              refine lv_sipush (v := 30000) hx hb gX12_one_12.2.2.1 (by decide) ?_
                              refine vV (wr := [(nc, iA G 100 fnc), (nF, sA G 5 (FCT K)), (nt, iA G 240 fnt)]) hC hK hl hP hD hS hA (m_codesF l G h0 30000 nw nk mhasKept nt (nI ktp) nr mrowMany mroundOf mroundFrom mouts nm mfromHour mtoHour ns (nI kf18475) (nI kt18476) so18477 (nI jd) (nI kc) mlines nl nc nF np ntr nb mbestCost nso nsi nit nsh nsf nss nrc mtraced mdealer mnumber mwhose msize misParted) si_X12_252 [3] [0, 1, 2] sm_3 fm_3 nd_3 sm_0_1_2 nd_0_1_2 dj_3__0_1_2 rfl rfl rfl rfl rfl (Nat.le_of_ble_eq_true rfl) (rmT (Nat.le_of_ble_eq_true rfl) (Nat.le_of_ble_eq_true rfl)) ⟨Nat.le_of_ble_eq_true rfl, Nat.le_of_ble_eq_true rfl⟩ gX12_one_12.2.2.2.1 (fun u8590 H locs hr8589 hP hD hS => ?_)
                              refine Kpdr (ws := [(nc, iA G 100 fnc), (nF, sA G 5 (FCT K)), (nt, iA G 240 fnt), (h0, oX12 nw nk mhasKept nt (nI ktp) nr mrowMany mroundOf mroundFrom mouts nm mfromHour mtoHour ns (nI kf18475) (nI kt18476) so18477 1 (nI jd) (nI kc) mlines nl nc nF np ntr nb mbestCost nso nsi nit nsh nsf nss nrc mtraced mdealer mnumber mwhose msize misParted)]) hP hD (fun hP hD => ?_)
                              refine lv_iinc (v := nI (kN + 1)) (lv' := [(2, .int (nI (kN + 1))), (4, .int 0), (3, .int 2), (1, .int (nI vn)), (0, .ref h0)]) hx hb gX12_one_12.2.2.2.2.1 hl (k := 0) rfl (nI_1 _) (by decide) rfl (fun ls hl => ?_)
                              refine lv_goto (tgt := 225) hx hb gX12_one_12.2.2.2.2.2.1 (by decide) ?_
                              exact ihN (kN + 1) _ _ _ (by omega) (And.intro hP hD) hS (lv_sub hl [0, 1, 2, 3, 4] rfl)
                          exact keyN vn 0 _ _ _ (by omega) (And.intro hP hD) hS (lv_sub hl [0, 1, 2, 3, 4] rfl)
            | succ nF5 ihF5 =>
              intro kF5 fa9 H locs ls hkF5 hfa hPD hS hl
              refine Kan2 hPD (fun hP hD => ?_)
              refine lv_iload_n hx hb gX12_one_4.2.2.2.2.2.2.2.1 rfl (lv_at0 hl) ?_
              refine lv_iconst (v := 5) hx hb gX12_one_4.2.2.2.2.2.2.2.2.1 (by decide) ?_
              refine lv_icmp_ge (tgt := 119) hx hb gX12_one_4.2.2.2.2.2.2.2.2.2 (by decide) (fun c9 => absurd c9 (nI_ge (a := kF5) (b := 5) (by omega) (by omega))) (fun _ => ?_)
              refine lv_aload_n hx hb gX12_one_5.1 rfl (lv_at3 hl) ?_
              refine lv_aload_n hx hb gX12_one_5.2.1 rfl (lv_at3 hl) ?_
              refine gf_X12_50 hC rfl hK hP 0 rfl rfl gX12_one_5.2.2.1 ?_
              refine lv_iload_n hx hb gX12_one_5.2.2.2.1 rfl (lv_at0 hl) ?_
              obtain ⟨if8591, hif8591⟩ : ∃ z, z = 11 + kF5 := ⟨_, rfl⟩
              have hxif8591 : if8591 < 16 := by omega
              have h3if8591 := slen3 if8591 hxif8591 (by omega)
              refine aldS hC hK hP 3 rfl (vp_in_nI (by omega) (by omega)) (k := kF5) (nI_clamp (by omega)) (v := (K.1 if8591)) (by rw [hif8591]; exact if_pos (by omega)) gX12_one_5.2.2.2.2.1 ?_
              refine pVo hO hS hC hK hl hP hD (m_isName0 l G K if8591 h0 nw nk mhasKept nt ktp nr mrowMany mroundOf mroundFrom mouts nm mfromHour mtoHour ns vf vt vs (nI jd) (nI kc) mlines nl nc nF np ntr nb mbestCost nso nsi nit nsh nsf nss nrc mtraced mdealer mnumber mwhose msize misParted fnt ((hxif8591)) (hTT) (htp)) si_X12_248 [0, 1] sm_0_1 fm_0_1 nd_0_1 rfl rfl rfl rfl rfl (Nat.le_of_ble_eq_true rfl) (rmT (Nat.le_of_ble_eq_true rfl) (Nat.le_of_ble_eq_true rfl)) ⟨by first | exact Nat.le_of_ble_eq_true rfl | exact Nat.zero_le _, by first | exact Nat.le_of_ble_eq_true rfl | exact Nat.zero_le _⟩ gX12_one_5.2.2.2.2.2.1 (Kors (Keqa fun a8593 => ?_) (Keqr ?_))
              · refine lv_if_eq (tgt := 111) hx hb gX12_one_5.2.2.2.2.2.2.1 (by decide) (fun c9 => absurd c9 (by decide)) (fun _ => ?_)
                refine lv_iload_n hx hb gX12_one_5.2.2.2.2.2.2.2.1 rfl (lv_at0 hl) ?_
                refine lv_goto (tgt := 112) hx hb gX12_one_5.2.2.2.2.2.2.2.2.1 (by decide) ?_
                have tI8594 : vt = vf + SLEN.getD if8591 0 := a8593.2
                refine lv_istore_n (lv' := [(2, .int (nI kF5)), (3, .int (nI kF5)), (1, .int (nI vn)), (0, .ref h0)]) hx hb gX12_one_6.1 rfl hl (by decide) rfl (fun ls hl => ?_)
                refine lv_iinc (v := nI (kF5 + 1)) (lv' := [(3, .int (nI (kF5 + 1))), (2, .int (nI kF5)), (1, .int (nI vn)), (0, .ref h0)]) hx hb gX12_one_6.2.1 hl (k := 1) rfl (nI_1 _) (by decide) rfl (fun ls hl => ?_)
                refine lv_goto (tgt := 89) hx hb gX12_one_6.2.2.1 (by decide) ?_
                exact ihF5 (kF5 + 1) (nI kF5) _ _ _ (by omega) (by first | assumption | exact Or.inl rfl | exact Or.inr rfl | exact Or.inr ⟨kF5, by omega, rfl, by omega⟩) (And.intro hP hD) hS (lv_sub hl [0, 1, 2, 3] rfl)
              · refine lv_if_eq (tgt := 111) hx hb gX12_one_5.2.2.2.2.2.2.1 (by decide) (fun _ => ?_) (fun c9 => absurd (by decide) c9)
                refine lv_iload_n hx hb gX12_one_5.2.2.2.2.2.2.2.2.2 rfl (lv_at1 hl) ?_
                refine lv_istore_n (lv' := [(2, .int fa9), (3, .int (nI kF5)), (1, .int (nI vn)), (0, .ref h0)]) hx hb gX12_one_6.1 rfl hl (by decide) rfl (fun ls hl => ?_)
                refine lv_iinc (v := nI (kF5 + 1)) (lv' := [(3, .int (nI (kF5 + 1))), (2, .int fa9), (1, .int (nI vn)), (0, .ref h0)]) hx hb gX12_one_6.2.1 hl (k := 1) rfl (nI_1 _) (by decide) rfl (fun ls hl => ?_)
                refine lv_goto (tgt := 89) hx hb gX12_one_6.2.2.1 (by decide) ?_
                exact ihF5 (kF5 + 1) fa9 _ _ _ (by omega) (by first | assumption | exact Or.inl rfl | exact Or.inr rfl | exact Or.inr ⟨kF5, by omega, rfl, by omega⟩) (And.intro hP hD) hS (lv_sub hl [0, 1, 2, 3] rfl)
          exact keyF5 5 0 (-1) _ _ _ (by omega) (by first | assumption | exact Or.inl rfl | exact Or.inr rfl | exact Or.inr ⟨kF5, by omega, rfl, by omega⟩) (And.intro hP hD) hS (lv_sub hl [0, 1, 2, 3] rfl)
  exact keyT 241 0 so kf kt _ _ _ (hT) (by omega) (by omega) (And.intro hP hD) hS (lv_sub hl [0, 1] rfl)
def K_m_all (l : Launch) (G : GG) (K : OO) (mn : Nat) (h0 : Nat) (nw : Nat) (nk : Nat) (mhasKept : Int32) (nt : Nat) (ktp : Nat) (nr : Nat) (mrowMany : Int32) (mroundOf : Int32) (mroundFrom : Int32) (mouts : Int32) (nm : Nat) (mfromHour : Int32) (mtoHour : Int32) (ns : Nat) (kf : Nat) (kt : Nat) (so : Int32) (jd : Nat) (kc : Nat) (mlines : Int32) (nl : Nat) (nc : Nat) (nF : Nat) (np : Nat) (ntr : Nat) (nb : Nat) (mbestCost : Int32) (nso : Nat) (nsi : Nat) (nit : Nat) (nsh : Nat) (nsf : Nat) (nss : Nat) (nrc : Nat) (mtraced : Int32) (mdealer : Int32) (mnumber : Int32) (mwhose : Int32) (msize : Int32) (misParted : Int32) (fnt : Nat → Int32) (fnc : Nat → Int32) : Prop := MVo l G K yX12_all cX12_all 1 (11 + 4 * mn) 0 0 [.ref h0] [(h0, oX12 nw nk mhasKept nt (nI ktp) nr mrowMany mroundOf mroundFrom mouts nm mfromHour mtoHour ns (nI kf) (nI kt) so 0 (nI jd) (nI kc) mlines nl nc nF np ntr nb mbestCost nso nsi nit nsh nsf nss nrc mtraced mdealer mnumber mwhose msize misParted), (nt, iA G 240 fnt), (nc, iA G 100 fnc), (nF, sA G 5 (FCT K))] (fun u : Int32 × Nat × Nat × Int32 × Nat × (Nat → Int32) => u.1 = 1 ∨ (u.1 = 0 ∧ TOK fnt u.2.2.2.1 u.2.1 u.2.2.1 ktp ∧ EXPR fnc u.2.2.2.2.2 kc u.2.2.2.2.1 kf u.2.1)) (fun u : Int32 × Nat × Nat × Int32 × Nat × (Nat → Int32) => [(h0, oX12 nw nk mhasKept nt (nI ktp) nr mrowMany mroundOf mroundFrom mouts nm mfromHour mtoHour ns (nI u.2.1) (nI u.2.2.1) u.2.2.2.1 u.1 (nI jd) (nI u.2.2.2.2.1) mlines nl nc nF np ntr nb mbestCost nso nsi nit nsh nsf nss nrc mtraced mdealer mnumber mwhose msize misParted), (nt, iA G 240 fnt), (nc, iA G 100 u.2.2.2.2.2), (nF, sA G 5 (FCT K))])
set_option maxHeartbeats 4000000 in
set_option maxRecDepth 100000 in
theorem m_all (l : Launch) (G : GG) (K : OO) (mn : Nat) (h0 : Nat) (nw : Nat) (nk : Nat) (mhasKept : Int32) (nt : Nat) (ktp : Nat) (nr : Nat) (mrowMany : Int32) (mroundOf : Int32) (mroundFrom : Int32) (mouts : Int32) (nm : Nat) (mfromHour : Int32) (mtoHour : Int32) (ns : Nat) (kf : Nat) (kt : Nat) (so : Int32) (jd : Nat) (kc : Nat) (mlines : Int32) (nl : Nat) (nc : Nat) (nF : Nat) (np : Nat) (ntr : Nat) (nb : Nat) (mbestCost : Int32) (nso : Nat) (nsi : Nat) (nit : Nat) (nsh : Nat) (nsf : Nat) (nss : Nat) (nrc : Nat) (mtraced : Int32) (mdealer : Int32) (mnumber : Int32) (mwhose : Int32) (msize : Int32) (misParted : Int32) (fnt : Nat → Int32) (fnc : Nat → Int32) (hT : TOK fnt so kf kt ktp) (htp : ktp ≤ 240) (h3c : 3 * kc ≤ kf) (hjm : jd + mn = 4) (ihE : ∀ m9, m9 < mn → ∀ (h0 : Nat) (nw : Nat) (nk : Nat) (mhasKept : Int32) (nt : Nat) (ktp : Nat) (nr : Nat) (mrowMany : Int32) (mroundOf : Int32) (mroundFrom : Int32) (mouts : Int32) (nm : Nat) (mfromHour : Int32) (mtoHour : Int32) (ns : Nat) (kf : Nat) (kt : Nat) (so : Int32) (jd : Nat) (kc : Nat) (mlines : Int32) (nl : Nat) (nc : Nat) (nF : Nat) (np : Nat) (ntr : Nat) (nb : Nat) (mbestCost : Int32) (nso : Nat) (nsi : Nat) (nit : Nat) (nsh : Nat) (nsf : Nat) (nss : Nat) (nrc : Nat) (mtraced : Int32) (mdealer : Int32) (mnumber : Int32) (mwhose : Int32) (msize : Int32) (misParted : Int32) (fnt : Nat → Int32) (fnc : Nat → Int32) (hT : TOK fnt so kf kt ktp) (htp : ktp ≤ 240) (h3c : 3 * kc ≤ kf) (hjm : jd + m9 = 4), MVo l G K yX12_either cX12_either 1 (12 + 4 * m9) 0 0 [.ref h0] [(h0, oX12 nw nk mhasKept nt (nI ktp) nr mrowMany mroundOf mroundFrom mouts nm mfromHour mtoHour ns (nI kf) (nI kt) so 0 (nI jd) (nI kc) mlines nl nc nF np ntr nb mbestCost nso nsi nit nsh nsf nss nrc mtraced mdealer mnumber mwhose msize misParted), (nt, iA G 240 fnt), (nc, iA G 100 fnc), (nF, sA G 5 (FCT K))] (fun u : Int32 × Nat × Nat × Int32 × Nat × (Nat → Int32) => u.1 = 1 ∨ (u.1 = 0 ∧ TOK fnt u.2.2.2.1 u.2.1 u.2.2.1 ktp ∧ EXPR fnc u.2.2.2.2.2 kc u.2.2.2.2.1 kf u.2.1)) (fun u : Int32 × Nat × Nat × Int32 × Nat × (Nat → Int32) => [(h0, oX12 nw nk mhasKept nt (nI ktp) nr mrowMany mroundOf mroundFrom mouts nm mfromHour mtoHour ns (nI u.2.1) (nI u.2.2.1) u.2.2.2.1 u.1 (nI jd) (nI u.2.2.2.2.1) mlines nl nc nF np ntr nb mbestCost nso nsi nit nsh nsf nss nrc mtraced mdealer mnumber mwhose msize misParted), (nt, iA G 240 fnt), (nc, iA G 100 u.2.2.2.2.2), (nF, sA G 5 (FCT K))])) : K_m_all l G K mn h0 nw nk mhasKept nt ktp nr mrowMany mroundOf mroundFrom mouts nm mfromHour mtoHour ns kf kt so jd kc mlines nl nc nF np ntr nb mbestCost nso nsi nit nsh nsf nss nrc mtraced mdealer mnumber mwhose msize misParted fnt fnc := by
  refine MVo.start (by decide +kernel) (Nat.le_of_ble_eq_true rfl) ?_
  intro p e s m below meth c A ls hC hK hP hD hS hA hl hO
  refine absQ (fun Q0 hQ0 => ?_)
  have hl : lv_has ls 1 [(0, .ref h0)] := hl
  refine Kan8 hC (fun hx hb hr hml hB hown hlocks hnm => ?_)
  refine lv_aload_n hx hb gX12_all_0.1 rfl (lv_at0 hl) ?_
  refine vVo (wr := []) hO hC hK hl hP hD hS hA (m_one l G K mn h0 nw nk mhasKept nt ktp nr mrowMany mroundOf mroundFrom mouts nm mfromHour mtoHour ns kf kt so jd kc mlines nl nc nF np ntr nb mbestCost nso nsi nit nsh nsf nss nrc mtraced mdealer mnumber mwhose msize misParted fnt fnc (hT) (by omega) (by omega) (by omega) ihE) si_X12_255 [0, 1, 2, 3] [] sm_0_1_2_3 fm_0_1_2_3 nd_0_1_2_3 rfl rfl (by decide) rfl rfl rfl rfl rfl (Nat.le_of_ble_eq_true rfl) ⟨by simp only [RM]; omega, by simp only [RM]; omega⟩ ⟨Nat.le_of_ble_eq_true rfl, Nat.le_of_ble_eq_true rfl⟩ gX12_all_0.2.1 (Ktu6 fun ff18597 kf18598 kt18599 so18600 kc18601 gnc8602 => ?_)
  intro H locs hr8595 hP hD hS
  try dsimp only at hr8595
  refine Kpdr (ws := [(h0, oX12 nw nk mhasKept nt (nI ktp) nr mrowMany mroundOf mroundFrom mouts nm mfromHour mtoHour ns (nI kf18598) (nI kt18599) so18600 ff18597 (nI jd) (nI kc18601) mlines nl nc nF np ntr nb mbestCost nso nsi nit nsh nsf nss nrc mtraced mdealer mnumber mwhose msize misParted), (nt, iA G 240 fnt), (nc, iA G 100 gnc8602), (nF, sA G 5 (FCT K))]) hP hD (fun hP hD => ?_)
  have w8603 := hr8595
  rcases w8603 with rfl | ⟨rfl, hw8604_0, hw8604_1⟩
  · refine lv_aload_n hx hb gX12_all_0.2.2.1 rfl (lv_at0 hl) ?_
    refine va_ldcSw (index := 258) (tx := "and") hx hb hown (hO.2.2 9 (by decide)) gX12_all_0.2.2.2.1 ?_
    refine pVo hO hS hC hK hl hP hD (m_isNameF l G K 9 h0 nw nk mhasKept nt (nI ktp) nr mrowMany mroundOf mroundFrom mouts nm mfromHour mtoHour ns (nI kf18598) (nI kt18599) so18600 (nI jd) (nI kc18601) mlines nl nc nF np ntr nb mbestCost nso nsi nit nsh nsf nss nrc mtraced mdealer mnumber mwhose msize misParted ((by decide))) si_X12_248 [0] sm_0 fm_0 nd_0 rfl rfl rfl rfl rfl (Nat.le_of_ble_eq_true rfl) (rmT (Nat.le_of_ble_eq_true rfl) (Nat.le_of_ble_eq_true rfl)) ⟨by first | exact Nat.le_of_ble_eq_true rfl | exact Nat.zero_le _, by first | exact Nat.le_of_ble_eq_true rfl | exact Nat.zero_le _⟩ gX12_all_0.2.2.2.2.1 (Keqr ?_)
    refine lv_if_eq (tgt := 32) hx hb gX12_all_0.2.2.2.2.2.1 (by decide) (fun _ => ?_) (fun c9 => absurd (by decide) c9)
    refine toQ hQ0 ?_
    exact RV hC hP hD hS [0, 1, 2, 3] (1, kf18598, kt18599, so18600, kc18601, gnc8602) rfl rfl (by decide) (Or.inl rfl) gX12_all_1.2.2.2.2
  · have tA8607 := hw8604_0.1
    have tB8607 := hw8604_0.2.1
    have tA8608 := hw8604_1.1
    have tB8608 := hw8604_1.2.1
    have keyD : ∀ (nD : Nat) (vs : Int32) (vf : Nat) (vt : Nat) (vc : Nat) (vC : Nat → Int32) (H : Heap) (locs : List Loc) (ls : Array Slot), (TOK fnt vs vf vt ktp) → (EXPR fnc vC kc vc kf vf) → (241 ≤ vf + nD) → va_PD G A [(h0, oX12 nw nk mhasKept nt (nI ktp) nr mrowMany mroundOf mroundFrom mouts nm mfromHour mtoHour ns (nI vf) (nI vt) vs 0 (nI jd) (nI vc) mlines nl nc nF np ntr nb mbestCost nso nsi nit nsh nsf nss nrc mtraced mdealer mnumber mwhose msize misParted), (nt, iA G 240 fnt), (nc, iA G 100 vC), (nF, sA G 5 (FCT K))] H → va_S A s.heap H locs → lv_has ls 1 [(0, .ref h0)] → W p l e (RM (11 + 4 * mn) 0 0) s m ([.ref h0] : List Value).toArray below meth c H locs 0 0 Q0 (F0 m 4 ls []) := by
      intro nD
      induction nD with
      | zero =>
        intro vs vf vt vc vC H locs ls hTT hEx hT3 hPD hS hl
        refine Kan2 hPD (fun hP hD => ?_)
        have tA8609 := hTT.1
        have tB8609 := hTT.2.1
        have tA8610 := hEx.1
        have tB8610 := hEx.2.1
        exact (show False by omega).elim
      | succ nD ihD =>
        intro vs vf vt vc vC H locs ls hTT hEx hT3 hPD hS hl
        refine Kan2 hPD (fun hP hD => ?_)
        have tA8611 := hTT.1
        have tB8611 := hTT.2.1
        have tA8612 := hEx.1
        have tB8612 := hEx.2.1
        refine lv_aload_n hx hb gX12_all_0.2.2.1 rfl (lv_at0 hl) ?_
        refine va_ldcSw (index := 258) (tx := "and") hx hb hown (hO.2.2 9 (by decide)) gX12_all_0.2.2.2.1 ?_
        refine pVo hO hS hC hK hl hP hD (m_isName0 l G K 9 h0 nw nk mhasKept nt ktp nr mrowMany mroundOf mroundFrom mouts nm mfromHour mtoHour ns vf vt vs (nI jd) (nI vc) mlines nl nc nF np ntr nb mbestCost nso nsi nit nsh nsf nss nrc mtraced mdealer mnumber mwhose msize misParted fnt ((by decide)) (hTT) (htp)) si_X12_248 [0, 1] sm_0_1 fm_0_1 nd_0_1 rfl rfl rfl rfl rfl (Nat.le_of_ble_eq_true rfl) (rmT (Nat.le_of_ble_eq_true rfl) (Nat.le_of_ble_eq_true rfl)) ⟨by first | exact Nat.le_of_ble_eq_true rfl | exact Nat.zero_le _, by first | exact Nat.le_of_ble_eq_true rfl | exact Nat.zero_le _⟩ gX12_all_0.2.2.2.2.1 (Kors (Keqa fun a8614 => ?_) (Keqr ?_))
        · refine lv_if_eq (tgt := 32) hx hb gX12_all_0.2.2.2.2.2.1 (by decide) (fun c9 => absurd c9 (by decide)) (fun _ => ?_)
          refine lv_aload_n hx hb gX12_all_0.2.2.2.2.2.2.1 rfl (lv_at0 hl) ?_
          have tI8615 : vt = vf + 3 := a8614.2
          refine vV (wr := [(nc, iA G 100 vC), (nF, sA G 5 (FCT K))]) hC hK hl hP hD hS hA (m_next l G h0 nw nk mhasKept nt ktp nr mrowMany mroundOf mroundFrom mouts nm mfromHour mtoHour ns (nI vf) vt vs 0 (nI jd) (nI vc) mlines nl nc nF np ntr nb mbestCost nso nsi nit nsh nsf nss nrc mtraced mdealer mnumber mwhose msize misParted fnt (by omega) (htp)) si_X12_233 [0, 1] [2, 3] sm_0_1 fm_0_1 nd_0_1 sm_2_3 nd_2_3 dj_0_1__2_3 rfl rfl rfl rfl rfl (Nat.le_of_ble_eq_true rfl) (rmT (Nat.le_of_ble_eq_true rfl) (Nat.le_of_ble_eq_true rfl)) ⟨Nat.le_of_ble_eq_true rfl, Nat.le_of_ble_eq_true rfl⟩ gX12_all_0.2.2.2.2.2.2.2.1 (Ktu3 fun kf18618 kt18619 so18620 => ?_)
          intro H locs hr8616 hP hD hS
          try dsimp only at hr8616
          refine Kpdr (ws := [(nc, iA G 100 vC), (nF, sA G 5 (FCT K)), (h0, oX12 nw nk mhasKept nt (nI ktp) nr mrowMany mroundOf mroundFrom mouts nm mfromHour mtoHour ns (nI kf18618) (nI kt18619) so18620 0 (nI jd) (nI vc) mlines nl nc nF np ntr nb mbestCost nso nsi nit nsh nsf nss nrc mtraced mdealer mnumber mwhose msize misParted), (nt, iA G 240 fnt)]) hP hD (fun hP hD => ?_)
          have hw8622_0 := hr8616.1
          have hw8622_1 := hr8616.2
          have tA8624 := hw8622_1.1
          have tB8624 := hw8622_1.2.1
          refine lv_aload_n hx hb gX12_all_0.2.2.2.2.2.2.2.2.1 rfl (lv_at0 hl) ?_
          refine vVo (wr := []) hO hC hK hl hP hD hS hA (m_one l G K mn h0 nw nk mhasKept nt ktp nr mrowMany mroundOf mroundFrom mouts nm mfromHour mtoHour ns kf18618 kt18619 so18620 jd vc mlines nl nc nF np ntr nb mbestCost nso nsi nit nsh nsf nss nrc mtraced mdealer mnumber mwhose msize misParted fnt vC (hw8622_1) (by omega) (by omega) (by omega) ihE) si_X12_255 [2, 3, 0, 1] [] sm_2_3_0_1 fm_2_3_0_1 nd_2_3_0_1 rfl rfl (by decide) rfl rfl rfl rfl rfl (Nat.le_of_ble_eq_true rfl) ⟨by simp only [RM]; omega, by simp only [RM]; omega⟩ ⟨Nat.le_of_ble_eq_true rfl, Nat.le_of_ble_eq_true rfl⟩ gX12_all_0.2.2.2.2.2.2.2.2.2 (Ktu6 fun ff18627 kf18628 kt18629 so18630 kc18631 gnc8632 => ?_)
          intro H locs hr8625 hP hD hS
          try dsimp only at hr8625
          refine Kpdr (ws := [(h0, oX12 nw nk mhasKept nt (nI ktp) nr mrowMany mroundOf mroundFrom mouts nm mfromHour mtoHour ns (nI kf18628) (nI kt18629) so18630 ff18627 (nI jd) (nI kc18631) mlines nl nc nF np ntr nb mbestCost nso nsi nit nsh nsf nss nrc mtraced mdealer mnumber mwhose msize misParted), (nt, iA G 240 fnt), (nc, iA G 100 gnc8632), (nF, sA G 5 (FCT K))]) hP hD (fun hP hD => ?_)
          have w8633 := hr8625
          rcases w8633 with rfl | ⟨rfl, hw8634_0, hw8634_1⟩
          · refine lv_aload_n hx hb gX12_all_1.1 rfl (lv_at0 hl) ?_
            refine lv_sipush (v := 30001) hx hb gX12_all_1.2.1 (by decide) ?_
            refine vV (wr := [(nt, iA G 240 fnt), (nc, iA G 100 gnc8632), (nF, sA G 5 (FCT K))]) hC hK hl hP hD hS hA (m_codesF l G h0 30001 nw nk mhasKept nt (nI ktp) nr mrowMany mroundOf mroundFrom mouts nm mfromHour mtoHour ns (nI kf18628) (nI kt18629) so18630 (nI jd) (nI kc18631) mlines nl nc nF np ntr nb mbestCost nso nsi nit nsh nsf nss nrc mtraced mdealer mnumber mwhose msize misParted) si_X12_252 [0] [1, 2, 3] sm_0 fm_0 nd_0 sm_1_2_3 nd_1_2_3 dj_0__1_2_3 rfl rfl rfl rfl rfl (Nat.le_of_ble_eq_true rfl) (rmT (Nat.le_of_ble_eq_true rfl) (Nat.le_of_ble_eq_true rfl)) ⟨Nat.le_of_ble_eq_true rfl, Nat.le_of_ble_eq_true rfl⟩ gX12_all_1.2.2.1 (fun u8636 H locs hr8635 hP hD hS => ?_)
            refine Kpdr (ws := [(nt, iA G 240 fnt), (nc, iA G 100 gnc8632), (nF, sA G 5 (FCT K)), (h0, oX12 nw nk mhasKept nt (nI ktp) nr mrowMany mroundOf mroundFrom mouts nm mfromHour mtoHour ns (nI kf18628) (nI kt18629) so18630 1 (nI jd) (nI kc18631) mlines nl nc nF np ntr nb mbestCost nso nsi nit nsh nsf nss nrc mtraced mdealer mnumber mwhose msize misParted)]) hP hD (fun hP hD => ?_)
            refine lv_goto (tgt := 4) hx hb gX12_all_1.2.2.2.1 (by decide) ?_
            refine lv_aload_n hx hb gX12_all_0.2.2.1 rfl (lv_at0 hl) ?_
            refine va_ldcSw (index := 258) (tx := "and") hx hb hown (hO.2.2 9 (by decide)) gX12_all_0.2.2.2.1 ?_
            refine pVo hO hS hC hK hl hP hD (m_isNameF l G K 9 h0 nw nk mhasKept nt (nI ktp) nr mrowMany mroundOf mroundFrom mouts nm mfromHour mtoHour ns (nI kf18628) (nI kt18629) so18630 (nI jd) (nI kc18631) mlines nl nc nF np ntr nb mbestCost nso nsi nit nsh nsf nss nrc mtraced mdealer mnumber mwhose msize misParted ((by decide))) si_X12_248 [3] sm_3 fm_3 nd_3 rfl rfl rfl rfl rfl (Nat.le_of_ble_eq_true rfl) (rmT (Nat.le_of_ble_eq_true rfl) (Nat.le_of_ble_eq_true rfl)) ⟨by first | exact Nat.le_of_ble_eq_true rfl | exact Nat.zero_le _, by first | exact Nat.le_of_ble_eq_true rfl | exact Nat.zero_le _⟩ gX12_all_0.2.2.2.2.1 (Keqr ?_)
            refine lv_if_eq (tgt := 32) hx hb gX12_all_0.2.2.2.2.2.1 (by decide) (fun _ => ?_) (fun c9 => absurd (by decide) c9)
            refine toQ hQ0 ?_
            exact RV hC hP hD hS [3, 0, 1, 2] (1, kf18628, kt18629, so18630, kc18631, gnc8632) rfl rfl (by decide) (Or.inl rfl) gX12_all_1.2.2.2.2
          · have tA8639 := hw8634_0.1
            have tB8639 := hw8634_0.2.1
            have tA8640 := hw8634_1.1
            have tB8640 := hw8634_1.2.1
            refine lv_aload_n hx hb gX12_all_1.1 rfl (lv_at0 hl) ?_
            refine lv_sipush (v := 30001) hx hb gX12_all_1.2.1 (by decide) ?_
            refine vV (wr := [(nt, iA G 240 fnt), (nF, sA G 5 (FCT K))]) hC hK hl hP hD hS hA (m_codes0 l G h0 30001 nw nk mhasKept nt (nI ktp) nr mrowMany mroundOf mroundFrom mouts nm mfromHour mtoHour ns (nI kf18628) (nI kt18629) so18630 (nI jd) kc18631 mlines nl nc nF np ntr nb mbestCost nso nsi nit nsh nsf nss nrc mtraced mdealer mnumber mwhose msize misParted gnc8632 (by omega)) si_X12_252 [0, 2] [1, 3] sm_0_2 fm_0_2 nd_0_2 sm_1_3 nd_1_3 dj_0_2__1_3 rfl rfl rfl rfl rfl (Nat.le_of_ble_eq_true rfl) (rmT (Nat.le_of_ble_eq_true rfl) (Nat.le_of_ble_eq_true rfl)) ⟨Nat.le_of_ble_eq_true rfl, Nat.le_of_ble_eq_true rfl⟩ gX12_all_1.2.2.1 (fun u8642 H locs hr8641 hP hD hS => ?_)
            refine Kpdr (ws := [(nt, iA G 240 fnt), (nF, sA G 5 (FCT K)), (h0, oX12 nw nk mhasKept nt (nI ktp) nr mrowMany mroundOf mroundFrom mouts nm mfromHour mtoHour ns (nI kf18628) (nI kt18629) so18630 0 (nI jd) (nI (kc18631 + 1)) mlines nl nc nF np ntr nb mbestCost nso nsi nit nsh nsf nss nrc mtraced mdealer mnumber mwhose msize misParted), (nc, iA G 100 (upd gnc8632 kc18631 30001))]) hP hD (fun hP hD => ?_)
            refine lv_goto (tgt := 4) hx hb gX12_all_1.2.2.2.1 (by decide) ?_
            refine Kpds (ws' := [(h0, oX12 nw nk mhasKept nt (nI ktp) nr mrowMany mroundOf mroundFrom mouts nm mfromHour mtoHour ns (nI kf18628) (nI kt18629) so18630 0 (nI jd) (nI (kc18631 + 1)) mlines nl nc nF np ntr nb mbestCost nso nsi nit nsh nsf nss nrc mtraced mdealer mnumber mwhose msize misParted), (nt, iA G 240 fnt), (nc, iA G 100 (upd gnc8632 kc18631 30001)), (nF, sA G 5 (FCT K))]) hP hD [2, 0, 3, 1] fm_2_0_3_1 nd_2_0_3_1 sm_2_0_3_1 (fun hP hD => ?_)
            exact ihD so18630 kf18628 kt18629 (kc18631 + 1) (upd gnc8632 kc18631 30001) _ _ _ (hw8634_0) (EXPR.op hEx hw8634_1 (by omega) (Or.inl rfl)) (by omega) (And.intro hP hD) hS (lv_sub hl [0] rfl)
        · refine lv_if_eq (tgt := 32) hx hb gX12_all_0.2.2.2.2.2.1 (by decide) (fun _ => ?_) (fun c9 => absurd (by decide) c9)
          refine toQ hQ0 ?_
          exact RV hC hP hD hS [0, 1, 2, 3] (0, vf, vt, vs, vc, vC) rfl rfl (by decide) (Or.inr ⟨rfl, hTT, EXPR.wid hEx (by (try dsimp only); omega)⟩) gX12_all_1.2.2.2.2
    exact keyD 241 so18600 kf18598 kt18599 kc18601 gnc8602 _ _ _ (hw8604_0) (hw8604_1) (by omega) (And.intro hP hD) hS (lv_sub hl [0] rfl)
def K_m_either_step (l : Launch) (G : GG) (K : OO) (mn : Nat) (h0 : Nat) (nw : Nat) (nk : Nat) (mhasKept : Int32) (nt : Nat) (ktp : Nat) (nr : Nat) (mrowMany : Int32) (mroundOf : Int32) (mroundFrom : Int32) (mouts : Int32) (nm : Nat) (mfromHour : Int32) (mtoHour : Int32) (ns : Nat) (kf : Nat) (kt : Nat) (so : Int32) (jd : Nat) (kc : Nat) (mlines : Int32) (nl : Nat) (nc : Nat) (nF : Nat) (np : Nat) (ntr : Nat) (nb : Nat) (mbestCost : Int32) (nso : Nat) (nsi : Nat) (nit : Nat) (nsh : Nat) (nsf : Nat) (nss : Nat) (nrc : Nat) (mtraced : Int32) (mdealer : Int32) (mnumber : Int32) (mwhose : Int32) (msize : Int32) (misParted : Int32) (fnt : Nat → Int32) (fnc : Nat → Int32) : Prop := MVo l G K yX12_either cX12_either 1 (12 + 4 * mn) 0 0 [.ref h0] [(h0, oX12 nw nk mhasKept nt (nI ktp) nr mrowMany mroundOf mroundFrom mouts nm mfromHour mtoHour ns (nI kf) (nI kt) so 0 (nI jd) (nI kc) mlines nl nc nF np ntr nb mbestCost nso nsi nit nsh nsf nss nrc mtraced mdealer mnumber mwhose msize misParted), (nt, iA G 240 fnt), (nc, iA G 100 fnc), (nF, sA G 5 (FCT K))] (fun u : Int32 × Nat × Nat × Int32 × Nat × (Nat → Int32) => u.1 = 1 ∨ (u.1 = 0 ∧ TOK fnt u.2.2.2.1 u.2.1 u.2.2.1 ktp ∧ EXPR fnc u.2.2.2.2.2 kc u.2.2.2.2.1 kf u.2.1)) (fun u : Int32 × Nat × Nat × Int32 × Nat × (Nat → Int32) => [(h0, oX12 nw nk mhasKept nt (nI ktp) nr mrowMany mroundOf mroundFrom mouts nm mfromHour mtoHour ns (nI u.2.1) (nI u.2.2.1) u.2.2.2.1 u.1 (nI jd) (nI u.2.2.2.2.1) mlines nl nc nF np ntr nb mbestCost nso nsi nit nsh nsf nss nrc mtraced mdealer mnumber mwhose msize misParted), (nt, iA G 240 fnt), (nc, iA G 100 u.2.2.2.2.2), (nF, sA G 5 (FCT K))])
set_option maxHeartbeats 4000000 in
set_option maxRecDepth 100000 in
theorem m_either_step (l : Launch) (G : GG) (K : OO) (mn : Nat) (h0 : Nat) (nw : Nat) (nk : Nat) (mhasKept : Int32) (nt : Nat) (ktp : Nat) (nr : Nat) (mrowMany : Int32) (mroundOf : Int32) (mroundFrom : Int32) (mouts : Int32) (nm : Nat) (mfromHour : Int32) (mtoHour : Int32) (ns : Nat) (kf : Nat) (kt : Nat) (so : Int32) (jd : Nat) (kc : Nat) (mlines : Int32) (nl : Nat) (nc : Nat) (nF : Nat) (np : Nat) (ntr : Nat) (nb : Nat) (mbestCost : Int32) (nso : Nat) (nsi : Nat) (nit : Nat) (nsh : Nat) (nsf : Nat) (nss : Nat) (nrc : Nat) (mtraced : Int32) (mdealer : Int32) (mnumber : Int32) (mwhose : Int32) (msize : Int32) (misParted : Int32) (fnt : Nat → Int32) (fnc : Nat → Int32) (hT : TOK fnt so kf kt ktp) (htp : ktp ≤ 240) (h3c : 3 * kc ≤ kf) (hjm : jd + mn = 4) (ihE : ∀ m9, m9 < mn → ∀ (h0 : Nat) (nw : Nat) (nk : Nat) (mhasKept : Int32) (nt : Nat) (ktp : Nat) (nr : Nat) (mrowMany : Int32) (mroundOf : Int32) (mroundFrom : Int32) (mouts : Int32) (nm : Nat) (mfromHour : Int32) (mtoHour : Int32) (ns : Nat) (kf : Nat) (kt : Nat) (so : Int32) (jd : Nat) (kc : Nat) (mlines : Int32) (nl : Nat) (nc : Nat) (nF : Nat) (np : Nat) (ntr : Nat) (nb : Nat) (mbestCost : Int32) (nso : Nat) (nsi : Nat) (nit : Nat) (nsh : Nat) (nsf : Nat) (nss : Nat) (nrc : Nat) (mtraced : Int32) (mdealer : Int32) (mnumber : Int32) (mwhose : Int32) (msize : Int32) (misParted : Int32) (fnt : Nat → Int32) (fnc : Nat → Int32) (hT : TOK fnt so kf kt ktp) (htp : ktp ≤ 240) (h3c : 3 * kc ≤ kf) (hjm : jd + m9 = 4), MVo l G K yX12_either cX12_either 1 (12 + 4 * m9) 0 0 [.ref h0] [(h0, oX12 nw nk mhasKept nt (nI ktp) nr mrowMany mroundOf mroundFrom mouts nm mfromHour mtoHour ns (nI kf) (nI kt) so 0 (nI jd) (nI kc) mlines nl nc nF np ntr nb mbestCost nso nsi nit nsh nsf nss nrc mtraced mdealer mnumber mwhose msize misParted), (nt, iA G 240 fnt), (nc, iA G 100 fnc), (nF, sA G 5 (FCT K))] (fun u : Int32 × Nat × Nat × Int32 × Nat × (Nat → Int32) => u.1 = 1 ∨ (u.1 = 0 ∧ TOK fnt u.2.2.2.1 u.2.1 u.2.2.1 ktp ∧ EXPR fnc u.2.2.2.2.2 kc u.2.2.2.2.1 kf u.2.1)) (fun u : Int32 × Nat × Nat × Int32 × Nat × (Nat → Int32) => [(h0, oX12 nw nk mhasKept nt (nI ktp) nr mrowMany mroundOf mroundFrom mouts nm mfromHour mtoHour ns (nI u.2.1) (nI u.2.2.1) u.2.2.2.1 u.1 (nI jd) (nI u.2.2.2.2.1) mlines nl nc nF np ntr nb mbestCost nso nsi nit nsh nsf nss nrc mtraced mdealer mnumber mwhose msize misParted), (nt, iA G 240 fnt), (nc, iA G 100 u.2.2.2.2.2), (nF, sA G 5 (FCT K))])) : K_m_either_step l G K mn h0 nw nk mhasKept nt ktp nr mrowMany mroundOf mroundFrom mouts nm mfromHour mtoHour ns kf kt so jd kc mlines nl nc nF np ntr nb mbestCost nso nsi nit nsh nsf nss nrc mtraced mdealer mnumber mwhose msize misParted fnt fnc := by
  refine MVo.start (by decide +kernel) (Nat.le_of_ble_eq_true rfl) ?_
  intro p e s m below meth c A ls hC hK hP hD hS hA hl hO
  refine absQ (fun Q0 hQ0 => ?_)
  have hl : lv_has ls 1 [(0, .ref h0)] := hl
  refine Kan8 hC (fun hx hb hr hml hB hown hlocks hnm => ?_)
  refine lv_aload_n hx hb gX12_either_0.1 rfl (lv_at0 hl) ?_
  refine vVo (wr := []) hO hC hK hl hP hD hS hA (m_all l G K mn h0 nw nk mhasKept nt ktp nr mrowMany mroundOf mroundFrom mouts nm mfromHour mtoHour ns kf kt so jd kc mlines nl nc nF np ntr nb mbestCost nso nsi nit nsh nsf nss nrc mtraced mdealer mnumber mwhose msize misParted fnt fnc (hT) (by omega) (by omega) (by omega) ihE) si_X12_243 [0, 1, 2, 3] [] sm_0_1_2_3 fm_0_1_2_3 nd_0_1_2_3 rfl rfl (by decide) rfl rfl rfl rfl rfl (Nat.le_of_ble_eq_true rfl) ⟨by simp only [RM]; omega, by simp only [RM]; omega⟩ ⟨Nat.le_of_ble_eq_true rfl, Nat.le_of_ble_eq_true rfl⟩ gX12_either_0.2.1 (Ktu6 fun ff18645 kf18646 kt18647 so18648 kc18649 gnc8650 => ?_)
  intro H locs hr8643 hP hD hS
  try dsimp only at hr8643
  refine Kpdr (ws := [(h0, oX12 nw nk mhasKept nt (nI ktp) nr mrowMany mroundOf mroundFrom mouts nm mfromHour mtoHour ns (nI kf18646) (nI kt18647) so18648 ff18645 (nI jd) (nI kc18649) mlines nl nc nF np ntr nb mbestCost nso nsi nit nsh nsf nss nrc mtraced mdealer mnumber mwhose msize misParted), (nt, iA G 240 fnt), (nc, iA G 100 gnc8650), (nF, sA G 5 (FCT K))]) hP hD (fun hP hD => ?_)
  have w8651 := hr8643
  rcases w8651 with rfl | ⟨rfl, hw8652_0, hw8652_1⟩
  · refine lv_aload_n hx hb gX12_either_0.2.2.1 rfl (lv_at0 hl) ?_
    refine va_ldcS (index := 246) (tx := "o\x72") hx hb hown (hO.2.2 8 (by decide)) gX12_either_0.2.2.2.1 ?_
    refine pVo hO hS hC hK hl hP hD (m_isNameF l G K 8 h0 nw nk mhasKept nt (nI ktp) nr mrowMany mroundOf mroundFrom mouts nm mfromHour mtoHour ns (nI kf18646) (nI kt18647) so18648 (nI jd) (nI kc18649) mlines nl nc nF np ntr nb mbestCost nso nsi nit nsh nsf nss nrc mtraced mdealer mnumber mwhose msize misParted ((by decide))) si_X12_248 [0] sm_0 fm_0 nd_0 rfl rfl rfl rfl rfl (Nat.le_of_ble_eq_true rfl) (rmT (Nat.le_of_ble_eq_true rfl) (Nat.le_of_ble_eq_true rfl)) ⟨by first | exact Nat.le_of_ble_eq_true rfl | exact Nat.zero_le _, by first | exact Nat.le_of_ble_eq_true rfl | exact Nat.zero_le _⟩ gX12_either_0.2.2.2.2.1 (Keqr ?_)
    refine lv_if_eq (tgt := 31) hx hb gX12_either_0.2.2.2.2.2.1 (by decide) (fun _ => ?_) (fun c9 => absurd (by decide) c9)
    refine toQ hQ0 ?_
    exact RV hC hP hD hS [0, 1, 2, 3] (1, kf18646, kt18647, so18648, kc18649, gnc8650) rfl rfl (by decide) (Or.inl rfl) gX12_either_1.2.2.2.2
  · have tA8655 := hw8652_0.1
    have tB8655 := hw8652_0.2.1
    have tA8656 := hw8652_1.1
    have tB8656 := hw8652_1.2.1
    have keyD : ∀ (nD : Nat) (vs : Int32) (vf : Nat) (vt : Nat) (vc : Nat) (vC : Nat → Int32) (H : Heap) (locs : List Loc) (ls : Array Slot), (TOK fnt vs vf vt ktp) → (EXPR fnc vC kc vc kf vf) → (241 ≤ vf + nD) → va_PD G A [(h0, oX12 nw nk mhasKept nt (nI ktp) nr mrowMany mroundOf mroundFrom mouts nm mfromHour mtoHour ns (nI vf) (nI vt) vs 0 (nI jd) (nI vc) mlines nl nc nF np ntr nb mbestCost nso nsi nit nsh nsf nss nrc mtraced mdealer mnumber mwhose msize misParted), (nt, iA G 240 fnt), (nc, iA G 100 vC), (nF, sA G 5 (FCT K))] H → va_S A s.heap H locs → lv_has ls 1 [(0, .ref h0)] → W p l e (RM (12 + 4 * mn) 0 0) s m ([.ref h0] : List Value).toArray below meth c H locs 0 0 Q0 (F0 m 4 ls []) := by
      intro nD
      induction nD with
      | zero =>
        intro vs vf vt vc vC H locs ls hTT hEx hT3 hPD hS hl
        refine Kan2 hPD (fun hP hD => ?_)
        have tA8657 := hTT.1
        have tB8657 := hTT.2.1
        have tA8658 := hEx.1
        have tB8658 := hEx.2.1
        exact (show False by omega).elim
      | succ nD ihD =>
        intro vs vf vt vc vC H locs ls hTT hEx hT3 hPD hS hl
        refine Kan2 hPD (fun hP hD => ?_)
        have tA8659 := hTT.1
        have tB8659 := hTT.2.1
        have tA8660 := hEx.1
        have tB8660 := hEx.2.1
        refine lv_aload_n hx hb gX12_either_0.2.2.1 rfl (lv_at0 hl) ?_
        refine va_ldcS (index := 246) (tx := "o\x72") hx hb hown (hO.2.2 8 (by decide)) gX12_either_0.2.2.2.1 ?_
        refine pVo hO hS hC hK hl hP hD (m_isName0 l G K 8 h0 nw nk mhasKept nt ktp nr mrowMany mroundOf mroundFrom mouts nm mfromHour mtoHour ns vf vt vs (nI jd) (nI vc) mlines nl nc nF np ntr nb mbestCost nso nsi nit nsh nsf nss nrc mtraced mdealer mnumber mwhose msize misParted fnt ((by decide)) (hTT) (htp)) si_X12_248 [0, 1] sm_0_1 fm_0_1 nd_0_1 rfl rfl rfl rfl rfl (Nat.le_of_ble_eq_true rfl) (rmT (Nat.le_of_ble_eq_true rfl) (Nat.le_of_ble_eq_true rfl)) ⟨by first | exact Nat.le_of_ble_eq_true rfl | exact Nat.zero_le _, by first | exact Nat.le_of_ble_eq_true rfl | exact Nat.zero_le _⟩ gX12_either_0.2.2.2.2.1 (Kors (Keqa fun a8662 => ?_) (Keqr ?_))
        · refine lv_if_eq (tgt := 31) hx hb gX12_either_0.2.2.2.2.2.1 (by decide) (fun c9 => absurd c9 (by decide)) (fun _ => ?_)
          refine lv_aload_n hx hb gX12_either_0.2.2.2.2.2.2.1 rfl (lv_at0 hl) ?_
          have tI8663 : vt = vf + 2 := a8662.2
          refine vV (wr := [(nc, iA G 100 vC), (nF, sA G 5 (FCT K))]) hC hK hl hP hD hS hA (m_next l G h0 nw nk mhasKept nt ktp nr mrowMany mroundOf mroundFrom mouts nm mfromHour mtoHour ns (nI vf) vt vs 0 (nI jd) (nI vc) mlines nl nc nF np ntr nb mbestCost nso nsi nit nsh nsf nss nrc mtraced mdealer mnumber mwhose msize misParted fnt (by omega) (htp)) si_X12_233 [0, 1] [2, 3] sm_0_1 fm_0_1 nd_0_1 sm_2_3 nd_2_3 dj_0_1__2_3 rfl rfl rfl rfl rfl (Nat.le_of_ble_eq_true rfl) (rmT (Nat.le_of_ble_eq_true rfl) (Nat.le_of_ble_eq_true rfl)) ⟨Nat.le_of_ble_eq_true rfl, Nat.le_of_ble_eq_true rfl⟩ gX12_either_0.2.2.2.2.2.2.2.1 (Ktu3 fun kf18666 kt18667 so18668 => ?_)
          intro H locs hr8664 hP hD hS
          try dsimp only at hr8664
          refine Kpdr (ws := [(nc, iA G 100 vC), (nF, sA G 5 (FCT K)), (h0, oX12 nw nk mhasKept nt (nI ktp) nr mrowMany mroundOf mroundFrom mouts nm mfromHour mtoHour ns (nI kf18666) (nI kt18667) so18668 0 (nI jd) (nI vc) mlines nl nc nF np ntr nb mbestCost nso nsi nit nsh nsf nss nrc mtraced mdealer mnumber mwhose msize misParted), (nt, iA G 240 fnt)]) hP hD (fun hP hD => ?_)
          have hw8670_0 := hr8664.1
          have hw8670_1 := hr8664.2
          have tA8672 := hw8670_1.1
          have tB8672 := hw8670_1.2.1
          refine lv_aload_n hx hb gX12_either_0.2.2.2.2.2.2.2.2.1 rfl (lv_at0 hl) ?_
          refine vVo (wr := []) hO hC hK hl hP hD hS hA (m_all l G K mn h0 nw nk mhasKept nt ktp nr mrowMany mroundOf mroundFrom mouts nm mfromHour mtoHour ns kf18666 kt18667 so18668 jd vc mlines nl nc nF np ntr nb mbestCost nso nsi nit nsh nsf nss nrc mtraced mdealer mnumber mwhose msize misParted fnt vC (hw8670_1) (by omega) (by omega) (by omega) ihE) si_X12_243 [2, 3, 0, 1] [] sm_2_3_0_1 fm_2_3_0_1 nd_2_3_0_1 rfl rfl (by decide) rfl rfl rfl rfl rfl (Nat.le_of_ble_eq_true rfl) ⟨by simp only [RM]; omega, by simp only [RM]; omega⟩ ⟨Nat.le_of_ble_eq_true rfl, Nat.le_of_ble_eq_true rfl⟩ gX12_either_0.2.2.2.2.2.2.2.2.2 (Ktu6 fun ff18675 kf18676 kt18677 so18678 kc18679 gnc8680 => ?_)
          intro H locs hr8673 hP hD hS
          try dsimp only at hr8673
          refine Kpdr (ws := [(h0, oX12 nw nk mhasKept nt (nI ktp) nr mrowMany mroundOf mroundFrom mouts nm mfromHour mtoHour ns (nI kf18676) (nI kt18677) so18678 ff18675 (nI jd) (nI kc18679) mlines nl nc nF np ntr nb mbestCost nso nsi nit nsh nsf nss nrc mtraced mdealer mnumber mwhose msize misParted), (nt, iA G 240 fnt), (nc, iA G 100 gnc8680), (nF, sA G 5 (FCT K))]) hP hD (fun hP hD => ?_)
          have w8681 := hr8673
          rcases w8681 with rfl | ⟨rfl, hw8682_0, hw8682_1⟩
          · refine lv_aload_n hx hb gX12_either_1.1 rfl (lv_at0 hl) ?_
            refine lv_sipush (v := 30002) hx hb gX12_either_1.2.1 (by decide) ?_
            refine vV (wr := [(nt, iA G 240 fnt), (nc, iA G 100 gnc8680), (nF, sA G 5 (FCT K))]) hC hK hl hP hD hS hA (m_codesF l G h0 30002 nw nk mhasKept nt (nI ktp) nr mrowMany mroundOf mroundFrom mouts nm mfromHour mtoHour ns (nI kf18676) (nI kt18677) so18678 (nI jd) (nI kc18679) mlines nl nc nF np ntr nb mbestCost nso nsi nit nsh nsf nss nrc mtraced mdealer mnumber mwhose msize misParted) si_X12_252 [0] [1, 2, 3] sm_0 fm_0 nd_0 sm_1_2_3 nd_1_2_3 dj_0__1_2_3 rfl rfl rfl rfl rfl (Nat.le_of_ble_eq_true rfl) (rmT (Nat.le_of_ble_eq_true rfl) (Nat.le_of_ble_eq_true rfl)) ⟨Nat.le_of_ble_eq_true rfl, Nat.le_of_ble_eq_true rfl⟩ gX12_either_1.2.2.1 (fun u8684 H locs hr8683 hP hD hS => ?_)
            refine Kpdr (ws := [(nt, iA G 240 fnt), (nc, iA G 100 gnc8680), (nF, sA G 5 (FCT K)), (h0, oX12 nw nk mhasKept nt (nI ktp) nr mrowMany mroundOf mroundFrom mouts nm mfromHour mtoHour ns (nI kf18676) (nI kt18677) so18678 1 (nI jd) (nI kc18679) mlines nl nc nF np ntr nb mbestCost nso nsi nit nsh nsf nss nrc mtraced mdealer mnumber mwhose msize misParted)]) hP hD (fun hP hD => ?_)
            refine lv_goto (tgt := 4) hx hb gX12_either_1.2.2.2.1 (by decide) ?_
            refine lv_aload_n hx hb gX12_either_0.2.2.1 rfl (lv_at0 hl) ?_
            refine va_ldcS (index := 246) (tx := "o\x72") hx hb hown (hO.2.2 8 (by decide)) gX12_either_0.2.2.2.1 ?_
            refine pVo hO hS hC hK hl hP hD (m_isNameF l G K 8 h0 nw nk mhasKept nt (nI ktp) nr mrowMany mroundOf mroundFrom mouts nm mfromHour mtoHour ns (nI kf18676) (nI kt18677) so18678 (nI jd) (nI kc18679) mlines nl nc nF np ntr nb mbestCost nso nsi nit nsh nsf nss nrc mtraced mdealer mnumber mwhose msize misParted ((by decide))) si_X12_248 [3] sm_3 fm_3 nd_3 rfl rfl rfl rfl rfl (Nat.le_of_ble_eq_true rfl) (rmT (Nat.le_of_ble_eq_true rfl) (Nat.le_of_ble_eq_true rfl)) ⟨by first | exact Nat.le_of_ble_eq_true rfl | exact Nat.zero_le _, by first | exact Nat.le_of_ble_eq_true rfl | exact Nat.zero_le _⟩ gX12_either_0.2.2.2.2.1 (Keqr ?_)
            refine lv_if_eq (tgt := 31) hx hb gX12_either_0.2.2.2.2.2.1 (by decide) (fun _ => ?_) (fun c9 => absurd (by decide) c9)
            refine toQ hQ0 ?_
            exact RV hC hP hD hS [3, 0, 1, 2] (1, kf18676, kt18677, so18678, kc18679, gnc8680) rfl rfl (by decide) (Or.inl rfl) gX12_either_1.2.2.2.2
          · have tA8687 := hw8682_0.1
            have tB8687 := hw8682_0.2.1
            have tA8688 := hw8682_1.1
            have tB8688 := hw8682_1.2.1
            refine lv_aload_n hx hb gX12_either_1.1 rfl (lv_at0 hl) ?_
            refine lv_sipush (v := 30002) hx hb gX12_either_1.2.1 (by decide) ?_
            refine vV (wr := [(nt, iA G 240 fnt), (nF, sA G 5 (FCT K))]) hC hK hl hP hD hS hA (m_codes0 l G h0 30002 nw nk mhasKept nt (nI ktp) nr mrowMany mroundOf mroundFrom mouts nm mfromHour mtoHour ns (nI kf18676) (nI kt18677) so18678 (nI jd) kc18679 mlines nl nc nF np ntr nb mbestCost nso nsi nit nsh nsf nss nrc mtraced mdealer mnumber mwhose msize misParted gnc8680 (by omega)) si_X12_252 [0, 2] [1, 3] sm_0_2 fm_0_2 nd_0_2 sm_1_3 nd_1_3 dj_0_2__1_3 rfl rfl rfl rfl rfl (Nat.le_of_ble_eq_true rfl) (rmT (Nat.le_of_ble_eq_true rfl) (Nat.le_of_ble_eq_true rfl)) ⟨Nat.le_of_ble_eq_true rfl, Nat.le_of_ble_eq_true rfl⟩ gX12_either_1.2.2.1 (fun u8690 H locs hr8689 hP hD hS => ?_)
            refine Kpdr (ws := [(nt, iA G 240 fnt), (nF, sA G 5 (FCT K)), (h0, oX12 nw nk mhasKept nt (nI ktp) nr mrowMany mroundOf mroundFrom mouts nm mfromHour mtoHour ns (nI kf18676) (nI kt18677) so18678 0 (nI jd) (nI (kc18679 + 1)) mlines nl nc nF np ntr nb mbestCost nso nsi nit nsh nsf nss nrc mtraced mdealer mnumber mwhose msize misParted), (nc, iA G 100 (upd gnc8680 kc18679 30002))]) hP hD (fun hP hD => ?_)
            refine lv_goto (tgt := 4) hx hb gX12_either_1.2.2.2.1 (by decide) ?_
            refine Kpds (ws' := [(h0, oX12 nw nk mhasKept nt (nI ktp) nr mrowMany mroundOf mroundFrom mouts nm mfromHour mtoHour ns (nI kf18676) (nI kt18677) so18678 0 (nI jd) (nI (kc18679 + 1)) mlines nl nc nF np ntr nb mbestCost nso nsi nit nsh nsf nss nrc mtraced mdealer mnumber mwhose msize misParted), (nt, iA G 240 fnt), (nc, iA G 100 (upd gnc8680 kc18679 30002)), (nF, sA G 5 (FCT K))]) hP hD [2, 0, 3, 1] fm_2_0_3_1 nd_2_0_3_1 sm_2_0_3_1 (fun hP hD => ?_)
            exact ihD so18678 kf18676 kt18677 (kc18679 + 1) (upd gnc8680 kc18679 30002) _ _ _ (hw8682_0) (EXPR.op hEx hw8682_1 (by omega) (Or.inr rfl)) (by omega) (And.intro hP hD) hS (lv_sub hl [0] rfl)
        · refine lv_if_eq (tgt := 31) hx hb gX12_either_0.2.2.2.2.2.1 (by decide) (fun _ => ?_) (fun c9 => absurd (by decide) c9)
          refine toQ hQ0 ?_
          exact RV hC hP hD hS [0, 1, 2, 3] (0, vf, vt, vs, vc, vC) rfl rfl (by decide) (Or.inr ⟨rfl, hTT, EXPR.wid hEx (by (try dsimp only); omega)⟩) gX12_either_1.2.2.2.2
    exact keyD 241 so18648 kf18646 kt18647 kc18649 gnc8650 _ _ _ (hw8652_0) (hw8652_1) (by omega) (And.intro hP hD) hS (lv_sub hl [0] rfl)
theorem m_either (l : Launch) (G : GG) (K : OO) : ∀ (mn : Nat) (h0 : Nat) (nw : Nat) (nk : Nat) (mhasKept : Int32) (nt : Nat) (ktp : Nat) (nr : Nat) (mrowMany : Int32) (mroundOf : Int32) (mroundFrom : Int32) (mouts : Int32) (nm : Nat) (mfromHour : Int32) (mtoHour : Int32) (ns : Nat) (kf : Nat) (kt : Nat) (so : Int32) (jd : Nat) (kc : Nat) (mlines : Int32) (nl : Nat) (nc : Nat) (nF : Nat) (np : Nat) (ntr : Nat) (nb : Nat) (mbestCost : Int32) (nso : Nat) (nsi : Nat) (nit : Nat) (nsh : Nat) (nsf : Nat) (nss : Nat) (nrc : Nat) (mtraced : Int32) (mdealer : Int32) (mnumber : Int32) (mwhose : Int32) (msize : Int32) (misParted : Int32) (fnt : Nat → Int32) (fnc : Nat → Int32) (hT : TOK fnt so kf kt ktp) (htp : ktp ≤ 240) (h3c : 3 * kc ≤ kf) (hjm : jd + mn = 4), MVo l G K yX12_either cX12_either 1 (12 + 4 * mn) 0 0 [.ref h0] [(h0, oX12 nw nk mhasKept nt (nI ktp) nr mrowMany mroundOf mroundFrom mouts nm mfromHour mtoHour ns (nI kf) (nI kt) so 0 (nI jd) (nI kc) mlines nl nc nF np ntr nb mbestCost nso nsi nit nsh nsf nss nrc mtraced mdealer mnumber mwhose msize misParted), (nt, iA G 240 fnt), (nc, iA G 100 fnc), (nF, sA G 5 (FCT K))] (fun u : Int32 × Nat × Nat × Int32 × Nat × (Nat → Int32) => u.1 = 1 ∨ (u.1 = 0 ∧ TOK fnt u.2.2.2.1 u.2.1 u.2.2.1 ktp ∧ EXPR fnc u.2.2.2.2.2 kc u.2.2.2.2.1 kf u.2.1)) (fun u : Int32 × Nat × Nat × Int32 × Nat × (Nat → Int32) => [(h0, oX12 nw nk mhasKept nt (nI ktp) nr mrowMany mroundOf mroundFrom mouts nm mfromHour mtoHour ns (nI u.2.1) (nI u.2.2.1) u.2.2.2.1 u.1 (nI jd) (nI u.2.2.2.2.1) mlines nl nc nF np ntr nb mbestCost nso nsi nit nsh nsf nss nrc mtraced mdealer mnumber mwhose msize misParted), (nt, iA G 240 fnt), (nc, iA G 100 u.2.2.2.2.2), (nF, sA G 5 (FCT K))]) := by
  intro mn
  induction mn using Nat.strongRecOn with
  | ind mn ih => exact fun h0 nw nk mhasKept nt ktp nr mrowMany mroundOf mroundFrom mouts nm mfromHour mtoHour ns kf kt so jd kc mlines nl nc nF np ntr nb mbestCost nso nsi nit nsh nsf nss nrc mtraced mdealer mnumber mwhose msize misParted fnt fnc hT htp h3c hjm => m_either_step l G K mn h0 nw nk mhasKept nt ktp nr mrowMany mroundOf mroundFrom mouts nm mfromHour mtoHour ns kf kt so jd kc mlines nl nc nF np ntr nb mbestCost nso nsi nit nsh nsf nss nrc mtraced mdealer mnumber mwhose msize misParted fnt fnc hT htp h3c hjm ih
def K_m_lineAt (l : Launch) (G : GG) (K : OO) (h0 : Nat) (ja : Nat) (nw : Nat) (nk : Nat) (mhasKept : Int32) (nt : Nat) (ktp : Nat) (nr : Nat) (mrowMany : Int32) (mroundOf : Int32) (mroundFrom : Int32) (mouts : Int32) (nm : Nat) (mfromHour : Int32) (mtoHour : Int32) (ns : Nat) (kf : Nat) (kt : Nat) (so : Int32) (kc : Nat) (mlines : Int32) (nl : Nat) (nc : Nat) (nF : Nat) (np : Nat) (ntr : Nat) (nb : Nat) (mbestCost : Int32) (nso : Nat) (nsi : Nat) (nit : Nat) (nsh : Nat) (nsf : Nat) (nss : Nat) (nrc : Nat) (mtraced : Int32) (mdealer : Int32) (mnumber : Int32) (mwhose : Int32) (msize : Int32) (misParted : Int32) (fnt : Nat → Int32) (fnc : Nat → Int32) (fnl : Nat → Int32) : Prop := MVo l G K yX12_lineAt cX12_lineAt 3 32 0 0 [.ref h0, .int (nI ja)] [(h0, oX12 nw nk mhasKept nt (nI ktp) nr mrowMany mroundOf mroundFrom mouts nm mfromHour mtoHour ns (nI kf) (nI kt) so 0 0 (nI kc) mlines nl nc nF np ntr nb mbestCost nso nsi nit nsh nsf nss nrc mtraced mdealer mnumber mwhose msize misParted), (nt, iA G 240 fnt), (nc, iA G 100 fnc), (nl, iA G 54 fnl), (nF, sA G 5 (FCT K))] (fun u : Int32 × Nat × Nat × Int32 × Nat × (Nat → Int32) × (Nat → Int32) => u.1 = 1 ∨ (u.1 = 0 ∧ TOK fnt u.2.2.2.1 u.2.1 u.2.2.1 ktp ∧ LINE fnl u.2.2.2.2.2.2 fnc u.2.2.2.2.2.1 ja kc u.2.2.2.2.1 u.2.1)) (fun u : Int32 × Nat × Nat × Int32 × Nat × (Nat → Int32) × (Nat → Int32) => [(h0, oX12 nw nk mhasKept nt (nI ktp) nr mrowMany mroundOf mroundFrom mouts nm mfromHour mtoHour ns (nI u.2.1) (nI u.2.2.1) u.2.2.2.1 u.1 0 (nI u.2.2.2.2.1) mlines nl nc nF np ntr nb mbestCost nso nsi nit nsh nsf nss nrc mtraced mdealer mnumber mwhose msize misParted), (nt, iA G 240 fnt), (nc, iA G 100 u.2.2.2.2.2.1), (nl, iA G 54 u.2.2.2.2.2.2), (nF, sA G 5 (FCT K))])
set_option maxHeartbeats 4000000 in
set_option maxRecDepth 100000 in
theorem m_lineAt (l : Launch) (G : GG) (K : OO) (h0 : Nat) (ja : Nat) (nw : Nat) (nk : Nat) (mhasKept : Int32) (nt : Nat) (ktp : Nat) (nr : Nat) (mrowMany : Int32) (mroundOf : Int32) (mroundFrom : Int32) (mouts : Int32) (nm : Nat) (mfromHour : Int32) (mtoHour : Int32) (ns : Nat) (kf : Nat) (kt : Nat) (so : Int32) (kc : Nat) (mlines : Int32) (nl : Nat) (nc : Nat) (nF : Nat) (np : Nat) (ntr : Nat) (nb : Nat) (mbestCost : Int32) (nso : Nat) (nsi : Nat) (nit : Nat) (nsh : Nat) (nsf : Nat) (nss : Nat) (nrc : Nat) (mtraced : Int32) (mdealer : Int32) (mnumber : Int32) (mwhose : Int32) (msize : Int32) (misParted : Int32) (fnt : Nat → Int32) (fnc : Nat → Int32) (fnl : Nat → Int32) (hT : TOK fnt so kf kt ktp) (htp : ktp ≤ 240) (h3c : 3 * kc ≤ kf) (hja : ja + 6 ≤ 54) : K_m_lineAt l G K h0 ja nw nk mhasKept nt ktp nr mrowMany mroundOf mroundFrom mouts nm mfromHour mtoHour ns kf kt so kc mlines nl nc nF np ntr nb mbestCost nso nsi nit nsh nsf nss nrc mtraced mdealer mnumber mwhose msize misParted fnt fnc fnl := by
  refine MVo.start (by decide +kernel) (Nat.le_of_ble_eq_true rfl) ?_
  intro p e s m below meth c A ls hC hK hP hD hS hA hl hO
  refine absQ (fun Q0 hQ0 => ?_)
  have hl : lv_has ls 3 [(0, .ref h0), (1, .int (nI ja))] := hl
  refine Kan8 hC (fun hx hb hr hml hB hown hlocks hnm => ?_)
  have tA := hT.1
  have tB := hT.2.1
  refine lv_aload_n hx hb gX12_lineAt_0.1 rfl (lv_at0 hl) ?_
  refine va_ldcSw (index := 274) (tx := "taken") hx hb hown (hO.2.2 1 (by decide)) gX12_lineAt_0.2.1 ?_
  refine pVo hO hS hC hK hl hP hD (m_isName0 l G K 1 h0 nw nk mhasKept nt ktp nr mrowMany mroundOf mroundFrom mouts nm mfromHour mtoHour ns kf kt so 0 (nI kc) mlines nl nc nF np ntr nb mbestCost nso nsi nit nsh nsf nss nrc mtraced mdealer mnumber mwhose msize misParted fnt ((by decide)) (hT) (htp)) si_X12_248 [0, 1] sm_0_1 fm_0_1 nd_0_1 rfl rfl rfl rfl rfl (Nat.le_of_ble_eq_true rfl) rm_32_5_4 ⟨by first | exact Nat.le_of_ble_eq_true rfl | exact Nat.zero_le _, by first | exact Nat.le_of_ble_eq_true rfl | exact Nat.zero_le _⟩ gX12_lineAt_0.2.2.1 (Kors (Keqa fun a8692 => ?_) (Keqr ?_))
  · refine lv_if_eq (tgt := 14) hx hb gX12_lineAt_0.2.2.2.1 (by decide) (fun c9 => absurd c9 (by decide)) (fun _ => ?_)
    refine lv_iconst (v := 0) hx hb gX12_lineAt_0.2.2.2.2.1 (by decide) ?_
    refine lv_goto (tgt := 57) hx hb gX12_lineAt_0.2.2.2.2.2.1 (by decide) ?_
    refine lv_istore_n (lv' := [(2, .int 0), (0, .ref h0), (1, .int (nI ja))]) hx hb gX12_lineAt_2.2.2.2.2.2.1 rfl hl (by decide) rfl (fun ls hl => ?_)
    refine lv_aload_n hx hb gX12_lineAt_2.2.2.2.2.2.2.1 rfl (lv_at1 hl) ?_
    refine lv_iload_n hx hb gX12_lineAt_2.2.2.2.2.2.2.2.1 rfl (lv_at0 hl) ?_
    refine lv_if_lt (tgt := 67) hx hb gX12_lineAt_2.2.2.2.2.2.2.2.2.1 (by decide) (fun c9 => absurd c9 (by decide)) (fun _ => ?_)
    refine lv_iconst (v := 1) hx hb gX12_lineAt_2.2.2.2.2.2.2.2.2.2 (by decide) ?_
    refine lv_goto (tgt := 68) hx hb gX12_lineAt_3.1 (by decide) ?_
    have tI8693 : kt = kf + 5 := a8692.2
    refine vV (wr := [(nc, iA G 100 fnc), (nl, iA G 54 fnl), (nF, sA G 5 (FCT K))]) hC hK hl hP hD hS hA (m_need1 l G h0 nw nk mhasKept nt ktp nr mrowMany mroundOf mroundFrom mouts nm mfromHour mtoHour ns (nI kf) kt so 0 (nI kc) mlines nl nc nF np ntr nb mbestCost nso nsi nit nsh nsf nss nrc mtraced mdealer mnumber mwhose msize misParted fnt (by omega) (htp)) si_X12_236 [0, 1] [2, 3, 4] sm_0_1 fm_0_1 nd_0_1 sm_2_3_4 nd_2_3_4 dj_0_1__2_3_4 rfl rfl rfl rfl rfl (Nat.le_of_ble_eq_true rfl) rm_32_4_2 ⟨Nat.le_of_ble_eq_true rfl, Nat.le_of_ble_eq_true rfl⟩ gX12_lineAt_3.2.2.1 (Ktu3 fun kf18696 kt18697 so18698 => ?_)
    intro H locs hr8694 hP hD hS
    try dsimp only at hr8694
    refine Kpdr (ws := [(nc, iA G 100 fnc), (nl, iA G 54 fnl), (nF, sA G 5 (FCT K)), (h0, oX12 nw nk mhasKept nt (nI ktp) nr mrowMany mroundOf mroundFrom mouts nm mfromHour mtoHour ns (nI kf18696) (nI kt18697) so18698 0 0 (nI kc) mlines nl nc nF np ntr nb mbestCost nso nsi nit nsh nsf nss nrc mtraced mdealer mnumber mwhose msize misParted), (nt, iA G 240 fnt)]) hP hD (fun hP hD => ?_)
    have hw8700_0 := hr8694.1
    have hw8700_1 := hr8694.2
    have tA8702 := hw8700_1.1
    have tB8702 := hw8700_1.2.1
    refine lv_aload_n hx hb gX12_lineAt_3.2.2.2.1 rfl (lv_at1 hl) ?_
    refine gf_X12_32 hC rfl hK hP 3 rfl rfl gX12_lineAt_3.2.2.2.2.1 ?_
    refine lv_iload_n hx hb gX12_lineAt_3.2.2.2.2.2.1 rfl (lv_at2 hl) ?_
    refine lv_iload_n hx hb gX12_lineAt_3.2.2.2.2.2.2.1 rfl (lv_at0 hl) ?_
    refine astN hC hK hP hD hS 1 (ws' := [(nc, iA G 100 fnc), (nl, iA G 54 (upd fnl ja 0)), (nF, sA G 5 (FCT K)), (h0, oX12 nw nk mhasKept nt (nI ktp) nr mrowMany mroundOf mroundFrom mouts nm mfromHour mtoHour ns (nI kf18696) (nI kt18697) so18698 0 0 (nI kc) mlines nl nc nF np ntr nb mbestCost nso nsi nit nsh nsf nss nrc mtraced mdealer mnumber mwhose msize misParted), (nt, iA G 240 fnt)]) rfl (k := ja) (by omega) (Nat.le_of_ble_eq_true rfl) (rfl) gX12_lineAt_3.2.2.2.2.2.2.2.1 (fun H locs hP hD hS => ?_)
    refine lv_aload_n hx hb gX12_lineAt_3.2.2.2.2.2.2.2.2.1 rfl (lv_at1 hl) ?_
    refine gf_X12_32 hC rfl hK hP 3 rfl rfl gX12_lineAt_3.2.2.2.2.2.2.2.2.2 ?_
    refine lv_iload_n hx hb gX12_lineAt_4.1 rfl (lv_at2 hl) ?_
    refine lv_iconst (v := 1) hx hb gX12_lineAt_4.2.1 (by decide) ?_
    refine lv_iadd hx hb gX12_lineAt_4.2.2.1 ?_
    refine eqi (x1 := nI (ja + 1)) (nI_add ja 1) ?_
    refine lv_aload_n hx hb gX12_lineAt_4.2.2.2.1 rfl (lv_at1 hl) ?_
    refine lv_iload_n hx hb gX12_lineAt_4.2.2.2.2.1 rfl (lv_at0 hl) ?_
    refine lv_if_eq (tgt := 95) hx hb gX12_lineAt_4.2.2.2.2.2.1 (by decide) (fun _ => ?_) (fun c9 => absurd (by decide) c9)
    refine lv_bipush (v := 99) hx hb gX12_lineAt_4.2.2.2.2.2.2.2.2.2 (by decide) ?_
    refine lv_goto (tgt := 112) hx hb gX12_lineAt_5.1 (by decide) ?_
    refine iV (wr := [(nc, iA G 100 fnc), (nl, iA G 54 (upd fnl ja 0)), (nF, sA G 5 (FCT K))]) hC hK hl hP hD hS hA (m_number0 l G h0 99 nw nk mhasKept nt ktp nr mrowMany mroundOf mroundFrom mouts nm mfromHour mtoHour ns kf18696 kt18697 so18698 0 (nI kc) mlines nl nc nF np ntr nb mbestCost nso nsi nit nsh nsf nss nrc mtraced mdealer mnumber mwhose msize misParted fnt (hw8700_1) (htp) (by omega)) si_X12_271 [3, 4] [0, 1, 2] sm_3_4 fm_3_4 nd_3_4 sm_0_1_2 nd_0_1_2 dj_3_4__0_1_2 rfl rfl rfl rfl rfl (Nat.le_of_ble_eq_true rfl) rm_32_5_5 ⟨Nat.le_of_ble_eq_true rfl, Nat.le_of_ble_eq_true rfl⟩ gX12_lineAt_5.2.2.2.2.2.2.2.1 (fun r8703 => Ktu4 fun ff18705 kf18706 kt18707 so18708 => ?_)
    intro H locs hr8703 hP hD hS
    try dsimp only at hr8703
    refine Kpdr (ws := [(nc, iA G 100 fnc), (nl, iA G 54 (upd fnl ja 0)), (nF, sA G 5 (FCT K)), (h0, oX12 nw nk mhasKept nt (nI ktp) nr mrowMany mroundOf mroundFrom mouts nm mfromHour mtoHour ns (nI kf18706) (nI kt18707) so18708 ff18705 0 (nI kc) mlines nl nc nF np ntr nb mbestCost nso nsi nit nsh nsf nss nrc mtraced mdealer mnumber mwhose msize misParted), (nt, iA G 240 fnt)]) hP hD (fun hP hD => ?_)
    obtain ⟨hr8703, w8709⟩ := hr8703
    rcases w8709 with rfl | ⟨rfl, ⟨v_8710, hv_8710, rfl⟩, hw8710_1, hw8710_2⟩
    · refine astN hC hK hP hD hS 1 (ws' := [(nc, iA G 100 fnc), (nl, iA G 54 (upd (upd fnl ja 0) (ja + 1) r8703)), (nF, sA G 5 (FCT K)), (h0, oX12 nw nk mhasKept nt (nI ktp) nr mrowMany mroundOf mroundFrom mouts nm mfromHour mtoHour ns (nI kf18706) (nI kt18707) so18708 1 0 (nI kc) mlines nl nc nF np ntr nb mbestCost nso nsi nit nsh nsf nss nrc mtraced mdealer mnumber mwhose msize misParted), (nt, iA G 240 fnt)]) rfl (k := (ja + 1)) (by omega) (Nat.le_of_ble_eq_true rfl) (rfl) gX12_lineAt_5.2.2.2.2.2.2.2.2.1 (fun H locs hP hD hS => ?_)
      refine lv_aload_n hx hb gX12_lineAt_5.2.2.2.2.2.2.2.2.2 rfl (lv_at1 hl) ?_
      refine gf_X12_32 hC rfl hK hP 3 rfl rfl gX12_lineAt_6.1 ?_
      refine lv_iload_n hx hb gX12_lineAt_6.2.1 rfl (lv_at2 hl) ?_
      refine lv_iconst (v := 2) hx hb gX12_lineAt_6.2.2.1 (by decide) ?_
      refine lv_iadd hx hb gX12_lineAt_6.2.2.2.1 ?_
      refine eqi (x1 := nI (ja + 2)) (nI_add ja 2) ?_
      refine lv_bipush (v := (-9)) hx hb gX12_lineAt_6.2.2.2.2.1 (by decide) ?_
      refine astN hC hK hP hD hS 1 (ws' := [(nc, iA G 100 fnc), (nl, iA G 54 (upd (upd (upd fnl ja 0) (ja + 1) r8703) (ja + 2) (-9))), (nF, sA G 5 (FCT K)), (h0, oX12 nw nk mhasKept nt (nI ktp) nr mrowMany mroundOf mroundFrom mouts nm mfromHour mtoHour ns (nI kf18706) (nI kt18707) so18708 1 0 (nI kc) mlines nl nc nF np ntr nb mbestCost nso nsi nit nsh nsf nss nrc mtraced mdealer mnumber mwhose msize misParted), (nt, iA G 240 fnt)]) rfl (k := (ja + 2)) (by omega) (Nat.le_of_ble_eq_true rfl) (rfl) gX12_lineAt_6.2.2.2.2.2.1 (fun H locs hP hD hS => ?_)
      refine lv_aload_n hx hb gX12_lineAt_6.2.2.2.2.2.2.1 rfl (lv_at1 hl) ?_
      refine gf_X12_32 hC rfl hK hP 3 rfl rfl gX12_lineAt_6.2.2.2.2.2.2.2.1 ?_
      refine lv_iload_n hx hb gX12_lineAt_6.2.2.2.2.2.2.2.2.1 rfl (lv_at2 hl) ?_
      refine lv_iconst (v := 3) hx hb gX12_lineAt_6.2.2.2.2.2.2.2.2.2 (by decide) ?_
      refine lv_iadd hx hb gX12_lineAt_7.1 ?_
      refine eqi (x1 := nI (ja + 3)) (nI_add ja 3) ?_
      refine lv_bipush (v := (-9)) hx hb gX12_lineAt_7.2.1 (by decide) ?_
      refine astN hC hK hP hD hS 1 (ws' := [(nc, iA G 100 fnc), (nl, iA G 54 (upd (upd (upd (upd fnl ja 0) (ja + 1) r8703) (ja + 2) (-9)) (ja + 3) (-9))), (nF, sA G 5 (FCT K)), (h0, oX12 nw nk mhasKept nt (nI ktp) nr mrowMany mroundOf mroundFrom mouts nm mfromHour mtoHour ns (nI kf18706) (nI kt18707) so18708 1 0 (nI kc) mlines nl nc nF np ntr nb mbestCost nso nsi nit nsh nsf nss nrc mtraced mdealer mnumber mwhose msize misParted), (nt, iA G 240 fnt)]) rfl (k := (ja + 3)) (by omega) (Nat.le_of_ble_eq_true rfl) (rfl) gX12_lineAt_7.2.2.1 (fun H locs hP hD hS => ?_)
      refine lv_iload_n hx hb gX12_lineAt_7.2.2.2.1 rfl (lv_at0 hl) ?_
      refine lv_if_ne (tgt := 190) hx hb gX12_lineAt_7.2.2.2.2.1 (by decide) (fun c9 => absurd (by decide) c9) (fun _ => ?_)
      refine lv_aload_n hx hb gX12_lineAt_7.2.2.2.2.2.1 rfl (lv_at1 hl) ?_
      refine lv_aload_n hx hb gX12_lineAt_7.2.2.2.2.2.2.1 rfl (lv_at1 hl) ?_
      refine va_ldcSw (index := 282) (tx := "of") hx hb hown (hO.2.2 5 (by decide)) gX12_lineAt_7.2.2.2.2.2.2.2.1 ?_
      refine pVo hO hS hC hK hl hP hD (m_isNameF l G K 5 h0 nw nk mhasKept nt (nI ktp) nr mrowMany mroundOf mroundFrom mouts nm mfromHour mtoHour ns (nI kf18706) (nI kt18707) so18708 0 (nI kc) mlines nl nc nF np ntr nb mbestCost nso nsi nit nsh nsf nss nrc mtraced mdealer mnumber mwhose msize misParted ((by decide))) si_X12_248 [3] sm_3 fm_3 nd_3 rfl rfl rfl rfl rfl (Nat.le_of_ble_eq_true rfl) rm_32_5_4 ⟨by first | exact Nat.le_of_ble_eq_true rfl | exact Nat.zero_le _, by first | exact Nat.le_of_ble_eq_true rfl | exact Nat.zero_le _⟩ gX12_lineAt_7.2.2.2.2.2.2.2.2.1 (Keqr ?_)
      refine vV (wr := [(nc, iA G 100 fnc), (nl, iA G 54 (upd (upd (upd (upd fnl ja 0) (ja + 1) r8703) (ja + 2) (-9)) (ja + 3) (-9))), (nF, sA G 5 (FCT K)), (nt, iA G 240 fnt)]) hC hK hl hP hD hS hA (m_needF l G h0 0 nw nk mhasKept nt (nI ktp) nr mrowMany mroundOf mroundFrom mouts nm mfromHour mtoHour ns (nI kf18706) (nI kt18707) so18708 0 (nI kc) mlines nl nc nF np ntr nb mbestCost nso nsi nit nsh nsf nss nrc mtraced mdealer mnumber mwhose msize misParted) si_X12_236 [3] [0, 1, 2, 4] sm_3 fm_3 nd_3 sm_0_1_2_4 nd_0_1_2_4 dj_3__0_1_2_4 rfl rfl rfl rfl rfl (Nat.le_of_ble_eq_true rfl) rm_32_4_2 ⟨Nat.le_of_ble_eq_true rfl, Nat.le_of_ble_eq_true rfl⟩ gX12_lineAt_7.2.2.2.2.2.2.2.2.2 (fun u8714 H locs hr8713 hP hD hS => ?_)
      refine Kpdr (ws := [(nc, iA G 100 fnc), (nl, iA G 54 (upd (upd (upd (upd fnl ja 0) (ja + 1) r8703) (ja + 2) (-9)) (ja + 3) (-9))), (nF, sA G 5 (FCT K)), (nt, iA G 240 fnt), (h0, oX12 nw nk mhasKept nt (nI ktp) nr mrowMany mroundOf mroundFrom mouts nm mfromHour mtoHour ns (nI kf18706) (nI kt18707) so18708 1 0 (nI kc) mlines nl nc nF np ntr nb mbestCost nso nsi nit nsh nsf nss nrc mtraced mdealer mnumber mwhose msize misParted)]) hP hD (fun hP hD => ?_)
      refine lv_aload_n hx hb gX12_lineAt_8.1 rfl (lv_at1 hl) ?_
      refine gf_X12_32 hC rfl hK hP 4 rfl rfl gX12_lineAt_8.2.1 ?_
      refine lv_iload_n hx hb gX12_lineAt_8.2.2.1 rfl (lv_at2 hl) ?_
      refine lv_iconst (v := 2) hx hb gX12_lineAt_8.2.2.2.1 (by decide) ?_
      refine lv_iadd hx hb gX12_lineAt_8.2.2.2.2.1 ?_
      refine eqi (x1 := nI (ja + 2)) (nI_add ja 2) ?_
      refine lv_aload_n hx hb gX12_lineAt_8.2.2.2.2.2.1 rfl (lv_at1 hl) ?_
      refine lv_bipush (v := 7) hx hb gX12_lineAt_8.2.2.2.2.2.2.1 (by decide) ?_
      refine iV (wr := [(nc, iA G 100 fnc), (nl, iA G 54 (upd (upd (upd (upd fnl ja 0) (ja + 1) r8703) (ja + 2) (-9)) (ja + 3) (-9))), (nF, sA G 5 (FCT K)), (nt, iA G 240 fnt)]) hC hK hl hP hD hS hA (m_numberF l G h0 7 nw nk mhasKept nt (nI ktp) nr mrowMany mroundOf mroundFrom mouts nm mfromHour mtoHour ns (nI kf18706) (nI kt18707) so18708 0 (nI kc) mlines nl nc nF np ntr nb mbestCost nso nsi nit nsh nsf nss nrc mtraced mdealer mnumber mwhose msize misParted) si_X12_271 [4] [0, 1, 2, 3] sm_4 fm_4 nd_4 sm_0_1_2_3 nd_0_1_2_3 dj_4__0_1_2_3 rfl rfl rfl rfl rfl (Nat.le_of_ble_eq_true rfl) rm_32_5_5 ⟨Nat.le_of_ble_eq_true rfl, Nat.le_of_ble_eq_true rfl⟩ gX12_lineAt_8.2.2.2.2.2.2.2.1 (fun r8715 u8716 H locs hr8715 hP hD hS => ?_)
      refine Kpdr (ws := [(nc, iA G 100 fnc), (nl, iA G 54 (upd (upd (upd (upd fnl ja 0) (ja + 1) r8703) (ja + 2) (-9)) (ja + 3) (-9))), (nF, sA G 5 (FCT K)), (nt, iA G 240 fnt), (h0, oX12 nw nk mhasKept nt (nI ktp) nr mrowMany mroundOf mroundFrom mouts nm mfromHour mtoHour ns (nI kf18706) (nI kt18707) so18708 1 0 (nI kc) mlines nl nc nF np ntr nb mbestCost nso nsi nit nsh nsf nss nrc mtraced mdealer mnumber mwhose msize misParted)]) hP hD (fun hP hD => ?_)
      obtain rfl := hr8715
      refine astN hC hK hP hD hS 1 (ws' := [(nc, iA G 100 fnc), (nl, iA G 54 (upd (upd (upd (upd (upd fnl ja 0) (ja + 1) r8703) (ja + 2) (-9)) (ja + 3) (-9)) (ja + 2) 0)), (nF, sA G 5 (FCT K)), (nt, iA G 240 fnt), (h0, oX12 nw nk mhasKept nt (nI ktp) nr mrowMany mroundOf mroundFrom mouts nm mfromHour mtoHour ns (nI kf18706) (nI kt18707) so18708 1 0 (nI kc) mlines nl nc nF np ntr nb mbestCost nso nsi nit nsh nsf nss nrc mtraced mdealer mnumber mwhose msize misParted)]) rfl (k := (ja + 2)) (by omega) (Nat.le_of_ble_eq_true rfl) (rfl) gX12_lineAt_8.2.2.2.2.2.2.2.2.1 (fun H locs hP hD hS => ?_)
      refine lv_aload_n hx hb gX12_lineAt_8.2.2.2.2.2.2.2.2.2 rfl (lv_at1 hl) ?_
      refine lv_aload_n hx hb gX12_lineAt_9.1 rfl (lv_at1 hl) ?_
      refine va_ldcSw (index := 284) (tx := "from") hx hb hown (hO.2.2 6 (by decide)) gX12_lineAt_9.2.1 ?_
      refine pVo hO hS hC hK hl hP hD (m_isNameF l G K 6 h0 nw nk mhasKept nt (nI ktp) nr mrowMany mroundOf mroundFrom mouts nm mfromHour mtoHour ns (nI kf18706) (nI kt18707) so18708 0 (nI kc) mlines nl nc nF np ntr nb mbestCost nso nsi nit nsh nsf nss nrc mtraced mdealer mnumber mwhose msize misParted ((by decide))) si_X12_248 [4] sm_4 fm_4 nd_4 rfl rfl rfl rfl rfl (Nat.le_of_ble_eq_true rfl) rm_32_5_4 ⟨by first | exact Nat.le_of_ble_eq_true rfl | exact Nat.zero_le _, by first | exact Nat.le_of_ble_eq_true rfl | exact Nat.zero_le _⟩ gX12_lineAt_9.2.2.1 (Keqr ?_)
      refine vV (wr := [(nc, iA G 100 fnc), (nl, iA G 54 (upd (upd (upd (upd (upd fnl ja 0) (ja + 1) r8703) (ja + 2) (-9)) (ja + 3) (-9)) (ja + 2) 0)), (nF, sA G 5 (FCT K)), (nt, iA G 240 fnt)]) hC hK hl hP hD hS hA (m_needF l G h0 0 nw nk mhasKept nt (nI ktp) nr mrowMany mroundOf mroundFrom mouts nm mfromHour mtoHour ns (nI kf18706) (nI kt18707) so18708 0 (nI kc) mlines nl nc nF np ntr nb mbestCost nso nsi nit nsh nsf nss nrc mtraced mdealer mnumber mwhose msize misParted) si_X12_236 [4] [0, 1, 2, 3] sm_4 fm_4 nd_4 sm_0_1_2_3 nd_0_1_2_3 dj_4__0_1_2_3 rfl rfl rfl rfl rfl (Nat.le_of_ble_eq_true rfl) rm_32_4_2 ⟨Nat.le_of_ble_eq_true rfl, Nat.le_of_ble_eq_true rfl⟩ gX12_lineAt_9.2.2.2.1 (fun u8721 H locs hr8720 hP hD hS => ?_)
      refine Kpdr (ws := [(nc, iA G 100 fnc), (nl, iA G 54 (upd (upd (upd (upd (upd fnl ja 0) (ja + 1) r8703) (ja + 2) (-9)) (ja + 3) (-9)) (ja + 2) 0)), (nF, sA G 5 (FCT K)), (nt, iA G 240 fnt), (h0, oX12 nw nk mhasKept nt (nI ktp) nr mrowMany mroundOf mroundFrom mouts nm mfromHour mtoHour ns (nI kf18706) (nI kt18707) so18708 1 0 (nI kc) mlines nl nc nF np ntr nb mbestCost nso nsi nit nsh nsf nss nrc mtraced mdealer mnumber mwhose msize misParted)]) hP hD (fun hP hD => ?_)
      refine lv_aload_n hx hb gX12_lineAt_9.2.2.2.2.1 rfl (lv_at1 hl) ?_
      refine gf_X12_32 hC rfl hK hP 4 rfl rfl gX12_lineAt_9.2.2.2.2.2.1 ?_
      refine lv_iload_n hx hb gX12_lineAt_9.2.2.2.2.2.2.1 rfl (lv_at2 hl) ?_
      refine lv_iconst (v := 3) hx hb gX12_lineAt_9.2.2.2.2.2.2.2.1 (by decide) ?_
      refine lv_iadd hx hb gX12_lineAt_9.2.2.2.2.2.2.2.2.1 ?_
      refine eqi (x1 := nI (ja + 3)) (nI_add ja 3) ?_
      refine lv_aload_n hx hb gX12_lineAt_9.2.2.2.2.2.2.2.2.2 rfl (lv_at1 hl) ?_
      refine lv_bipush (v := 7) hx hb gX12_lineAt_10.1 (by decide) ?_
      refine iV (wr := [(nc, iA G 100 fnc), (nl, iA G 54 (upd (upd (upd (upd (upd fnl ja 0) (ja + 1) r8703) (ja + 2) (-9)) (ja + 3) (-9)) (ja + 2) 0)), (nF, sA G 5 (FCT K)), (nt, iA G 240 fnt)]) hC hK hl hP hD hS hA (m_numberF l G h0 7 nw nk mhasKept nt (nI ktp) nr mrowMany mroundOf mroundFrom mouts nm mfromHour mtoHour ns (nI kf18706) (nI kt18707) so18708 0 (nI kc) mlines nl nc nF np ntr nb mbestCost nso nsi nit nsh nsf nss nrc mtraced mdealer mnumber mwhose msize misParted) si_X12_271 [4] [0, 1, 2, 3] sm_4 fm_4 nd_4 sm_0_1_2_3 nd_0_1_2_3 dj_4__0_1_2_3 rfl rfl rfl rfl rfl (Nat.le_of_ble_eq_true rfl) rm_32_5_5 ⟨Nat.le_of_ble_eq_true rfl, Nat.le_of_ble_eq_true rfl⟩ gX12_lineAt_10.2.1 (fun r8722 u8723 H locs hr8722 hP hD hS => ?_)
      refine Kpdr (ws := [(nc, iA G 100 fnc), (nl, iA G 54 (upd (upd (upd (upd (upd fnl ja 0) (ja + 1) r8703) (ja + 2) (-9)) (ja + 3) (-9)) (ja + 2) 0)), (nF, sA G 5 (FCT K)), (nt, iA G 240 fnt), (h0, oX12 nw nk mhasKept nt (nI ktp) nr mrowMany mroundOf mroundFrom mouts nm mfromHour mtoHour ns (nI kf18706) (nI kt18707) so18708 1 0 (nI kc) mlines nl nc nF np ntr nb mbestCost nso nsi nit nsh nsf nss nrc mtraced mdealer mnumber mwhose msize misParted)]) hP hD (fun hP hD => ?_)
      obtain rfl := hr8722
      refine astN hC hK hP hD hS 1 (ws' := [(nc, iA G 100 fnc), (nl, iA G 54 (upd (upd (upd (upd (upd (upd fnl ja 0) (ja + 1) r8703) (ja + 2) (-9)) (ja + 3) (-9)) (ja + 2) 0) (ja + 3) 0)), (nF, sA G 5 (FCT K)), (nt, iA G 240 fnt), (h0, oX12 nw nk mhasKept nt (nI ktp) nr mrowMany mroundOf mroundFrom mouts nm mfromHour mtoHour ns (nI kf18706) (nI kt18707) so18708 1 0 (nI kc) mlines nl nc nF np ntr nb mbestCost nso nsi nit nsh nsf nss nrc mtraced mdealer mnumber mwhose msize misParted)]) rfl (k := (ja + 3)) (by omega) (Nat.le_of_ble_eq_true rfl) (rfl) gX12_lineAt_10.2.2.1 (fun H locs hP hD hS => ?_)
      refine lv_iload_n hx hb gX12_lineAt_10.2.2.2.1 rfl (lv_at0 hl) ?_
      refine lv_iconst (v := 2) hx hb gX12_lineAt_10.2.2.2.2.1 (by decide) ?_
      refine lv_icmp_ne (tgt := 221) hx hb gX12_lineAt_10.2.2.2.2.2.1 (by decide) (fun _ => ?_) (fun c9 => absurd c9 (by decide))
      refine lv_aload_n hx hb gX12_lineAt_12.1 rfl (lv_at1 hl) ?_
      refine gf_X12_32 hC rfl hK hP 4 rfl rfl gX12_lineAt_12.2.1 ?_
      refine lv_iload_n hx hb gX12_lineAt_12.2.2.1 rfl (lv_at2 hl) ?_
      refine lv_iconst (v := 4) hx hb gX12_lineAt_12.2.2.2.1 (by decide) ?_
      refine lv_iadd hx hb gX12_lineAt_12.2.2.2.2.1 ?_
      refine eqi (x1 := nI (ja + 4)) (nI_add ja 4) ?_
      refine lv_aload_n hx hb gX12_lineAt_12.2.2.2.2.2.1 rfl (lv_at1 hl) ?_
      refine gf_X12_240 hC rfl hK hP 4 rfl rfl gX12_lineAt_12.2.2.2.2.2.2.1 ?_
      refine astN hC hK hP hD hS 1 (ws' := [(nc, iA G 100 fnc), (nl, iA G 54 (upd (upd (upd (upd (upd (upd (upd fnl ja 0) (ja + 1) r8703) (ja + 2) (-9)) (ja + 3) (-9)) (ja + 2) 0) (ja + 3) 0) (ja + 4) (nI kc))), (nF, sA G 5 (FCT K)), (nt, iA G 240 fnt), (h0, oX12 nw nk mhasKept nt (nI ktp) nr mrowMany mroundOf mroundFrom mouts nm mfromHour mtoHour ns (nI kf18706) (nI kt18707) so18708 1 0 (nI kc) mlines nl nc nF np ntr nb mbestCost nso nsi nit nsh nsf nss nrc mtraced mdealer mnumber mwhose msize misParted)]) rfl (k := (ja + 4)) (by omega) (Nat.le_of_ble_eq_true rfl) (rfl) gX12_lineAt_12.2.2.2.2.2.2.2.1 (fun H locs hP hD hS => ?_)
      refine lv_iload_n hx hb gX12_lineAt_12.2.2.2.2.2.2.2.2.1 rfl (lv_at0 hl) ?_
      refine lv_iconst (v := 3) hx hb gX12_lineAt_12.2.2.2.2.2.2.2.2.2 (by decide) ?_
      refine lv_icmp_eq (tgt := 256) hx hb gX12_lineAt_13.1 (by decide) (fun c9 => absurd c9 (by decide)) (fun _ => ?_)
      refine lv_aload_n hx hb gX12_lineAt_13.2.1 rfl (lv_at1 hl) ?_
      refine va_ldcSw (index := 287) (tx := "if") hx hb hown (hO.2.2 0 (by decide)) gX12_lineAt_13.2.2.1 ?_
      refine pVo hO hS hC hK hl hP hD (m_isNameF l G K 0 h0 nw nk mhasKept nt (nI ktp) nr mrowMany mroundOf mroundFrom mouts nm mfromHour mtoHour ns (nI kf18706) (nI kt18707) so18708 0 (nI kc) mlines nl nc nF np ntr nb mbestCost nso nsi nit nsh nsf nss nrc mtraced mdealer mnumber mwhose msize misParted ((by decide))) si_X12_248 [4] sm_4 fm_4 nd_4 rfl rfl rfl rfl rfl (Nat.le_of_ble_eq_true rfl) rm_32_5_4 ⟨by first | exact Nat.le_of_ble_eq_true rfl | exact Nat.zero_le _, by first | exact Nat.le_of_ble_eq_true rfl | exact Nat.zero_le _⟩ gX12_lineAt_13.2.2.2.1 (Keqr ?_)
      refine lv_if_eq (tgt := 256) hx hb gX12_lineAt_13.2.2.2.2.1 (by decide) (fun _ => ?_) (fun c9 => absurd (by decide) c9)
      refine lv_aload_n hx hb gX12_lineAt_13.2.2.2.2.2.2.2.2.2 rfl (lv_at1 hl) ?_
      refine gf_X12_32 hC rfl hK hP 4 rfl rfl gX12_lineAt_14.1 ?_
      refine lv_iload_n hx hb gX12_lineAt_14.2.1 rfl (lv_at2 hl) ?_
      refine lv_iconst (v := 5) hx hb gX12_lineAt_14.2.2.1 (by decide) ?_
      refine lv_iadd hx hb gX12_lineAt_14.2.2.2.1 ?_
      refine eqi (x1 := nI (ja + 5)) (nI_add ja 5) ?_
      refine lv_aload_n hx hb gX12_lineAt_14.2.2.2.2.1 rfl (lv_at1 hl) ?_
      refine gf_X12_240 hC rfl hK hP 4 rfl rfl gX12_lineAt_14.2.2.2.2.2.1 ?_
      refine astN hC hK hP hD hS 1 (ws' := [(nc, iA G 100 fnc), (nl, iA G 54 (upd (upd (upd (upd (upd (upd (upd (upd fnl ja 0) (ja + 1) r8703) (ja + 2) (-9)) (ja + 3) (-9)) (ja + 2) 0) (ja + 3) 0) (ja + 4) (nI kc)) (ja + 5) (nI kc))), (nF, sA G 5 (FCT K)), (nt, iA G 240 fnt), (h0, oX12 nw nk mhasKept nt (nI ktp) nr mrowMany mroundOf mroundFrom mouts nm mfromHour mtoHour ns (nI kf18706) (nI kt18707) so18708 1 0 (nI kc) mlines nl nc nF np ntr nb mbestCost nso nsi nit nsh nsf nss nrc mtraced mdealer mnumber mwhose msize misParted)]) rfl (k := (ja + 5)) (by omega) (Nat.le_of_ble_eq_true rfl) (rfl) gX12_lineAt_14.2.2.2.2.2.2.1 (fun H locs hP hD hS => ?_)
      refine lv_aload_n hx hb gX12_lineAt_14.2.2.2.2.2.2.2.1 rfl (lv_at1 hl) ?_
      refine lv_aload_n hx hb gX12_lineAt_14.2.2.2.2.2.2.2.2.1 rfl (lv_at1 hl) ?_
      refine lv_bipush (v := 59) hx hb gX12_lineAt_14.2.2.2.2.2.2.2.2.2 (by decide) ?_
      refine pV hC hK hl hP hD (m_isSignF l G h0 59 nw nk mhasKept nt (nI ktp) nr mrowMany mroundOf mroundFrom mouts nm mfromHour mtoHour ns (nI kf18706) (nI kt18707) so18708 0 (nI kc) mlines nl nc nF np ntr nb mbestCost nso nsi nit nsh nsf nss nrc mtraced mdealer mnumber mwhose msize misParted) si_X12_262 [4] sm_4 fm_4 nd_4 rfl rfl rfl rfl rfl (Nat.le_of_ble_eq_true rfl) rm_32_1_2 ⟨by first | exact Nat.le_of_ble_eq_true rfl | exact Nat.zero_le _, by first | exact Nat.le_of_ble_eq_true rfl | exact Nat.zero_le _⟩ gX12_lineAt_15.1 (Keqr ?_)
      refine vV (wr := [(nc, iA G 100 fnc), (nl, iA G 54 (upd (upd (upd (upd (upd (upd (upd (upd fnl ja 0) (ja + 1) r8703) (ja + 2) (-9)) (ja + 3) (-9)) (ja + 2) 0) (ja + 3) 0) (ja + 4) (nI kc)) (ja + 5) (nI kc))), (nF, sA G 5 (FCT K)), (nt, iA G 240 fnt)]) hC hK hl hP hD hS hA (m_needF l G h0 0 nw nk mhasKept nt (nI ktp) nr mrowMany mroundOf mroundFrom mouts nm mfromHour mtoHour ns (nI kf18706) (nI kt18707) so18708 0 (nI kc) mlines nl nc nF np ntr nb mbestCost nso nsi nit nsh nsf nss nrc mtraced mdealer mnumber mwhose msize misParted) si_X12_236 [4] [0, 1, 2, 3] sm_4 fm_4 nd_4 sm_0_1_2_3 nd_0_1_2_3 dj_4__0_1_2_3 rfl rfl rfl rfl rfl (Nat.le_of_ble_eq_true rfl) rm_32_4_2 ⟨Nat.le_of_ble_eq_true rfl, Nat.le_of_ble_eq_true rfl⟩ gX12_lineAt_15.2.1 (fun u8730 H locs hr8729 hP hD hS => ?_)
      refine Kpdr (ws := [(nc, iA G 100 fnc), (nl, iA G 54 (upd (upd (upd (upd (upd (upd (upd (upd fnl ja 0) (ja + 1) r8703) (ja + 2) (-9)) (ja + 3) (-9)) (ja + 2) 0) (ja + 3) 0) (ja + 4) (nI kc)) (ja + 5) (nI kc))), (nF, sA G 5 (FCT K)), (nt, iA G 240 fnt), (h0, oX12 nw nk mhasKept nt (nI ktp) nr mrowMany mroundOf mroundFrom mouts nm mfromHour mtoHour ns (nI kf18706) (nI kt18707) so18708 1 0 (nI kc) mlines nl nc nF np ntr nb mbestCost nso nsi nit nsh nsf nss nrc mtraced mdealer mnumber mwhose msize misParted)]) hP hD (fun hP hD => ?_)
      refine toQ hQ0 ?_
      exact RV hC hP hD hS [4, 3, 0, 1, 2] (1, kf18706, kt18707, so18708, kc, fnc, upd (upd (upd (upd (upd (upd (upd (upd fnl ja 0) (ja + 1) r8703) (ja + 2) (-9)) (ja + 3) (-9)) (ja + 2) 0) (ja + 3) 0) (ja + 4) (nI kc)) (ja + 5) (nI kc)) rfl rfl (by decide) (Or.inl rfl) gX12_lineAt_15.2.2
    · have tA8732 := hw8710_2.1
      have tB8732 := hw8710_2.2.1
      refine astN hC hK hP hD hS 1 (ws' := [(nc, iA G 100 fnc), (nl, iA G 54 (upd (upd fnl ja 0) (ja + 1) (nI v_8710))), (nF, sA G 5 (FCT K)), (h0, oX12 nw nk mhasKept nt (nI ktp) nr mrowMany mroundOf mroundFrom mouts nm mfromHour mtoHour ns (nI kf18706) (nI kt18707) so18708 0 0 (nI kc) mlines nl nc nF np ntr nb mbestCost nso nsi nit nsh nsf nss nrc mtraced mdealer mnumber mwhose msize misParted), (nt, iA G 240 fnt)]) rfl (k := (ja + 1)) (by omega) (Nat.le_of_ble_eq_true rfl) (rfl) gX12_lineAt_5.2.2.2.2.2.2.2.2.1 (fun H locs hP hD hS => ?_)
      refine lv_aload_n hx hb gX12_lineAt_5.2.2.2.2.2.2.2.2.2 rfl (lv_at1 hl) ?_
      refine gf_X12_32 hC rfl hK hP 3 rfl rfl gX12_lineAt_6.1 ?_
      refine lv_iload_n hx hb gX12_lineAt_6.2.1 rfl (lv_at2 hl) ?_
      refine lv_iconst (v := 2) hx hb gX12_lineAt_6.2.2.1 (by decide) ?_
      refine lv_iadd hx hb gX12_lineAt_6.2.2.2.1 ?_
      refine eqi (x1 := nI (ja + 2)) (nI_add ja 2) ?_
      refine lv_bipush (v := (-9)) hx hb gX12_lineAt_6.2.2.2.2.1 (by decide) ?_
      refine astN hC hK hP hD hS 1 (ws' := [(nc, iA G 100 fnc), (nl, iA G 54 (upd (upd (upd fnl ja 0) (ja + 1) (nI v_8710)) (ja + 2) (-9))), (nF, sA G 5 (FCT K)), (h0, oX12 nw nk mhasKept nt (nI ktp) nr mrowMany mroundOf mroundFrom mouts nm mfromHour mtoHour ns (nI kf18706) (nI kt18707) so18708 0 0 (nI kc) mlines nl nc nF np ntr nb mbestCost nso nsi nit nsh nsf nss nrc mtraced mdealer mnumber mwhose msize misParted), (nt, iA G 240 fnt)]) rfl (k := (ja + 2)) (by omega) (Nat.le_of_ble_eq_true rfl) (rfl) gX12_lineAt_6.2.2.2.2.2.1 (fun H locs hP hD hS => ?_)
      refine lv_aload_n hx hb gX12_lineAt_6.2.2.2.2.2.2.1 rfl (lv_at1 hl) ?_
      refine gf_X12_32 hC rfl hK hP 3 rfl rfl gX12_lineAt_6.2.2.2.2.2.2.2.1 ?_
      refine lv_iload_n hx hb gX12_lineAt_6.2.2.2.2.2.2.2.2.1 rfl (lv_at2 hl) ?_
      refine lv_iconst (v := 3) hx hb gX12_lineAt_6.2.2.2.2.2.2.2.2.2 (by decide) ?_
      refine lv_iadd hx hb gX12_lineAt_7.1 ?_
      refine eqi (x1 := nI (ja + 3)) (nI_add ja 3) ?_
      refine lv_bipush (v := (-9)) hx hb gX12_lineAt_7.2.1 (by decide) ?_
      refine astN hC hK hP hD hS 1 (ws' := [(nc, iA G 100 fnc), (nl, iA G 54 (upd (upd (upd (upd fnl ja 0) (ja + 1) (nI v_8710)) (ja + 2) (-9)) (ja + 3) (-9))), (nF, sA G 5 (FCT K)), (h0, oX12 nw nk mhasKept nt (nI ktp) nr mrowMany mroundOf mroundFrom mouts nm mfromHour mtoHour ns (nI kf18706) (nI kt18707) so18708 0 0 (nI kc) mlines nl nc nF np ntr nb mbestCost nso nsi nit nsh nsf nss nrc mtraced mdealer mnumber mwhose msize misParted), (nt, iA G 240 fnt)]) rfl (k := (ja + 3)) (by omega) (Nat.le_of_ble_eq_true rfl) (rfl) gX12_lineAt_7.2.2.1 (fun H locs hP hD hS => ?_)
      refine lv_iload_n hx hb gX12_lineAt_7.2.2.2.1 rfl (lv_at0 hl) ?_
      refine lv_if_ne (tgt := 190) hx hb gX12_lineAt_7.2.2.2.2.1 (by decide) (fun c9 => absurd (by decide) c9) (fun _ => ?_)
      refine lv_aload_n hx hb gX12_lineAt_7.2.2.2.2.2.1 rfl (lv_at1 hl) ?_
      refine lv_aload_n hx hb gX12_lineAt_7.2.2.2.2.2.2.1 rfl (lv_at1 hl) ?_
      refine va_ldcSw (index := 282) (tx := "of") hx hb hown (hO.2.2 5 (by decide)) gX12_lineAt_7.2.2.2.2.2.2.2.1 ?_
      refine pVo hO hS hC hK hl hP hD (m_isName0 l G K 5 h0 nw nk mhasKept nt ktp nr mrowMany mroundOf mroundFrom mouts nm mfromHour mtoHour ns kf18706 kt18707 so18708 0 (nI kc) mlines nl nc nF np ntr nb mbestCost nso nsi nit nsh nsf nss nrc mtraced mdealer mnumber mwhose msize misParted fnt ((by decide)) (hw8710_2) (htp)) si_X12_248 [3, 4] sm_3_4 fm_3_4 nd_3_4 rfl rfl rfl rfl rfl (Nat.le_of_ble_eq_true rfl) rm_32_5_4 ⟨by first | exact Nat.le_of_ble_eq_true rfl | exact Nat.zero_le _, by first | exact Nat.le_of_ble_eq_true rfl | exact Nat.zero_le _⟩ gX12_lineAt_7.2.2.2.2.2.2.2.2.1 (Kors (Keqa fun a8734 => ?_) (Keqr ?_))
      · have tI8735 : kt18707 = kf18706 + 2 := a8734.2
        refine vV (wr := [(nc, iA G 100 fnc), (nl, iA G 54 (upd (upd (upd (upd fnl ja 0) (ja + 1) (nI v_8710)) (ja + 2) (-9)) (ja + 3) (-9))), (nF, sA G 5 (FCT K))]) hC hK hl hP hD hS hA (m_need1 l G h0 nw nk mhasKept nt ktp nr mrowMany mroundOf mroundFrom mouts nm mfromHour mtoHour ns (nI kf18706) kt18707 so18708 0 (nI kc) mlines nl nc nF np ntr nb mbestCost nso nsi nit nsh nsf nss nrc mtraced mdealer mnumber mwhose msize misParted fnt (by omega) (htp)) si_X12_236 [3, 4] [0, 1, 2] sm_3_4 fm_3_4 nd_3_4 sm_0_1_2 nd_0_1_2 dj_3_4__0_1_2 rfl rfl rfl rfl rfl (Nat.le_of_ble_eq_true rfl) rm_32_4_2 ⟨Nat.le_of_ble_eq_true rfl, Nat.le_of_ble_eq_true rfl⟩ gX12_lineAt_7.2.2.2.2.2.2.2.2.2 (Ktu3 fun kf18738 kt18739 so18740 => ?_)
        intro H locs hr8736 hP hD hS
        try dsimp only at hr8736
        refine Kpdr (ws := [(nc, iA G 100 fnc), (nl, iA G 54 (upd (upd (upd (upd fnl ja 0) (ja + 1) (nI v_8710)) (ja + 2) (-9)) (ja + 3) (-9))), (nF, sA G 5 (FCT K)), (h0, oX12 nw nk mhasKept nt (nI ktp) nr mrowMany mroundOf mroundFrom mouts nm mfromHour mtoHour ns (nI kf18738) (nI kt18739) so18740 0 0 (nI kc) mlines nl nc nF np ntr nb mbestCost nso nsi nit nsh nsf nss nrc mtraced mdealer mnumber mwhose msize misParted), (nt, iA G 240 fnt)]) hP hD (fun hP hD => ?_)
        have hw8742_0 := hr8736.1
        have hw8742_1 := hr8736.2
        have tA8744 := hw8742_1.1
        have tB8744 := hw8742_1.2.1
        refine lv_aload_n hx hb gX12_lineAt_8.1 rfl (lv_at1 hl) ?_
        refine gf_X12_32 hC rfl hK hP 3 rfl rfl gX12_lineAt_8.2.1 ?_
        refine lv_iload_n hx hb gX12_lineAt_8.2.2.1 rfl (lv_at2 hl) ?_
        refine lv_iconst (v := 2) hx hb gX12_lineAt_8.2.2.2.1 (by decide) ?_
        refine lv_iadd hx hb gX12_lineAt_8.2.2.2.2.1 ?_
        refine eqi (x1 := nI (ja + 2)) (nI_add ja 2) ?_
        refine lv_aload_n hx hb gX12_lineAt_8.2.2.2.2.2.1 rfl (lv_at1 hl) ?_
        refine lv_bipush (v := 7) hx hb gX12_lineAt_8.2.2.2.2.2.2.1 (by decide) ?_
        refine iV (wr := [(nc, iA G 100 fnc), (nl, iA G 54 (upd (upd (upd (upd fnl ja 0) (ja + 1) (nI v_8710)) (ja + 2) (-9)) (ja + 3) (-9))), (nF, sA G 5 (FCT K))]) hC hK hl hP hD hS hA (m_number0 l G h0 7 nw nk mhasKept nt ktp nr mrowMany mroundOf mroundFrom mouts nm mfromHour mtoHour ns kf18738 kt18739 so18740 0 (nI kc) mlines nl nc nF np ntr nb mbestCost nso nsi nit nsh nsf nss nrc mtraced mdealer mnumber mwhose msize misParted fnt (hw8742_1) (htp) (by omega)) si_X12_271 [3, 4] [0, 1, 2] sm_3_4 fm_3_4 nd_3_4 sm_0_1_2 nd_0_1_2 dj_3_4__0_1_2 rfl rfl rfl rfl rfl (Nat.le_of_ble_eq_true rfl) rm_32_5_5 ⟨Nat.le_of_ble_eq_true rfl, Nat.le_of_ble_eq_true rfl⟩ gX12_lineAt_8.2.2.2.2.2.2.2.1 (fun r8745 => Ktu4 fun ff18747 kf18748 kt18749 so18750 => ?_)
        intro H locs hr8745 hP hD hS
        try dsimp only at hr8745
        refine Kpdr (ws := [(nc, iA G 100 fnc), (nl, iA G 54 (upd (upd (upd (upd fnl ja 0) (ja + 1) (nI v_8710)) (ja + 2) (-9)) (ja + 3) (-9))), (nF, sA G 5 (FCT K)), (h0, oX12 nw nk mhasKept nt (nI ktp) nr mrowMany mroundOf mroundFrom mouts nm mfromHour mtoHour ns (nI kf18748) (nI kt18749) so18750 ff18747 0 (nI kc) mlines nl nc nF np ntr nb mbestCost nso nsi nit nsh nsf nss nrc mtraced mdealer mnumber mwhose msize misParted), (nt, iA G 240 fnt)]) hP hD (fun hP hD => ?_)
        obtain ⟨hr8745, w8751⟩ := hr8745
        rcases w8751 with rfl | ⟨rfl, ⟨v_8752, hv_8752, rfl⟩, hw8752_1, hw8752_2⟩
        · refine astN hC hK hP hD hS 1 (ws' := [(nc, iA G 100 fnc), (nl, iA G 54 (upd (upd (upd (upd (upd fnl ja 0) (ja + 1) (nI v_8710)) (ja + 2) (-9)) (ja + 3) (-9)) (ja + 2) r8745)), (nF, sA G 5 (FCT K)), (h0, oX12 nw nk mhasKept nt (nI ktp) nr mrowMany mroundOf mroundFrom mouts nm mfromHour mtoHour ns (nI kf18748) (nI kt18749) so18750 1 0 (nI kc) mlines nl nc nF np ntr nb mbestCost nso nsi nit nsh nsf nss nrc mtraced mdealer mnumber mwhose msize misParted), (nt, iA G 240 fnt)]) rfl (k := (ja + 2)) (by omega) (Nat.le_of_ble_eq_true rfl) (rfl) gX12_lineAt_8.2.2.2.2.2.2.2.2.1 (fun H locs hP hD hS => ?_)
          refine lv_aload_n hx hb gX12_lineAt_8.2.2.2.2.2.2.2.2.2 rfl (lv_at1 hl) ?_
          refine lv_aload_n hx hb gX12_lineAt_9.1 rfl (lv_at1 hl) ?_
          refine va_ldcSw (index := 284) (tx := "from") hx hb hown (hO.2.2 6 (by decide)) gX12_lineAt_9.2.1 ?_
          refine pVo hO hS hC hK hl hP hD (m_isNameF l G K 6 h0 nw nk mhasKept nt (nI ktp) nr mrowMany mroundOf mroundFrom mouts nm mfromHour mtoHour ns (nI kf18748) (nI kt18749) so18750 0 (nI kc) mlines nl nc nF np ntr nb mbestCost nso nsi nit nsh nsf nss nrc mtraced mdealer mnumber mwhose msize misParted ((by decide))) si_X12_248 [3] sm_3 fm_3 nd_3 rfl rfl rfl rfl rfl (Nat.le_of_ble_eq_true rfl) rm_32_5_4 ⟨by first | exact Nat.le_of_ble_eq_true rfl | exact Nat.zero_le _, by first | exact Nat.le_of_ble_eq_true rfl | exact Nat.zero_le _⟩ gX12_lineAt_9.2.2.1 (Keqr ?_)
          refine vV (wr := [(nc, iA G 100 fnc), (nl, iA G 54 (upd (upd (upd (upd (upd fnl ja 0) (ja + 1) (nI v_8710)) (ja + 2) (-9)) (ja + 3) (-9)) (ja + 2) r8745)), (nF, sA G 5 (FCT K)), (nt, iA G 240 fnt)]) hC hK hl hP hD hS hA (m_needF l G h0 0 nw nk mhasKept nt (nI ktp) nr mrowMany mroundOf mroundFrom mouts nm mfromHour mtoHour ns (nI kf18748) (nI kt18749) so18750 0 (nI kc) mlines nl nc nF np ntr nb mbestCost nso nsi nit nsh nsf nss nrc mtraced mdealer mnumber mwhose msize misParted) si_X12_236 [3] [0, 1, 2, 4] sm_3 fm_3 nd_3 sm_0_1_2_4 nd_0_1_2_4 dj_3__0_1_2_4 rfl rfl rfl rfl rfl (Nat.le_of_ble_eq_true rfl) rm_32_4_2 ⟨Nat.le_of_ble_eq_true rfl, Nat.le_of_ble_eq_true rfl⟩ gX12_lineAt_9.2.2.2.1 (fun u8756 H locs hr8755 hP hD hS => ?_)
          refine Kpdr (ws := [(nc, iA G 100 fnc), (nl, iA G 54 (upd (upd (upd (upd (upd fnl ja 0) (ja + 1) (nI v_8710)) (ja + 2) (-9)) (ja + 3) (-9)) (ja + 2) r8745)), (nF, sA G 5 (FCT K)), (nt, iA G 240 fnt), (h0, oX12 nw nk mhasKept nt (nI ktp) nr mrowMany mroundOf mroundFrom mouts nm mfromHour mtoHour ns (nI kf18748) (nI kt18749) so18750 1 0 (nI kc) mlines nl nc nF np ntr nb mbestCost nso nsi nit nsh nsf nss nrc mtraced mdealer mnumber mwhose msize misParted)]) hP hD (fun hP hD => ?_)
          refine lv_aload_n hx hb gX12_lineAt_9.2.2.2.2.1 rfl (lv_at1 hl) ?_
          refine gf_X12_32 hC rfl hK hP 4 rfl rfl gX12_lineAt_9.2.2.2.2.2.1 ?_
          refine lv_iload_n hx hb gX12_lineAt_9.2.2.2.2.2.2.1 rfl (lv_at2 hl) ?_
          refine lv_iconst (v := 3) hx hb gX12_lineAt_9.2.2.2.2.2.2.2.1 (by decide) ?_
          refine lv_iadd hx hb gX12_lineAt_9.2.2.2.2.2.2.2.2.1 ?_
          refine eqi (x1 := nI (ja + 3)) (nI_add ja 3) ?_
          refine lv_aload_n hx hb gX12_lineAt_9.2.2.2.2.2.2.2.2.2 rfl (lv_at1 hl) ?_
          refine lv_bipush (v := 7) hx hb gX12_lineAt_10.1 (by decide) ?_
          refine iV (wr := [(nc, iA G 100 fnc), (nl, iA G 54 (upd (upd (upd (upd (upd fnl ja 0) (ja + 1) (nI v_8710)) (ja + 2) (-9)) (ja + 3) (-9)) (ja + 2) r8745)), (nF, sA G 5 (FCT K)), (nt, iA G 240 fnt)]) hC hK hl hP hD hS hA (m_numberF l G h0 7 nw nk mhasKept nt (nI ktp) nr mrowMany mroundOf mroundFrom mouts nm mfromHour mtoHour ns (nI kf18748) (nI kt18749) so18750 0 (nI kc) mlines nl nc nF np ntr nb mbestCost nso nsi nit nsh nsf nss nrc mtraced mdealer mnumber mwhose msize misParted) si_X12_271 [4] [0, 1, 2, 3] sm_4 fm_4 nd_4 sm_0_1_2_3 nd_0_1_2_3 dj_4__0_1_2_3 rfl rfl rfl rfl rfl (Nat.le_of_ble_eq_true rfl) rm_32_5_5 ⟨Nat.le_of_ble_eq_true rfl, Nat.le_of_ble_eq_true rfl⟩ gX12_lineAt_10.2.1 (fun r8757 u8758 H locs hr8757 hP hD hS => ?_)
          refine Kpdr (ws := [(nc, iA G 100 fnc), (nl, iA G 54 (upd (upd (upd (upd (upd fnl ja 0) (ja + 1) (nI v_8710)) (ja + 2) (-9)) (ja + 3) (-9)) (ja + 2) r8745)), (nF, sA G 5 (FCT K)), (nt, iA G 240 fnt), (h0, oX12 nw nk mhasKept nt (nI ktp) nr mrowMany mroundOf mroundFrom mouts nm mfromHour mtoHour ns (nI kf18748) (nI kt18749) so18750 1 0 (nI kc) mlines nl nc nF np ntr nb mbestCost nso nsi nit nsh nsf nss nrc mtraced mdealer mnumber mwhose msize misParted)]) hP hD (fun hP hD => ?_)
          obtain rfl := hr8757
          refine astN hC hK hP hD hS 1 (ws' := [(nc, iA G 100 fnc), (nl, iA G 54 (upd (upd (upd (upd (upd (upd fnl ja 0) (ja + 1) (nI v_8710)) (ja + 2) (-9)) (ja + 3) (-9)) (ja + 2) r8745) (ja + 3) 0)), (nF, sA G 5 (FCT K)), (nt, iA G 240 fnt), (h0, oX12 nw nk mhasKept nt (nI ktp) nr mrowMany mroundOf mroundFrom mouts nm mfromHour mtoHour ns (nI kf18748) (nI kt18749) so18750 1 0 (nI kc) mlines nl nc nF np ntr nb mbestCost nso nsi nit nsh nsf nss nrc mtraced mdealer mnumber mwhose msize misParted)]) rfl (k := (ja + 3)) (by omega) (Nat.le_of_ble_eq_true rfl) (rfl) gX12_lineAt_10.2.2.1 (fun H locs hP hD hS => ?_)
          refine lv_iload_n hx hb gX12_lineAt_10.2.2.2.1 rfl (lv_at0 hl) ?_
          refine lv_iconst (v := 2) hx hb gX12_lineAt_10.2.2.2.2.1 (by decide) ?_
          refine lv_icmp_ne (tgt := 221) hx hb gX12_lineAt_10.2.2.2.2.2.1 (by decide) (fun _ => ?_) (fun c9 => absurd c9 (by decide))
          refine lv_aload_n hx hb gX12_lineAt_12.1 rfl (lv_at1 hl) ?_
          refine gf_X12_32 hC rfl hK hP 4 rfl rfl gX12_lineAt_12.2.1 ?_
          refine lv_iload_n hx hb gX12_lineAt_12.2.2.1 rfl (lv_at2 hl) ?_
          refine lv_iconst (v := 4) hx hb gX12_lineAt_12.2.2.2.1 (by decide) ?_
          refine lv_iadd hx hb gX12_lineAt_12.2.2.2.2.1 ?_
          refine eqi (x1 := nI (ja + 4)) (nI_add ja 4) ?_
          refine lv_aload_n hx hb gX12_lineAt_12.2.2.2.2.2.1 rfl (lv_at1 hl) ?_
          refine gf_X12_240 hC rfl hK hP 4 rfl rfl gX12_lineAt_12.2.2.2.2.2.2.1 ?_
          refine astN hC hK hP hD hS 1 (ws' := [(nc, iA G 100 fnc), (nl, iA G 54 (upd (upd (upd (upd (upd (upd (upd fnl ja 0) (ja + 1) (nI v_8710)) (ja + 2) (-9)) (ja + 3) (-9)) (ja + 2) r8745) (ja + 3) 0) (ja + 4) (nI kc))), (nF, sA G 5 (FCT K)), (nt, iA G 240 fnt), (h0, oX12 nw nk mhasKept nt (nI ktp) nr mrowMany mroundOf mroundFrom mouts nm mfromHour mtoHour ns (nI kf18748) (nI kt18749) so18750 1 0 (nI kc) mlines nl nc nF np ntr nb mbestCost nso nsi nit nsh nsf nss nrc mtraced mdealer mnumber mwhose msize misParted)]) rfl (k := (ja + 4)) (by omega) (Nat.le_of_ble_eq_true rfl) (rfl) gX12_lineAt_12.2.2.2.2.2.2.2.1 (fun H locs hP hD hS => ?_)
          refine lv_iload_n hx hb gX12_lineAt_12.2.2.2.2.2.2.2.2.1 rfl (lv_at0 hl) ?_
          refine lv_iconst (v := 3) hx hb gX12_lineAt_12.2.2.2.2.2.2.2.2.2 (by decide) ?_
          refine lv_icmp_eq (tgt := 256) hx hb gX12_lineAt_13.1 (by decide) (fun c9 => absurd c9 (by decide)) (fun _ => ?_)
          refine lv_aload_n hx hb gX12_lineAt_13.2.1 rfl (lv_at1 hl) ?_
          refine va_ldcSw (index := 287) (tx := "if") hx hb hown (hO.2.2 0 (by decide)) gX12_lineAt_13.2.2.1 ?_
          refine pVo hO hS hC hK hl hP hD (m_isNameF l G K 0 h0 nw nk mhasKept nt (nI ktp) nr mrowMany mroundOf mroundFrom mouts nm mfromHour mtoHour ns (nI kf18748) (nI kt18749) so18750 0 (nI kc) mlines nl nc nF np ntr nb mbestCost nso nsi nit nsh nsf nss nrc mtraced mdealer mnumber mwhose msize misParted ((by decide))) si_X12_248 [4] sm_4 fm_4 nd_4 rfl rfl rfl rfl rfl (Nat.le_of_ble_eq_true rfl) rm_32_5_4 ⟨by first | exact Nat.le_of_ble_eq_true rfl | exact Nat.zero_le _, by first | exact Nat.le_of_ble_eq_true rfl | exact Nat.zero_le _⟩ gX12_lineAt_13.2.2.2.1 (Keqr ?_)
          refine lv_if_eq (tgt := 256) hx hb gX12_lineAt_13.2.2.2.2.1 (by decide) (fun _ => ?_) (fun c9 => absurd (by decide) c9)
          refine lv_aload_n hx hb gX12_lineAt_13.2.2.2.2.2.2.2.2.2 rfl (lv_at1 hl) ?_
          refine gf_X12_32 hC rfl hK hP 4 rfl rfl gX12_lineAt_14.1 ?_
          refine lv_iload_n hx hb gX12_lineAt_14.2.1 rfl (lv_at2 hl) ?_
          refine lv_iconst (v := 5) hx hb gX12_lineAt_14.2.2.1 (by decide) ?_
          refine lv_iadd hx hb gX12_lineAt_14.2.2.2.1 ?_
          refine eqi (x1 := nI (ja + 5)) (nI_add ja 5) ?_
          refine lv_aload_n hx hb gX12_lineAt_14.2.2.2.2.1 rfl (lv_at1 hl) ?_
          refine gf_X12_240 hC rfl hK hP 4 rfl rfl gX12_lineAt_14.2.2.2.2.2.1 ?_
          refine astN hC hK hP hD hS 1 (ws' := [(nc, iA G 100 fnc), (nl, iA G 54 (upd (upd (upd (upd (upd (upd (upd (upd fnl ja 0) (ja + 1) (nI v_8710)) (ja + 2) (-9)) (ja + 3) (-9)) (ja + 2) r8745) (ja + 3) 0) (ja + 4) (nI kc)) (ja + 5) (nI kc))), (nF, sA G 5 (FCT K)), (nt, iA G 240 fnt), (h0, oX12 nw nk mhasKept nt (nI ktp) nr mrowMany mroundOf mroundFrom mouts nm mfromHour mtoHour ns (nI kf18748) (nI kt18749) so18750 1 0 (nI kc) mlines nl nc nF np ntr nb mbestCost nso nsi nit nsh nsf nss nrc mtraced mdealer mnumber mwhose msize misParted)]) rfl (k := (ja + 5)) (by omega) (Nat.le_of_ble_eq_true rfl) (rfl) gX12_lineAt_14.2.2.2.2.2.2.1 (fun H locs hP hD hS => ?_)
          refine lv_aload_n hx hb gX12_lineAt_14.2.2.2.2.2.2.2.1 rfl (lv_at1 hl) ?_
          refine lv_aload_n hx hb gX12_lineAt_14.2.2.2.2.2.2.2.2.1 rfl (lv_at1 hl) ?_
          refine lv_bipush (v := 59) hx hb gX12_lineAt_14.2.2.2.2.2.2.2.2.2 (by decide) ?_
          refine pV hC hK hl hP hD (m_isSignF l G h0 59 nw nk mhasKept nt (nI ktp) nr mrowMany mroundOf mroundFrom mouts nm mfromHour mtoHour ns (nI kf18748) (nI kt18749) so18750 0 (nI kc) mlines nl nc nF np ntr nb mbestCost nso nsi nit nsh nsf nss nrc mtraced mdealer mnumber mwhose msize misParted) si_X12_262 [4] sm_4 fm_4 nd_4 rfl rfl rfl rfl rfl (Nat.le_of_ble_eq_true rfl) rm_32_1_2 ⟨by first | exact Nat.le_of_ble_eq_true rfl | exact Nat.zero_le _, by first | exact Nat.le_of_ble_eq_true rfl | exact Nat.zero_le _⟩ gX12_lineAt_15.1 (Keqr ?_)
          refine vV (wr := [(nc, iA G 100 fnc), (nl, iA G 54 (upd (upd (upd (upd (upd (upd (upd (upd fnl ja 0) (ja + 1) (nI v_8710)) (ja + 2) (-9)) (ja + 3) (-9)) (ja + 2) r8745) (ja + 3) 0) (ja + 4) (nI kc)) (ja + 5) (nI kc))), (nF, sA G 5 (FCT K)), (nt, iA G 240 fnt)]) hC hK hl hP hD hS hA (m_needF l G h0 0 nw nk mhasKept nt (nI ktp) nr mrowMany mroundOf mroundFrom mouts nm mfromHour mtoHour ns (nI kf18748) (nI kt18749) so18750 0 (nI kc) mlines nl nc nF np ntr nb mbestCost nso nsi nit nsh nsf nss nrc mtraced mdealer mnumber mwhose msize misParted) si_X12_236 [4] [0, 1, 2, 3] sm_4 fm_4 nd_4 sm_0_1_2_3 nd_0_1_2_3 dj_4__0_1_2_3 rfl rfl rfl rfl rfl (Nat.le_of_ble_eq_true rfl) rm_32_4_2 ⟨Nat.le_of_ble_eq_true rfl, Nat.le_of_ble_eq_true rfl⟩ gX12_lineAt_15.2.1 (fun u8765 H locs hr8764 hP hD hS => ?_)
          refine Kpdr (ws := [(nc, iA G 100 fnc), (nl, iA G 54 (upd (upd (upd (upd (upd (upd (upd (upd fnl ja 0) (ja + 1) (nI v_8710)) (ja + 2) (-9)) (ja + 3) (-9)) (ja + 2) r8745) (ja + 3) 0) (ja + 4) (nI kc)) (ja + 5) (nI kc))), (nF, sA G 5 (FCT K)), (nt, iA G 240 fnt), (h0, oX12 nw nk mhasKept nt (nI ktp) nr mrowMany mroundOf mroundFrom mouts nm mfromHour mtoHour ns (nI kf18748) (nI kt18749) so18750 1 0 (nI kc) mlines nl nc nF np ntr nb mbestCost nso nsi nit nsh nsf nss nrc mtraced mdealer mnumber mwhose msize misParted)]) hP hD (fun hP hD => ?_)
          refine toQ hQ0 ?_
          exact RV hC hP hD hS [4, 3, 0, 1, 2] (1, kf18748, kt18749, so18750, kc, fnc, upd (upd (upd (upd (upd (upd (upd (upd fnl ja 0) (ja + 1) (nI v_8710)) (ja + 2) (-9)) (ja + 3) (-9)) (ja + 2) r8745) (ja + 3) 0) (ja + 4) (nI kc)) (ja + 5) (nI kc)) rfl rfl (by decide) (Or.inl rfl) gX12_lineAt_15.2.2
        · have tA8767 := hw8752_2.1
          have tB8767 := hw8752_2.2.1
          refine astN hC hK hP hD hS 1 (ws' := [(nc, iA G 100 fnc), (nl, iA G 54 (upd (upd (upd (upd (upd fnl ja 0) (ja + 1) (nI v_8710)) (ja + 2) (-9)) (ja + 3) (-9)) (ja + 2) (nI v_8752))), (nF, sA G 5 (FCT K)), (h0, oX12 nw nk mhasKept nt (nI ktp) nr mrowMany mroundOf mroundFrom mouts nm mfromHour mtoHour ns (nI kf18748) (nI kt18749) so18750 0 0 (nI kc) mlines nl nc nF np ntr nb mbestCost nso nsi nit nsh nsf nss nrc mtraced mdealer mnumber mwhose msize misParted), (nt, iA G 240 fnt)]) rfl (k := (ja + 2)) (by omega) (Nat.le_of_ble_eq_true rfl) (rfl) gX12_lineAt_8.2.2.2.2.2.2.2.2.1 (fun H locs hP hD hS => ?_)
          refine lv_aload_n hx hb gX12_lineAt_8.2.2.2.2.2.2.2.2.2 rfl (lv_at1 hl) ?_
          refine lv_aload_n hx hb gX12_lineAt_9.1 rfl (lv_at1 hl) ?_
          refine va_ldcSw (index := 284) (tx := "from") hx hb hown (hO.2.2 6 (by decide)) gX12_lineAt_9.2.1 ?_
          refine pVo hO hS hC hK hl hP hD (m_isName0 l G K 6 h0 nw nk mhasKept nt ktp nr mrowMany mroundOf mroundFrom mouts nm mfromHour mtoHour ns kf18748 kt18749 so18750 0 (nI kc) mlines nl nc nF np ntr nb mbestCost nso nsi nit nsh nsf nss nrc mtraced mdealer mnumber mwhose msize misParted fnt ((by decide)) (hw8752_2) (htp)) si_X12_248 [3, 4] sm_3_4 fm_3_4 nd_3_4 rfl rfl rfl rfl rfl (Nat.le_of_ble_eq_true rfl) rm_32_5_4 ⟨by first | exact Nat.le_of_ble_eq_true rfl | exact Nat.zero_le _, by first | exact Nat.le_of_ble_eq_true rfl | exact Nat.zero_le _⟩ gX12_lineAt_9.2.2.1 (Kors (Keqa fun a8769 => ?_) (Keqr ?_))
          · have tI8770 : kt18749 = kf18748 + 4 := a8769.2
            refine vV (wr := [(nc, iA G 100 fnc), (nl, iA G 54 (upd (upd (upd (upd (upd fnl ja 0) (ja + 1) (nI v_8710)) (ja + 2) (-9)) (ja + 3) (-9)) (ja + 2) (nI v_8752))), (nF, sA G 5 (FCT K))]) hC hK hl hP hD hS hA (m_need1 l G h0 nw nk mhasKept nt ktp nr mrowMany mroundOf mroundFrom mouts nm mfromHour mtoHour ns (nI kf18748) kt18749 so18750 0 (nI kc) mlines nl nc nF np ntr nb mbestCost nso nsi nit nsh nsf nss nrc mtraced mdealer mnumber mwhose msize misParted fnt (by omega) (htp)) si_X12_236 [3, 4] [0, 1, 2] sm_3_4 fm_3_4 nd_3_4 sm_0_1_2 nd_0_1_2 dj_3_4__0_1_2 rfl rfl rfl rfl rfl (Nat.le_of_ble_eq_true rfl) rm_32_4_2 ⟨Nat.le_of_ble_eq_true rfl, Nat.le_of_ble_eq_true rfl⟩ gX12_lineAt_9.2.2.2.1 (Ktu3 fun kf18773 kt18774 so18775 => ?_)
            intro H locs hr8771 hP hD hS
            try dsimp only at hr8771
            refine Kpdr (ws := [(nc, iA G 100 fnc), (nl, iA G 54 (upd (upd (upd (upd (upd fnl ja 0) (ja + 1) (nI v_8710)) (ja + 2) (-9)) (ja + 3) (-9)) (ja + 2) (nI v_8752))), (nF, sA G 5 (FCT K)), (h0, oX12 nw nk mhasKept nt (nI ktp) nr mrowMany mroundOf mroundFrom mouts nm mfromHour mtoHour ns (nI kf18773) (nI kt18774) so18775 0 0 (nI kc) mlines nl nc nF np ntr nb mbestCost nso nsi nit nsh nsf nss nrc mtraced mdealer mnumber mwhose msize misParted), (nt, iA G 240 fnt)]) hP hD (fun hP hD => ?_)
            have hw8777_0 := hr8771.1
            have hw8777_1 := hr8771.2
            have tA8779 := hw8777_1.1
            have tB8779 := hw8777_1.2.1
            refine lv_aload_n hx hb gX12_lineAt_9.2.2.2.2.1 rfl (lv_at1 hl) ?_
            refine gf_X12_32 hC rfl hK hP 3 rfl rfl gX12_lineAt_9.2.2.2.2.2.1 ?_
            refine lv_iload_n hx hb gX12_lineAt_9.2.2.2.2.2.2.1 rfl (lv_at2 hl) ?_
            refine lv_iconst (v := 3) hx hb gX12_lineAt_9.2.2.2.2.2.2.2.1 (by decide) ?_
            refine lv_iadd hx hb gX12_lineAt_9.2.2.2.2.2.2.2.2.1 ?_
            refine eqi (x1 := nI (ja + 3)) (nI_add ja 3) ?_
            refine lv_aload_n hx hb gX12_lineAt_9.2.2.2.2.2.2.2.2.2 rfl (lv_at1 hl) ?_
            refine lv_bipush (v := 7) hx hb gX12_lineAt_10.1 (by decide) ?_
            refine iV (wr := [(nc, iA G 100 fnc), (nl, iA G 54 (upd (upd (upd (upd (upd fnl ja 0) (ja + 1) (nI v_8710)) (ja + 2) (-9)) (ja + 3) (-9)) (ja + 2) (nI v_8752))), (nF, sA G 5 (FCT K))]) hC hK hl hP hD hS hA (m_number0 l G h0 7 nw nk mhasKept nt ktp nr mrowMany mroundOf mroundFrom mouts nm mfromHour mtoHour ns kf18773 kt18774 so18775 0 (nI kc) mlines nl nc nF np ntr nb mbestCost nso nsi nit nsh nsf nss nrc mtraced mdealer mnumber mwhose msize misParted fnt (hw8777_1) (htp) (by omega)) si_X12_271 [3, 4] [0, 1, 2] sm_3_4 fm_3_4 nd_3_4 sm_0_1_2 nd_0_1_2 dj_3_4__0_1_2 rfl rfl rfl rfl rfl (Nat.le_of_ble_eq_true rfl) rm_32_5_5 ⟨Nat.le_of_ble_eq_true rfl, Nat.le_of_ble_eq_true rfl⟩ gX12_lineAt_10.2.1 (fun r8780 => Ktu4 fun ff18782 kf18783 kt18784 so18785 => ?_)
            intro H locs hr8780 hP hD hS
            try dsimp only at hr8780
            refine Kpdr (ws := [(nc, iA G 100 fnc), (nl, iA G 54 (upd (upd (upd (upd (upd fnl ja 0) (ja + 1) (nI v_8710)) (ja + 2) (-9)) (ja + 3) (-9)) (ja + 2) (nI v_8752))), (nF, sA G 5 (FCT K)), (h0, oX12 nw nk mhasKept nt (nI ktp) nr mrowMany mroundOf mroundFrom mouts nm mfromHour mtoHour ns (nI kf18783) (nI kt18784) so18785 ff18782 0 (nI kc) mlines nl nc nF np ntr nb mbestCost nso nsi nit nsh nsf nss nrc mtraced mdealer mnumber mwhose msize misParted), (nt, iA G 240 fnt)]) hP hD (fun hP hD => ?_)
            obtain ⟨hr8780, w8786⟩ := hr8780
            rcases w8786 with rfl | ⟨rfl, ⟨v_8787, hv_8787, rfl⟩, hw8787_1, hw8787_2⟩
            · refine astN hC hK hP hD hS 1 (ws' := [(nc, iA G 100 fnc), (nl, iA G 54 (upd (upd (upd (upd (upd (upd fnl ja 0) (ja + 1) (nI v_8710)) (ja + 2) (-9)) (ja + 3) (-9)) (ja + 2) (nI v_8752)) (ja + 3) r8780)), (nF, sA G 5 (FCT K)), (h0, oX12 nw nk mhasKept nt (nI ktp) nr mrowMany mroundOf mroundFrom mouts nm mfromHour mtoHour ns (nI kf18783) (nI kt18784) so18785 1 0 (nI kc) mlines nl nc nF np ntr nb mbestCost nso nsi nit nsh nsf nss nrc mtraced mdealer mnumber mwhose msize misParted), (nt, iA G 240 fnt)]) rfl (k := (ja + 3)) (by omega) (Nat.le_of_ble_eq_true rfl) (rfl) gX12_lineAt_10.2.2.1 (fun H locs hP hD hS => ?_)
              refine lv_iload_n hx hb gX12_lineAt_10.2.2.2.1 rfl (lv_at0 hl) ?_
              refine lv_iconst (v := 2) hx hb gX12_lineAt_10.2.2.2.2.1 (by decide) ?_
              refine lv_icmp_ne (tgt := 221) hx hb gX12_lineAt_10.2.2.2.2.2.1 (by decide) (fun _ => ?_) (fun c9 => absurd c9 (by decide))
              refine lv_aload_n hx hb gX12_lineAt_12.1 rfl (lv_at1 hl) ?_
              refine gf_X12_32 hC rfl hK hP 3 rfl rfl gX12_lineAt_12.2.1 ?_
              refine lv_iload_n hx hb gX12_lineAt_12.2.2.1 rfl (lv_at2 hl) ?_
              refine lv_iconst (v := 4) hx hb gX12_lineAt_12.2.2.2.1 (by decide) ?_
              refine lv_iadd hx hb gX12_lineAt_12.2.2.2.2.1 ?_
              refine eqi (x1 := nI (ja + 4)) (nI_add ja 4) ?_
              refine lv_aload_n hx hb gX12_lineAt_12.2.2.2.2.2.1 rfl (lv_at1 hl) ?_
              refine gf_X12_240 hC rfl hK hP 3 rfl rfl gX12_lineAt_12.2.2.2.2.2.2.1 ?_
              refine astN hC hK hP hD hS 1 (ws' := [(nc, iA G 100 fnc), (nl, iA G 54 (upd (upd (upd (upd (upd (upd (upd fnl ja 0) (ja + 1) (nI v_8710)) (ja + 2) (-9)) (ja + 3) (-9)) (ja + 2) (nI v_8752)) (ja + 3) r8780) (ja + 4) (nI kc))), (nF, sA G 5 (FCT K)), (h0, oX12 nw nk mhasKept nt (nI ktp) nr mrowMany mroundOf mroundFrom mouts nm mfromHour mtoHour ns (nI kf18783) (nI kt18784) so18785 1 0 (nI kc) mlines nl nc nF np ntr nb mbestCost nso nsi nit nsh nsf nss nrc mtraced mdealer mnumber mwhose msize misParted), (nt, iA G 240 fnt)]) rfl (k := (ja + 4)) (by omega) (Nat.le_of_ble_eq_true rfl) (rfl) gX12_lineAt_12.2.2.2.2.2.2.2.1 (fun H locs hP hD hS => ?_)
              refine lv_iload_n hx hb gX12_lineAt_12.2.2.2.2.2.2.2.2.1 rfl (lv_at0 hl) ?_
              refine lv_iconst (v := 3) hx hb gX12_lineAt_12.2.2.2.2.2.2.2.2.2 (by decide) ?_
              refine lv_icmp_eq (tgt := 256) hx hb gX12_lineAt_13.1 (by decide) (fun c9 => absurd c9 (by decide)) (fun _ => ?_)
              refine lv_aload_n hx hb gX12_lineAt_13.2.1 rfl (lv_at1 hl) ?_
              refine va_ldcSw (index := 287) (tx := "if") hx hb hown (hO.2.2 0 (by decide)) gX12_lineAt_13.2.2.1 ?_
              refine pVo hO hS hC hK hl hP hD (m_isNameF l G K 0 h0 nw nk mhasKept nt (nI ktp) nr mrowMany mroundOf mroundFrom mouts nm mfromHour mtoHour ns (nI kf18783) (nI kt18784) so18785 0 (nI kc) mlines nl nc nF np ntr nb mbestCost nso nsi nit nsh nsf nss nrc mtraced mdealer mnumber mwhose msize misParted ((by decide))) si_X12_248 [3] sm_3 fm_3 nd_3 rfl rfl rfl rfl rfl (Nat.le_of_ble_eq_true rfl) rm_32_5_4 ⟨by first | exact Nat.le_of_ble_eq_true rfl | exact Nat.zero_le _, by first | exact Nat.le_of_ble_eq_true rfl | exact Nat.zero_le _⟩ gX12_lineAt_13.2.2.2.1 (Keqr ?_)
              refine lv_if_eq (tgt := 256) hx hb gX12_lineAt_13.2.2.2.2.1 (by decide) (fun _ => ?_) (fun c9 => absurd (by decide) c9)
              refine lv_aload_n hx hb gX12_lineAt_13.2.2.2.2.2.2.2.2.2 rfl (lv_at1 hl) ?_
              refine gf_X12_32 hC rfl hK hP 3 rfl rfl gX12_lineAt_14.1 ?_
              refine lv_iload_n hx hb gX12_lineAt_14.2.1 rfl (lv_at2 hl) ?_
              refine lv_iconst (v := 5) hx hb gX12_lineAt_14.2.2.1 (by decide) ?_
              refine lv_iadd hx hb gX12_lineAt_14.2.2.2.1 ?_
              refine eqi (x1 := nI (ja + 5)) (nI_add ja 5) ?_
              refine lv_aload_n hx hb gX12_lineAt_14.2.2.2.2.1 rfl (lv_at1 hl) ?_
              refine gf_X12_240 hC rfl hK hP 3 rfl rfl gX12_lineAt_14.2.2.2.2.2.1 ?_
              refine astN hC hK hP hD hS 1 (ws' := [(nc, iA G 100 fnc), (nl, iA G 54 (upd (upd (upd (upd (upd (upd (upd (upd fnl ja 0) (ja + 1) (nI v_8710)) (ja + 2) (-9)) (ja + 3) (-9)) (ja + 2) (nI v_8752)) (ja + 3) r8780) (ja + 4) (nI kc)) (ja + 5) (nI kc))), (nF, sA G 5 (FCT K)), (h0, oX12 nw nk mhasKept nt (nI ktp) nr mrowMany mroundOf mroundFrom mouts nm mfromHour mtoHour ns (nI kf18783) (nI kt18784) so18785 1 0 (nI kc) mlines nl nc nF np ntr nb mbestCost nso nsi nit nsh nsf nss nrc mtraced mdealer mnumber mwhose msize misParted), (nt, iA G 240 fnt)]) rfl (k := (ja + 5)) (by omega) (Nat.le_of_ble_eq_true rfl) (rfl) gX12_lineAt_14.2.2.2.2.2.2.1 (fun H locs hP hD hS => ?_)
              refine lv_aload_n hx hb gX12_lineAt_14.2.2.2.2.2.2.2.1 rfl (lv_at1 hl) ?_
              refine lv_aload_n hx hb gX12_lineAt_14.2.2.2.2.2.2.2.2.1 rfl (lv_at1 hl) ?_
              refine lv_bipush (v := 59) hx hb gX12_lineAt_14.2.2.2.2.2.2.2.2.2 (by decide) ?_
              refine pV hC hK hl hP hD (m_isSignF l G h0 59 nw nk mhasKept nt (nI ktp) nr mrowMany mroundOf mroundFrom mouts nm mfromHour mtoHour ns (nI kf18783) (nI kt18784) so18785 0 (nI kc) mlines nl nc nF np ntr nb mbestCost nso nsi nit nsh nsf nss nrc mtraced mdealer mnumber mwhose msize misParted) si_X12_262 [3] sm_3 fm_3 nd_3 rfl rfl rfl rfl rfl (Nat.le_of_ble_eq_true rfl) rm_32_1_2 ⟨by first | exact Nat.le_of_ble_eq_true rfl | exact Nat.zero_le _, by first | exact Nat.le_of_ble_eq_true rfl | exact Nat.zero_le _⟩ gX12_lineAt_15.1 (Keqr ?_)
              refine vV (wr := [(nc, iA G 100 fnc), (nl, iA G 54 (upd (upd (upd (upd (upd (upd (upd (upd fnl ja 0) (ja + 1) (nI v_8710)) (ja + 2) (-9)) (ja + 3) (-9)) (ja + 2) (nI v_8752)) (ja + 3) r8780) (ja + 4) (nI kc)) (ja + 5) (nI kc))), (nF, sA G 5 (FCT K)), (nt, iA G 240 fnt)]) hC hK hl hP hD hS hA (m_needF l G h0 0 nw nk mhasKept nt (nI ktp) nr mrowMany mroundOf mroundFrom mouts nm mfromHour mtoHour ns (nI kf18783) (nI kt18784) so18785 0 (nI kc) mlines nl nc nF np ntr nb mbestCost nso nsi nit nsh nsf nss nrc mtraced mdealer mnumber mwhose msize misParted) si_X12_236 [3] [0, 1, 2, 4] sm_3 fm_3 nd_3 sm_0_1_2_4 nd_0_1_2_4 dj_3__0_1_2_4 rfl rfl rfl rfl rfl (Nat.le_of_ble_eq_true rfl) rm_32_4_2 ⟨Nat.le_of_ble_eq_true rfl, Nat.le_of_ble_eq_true rfl⟩ gX12_lineAt_15.2.1 (fun u8793 H locs hr8792 hP hD hS => ?_)
              refine Kpdr (ws := [(nc, iA G 100 fnc), (nl, iA G 54 (upd (upd (upd (upd (upd (upd (upd (upd fnl ja 0) (ja + 1) (nI v_8710)) (ja + 2) (-9)) (ja + 3) (-9)) (ja + 2) (nI v_8752)) (ja + 3) r8780) (ja + 4) (nI kc)) (ja + 5) (nI kc))), (nF, sA G 5 (FCT K)), (nt, iA G 240 fnt), (h0, oX12 nw nk mhasKept nt (nI ktp) nr mrowMany mroundOf mroundFrom mouts nm mfromHour mtoHour ns (nI kf18783) (nI kt18784) so18785 1 0 (nI kc) mlines nl nc nF np ntr nb mbestCost nso nsi nit nsh nsf nss nrc mtraced mdealer mnumber mwhose msize misParted)]) hP hD (fun hP hD => ?_)
              refine toQ hQ0 ?_
              exact RV hC hP hD hS [4, 3, 0, 1, 2] (1, kf18783, kt18784, so18785, kc, fnc, upd (upd (upd (upd (upd (upd (upd (upd fnl ja 0) (ja + 1) (nI v_8710)) (ja + 2) (-9)) (ja + 3) (-9)) (ja + 2) (nI v_8752)) (ja + 3) r8780) (ja + 4) (nI kc)) (ja + 5) (nI kc)) rfl rfl (by decide) (Or.inl rfl) gX12_lineAt_15.2.2
            · have tA8795 := hw8787_2.1
              have tB8795 := hw8787_2.2.1
              refine astN hC hK hP hD hS 1 (ws' := [(nc, iA G 100 fnc), (nl, iA G 54 (upd (upd (upd (upd (upd (upd fnl ja 0) (ja + 1) (nI v_8710)) (ja + 2) (-9)) (ja + 3) (-9)) (ja + 2) (nI v_8752)) (ja + 3) (nI v_8787))), (nF, sA G 5 (FCT K)), (h0, oX12 nw nk mhasKept nt (nI ktp) nr mrowMany mroundOf mroundFrom mouts nm mfromHour mtoHour ns (nI kf18783) (nI kt18784) so18785 0 0 (nI kc) mlines nl nc nF np ntr nb mbestCost nso nsi nit nsh nsf nss nrc mtraced mdealer mnumber mwhose msize misParted), (nt, iA G 240 fnt)]) rfl (k := (ja + 3)) (by omega) (Nat.le_of_ble_eq_true rfl) (rfl) gX12_lineAt_10.2.2.1 (fun H locs hP hD hS => ?_)
              refine lv_iload_n hx hb gX12_lineAt_10.2.2.2.1 rfl (lv_at0 hl) ?_
              refine lv_iconst (v := 2) hx hb gX12_lineAt_10.2.2.2.2.1 (by decide) ?_
              refine lv_icmp_ne (tgt := 221) hx hb gX12_lineAt_10.2.2.2.2.2.1 (by decide) (fun _ => ?_) (fun c9 => absurd c9 (by decide))
              refine lv_aload_n hx hb gX12_lineAt_12.1 rfl (lv_at1 hl) ?_
              refine gf_X12_32 hC rfl hK hP 3 rfl rfl gX12_lineAt_12.2.1 ?_
              refine lv_iload_n hx hb gX12_lineAt_12.2.2.1 rfl (lv_at2 hl) ?_
              refine lv_iconst (v := 4) hx hb gX12_lineAt_12.2.2.2.1 (by decide) ?_
              refine lv_iadd hx hb gX12_lineAt_12.2.2.2.2.1 ?_
              refine eqi (x1 := nI (ja + 4)) (nI_add ja 4) ?_
              refine lv_aload_n hx hb gX12_lineAt_12.2.2.2.2.2.1 rfl (lv_at1 hl) ?_
              refine gf_X12_240 hC rfl hK hP 3 rfl rfl gX12_lineAt_12.2.2.2.2.2.2.1 ?_
              refine astN hC hK hP hD hS 1 (ws' := [(nc, iA G 100 fnc), (nl, iA G 54 (upd (upd (upd (upd (upd (upd (upd fnl ja 0) (ja + 1) (nI v_8710)) (ja + 2) (-9)) (ja + 3) (-9)) (ja + 2) (nI v_8752)) (ja + 3) (nI v_8787)) (ja + 4) (nI kc))), (nF, sA G 5 (FCT K)), (h0, oX12 nw nk mhasKept nt (nI ktp) nr mrowMany mroundOf mroundFrom mouts nm mfromHour mtoHour ns (nI kf18783) (nI kt18784) so18785 0 0 (nI kc) mlines nl nc nF np ntr nb mbestCost nso nsi nit nsh nsf nss nrc mtraced mdealer mnumber mwhose msize misParted), (nt, iA G 240 fnt)]) rfl (k := (ja + 4)) (by omega) (Nat.le_of_ble_eq_true rfl) (rfl) gX12_lineAt_12.2.2.2.2.2.2.2.1 (fun H locs hP hD hS => ?_)
              refine lv_iload_n hx hb gX12_lineAt_12.2.2.2.2.2.2.2.2.1 rfl (lv_at0 hl) ?_
              refine lv_iconst (v := 3) hx hb gX12_lineAt_12.2.2.2.2.2.2.2.2.2 (by decide) ?_
              refine lv_icmp_eq (tgt := 256) hx hb gX12_lineAt_13.1 (by decide) (fun c9 => absurd c9 (by decide)) (fun _ => ?_)
              refine lv_aload_n hx hb gX12_lineAt_13.2.1 rfl (lv_at1 hl) ?_
              refine va_ldcSw (index := 287) (tx := "if") hx hb hown (hO.2.2 0 (by decide)) gX12_lineAt_13.2.2.1 ?_
              refine pVo hO hS hC hK hl hP hD (m_isName0 l G K 0 h0 nw nk mhasKept nt ktp nr mrowMany mroundOf mroundFrom mouts nm mfromHour mtoHour ns kf18783 kt18784 so18785 0 (nI kc) mlines nl nc nF np ntr nb mbestCost nso nsi nit nsh nsf nss nrc mtraced mdealer mnumber mwhose msize misParted fnt ((by decide)) (hw8787_2) (htp)) si_X12_248 [3, 4] sm_3_4 fm_3_4 nd_3_4 rfl rfl rfl rfl rfl (Nat.le_of_ble_eq_true rfl) rm_32_5_4 ⟨by first | exact Nat.le_of_ble_eq_true rfl | exact Nat.zero_le _, by first | exact Nat.le_of_ble_eq_true rfl | exact Nat.zero_le _⟩ gX12_lineAt_13.2.2.2.1 (Kors (Keqa fun a8797 => ?_) (Keqr ?_))
              · refine lv_if_eq (tgt := 256) hx hb gX12_lineAt_13.2.2.2.2.1 (by decide) (fun c9 => absurd c9 (by decide)) (fun _ => ?_)
                refine lv_aload_n hx hb gX12_lineAt_13.2.2.2.2.2.1 rfl (lv_at1 hl) ?_
                have tI8798 : kt18784 = kf18783 + 2 := a8797.2
                refine vV (wr := [(nc, iA G 100 fnc), (nl, iA G 54 (upd (upd (upd (upd (upd (upd (upd fnl ja 0) (ja + 1) (nI v_8710)) (ja + 2) (-9)) (ja + 3) (-9)) (ja + 2) (nI v_8752)) (ja + 3) (nI v_8787)) (ja + 4) (nI kc))), (nF, sA G 5 (FCT K))]) hC hK hl hP hD hS hA (m_next l G h0 nw nk mhasKept nt ktp nr mrowMany mroundOf mroundFrom mouts nm mfromHour mtoHour ns (nI kf18783) kt18784 so18785 0 0 (nI kc) mlines nl nc nF np ntr nb mbestCost nso nsi nit nsh nsf nss nrc mtraced mdealer mnumber mwhose msize misParted fnt (by omega) (htp)) si_X12_233 [3, 4] [0, 1, 2] sm_3_4 fm_3_4 nd_3_4 sm_0_1_2 nd_0_1_2 dj_3_4__0_1_2 rfl rfl rfl rfl rfl (Nat.le_of_ble_eq_true rfl) rm_32_3_1 ⟨Nat.le_of_ble_eq_true rfl, Nat.le_of_ble_eq_true rfl⟩ gX12_lineAt_13.2.2.2.2.2.2.1 (Ktu3 fun kf18801 kt18802 so18803 => ?_)
                intro H locs hr8799 hP hD hS
                try dsimp only at hr8799
                refine Kpdr (ws := [(nc, iA G 100 fnc), (nl, iA G 54 (upd (upd (upd (upd (upd (upd (upd fnl ja 0) (ja + 1) (nI v_8710)) (ja + 2) (-9)) (ja + 3) (-9)) (ja + 2) (nI v_8752)) (ja + 3) (nI v_8787)) (ja + 4) (nI kc))), (nF, sA G 5 (FCT K)), (h0, oX12 nw nk mhasKept nt (nI ktp) nr mrowMany mroundOf mroundFrom mouts nm mfromHour mtoHour ns (nI kf18801) (nI kt18802) so18803 0 0 (nI kc) mlines nl nc nF np ntr nb mbestCost nso nsi nit nsh nsf nss nrc mtraced mdealer mnumber mwhose msize misParted), (nt, iA G 240 fnt)]) hP hD (fun hP hD => ?_)
                have hw8805_0 := hr8799.1
                have hw8805_1 := hr8799.2
                have tA8807 := hw8805_1.1
                have tB8807 := hw8805_1.2.1
                refine lv_aload_n hx hb gX12_lineAt_13.2.2.2.2.2.2.2.1 rfl (lv_at1 hl) ?_
                refine vVo (wr := [(nl, iA G 54 (upd (upd (upd (upd (upd (upd (upd fnl ja 0) (ja + 1) (nI v_8710)) (ja + 2) (-9)) (ja + 3) (-9)) (ja + 2) (nI v_8752)) (ja + 3) (nI v_8787)) (ja + 4) (nI kc)))]) hO hC hK hl hP hD hS hA (m_either l G K 4 h0 nw nk mhasKept nt ktp nr mrowMany mroundOf mroundFrom mouts nm mfromHour mtoHour ns kf18801 kt18802 so18803 0 kc mlines nl nc nF np ntr nb mbestCost nso nsi nit nsh nsf nss nrc mtraced mdealer mnumber mwhose msize misParted fnt fnc (hw8805_1) (by omega) (by omega) (by omega)) si_X12_268 [3, 4, 0, 2] [1] sm_3_4_0_2 fm_3_4_0_2 nd_3_4_0_2 sm_1 nd_1 dj_3_4_0_2__1 rfl rfl rfl rfl rfl (Nat.le_of_ble_eq_true rfl) ⟨Nat.le_of_ble_eq_true rfl, Nat.le_of_ble_eq_true rfl⟩ ⟨Nat.le_of_ble_eq_true rfl, Nat.le_of_ble_eq_true rfl⟩ gX12_lineAt_13.2.2.2.2.2.2.2.2.1 (Ktu6 fun ff18810 kf18811 kt18812 so18813 kc18814 gnc8815 => ?_)
                intro H locs hr8808 hP hD hS
                try dsimp only at hr8808
                refine Kpdr (ws := [(nl, iA G 54 (upd (upd (upd (upd (upd (upd (upd fnl ja 0) (ja + 1) (nI v_8710)) (ja + 2) (-9)) (ja + 3) (-9)) (ja + 2) (nI v_8752)) (ja + 3) (nI v_8787)) (ja + 4) (nI kc))), (h0, oX12 nw nk mhasKept nt (nI ktp) nr mrowMany mroundOf mroundFrom mouts nm mfromHour mtoHour ns (nI kf18811) (nI kt18812) so18813 ff18810 0 (nI kc18814) mlines nl nc nF np ntr nb mbestCost nso nsi nit nsh nsf nss nrc mtraced mdealer mnumber mwhose msize misParted), (nt, iA G 240 fnt), (nc, iA G 100 gnc8815), (nF, sA G 5 (FCT K))]) hP hD (fun hP hD => ?_)
                have w8816 := hr8808
                rcases w8816 with rfl | ⟨rfl, hw8817_0, hw8817_1⟩
                · refine lv_aload_n hx hb gX12_lineAt_13.2.2.2.2.2.2.2.2.2 rfl (lv_at1 hl) ?_
                  refine gf_X12_32 hC rfl hK hP 1 rfl rfl gX12_lineAt_14.1 ?_
                  refine lv_iload_n hx hb gX12_lineAt_14.2.1 rfl (lv_at2 hl) ?_
                  refine lv_iconst (v := 5) hx hb gX12_lineAt_14.2.2.1 (by decide) ?_
                  refine lv_iadd hx hb gX12_lineAt_14.2.2.2.1 ?_
                  refine eqi (x1 := nI (ja + 5)) (nI_add ja 5) ?_
                  refine lv_aload_n hx hb gX12_lineAt_14.2.2.2.2.1 rfl (lv_at1 hl) ?_
                  refine gf_X12_240 hC rfl hK hP 1 rfl rfl gX12_lineAt_14.2.2.2.2.2.1 ?_
                  refine astN hC hK hP hD hS 0 (ws' := [(nl, iA G 54 (upd (upd (upd (upd (upd (upd (upd (upd fnl ja 0) (ja + 1) (nI v_8710)) (ja + 2) (-9)) (ja + 3) (-9)) (ja + 2) (nI v_8752)) (ja + 3) (nI v_8787)) (ja + 4) (nI kc)) (ja + 5) (nI kc18814))), (h0, oX12 nw nk mhasKept nt (nI ktp) nr mrowMany mroundOf mroundFrom mouts nm mfromHour mtoHour ns (nI kf18811) (nI kt18812) so18813 1 0 (nI kc18814) mlines nl nc nF np ntr nb mbestCost nso nsi nit nsh nsf nss nrc mtraced mdealer mnumber mwhose msize misParted), (nt, iA G 240 fnt), (nc, iA G 100 gnc8815), (nF, sA G 5 (FCT K))]) rfl (k := (ja + 5)) (by omega) (Nat.le_of_ble_eq_true rfl) (rfl) gX12_lineAt_14.2.2.2.2.2.2.1 (fun H locs hP hD hS => ?_)
                  refine lv_aload_n hx hb gX12_lineAt_14.2.2.2.2.2.2.2.1 rfl (lv_at1 hl) ?_
                  refine lv_aload_n hx hb gX12_lineAt_14.2.2.2.2.2.2.2.2.1 rfl (lv_at1 hl) ?_
                  refine lv_bipush (v := 59) hx hb gX12_lineAt_14.2.2.2.2.2.2.2.2.2 (by decide) ?_
                  refine pV hC hK hl hP hD (m_isSignF l G h0 59 nw nk mhasKept nt (nI ktp) nr mrowMany mroundOf mroundFrom mouts nm mfromHour mtoHour ns (nI kf18811) (nI kt18812) so18813 0 (nI kc18814) mlines nl nc nF np ntr nb mbestCost nso nsi nit nsh nsf nss nrc mtraced mdealer mnumber mwhose msize misParted) si_X12_262 [1] sm_1 fm_1 nd_1 rfl rfl rfl rfl rfl (Nat.le_of_ble_eq_true rfl) rm_32_1_2 ⟨by first | exact Nat.le_of_ble_eq_true rfl | exact Nat.zero_le _, by first | exact Nat.le_of_ble_eq_true rfl | exact Nat.zero_le _⟩ gX12_lineAt_15.1 (Keqr ?_)
                  refine vV (wr := [(nl, iA G 54 (upd (upd (upd (upd (upd (upd (upd (upd fnl ja 0) (ja + 1) (nI v_8710)) (ja + 2) (-9)) (ja + 3) (-9)) (ja + 2) (nI v_8752)) (ja + 3) (nI v_8787)) (ja + 4) (nI kc)) (ja + 5) (nI kc18814))), (nt, iA G 240 fnt), (nc, iA G 100 gnc8815), (nF, sA G 5 (FCT K))]) hC hK hl hP hD hS hA (m_needF l G h0 0 nw nk mhasKept nt (nI ktp) nr mrowMany mroundOf mroundFrom mouts nm mfromHour mtoHour ns (nI kf18811) (nI kt18812) so18813 0 (nI kc18814) mlines nl nc nF np ntr nb mbestCost nso nsi nit nsh nsf nss nrc mtraced mdealer mnumber mwhose msize misParted) si_X12_236 [1] [0, 2, 3, 4] sm_1 fm_1 nd_1 sm_0_2_3_4 nd_0_2_3_4 dj_1__0_2_3_4 rfl rfl rfl rfl rfl (Nat.le_of_ble_eq_true rfl) rm_32_4_2 ⟨Nat.le_of_ble_eq_true rfl, Nat.le_of_ble_eq_true rfl⟩ gX12_lineAt_15.2.1 (fun u8821 H locs hr8820 hP hD hS => ?_)
                  refine Kpdr (ws := [(nl, iA G 54 (upd (upd (upd (upd (upd (upd (upd (upd fnl ja 0) (ja + 1) (nI v_8710)) (ja + 2) (-9)) (ja + 3) (-9)) (ja + 2) (nI v_8752)) (ja + 3) (nI v_8787)) (ja + 4) (nI kc)) (ja + 5) (nI kc18814))), (nt, iA G 240 fnt), (nc, iA G 100 gnc8815), (nF, sA G 5 (FCT K)), (h0, oX12 nw nk mhasKept nt (nI ktp) nr mrowMany mroundOf mroundFrom mouts nm mfromHour mtoHour ns (nI kf18811) (nI kt18812) so18813 1 0 (nI kc18814) mlines nl nc nF np ntr nb mbestCost nso nsi nit nsh nsf nss nrc mtraced mdealer mnumber mwhose msize misParted)]) hP hD (fun hP hD => ?_)
                  refine toQ hQ0 ?_
                  exact RV hC hP hD hS [4, 1, 2, 0, 3] (1, kf18811, kt18812, so18813, kc18814, gnc8815, upd (upd (upd (upd (upd (upd (upd (upd fnl ja 0) (ja + 1) (nI v_8710)) (ja + 2) (-9)) (ja + 3) (-9)) (ja + 2) (nI v_8752)) (ja + 3) (nI v_8787)) (ja + 4) (nI kc)) (ja + 5) (nI kc18814)) rfl rfl (by decide) (Or.inl rfl) gX12_lineAt_15.2.2
                · have tA8822 := hw8817_0.1
                  have tB8822 := hw8817_0.2.1
                  have tA8823 := hw8817_1.1
                  have tB8823 := hw8817_1.2.1
                  refine lv_aload_n hx hb gX12_lineAt_13.2.2.2.2.2.2.2.2.2 rfl (lv_at1 hl) ?_
                  refine gf_X12_32 hC rfl hK hP 1 rfl rfl gX12_lineAt_14.1 ?_
                  refine lv_iload_n hx hb gX12_lineAt_14.2.1 rfl (lv_at2 hl) ?_
                  refine lv_iconst (v := 5) hx hb gX12_lineAt_14.2.2.1 (by decide) ?_
                  refine lv_iadd hx hb gX12_lineAt_14.2.2.2.1 ?_
                  refine eqi (x1 := nI (ja + 5)) (nI_add ja 5) ?_
                  refine lv_aload_n hx hb gX12_lineAt_14.2.2.2.2.1 rfl (lv_at1 hl) ?_
                  refine gf_X12_240 hC rfl hK hP 1 rfl rfl gX12_lineAt_14.2.2.2.2.2.1 ?_
                  refine astN hC hK hP hD hS 0 (ws' := [(nl, iA G 54 (upd (upd (upd (upd (upd (upd (upd (upd fnl ja 0) (ja + 1) (nI v_8710)) (ja + 2) (-9)) (ja + 3) (-9)) (ja + 2) (nI v_8752)) (ja + 3) (nI v_8787)) (ja + 4) (nI kc)) (ja + 5) (nI kc18814))), (h0, oX12 nw nk mhasKept nt (nI ktp) nr mrowMany mroundOf mroundFrom mouts nm mfromHour mtoHour ns (nI kf18811) (nI kt18812) so18813 0 0 (nI kc18814) mlines nl nc nF np ntr nb mbestCost nso nsi nit nsh nsf nss nrc mtraced mdealer mnumber mwhose msize misParted), (nt, iA G 240 fnt), (nc, iA G 100 gnc8815), (nF, sA G 5 (FCT K))]) rfl (k := (ja + 5)) (by omega) (Nat.le_of_ble_eq_true rfl) (rfl) gX12_lineAt_14.2.2.2.2.2.2.1 (fun H locs hP hD hS => ?_)
                  refine lv_aload_n hx hb gX12_lineAt_14.2.2.2.2.2.2.2.1 rfl (lv_at1 hl) ?_
                  refine lv_aload_n hx hb gX12_lineAt_14.2.2.2.2.2.2.2.2.1 rfl (lv_at1 hl) ?_
                  refine lv_bipush (v := 59) hx hb gX12_lineAt_14.2.2.2.2.2.2.2.2.2 (by decide) ?_
                  refine pV hC hK hl hP hD (m_isSign0 l G h0 59 nw nk mhasKept nt ktp nr mrowMany mroundOf mroundFrom mouts nm mfromHour mtoHour ns kf18811 kt18812 so18813 0 (nI kc18814) mlines nl nc nF np ntr nb mbestCost nso nsi nit nsh nsf nss nrc mtraced mdealer mnumber mwhose msize misParted fnt (hw8817_0) (htp)) si_X12_262 [1, 2] sm_1_2 fm_1_2 nd_1_2 rfl rfl rfl rfl rfl (Nat.le_of_ble_eq_true rfl) rm_32_1_2 ⟨by first | exact Nat.le_of_ble_eq_true rfl | exact Nat.zero_le _, by first | exact Nat.le_of_ble_eq_true rfl | exact Nat.zero_le _⟩ gX12_lineAt_15.1 (Kors (Keqa fun a8825 => ?_) (Keqa fun a8825 => ?_))
                  · have tI8826 := a8825.1
                    refine vV (wr := [(nl, iA G 54 (upd (upd (upd (upd (upd (upd (upd (upd fnl ja 0) (ja + 1) (nI v_8710)) (ja + 2) (-9)) (ja + 3) (-9)) (ja + 2) (nI v_8752)) (ja + 3) (nI v_8787)) (ja + 4) (nI kc)) (ja + 5) (nI kc18814))), (nc, iA G 100 gnc8815), (nF, sA G 5 (FCT K))]) hC hK hl hP hD hS hA (m_need1 l G h0 nw nk mhasKept nt ktp nr mrowMany mroundOf mroundFrom mouts nm mfromHour mtoHour ns (nI kf18811) kt18812 so18813 0 (nI kc18814) mlines nl nc nF np ntr nb mbestCost nso nsi nit nsh nsf nss nrc mtraced mdealer mnumber mwhose msize misParted fnt (by omega) (htp)) si_X12_236 [1, 2] [0, 3, 4] sm_1_2 fm_1_2 nd_1_2 sm_0_3_4 nd_0_3_4 dj_1_2__0_3_4 rfl rfl rfl rfl rfl (Nat.le_of_ble_eq_true rfl) rm_32_4_2 ⟨Nat.le_of_ble_eq_true rfl, Nat.le_of_ble_eq_true rfl⟩ gX12_lineAt_15.2.1 (Ktu3 fun kf18829 kt18830 so18831 => ?_)
                    intro H locs hr8827 hP hD hS
                    try dsimp only at hr8827
                    refine Kpdr (ws := [(nl, iA G 54 (upd (upd (upd (upd (upd (upd (upd (upd fnl ja 0) (ja + 1) (nI v_8710)) (ja + 2) (-9)) (ja + 3) (-9)) (ja + 2) (nI v_8752)) (ja + 3) (nI v_8787)) (ja + 4) (nI kc)) (ja + 5) (nI kc18814))), (nc, iA G 100 gnc8815), (nF, sA G 5 (FCT K)), (h0, oX12 nw nk mhasKept nt (nI ktp) nr mrowMany mroundOf mroundFrom mouts nm mfromHour mtoHour ns (nI kf18829) (nI kt18830) so18831 0 0 (nI kc18814) mlines nl nc nF np ntr nb mbestCost nso nsi nit nsh nsf nss nrc mtraced mdealer mnumber mwhose msize misParted), (nt, iA G 240 fnt)]) hP hD (fun hP hD => ?_)
                    have hw8833_0 := hr8827.1
                    have hw8833_1 := hr8827.2
                    have tA8835 := hw8833_1.1
                    have tB8835 := hw8833_1.2.1
                    refine toQ hQ0 ?_
                    exact RV hC hP hD hS [3, 4, 1, 0, 2] (0, kf18829, kt18830, so18831, kc18814, gnc8815, upd (upd (upd (upd (upd (upd (upd (upd fnl ja 0) (ja + 1) (nI v_8710)) (ja + 2) (-9)) (ja + 3) (-9)) (ja + 2) (nI v_8752)) (ja + 3) (nI v_8787)) (ja + 4) (nI kc)) (ja + 5) (nI kc18814)) rfl rfl (by decide) (Or.inr ⟨rfl, hw8833_1, by (try dsimp only); omega, by (try dsimp only); omega, fun i hi => (upd_ne (by omega)).trans ((upd_ne (by omega)).trans ((upd_ne (by omega)).trans ((upd_ne (by omega)).trans ((upd_ne (by omega)).trans ((upd_ne (by omega)).trans ((upd_ne (by omega)).trans ((upd_ne (by omega)).trans (rfl)))))))), hw8817_1.2.2.1, ⟨0, by decide, (upd_ne (by omega)).trans ((upd_ne (by omega)).trans ((upd_ne (by omega)).trans ((upd_ne (by omega)).trans ((upd_ne (by omega)).trans ((upd_ne (by omega)).trans ((upd_ne (by omega)).trans (upd_eq (by omega)))))))), fun _ => ⟨⟨v_8752, by omega, (upd_ne (by omega)).trans ((upd_ne (by omega)).trans ((upd_ne (by omega)).trans (upd_eq (by omega))))⟩, v_8787, by omega, (upd_ne (by omega)).trans ((upd_ne (by omega)).trans (upd_eq (by omega)))⟩, fun h9 => absurd h9 (by decide)⟩, kc, kc18814, (upd_ne (by omega)).trans (upd_eq (by omega)), upd_eq (by omega), by (try dsimp only); omega, by (try dsimp only); omega, hw8817_1.2.2.2.wfc⟩) gX12_lineAt_15.2.2
                  · refine vV (wr := [(nl, iA G 54 (upd (upd (upd (upd (upd (upd (upd (upd fnl ja 0) (ja + 1) (nI v_8710)) (ja + 2) (-9)) (ja + 3) (-9)) (ja + 2) (nI v_8752)) (ja + 3) (nI v_8787)) (ja + 4) (nI kc)) (ja + 5) (nI kc18814))), (nt, iA G 240 fnt), (nc, iA G 100 gnc8815), (nF, sA G 5 (FCT K))]) hC hK hl hP hD hS hA (m_need0 l G h0 nw nk mhasKept nt (nI ktp) nr mrowMany mroundOf mroundFrom mouts nm mfromHour mtoHour ns (nI kf18811) (nI kt18812) so18813 0 (nI kc18814) mlines nl nc nF np ntr nb mbestCost nso nsi nit nsh nsf nss nrc mtraced mdealer mnumber mwhose msize misParted) si_X12_236 [1] [0, 2, 3, 4] sm_1 fm_1 nd_1 sm_0_2_3_4 nd_0_2_3_4 dj_1__0_2_3_4 rfl rfl rfl rfl rfl (Nat.le_of_ble_eq_true rfl) rm_32_4_2 ⟨Nat.le_of_ble_eq_true rfl, Nat.le_of_ble_eq_true rfl⟩ gX12_lineAt_15.2.1 (fun u8837 H locs hr8836 hP hD hS => ?_)
                    refine Kpdr (ws := [(nl, iA G 54 (upd (upd (upd (upd (upd (upd (upd (upd fnl ja 0) (ja + 1) (nI v_8710)) (ja + 2) (-9)) (ja + 3) (-9)) (ja + 2) (nI v_8752)) (ja + 3) (nI v_8787)) (ja + 4) (nI kc)) (ja + 5) (nI kc18814))), (nt, iA G 240 fnt), (nc, iA G 100 gnc8815), (nF, sA G 5 (FCT K)), (h0, oX12 nw nk mhasKept nt (nI ktp) nr mrowMany mroundOf mroundFrom mouts nm mfromHour mtoHour ns (nI kf18811) (nI kt18812) so18813 1 0 (nI kc18814) mlines nl nc nF np ntr nb mbestCost nso nsi nit nsh nsf nss nrc mtraced mdealer mnumber mwhose msize misParted)]) hP hD (fun hP hD => ?_)
                    refine toQ hQ0 ?_
                    exact RV hC hP hD hS [4, 1, 2, 0, 3] (1, kf18811, kt18812, so18813, kc18814, gnc8815, upd (upd (upd (upd (upd (upd (upd (upd fnl ja 0) (ja + 1) (nI v_8710)) (ja + 2) (-9)) (ja + 3) (-9)) (ja + 2) (nI v_8752)) (ja + 3) (nI v_8787)) (ja + 4) (nI kc)) (ja + 5) (nI kc18814)) rfl rfl (by decide) (Or.inl rfl) gX12_lineAt_15.2.2
              · refine lv_if_eq (tgt := 256) hx hb gX12_lineAt_13.2.2.2.2.1 (by decide) (fun _ => ?_) (fun c9 => absurd (by decide) c9)
                refine lv_aload_n hx hb gX12_lineAt_13.2.2.2.2.2.2.2.2.2 rfl (lv_at1 hl) ?_
                refine gf_X12_32 hC rfl hK hP 3 rfl rfl gX12_lineAt_14.1 ?_
                refine lv_iload_n hx hb gX12_lineAt_14.2.1 rfl (lv_at2 hl) ?_
                refine lv_iconst (v := 5) hx hb gX12_lineAt_14.2.2.1 (by decide) ?_
                refine lv_iadd hx hb gX12_lineAt_14.2.2.2.1 ?_
                refine eqi (x1 := nI (ja + 5)) (nI_add ja 5) ?_
                refine lv_aload_n hx hb gX12_lineAt_14.2.2.2.2.1 rfl (lv_at1 hl) ?_
                refine gf_X12_240 hC rfl hK hP 3 rfl rfl gX12_lineAt_14.2.2.2.2.2.1 ?_
                refine astN hC hK hP hD hS 1 (ws' := [(nc, iA G 100 fnc), (nl, iA G 54 (upd (upd (upd (upd (upd (upd (upd (upd fnl ja 0) (ja + 1) (nI v_8710)) (ja + 2) (-9)) (ja + 3) (-9)) (ja + 2) (nI v_8752)) (ja + 3) (nI v_8787)) (ja + 4) (nI kc)) (ja + 5) (nI kc))), (nF, sA G 5 (FCT K)), (h0, oX12 nw nk mhasKept nt (nI ktp) nr mrowMany mroundOf mroundFrom mouts nm mfromHour mtoHour ns (nI kf18783) (nI kt18784) so18785 0 0 (nI kc) mlines nl nc nF np ntr nb mbestCost nso nsi nit nsh nsf nss nrc mtraced mdealer mnumber mwhose msize misParted), (nt, iA G 240 fnt)]) rfl (k := (ja + 5)) (by omega) (Nat.le_of_ble_eq_true rfl) (rfl) gX12_lineAt_14.2.2.2.2.2.2.1 (fun H locs hP hD hS => ?_)
                refine lv_aload_n hx hb gX12_lineAt_14.2.2.2.2.2.2.2.1 rfl (lv_at1 hl) ?_
                refine lv_aload_n hx hb gX12_lineAt_14.2.2.2.2.2.2.2.2.1 rfl (lv_at1 hl) ?_
                refine lv_bipush (v := 59) hx hb gX12_lineAt_14.2.2.2.2.2.2.2.2.2 (by decide) ?_
                refine pV hC hK hl hP hD (m_isSign0 l G h0 59 nw nk mhasKept nt ktp nr mrowMany mroundOf mroundFrom mouts nm mfromHour mtoHour ns kf18783 kt18784 so18785 0 (nI kc) mlines nl nc nF np ntr nb mbestCost nso nsi nit nsh nsf nss nrc mtraced mdealer mnumber mwhose msize misParted fnt (hw8787_2) (htp)) si_X12_262 [3, 4] sm_3_4 fm_3_4 nd_3_4 rfl rfl rfl rfl rfl (Nat.le_of_ble_eq_true rfl) rm_32_1_2 ⟨by first | exact Nat.le_of_ble_eq_true rfl | exact Nat.zero_le _, by first | exact Nat.le_of_ble_eq_true rfl | exact Nat.zero_le _⟩ gX12_lineAt_15.1 (Kors (Keqa fun a8839 => ?_) (Keqa fun a8839 => ?_))
                · have tI8840 := a8839.1
                  refine vV (wr := [(nc, iA G 100 fnc), (nl, iA G 54 (upd (upd (upd (upd (upd (upd (upd (upd fnl ja 0) (ja + 1) (nI v_8710)) (ja + 2) (-9)) (ja + 3) (-9)) (ja + 2) (nI v_8752)) (ja + 3) (nI v_8787)) (ja + 4) (nI kc)) (ja + 5) (nI kc))), (nF, sA G 5 (FCT K))]) hC hK hl hP hD hS hA (m_need1 l G h0 nw nk mhasKept nt ktp nr mrowMany mroundOf mroundFrom mouts nm mfromHour mtoHour ns (nI kf18783) kt18784 so18785 0 (nI kc) mlines nl nc nF np ntr nb mbestCost nso nsi nit nsh nsf nss nrc mtraced mdealer mnumber mwhose msize misParted fnt (by omega) (htp)) si_X12_236 [3, 4] [0, 1, 2] sm_3_4 fm_3_4 nd_3_4 sm_0_1_2 nd_0_1_2 dj_3_4__0_1_2 rfl rfl rfl rfl rfl (Nat.le_of_ble_eq_true rfl) rm_32_4_2 ⟨Nat.le_of_ble_eq_true rfl, Nat.le_of_ble_eq_true rfl⟩ gX12_lineAt_15.2.1 (Ktu3 fun kf18843 kt18844 so18845 => ?_)
                  intro H locs hr8841 hP hD hS
                  try dsimp only at hr8841
                  refine Kpdr (ws := [(nc, iA G 100 fnc), (nl, iA G 54 (upd (upd (upd (upd (upd (upd (upd (upd fnl ja 0) (ja + 1) (nI v_8710)) (ja + 2) (-9)) (ja + 3) (-9)) (ja + 2) (nI v_8752)) (ja + 3) (nI v_8787)) (ja + 4) (nI kc)) (ja + 5) (nI kc))), (nF, sA G 5 (FCT K)), (h0, oX12 nw nk mhasKept nt (nI ktp) nr mrowMany mroundOf mroundFrom mouts nm mfromHour mtoHour ns (nI kf18843) (nI kt18844) so18845 0 0 (nI kc) mlines nl nc nF np ntr nb mbestCost nso nsi nit nsh nsf nss nrc mtraced mdealer mnumber mwhose msize misParted), (nt, iA G 240 fnt)]) hP hD (fun hP hD => ?_)
                  have hw8847_0 := hr8841.1
                  have hw8847_1 := hr8841.2
                  have tA8849 := hw8847_1.1
                  have tB8849 := hw8847_1.2.1
                  refine toQ hQ0 ?_
                  exact RV hC hP hD hS [3, 4, 0, 1, 2] (0, kf18843, kt18844, so18845, kc, fnc, upd (upd (upd (upd (upd (upd (upd (upd fnl ja 0) (ja + 1) (nI v_8710)) (ja + 2) (-9)) (ja + 3) (-9)) (ja + 2) (nI v_8752)) (ja + 3) (nI v_8787)) (ja + 4) (nI kc)) (ja + 5) (nI kc)) rfl rfl (by decide) (Or.inr ⟨rfl, hw8847_1, by (try dsimp only); omega, by (try dsimp only); omega, fun i hi => (upd_ne (by omega)).trans ((upd_ne (by omega)).trans ((upd_ne (by omega)).trans ((upd_ne (by omega)).trans ((upd_ne (by omega)).trans ((upd_ne (by omega)).trans ((upd_ne (by omega)).trans ((upd_ne (by omega)).trans (rfl)))))))), fun _ _ => rfl, ⟨0, by decide, (upd_ne (by omega)).trans ((upd_ne (by omega)).trans ((upd_ne (by omega)).trans ((upd_ne (by omega)).trans ((upd_ne (by omega)).trans ((upd_ne (by omega)).trans ((upd_ne (by omega)).trans (upd_eq (by omega)))))))), fun _ => ⟨⟨v_8752, by omega, (upd_ne (by omega)).trans ((upd_ne (by omega)).trans ((upd_ne (by omega)).trans (upd_eq (by omega))))⟩, v_8787, by omega, (upd_ne (by omega)).trans ((upd_ne (by omega)).trans (upd_eq (by omega)))⟩, fun h9 => absurd h9 (by decide)⟩, kc, kc, (upd_ne (by omega)).trans (upd_eq (by omega)), upd_eq (by omega), by (try dsimp only); omega, by (try dsimp only); omega, WFC.zero⟩) gX12_lineAt_15.2.2
                · refine vV (wr := [(nc, iA G 100 fnc), (nl, iA G 54 (upd (upd (upd (upd (upd (upd (upd (upd fnl ja 0) (ja + 1) (nI v_8710)) (ja + 2) (-9)) (ja + 3) (-9)) (ja + 2) (nI v_8752)) (ja + 3) (nI v_8787)) (ja + 4) (nI kc)) (ja + 5) (nI kc))), (nF, sA G 5 (FCT K)), (nt, iA G 240 fnt)]) hC hK hl hP hD hS hA (m_need0 l G h0 nw nk mhasKept nt (nI ktp) nr mrowMany mroundOf mroundFrom mouts nm mfromHour mtoHour ns (nI kf18783) (nI kt18784) so18785 0 (nI kc) mlines nl nc nF np ntr nb mbestCost nso nsi nit nsh nsf nss nrc mtraced mdealer mnumber mwhose msize misParted) si_X12_236 [3] [0, 1, 2, 4] sm_3 fm_3 nd_3 sm_0_1_2_4 nd_0_1_2_4 dj_3__0_1_2_4 rfl rfl rfl rfl rfl (Nat.le_of_ble_eq_true rfl) rm_32_4_2 ⟨Nat.le_of_ble_eq_true rfl, Nat.le_of_ble_eq_true rfl⟩ gX12_lineAt_15.2.1 (fun u8851 H locs hr8850 hP hD hS => ?_)
                  refine Kpdr (ws := [(nc, iA G 100 fnc), (nl, iA G 54 (upd (upd (upd (upd (upd (upd (upd (upd fnl ja 0) (ja + 1) (nI v_8710)) (ja + 2) (-9)) (ja + 3) (-9)) (ja + 2) (nI v_8752)) (ja + 3) (nI v_8787)) (ja + 4) (nI kc)) (ja + 5) (nI kc))), (nF, sA G 5 (FCT K)), (nt, iA G 240 fnt), (h0, oX12 nw nk mhasKept nt (nI ktp) nr mrowMany mroundOf mroundFrom mouts nm mfromHour mtoHour ns (nI kf18783) (nI kt18784) so18785 1 0 (nI kc) mlines nl nc nF np ntr nb mbestCost nso nsi nit nsh nsf nss nrc mtraced mdealer mnumber mwhose msize misParted)]) hP hD (fun hP hD => ?_)
                  refine toQ hQ0 ?_
                  exact RV hC hP hD hS [4, 3, 0, 1, 2] (1, kf18783, kt18784, so18785, kc, fnc, upd (upd (upd (upd (upd (upd (upd (upd fnl ja 0) (ja + 1) (nI v_8710)) (ja + 2) (-9)) (ja + 3) (-9)) (ja + 2) (nI v_8752)) (ja + 3) (nI v_8787)) (ja + 4) (nI kc)) (ja + 5) (nI kc)) rfl rfl (by decide) (Or.inl rfl) gX12_lineAt_15.2.2
          · refine vV (wr := [(nc, iA G 100 fnc), (nl, iA G 54 (upd (upd (upd (upd (upd fnl ja 0) (ja + 1) (nI v_8710)) (ja + 2) (-9)) (ja + 3) (-9)) (ja + 2) (nI v_8752))), (nF, sA G 5 (FCT K)), (nt, iA G 240 fnt)]) hC hK hl hP hD hS hA (m_need0 l G h0 nw nk mhasKept nt (nI ktp) nr mrowMany mroundOf mroundFrom mouts nm mfromHour mtoHour ns (nI kf18748) (nI kt18749) so18750 0 (nI kc) mlines nl nc nF np ntr nb mbestCost nso nsi nit nsh nsf nss nrc mtraced mdealer mnumber mwhose msize misParted) si_X12_236 [3] [0, 1, 2, 4] sm_3 fm_3 nd_3 sm_0_1_2_4 nd_0_1_2_4 dj_3__0_1_2_4 rfl rfl rfl rfl rfl (Nat.le_of_ble_eq_true rfl) rm_32_4_2 ⟨Nat.le_of_ble_eq_true rfl, Nat.le_of_ble_eq_true rfl⟩ gX12_lineAt_9.2.2.2.1 (fun u8853 H locs hr8852 hP hD hS => ?_)
            refine Kpdr (ws := [(nc, iA G 100 fnc), (nl, iA G 54 (upd (upd (upd (upd (upd fnl ja 0) (ja + 1) (nI v_8710)) (ja + 2) (-9)) (ja + 3) (-9)) (ja + 2) (nI v_8752))), (nF, sA G 5 (FCT K)), (nt, iA G 240 fnt), (h0, oX12 nw nk mhasKept nt (nI ktp) nr mrowMany mroundOf mroundFrom mouts nm mfromHour mtoHour ns (nI kf18748) (nI kt18749) so18750 1 0 (nI kc) mlines nl nc nF np ntr nb mbestCost nso nsi nit nsh nsf nss nrc mtraced mdealer mnumber mwhose msize misParted)]) hP hD (fun hP hD => ?_)
            refine lv_aload_n hx hb gX12_lineAt_9.2.2.2.2.1 rfl (lv_at1 hl) ?_
            refine gf_X12_32 hC rfl hK hP 4 rfl rfl gX12_lineAt_9.2.2.2.2.2.1 ?_
            refine lv_iload_n hx hb gX12_lineAt_9.2.2.2.2.2.2.1 rfl (lv_at2 hl) ?_
            refine lv_iconst (v := 3) hx hb gX12_lineAt_9.2.2.2.2.2.2.2.1 (by decide) ?_
            refine lv_iadd hx hb gX12_lineAt_9.2.2.2.2.2.2.2.2.1 ?_
            refine eqi (x1 := nI (ja + 3)) (nI_add ja 3) ?_
            refine lv_aload_n hx hb gX12_lineAt_9.2.2.2.2.2.2.2.2.2 rfl (lv_at1 hl) ?_
            refine lv_bipush (v := 7) hx hb gX12_lineAt_10.1 (by decide) ?_
            refine iV (wr := [(nc, iA G 100 fnc), (nl, iA G 54 (upd (upd (upd (upd (upd fnl ja 0) (ja + 1) (nI v_8710)) (ja + 2) (-9)) (ja + 3) (-9)) (ja + 2) (nI v_8752))), (nF, sA G 5 (FCT K)), (nt, iA G 240 fnt)]) hC hK hl hP hD hS hA (m_numberF l G h0 7 nw nk mhasKept nt (nI ktp) nr mrowMany mroundOf mroundFrom mouts nm mfromHour mtoHour ns (nI kf18748) (nI kt18749) so18750 0 (nI kc) mlines nl nc nF np ntr nb mbestCost nso nsi nit nsh nsf nss nrc mtraced mdealer mnumber mwhose msize misParted) si_X12_271 [4] [0, 1, 2, 3] sm_4 fm_4 nd_4 sm_0_1_2_3 nd_0_1_2_3 dj_4__0_1_2_3 rfl rfl rfl rfl rfl (Nat.le_of_ble_eq_true rfl) rm_32_5_5 ⟨Nat.le_of_ble_eq_true rfl, Nat.le_of_ble_eq_true rfl⟩ gX12_lineAt_10.2.1 (fun r8854 u8855 H locs hr8854 hP hD hS => ?_)
            refine Kpdr (ws := [(nc, iA G 100 fnc), (nl, iA G 54 (upd (upd (upd (upd (upd fnl ja 0) (ja + 1) (nI v_8710)) (ja + 2) (-9)) (ja + 3) (-9)) (ja + 2) (nI v_8752))), (nF, sA G 5 (FCT K)), (nt, iA G 240 fnt), (h0, oX12 nw nk mhasKept nt (nI ktp) nr mrowMany mroundOf mroundFrom mouts nm mfromHour mtoHour ns (nI kf18748) (nI kt18749) so18750 1 0 (nI kc) mlines nl nc nF np ntr nb mbestCost nso nsi nit nsh nsf nss nrc mtraced mdealer mnumber mwhose msize misParted)]) hP hD (fun hP hD => ?_)
            obtain rfl := hr8854
            refine astN hC hK hP hD hS 1 (ws' := [(nc, iA G 100 fnc), (nl, iA G 54 (upd (upd (upd (upd (upd (upd fnl ja 0) (ja + 1) (nI v_8710)) (ja + 2) (-9)) (ja + 3) (-9)) (ja + 2) (nI v_8752)) (ja + 3) 0)), (nF, sA G 5 (FCT K)), (nt, iA G 240 fnt), (h0, oX12 nw nk mhasKept nt (nI ktp) nr mrowMany mroundOf mroundFrom mouts nm mfromHour mtoHour ns (nI kf18748) (nI kt18749) so18750 1 0 (nI kc) mlines nl nc nF np ntr nb mbestCost nso nsi nit nsh nsf nss nrc mtraced mdealer mnumber mwhose msize misParted)]) rfl (k := (ja + 3)) (by omega) (Nat.le_of_ble_eq_true rfl) (rfl) gX12_lineAt_10.2.2.1 (fun H locs hP hD hS => ?_)
            refine lv_iload_n hx hb gX12_lineAt_10.2.2.2.1 rfl (lv_at0 hl) ?_
            refine lv_iconst (v := 2) hx hb gX12_lineAt_10.2.2.2.2.1 (by decide) ?_
            refine lv_icmp_ne (tgt := 221) hx hb gX12_lineAt_10.2.2.2.2.2.1 (by decide) (fun _ => ?_) (fun c9 => absurd c9 (by decide))
            refine lv_aload_n hx hb gX12_lineAt_12.1 rfl (lv_at1 hl) ?_
            refine gf_X12_32 hC rfl hK hP 4 rfl rfl gX12_lineAt_12.2.1 ?_
            refine lv_iload_n hx hb gX12_lineAt_12.2.2.1 rfl (lv_at2 hl) ?_
            refine lv_iconst (v := 4) hx hb gX12_lineAt_12.2.2.2.1 (by decide) ?_
            refine lv_iadd hx hb gX12_lineAt_12.2.2.2.2.1 ?_
            refine eqi (x1 := nI (ja + 4)) (nI_add ja 4) ?_
            refine lv_aload_n hx hb gX12_lineAt_12.2.2.2.2.2.1 rfl (lv_at1 hl) ?_
            refine gf_X12_240 hC rfl hK hP 4 rfl rfl gX12_lineAt_12.2.2.2.2.2.2.1 ?_
            refine astN hC hK hP hD hS 1 (ws' := [(nc, iA G 100 fnc), (nl, iA G 54 (upd (upd (upd (upd (upd (upd (upd fnl ja 0) (ja + 1) (nI v_8710)) (ja + 2) (-9)) (ja + 3) (-9)) (ja + 2) (nI v_8752)) (ja + 3) 0) (ja + 4) (nI kc))), (nF, sA G 5 (FCT K)), (nt, iA G 240 fnt), (h0, oX12 nw nk mhasKept nt (nI ktp) nr mrowMany mroundOf mroundFrom mouts nm mfromHour mtoHour ns (nI kf18748) (nI kt18749) so18750 1 0 (nI kc) mlines nl nc nF np ntr nb mbestCost nso nsi nit nsh nsf nss nrc mtraced mdealer mnumber mwhose msize misParted)]) rfl (k := (ja + 4)) (by omega) (Nat.le_of_ble_eq_true rfl) (rfl) gX12_lineAt_12.2.2.2.2.2.2.2.1 (fun H locs hP hD hS => ?_)
            refine lv_iload_n hx hb gX12_lineAt_12.2.2.2.2.2.2.2.2.1 rfl (lv_at0 hl) ?_
            refine lv_iconst (v := 3) hx hb gX12_lineAt_12.2.2.2.2.2.2.2.2.2 (by decide) ?_
            refine lv_icmp_eq (tgt := 256) hx hb gX12_lineAt_13.1 (by decide) (fun c9 => absurd c9 (by decide)) (fun _ => ?_)
            refine lv_aload_n hx hb gX12_lineAt_13.2.1 rfl (lv_at1 hl) ?_
            refine va_ldcSw (index := 287) (tx := "if") hx hb hown (hO.2.2 0 (by decide)) gX12_lineAt_13.2.2.1 ?_
            refine pVo hO hS hC hK hl hP hD (m_isNameF l G K 0 h0 nw nk mhasKept nt (nI ktp) nr mrowMany mroundOf mroundFrom mouts nm mfromHour mtoHour ns (nI kf18748) (nI kt18749) so18750 0 (nI kc) mlines nl nc nF np ntr nb mbestCost nso nsi nit nsh nsf nss nrc mtraced mdealer mnumber mwhose msize misParted ((by decide))) si_X12_248 [4] sm_4 fm_4 nd_4 rfl rfl rfl rfl rfl (Nat.le_of_ble_eq_true rfl) rm_32_5_4 ⟨by first | exact Nat.le_of_ble_eq_true rfl | exact Nat.zero_le _, by first | exact Nat.le_of_ble_eq_true rfl | exact Nat.zero_le _⟩ gX12_lineAt_13.2.2.2.1 (Keqr ?_)
            refine lv_if_eq (tgt := 256) hx hb gX12_lineAt_13.2.2.2.2.1 (by decide) (fun _ => ?_) (fun c9 => absurd (by decide) c9)
            refine lv_aload_n hx hb gX12_lineAt_13.2.2.2.2.2.2.2.2.2 rfl (lv_at1 hl) ?_
            refine gf_X12_32 hC rfl hK hP 4 rfl rfl gX12_lineAt_14.1 ?_
            refine lv_iload_n hx hb gX12_lineAt_14.2.1 rfl (lv_at2 hl) ?_
            refine lv_iconst (v := 5) hx hb gX12_lineAt_14.2.2.1 (by decide) ?_
            refine lv_iadd hx hb gX12_lineAt_14.2.2.2.1 ?_
            refine eqi (x1 := nI (ja + 5)) (nI_add ja 5) ?_
            refine lv_aload_n hx hb gX12_lineAt_14.2.2.2.2.1 rfl (lv_at1 hl) ?_
            refine gf_X12_240 hC rfl hK hP 4 rfl rfl gX12_lineAt_14.2.2.2.2.2.1 ?_
            refine astN hC hK hP hD hS 1 (ws' := [(nc, iA G 100 fnc), (nl, iA G 54 (upd (upd (upd (upd (upd (upd (upd (upd fnl ja 0) (ja + 1) (nI v_8710)) (ja + 2) (-9)) (ja + 3) (-9)) (ja + 2) (nI v_8752)) (ja + 3) 0) (ja + 4) (nI kc)) (ja + 5) (nI kc))), (nF, sA G 5 (FCT K)), (nt, iA G 240 fnt), (h0, oX12 nw nk mhasKept nt (nI ktp) nr mrowMany mroundOf mroundFrom mouts nm mfromHour mtoHour ns (nI kf18748) (nI kt18749) so18750 1 0 (nI kc) mlines nl nc nF np ntr nb mbestCost nso nsi nit nsh nsf nss nrc mtraced mdealer mnumber mwhose msize misParted)]) rfl (k := (ja + 5)) (by omega) (Nat.le_of_ble_eq_true rfl) (rfl) gX12_lineAt_14.2.2.2.2.2.2.1 (fun H locs hP hD hS => ?_)
            refine lv_aload_n hx hb gX12_lineAt_14.2.2.2.2.2.2.2.1 rfl (lv_at1 hl) ?_
            refine lv_aload_n hx hb gX12_lineAt_14.2.2.2.2.2.2.2.2.1 rfl (lv_at1 hl) ?_
            refine lv_bipush (v := 59) hx hb gX12_lineAt_14.2.2.2.2.2.2.2.2.2 (by decide) ?_
            refine pV hC hK hl hP hD (m_isSignF l G h0 59 nw nk mhasKept nt (nI ktp) nr mrowMany mroundOf mroundFrom mouts nm mfromHour mtoHour ns (nI kf18748) (nI kt18749) so18750 0 (nI kc) mlines nl nc nF np ntr nb mbestCost nso nsi nit nsh nsf nss nrc mtraced mdealer mnumber mwhose msize misParted) si_X12_262 [4] sm_4 fm_4 nd_4 rfl rfl rfl rfl rfl (Nat.le_of_ble_eq_true rfl) rm_32_1_2 ⟨by first | exact Nat.le_of_ble_eq_true rfl | exact Nat.zero_le _, by first | exact Nat.le_of_ble_eq_true rfl | exact Nat.zero_le _⟩ gX12_lineAt_15.1 (Keqr ?_)
            refine vV (wr := [(nc, iA G 100 fnc), (nl, iA G 54 (upd (upd (upd (upd (upd (upd (upd (upd fnl ja 0) (ja + 1) (nI v_8710)) (ja + 2) (-9)) (ja + 3) (-9)) (ja + 2) (nI v_8752)) (ja + 3) 0) (ja + 4) (nI kc)) (ja + 5) (nI kc))), (nF, sA G 5 (FCT K)), (nt, iA G 240 fnt)]) hC hK hl hP hD hS hA (m_needF l G h0 0 nw nk mhasKept nt (nI ktp) nr mrowMany mroundOf mroundFrom mouts nm mfromHour mtoHour ns (nI kf18748) (nI kt18749) so18750 0 (nI kc) mlines nl nc nF np ntr nb mbestCost nso nsi nit nsh nsf nss nrc mtraced mdealer mnumber mwhose msize misParted) si_X12_236 [4] [0, 1, 2, 3] sm_4 fm_4 nd_4 sm_0_1_2_3 nd_0_1_2_3 dj_4__0_1_2_3 rfl rfl rfl rfl rfl (Nat.le_of_ble_eq_true rfl) rm_32_4_2 ⟨Nat.le_of_ble_eq_true rfl, Nat.le_of_ble_eq_true rfl⟩ gX12_lineAt_15.2.1 (fun u8862 H locs hr8861 hP hD hS => ?_)
            refine Kpdr (ws := [(nc, iA G 100 fnc), (nl, iA G 54 (upd (upd (upd (upd (upd (upd (upd (upd fnl ja 0) (ja + 1) (nI v_8710)) (ja + 2) (-9)) (ja + 3) (-9)) (ja + 2) (nI v_8752)) (ja + 3) 0) (ja + 4) (nI kc)) (ja + 5) (nI kc))), (nF, sA G 5 (FCT K)), (nt, iA G 240 fnt), (h0, oX12 nw nk mhasKept nt (nI ktp) nr mrowMany mroundOf mroundFrom mouts nm mfromHour mtoHour ns (nI kf18748) (nI kt18749) so18750 1 0 (nI kc) mlines nl nc nF np ntr nb mbestCost nso nsi nit nsh nsf nss nrc mtraced mdealer mnumber mwhose msize misParted)]) hP hD (fun hP hD => ?_)
            refine toQ hQ0 ?_
            exact RV hC hP hD hS [4, 3, 0, 1, 2] (1, kf18748, kt18749, so18750, kc, fnc, upd (upd (upd (upd (upd (upd (upd (upd fnl ja 0) (ja + 1) (nI v_8710)) (ja + 2) (-9)) (ja + 3) (-9)) (ja + 2) (nI v_8752)) (ja + 3) 0) (ja + 4) (nI kc)) (ja + 5) (nI kc)) rfl rfl (by decide) (Or.inl rfl) gX12_lineAt_15.2.2
      · refine vV (wr := [(nc, iA G 100 fnc), (nl, iA G 54 (upd (upd (upd (upd fnl ja 0) (ja + 1) (nI v_8710)) (ja + 2) (-9)) (ja + 3) (-9))), (nF, sA G 5 (FCT K)), (nt, iA G 240 fnt)]) hC hK hl hP hD hS hA (m_need0 l G h0 nw nk mhasKept nt (nI ktp) nr mrowMany mroundOf mroundFrom mouts nm mfromHour mtoHour ns (nI kf18706) (nI kt18707) so18708 0 (nI kc) mlines nl nc nF np ntr nb mbestCost nso nsi nit nsh nsf nss nrc mtraced mdealer mnumber mwhose msize misParted) si_X12_236 [3] [0, 1, 2, 4] sm_3 fm_3 nd_3 sm_0_1_2_4 nd_0_1_2_4 dj_3__0_1_2_4 rfl rfl rfl rfl rfl (Nat.le_of_ble_eq_true rfl) rm_32_4_2 ⟨Nat.le_of_ble_eq_true rfl, Nat.le_of_ble_eq_true rfl⟩ gX12_lineAt_7.2.2.2.2.2.2.2.2.2 (fun u8864 H locs hr8863 hP hD hS => ?_)
        refine Kpdr (ws := [(nc, iA G 100 fnc), (nl, iA G 54 (upd (upd (upd (upd fnl ja 0) (ja + 1) (nI v_8710)) (ja + 2) (-9)) (ja + 3) (-9))), (nF, sA G 5 (FCT K)), (nt, iA G 240 fnt), (h0, oX12 nw nk mhasKept nt (nI ktp) nr mrowMany mroundOf mroundFrom mouts nm mfromHour mtoHour ns (nI kf18706) (nI kt18707) so18708 1 0 (nI kc) mlines nl nc nF np ntr nb mbestCost nso nsi nit nsh nsf nss nrc mtraced mdealer mnumber mwhose msize misParted)]) hP hD (fun hP hD => ?_)
        refine lv_aload_n hx hb gX12_lineAt_8.1 rfl (lv_at1 hl) ?_
        refine gf_X12_32 hC rfl hK hP 4 rfl rfl gX12_lineAt_8.2.1 ?_
        refine lv_iload_n hx hb gX12_lineAt_8.2.2.1 rfl (lv_at2 hl) ?_
        refine lv_iconst (v := 2) hx hb gX12_lineAt_8.2.2.2.1 (by decide) ?_
        refine lv_iadd hx hb gX12_lineAt_8.2.2.2.2.1 ?_
        refine eqi (x1 := nI (ja + 2)) (nI_add ja 2) ?_
        refine lv_aload_n hx hb gX12_lineAt_8.2.2.2.2.2.1 rfl (lv_at1 hl) ?_
        refine lv_bipush (v := 7) hx hb gX12_lineAt_8.2.2.2.2.2.2.1 (by decide) ?_
        refine iV (wr := [(nc, iA G 100 fnc), (nl, iA G 54 (upd (upd (upd (upd fnl ja 0) (ja + 1) (nI v_8710)) (ja + 2) (-9)) (ja + 3) (-9))), (nF, sA G 5 (FCT K)), (nt, iA G 240 fnt)]) hC hK hl hP hD hS hA (m_numberF l G h0 7 nw nk mhasKept nt (nI ktp) nr mrowMany mroundOf mroundFrom mouts nm mfromHour mtoHour ns (nI kf18706) (nI kt18707) so18708 0 (nI kc) mlines nl nc nF np ntr nb mbestCost nso nsi nit nsh nsf nss nrc mtraced mdealer mnumber mwhose msize misParted) si_X12_271 [4] [0, 1, 2, 3] sm_4 fm_4 nd_4 sm_0_1_2_3 nd_0_1_2_3 dj_4__0_1_2_3 rfl rfl rfl rfl rfl (Nat.le_of_ble_eq_true rfl) rm_32_5_5 ⟨Nat.le_of_ble_eq_true rfl, Nat.le_of_ble_eq_true rfl⟩ gX12_lineAt_8.2.2.2.2.2.2.2.1 (fun r8865 u8866 H locs hr8865 hP hD hS => ?_)
        refine Kpdr (ws := [(nc, iA G 100 fnc), (nl, iA G 54 (upd (upd (upd (upd fnl ja 0) (ja + 1) (nI v_8710)) (ja + 2) (-9)) (ja + 3) (-9))), (nF, sA G 5 (FCT K)), (nt, iA G 240 fnt), (h0, oX12 nw nk mhasKept nt (nI ktp) nr mrowMany mroundOf mroundFrom mouts nm mfromHour mtoHour ns (nI kf18706) (nI kt18707) so18708 1 0 (nI kc) mlines nl nc nF np ntr nb mbestCost nso nsi nit nsh nsf nss nrc mtraced mdealer mnumber mwhose msize misParted)]) hP hD (fun hP hD => ?_)
        obtain rfl := hr8865
        refine astN hC hK hP hD hS 1 (ws' := [(nc, iA G 100 fnc), (nl, iA G 54 (upd (upd (upd (upd (upd fnl ja 0) (ja + 1) (nI v_8710)) (ja + 2) (-9)) (ja + 3) (-9)) (ja + 2) 0)), (nF, sA G 5 (FCT K)), (nt, iA G 240 fnt), (h0, oX12 nw nk mhasKept nt (nI ktp) nr mrowMany mroundOf mroundFrom mouts nm mfromHour mtoHour ns (nI kf18706) (nI kt18707) so18708 1 0 (nI kc) mlines nl nc nF np ntr nb mbestCost nso nsi nit nsh nsf nss nrc mtraced mdealer mnumber mwhose msize misParted)]) rfl (k := (ja + 2)) (by omega) (Nat.le_of_ble_eq_true rfl) (rfl) gX12_lineAt_8.2.2.2.2.2.2.2.2.1 (fun H locs hP hD hS => ?_)
        refine lv_aload_n hx hb gX12_lineAt_8.2.2.2.2.2.2.2.2.2 rfl (lv_at1 hl) ?_
        refine lv_aload_n hx hb gX12_lineAt_9.1 rfl (lv_at1 hl) ?_
        refine va_ldcSw (index := 284) (tx := "from") hx hb hown (hO.2.2 6 (by decide)) gX12_lineAt_9.2.1 ?_
        refine pVo hO hS hC hK hl hP hD (m_isNameF l G K 6 h0 nw nk mhasKept nt (nI ktp) nr mrowMany mroundOf mroundFrom mouts nm mfromHour mtoHour ns (nI kf18706) (nI kt18707) so18708 0 (nI kc) mlines nl nc nF np ntr nb mbestCost nso nsi nit nsh nsf nss nrc mtraced mdealer mnumber mwhose msize misParted ((by decide))) si_X12_248 [4] sm_4 fm_4 nd_4 rfl rfl rfl rfl rfl (Nat.le_of_ble_eq_true rfl) rm_32_5_4 ⟨by first | exact Nat.le_of_ble_eq_true rfl | exact Nat.zero_le _, by first | exact Nat.le_of_ble_eq_true rfl | exact Nat.zero_le _⟩ gX12_lineAt_9.2.2.1 (Keqr ?_)
        refine vV (wr := [(nc, iA G 100 fnc), (nl, iA G 54 (upd (upd (upd (upd (upd fnl ja 0) (ja + 1) (nI v_8710)) (ja + 2) (-9)) (ja + 3) (-9)) (ja + 2) 0)), (nF, sA G 5 (FCT K)), (nt, iA G 240 fnt)]) hC hK hl hP hD hS hA (m_needF l G h0 0 nw nk mhasKept nt (nI ktp) nr mrowMany mroundOf mroundFrom mouts nm mfromHour mtoHour ns (nI kf18706) (nI kt18707) so18708 0 (nI kc) mlines nl nc nF np ntr nb mbestCost nso nsi nit nsh nsf nss nrc mtraced mdealer mnumber mwhose msize misParted) si_X12_236 [4] [0, 1, 2, 3] sm_4 fm_4 nd_4 sm_0_1_2_3 nd_0_1_2_3 dj_4__0_1_2_3 rfl rfl rfl rfl rfl (Nat.le_of_ble_eq_true rfl) rm_32_4_2 ⟨Nat.le_of_ble_eq_true rfl, Nat.le_of_ble_eq_true rfl⟩ gX12_lineAt_9.2.2.2.1 (fun u8871 H locs hr8870 hP hD hS => ?_)
        refine Kpdr (ws := [(nc, iA G 100 fnc), (nl, iA G 54 (upd (upd (upd (upd (upd fnl ja 0) (ja + 1) (nI v_8710)) (ja + 2) (-9)) (ja + 3) (-9)) (ja + 2) 0)), (nF, sA G 5 (FCT K)), (nt, iA G 240 fnt), (h0, oX12 nw nk mhasKept nt (nI ktp) nr mrowMany mroundOf mroundFrom mouts nm mfromHour mtoHour ns (nI kf18706) (nI kt18707) so18708 1 0 (nI kc) mlines nl nc nF np ntr nb mbestCost nso nsi nit nsh nsf nss nrc mtraced mdealer mnumber mwhose msize misParted)]) hP hD (fun hP hD => ?_)
        refine lv_aload_n hx hb gX12_lineAt_9.2.2.2.2.1 rfl (lv_at1 hl) ?_
        refine gf_X12_32 hC rfl hK hP 4 rfl rfl gX12_lineAt_9.2.2.2.2.2.1 ?_
        refine lv_iload_n hx hb gX12_lineAt_9.2.2.2.2.2.2.1 rfl (lv_at2 hl) ?_
        refine lv_iconst (v := 3) hx hb gX12_lineAt_9.2.2.2.2.2.2.2.1 (by decide) ?_
        refine lv_iadd hx hb gX12_lineAt_9.2.2.2.2.2.2.2.2.1 ?_
        refine eqi (x1 := nI (ja + 3)) (nI_add ja 3) ?_
        refine lv_aload_n hx hb gX12_lineAt_9.2.2.2.2.2.2.2.2.2 rfl (lv_at1 hl) ?_
        refine lv_bipush (v := 7) hx hb gX12_lineAt_10.1 (by decide) ?_
        refine iV (wr := [(nc, iA G 100 fnc), (nl, iA G 54 (upd (upd (upd (upd (upd fnl ja 0) (ja + 1) (nI v_8710)) (ja + 2) (-9)) (ja + 3) (-9)) (ja + 2) 0)), (nF, sA G 5 (FCT K)), (nt, iA G 240 fnt)]) hC hK hl hP hD hS hA (m_numberF l G h0 7 nw nk mhasKept nt (nI ktp) nr mrowMany mroundOf mroundFrom mouts nm mfromHour mtoHour ns (nI kf18706) (nI kt18707) so18708 0 (nI kc) mlines nl nc nF np ntr nb mbestCost nso nsi nit nsh nsf nss nrc mtraced mdealer mnumber mwhose msize misParted) si_X12_271 [4] [0, 1, 2, 3] sm_4 fm_4 nd_4 sm_0_1_2_3 nd_0_1_2_3 dj_4__0_1_2_3 rfl rfl rfl rfl rfl (Nat.le_of_ble_eq_true rfl) rm_32_5_5 ⟨Nat.le_of_ble_eq_true rfl, Nat.le_of_ble_eq_true rfl⟩ gX12_lineAt_10.2.1 (fun r8872 u8873 H locs hr8872 hP hD hS => ?_)
        refine Kpdr (ws := [(nc, iA G 100 fnc), (nl, iA G 54 (upd (upd (upd (upd (upd fnl ja 0) (ja + 1) (nI v_8710)) (ja + 2) (-9)) (ja + 3) (-9)) (ja + 2) 0)), (nF, sA G 5 (FCT K)), (nt, iA G 240 fnt), (h0, oX12 nw nk mhasKept nt (nI ktp) nr mrowMany mroundOf mroundFrom mouts nm mfromHour mtoHour ns (nI kf18706) (nI kt18707) so18708 1 0 (nI kc) mlines nl nc nF np ntr nb mbestCost nso nsi nit nsh nsf nss nrc mtraced mdealer mnumber mwhose msize misParted)]) hP hD (fun hP hD => ?_)
        obtain rfl := hr8872
        refine astN hC hK hP hD hS 1 (ws' := [(nc, iA G 100 fnc), (nl, iA G 54 (upd (upd (upd (upd (upd (upd fnl ja 0) (ja + 1) (nI v_8710)) (ja + 2) (-9)) (ja + 3) (-9)) (ja + 2) 0) (ja + 3) 0)), (nF, sA G 5 (FCT K)), (nt, iA G 240 fnt), (h0, oX12 nw nk mhasKept nt (nI ktp) nr mrowMany mroundOf mroundFrom mouts nm mfromHour mtoHour ns (nI kf18706) (nI kt18707) so18708 1 0 (nI kc) mlines nl nc nF np ntr nb mbestCost nso nsi nit nsh nsf nss nrc mtraced mdealer mnumber mwhose msize misParted)]) rfl (k := (ja + 3)) (by omega) (Nat.le_of_ble_eq_true rfl) (rfl) gX12_lineAt_10.2.2.1 (fun H locs hP hD hS => ?_)
        refine lv_iload_n hx hb gX12_lineAt_10.2.2.2.1 rfl (lv_at0 hl) ?_
        refine lv_iconst (v := 2) hx hb gX12_lineAt_10.2.2.2.2.1 (by decide) ?_
        refine lv_icmp_ne (tgt := 221) hx hb gX12_lineAt_10.2.2.2.2.2.1 (by decide) (fun _ => ?_) (fun c9 => absurd c9 (by decide))
        refine lv_aload_n hx hb gX12_lineAt_12.1 rfl (lv_at1 hl) ?_
        refine gf_X12_32 hC rfl hK hP 4 rfl rfl gX12_lineAt_12.2.1 ?_
        refine lv_iload_n hx hb gX12_lineAt_12.2.2.1 rfl (lv_at2 hl) ?_
        refine lv_iconst (v := 4) hx hb gX12_lineAt_12.2.2.2.1 (by decide) ?_
        refine lv_iadd hx hb gX12_lineAt_12.2.2.2.2.1 ?_
        refine eqi (x1 := nI (ja + 4)) (nI_add ja 4) ?_
        refine lv_aload_n hx hb gX12_lineAt_12.2.2.2.2.2.1 rfl (lv_at1 hl) ?_
        refine gf_X12_240 hC rfl hK hP 4 rfl rfl gX12_lineAt_12.2.2.2.2.2.2.1 ?_
        refine astN hC hK hP hD hS 1 (ws' := [(nc, iA G 100 fnc), (nl, iA G 54 (upd (upd (upd (upd (upd (upd (upd fnl ja 0) (ja + 1) (nI v_8710)) (ja + 2) (-9)) (ja + 3) (-9)) (ja + 2) 0) (ja + 3) 0) (ja + 4) (nI kc))), (nF, sA G 5 (FCT K)), (nt, iA G 240 fnt), (h0, oX12 nw nk mhasKept nt (nI ktp) nr mrowMany mroundOf mroundFrom mouts nm mfromHour mtoHour ns (nI kf18706) (nI kt18707) so18708 1 0 (nI kc) mlines nl nc nF np ntr nb mbestCost nso nsi nit nsh nsf nss nrc mtraced mdealer mnumber mwhose msize misParted)]) rfl (k := (ja + 4)) (by omega) (Nat.le_of_ble_eq_true rfl) (rfl) gX12_lineAt_12.2.2.2.2.2.2.2.1 (fun H locs hP hD hS => ?_)
        refine lv_iload_n hx hb gX12_lineAt_12.2.2.2.2.2.2.2.2.1 rfl (lv_at0 hl) ?_
        refine lv_iconst (v := 3) hx hb gX12_lineAt_12.2.2.2.2.2.2.2.2.2 (by decide) ?_
        refine lv_icmp_eq (tgt := 256) hx hb gX12_lineAt_13.1 (by decide) (fun c9 => absurd c9 (by decide)) (fun _ => ?_)
        refine lv_aload_n hx hb gX12_lineAt_13.2.1 rfl (lv_at1 hl) ?_
        refine va_ldcSw (index := 287) (tx := "if") hx hb hown (hO.2.2 0 (by decide)) gX12_lineAt_13.2.2.1 ?_
        refine pVo hO hS hC hK hl hP hD (m_isNameF l G K 0 h0 nw nk mhasKept nt (nI ktp) nr mrowMany mroundOf mroundFrom mouts nm mfromHour mtoHour ns (nI kf18706) (nI kt18707) so18708 0 (nI kc) mlines nl nc nF np ntr nb mbestCost nso nsi nit nsh nsf nss nrc mtraced mdealer mnumber mwhose msize misParted ((by decide))) si_X12_248 [4] sm_4 fm_4 nd_4 rfl rfl rfl rfl rfl (Nat.le_of_ble_eq_true rfl) rm_32_5_4 ⟨by first | exact Nat.le_of_ble_eq_true rfl | exact Nat.zero_le _, by first | exact Nat.le_of_ble_eq_true rfl | exact Nat.zero_le _⟩ gX12_lineAt_13.2.2.2.1 (Keqr ?_)
        refine lv_if_eq (tgt := 256) hx hb gX12_lineAt_13.2.2.2.2.1 (by decide) (fun _ => ?_) (fun c9 => absurd (by decide) c9)
        refine lv_aload_n hx hb gX12_lineAt_13.2.2.2.2.2.2.2.2.2 rfl (lv_at1 hl) ?_
        refine gf_X12_32 hC rfl hK hP 4 rfl rfl gX12_lineAt_14.1 ?_
        refine lv_iload_n hx hb gX12_lineAt_14.2.1 rfl (lv_at2 hl) ?_
        refine lv_iconst (v := 5) hx hb gX12_lineAt_14.2.2.1 (by decide) ?_
        refine lv_iadd hx hb gX12_lineAt_14.2.2.2.1 ?_
        refine eqi (x1 := nI (ja + 5)) (nI_add ja 5) ?_
        refine lv_aload_n hx hb gX12_lineAt_14.2.2.2.2.1 rfl (lv_at1 hl) ?_
        refine gf_X12_240 hC rfl hK hP 4 rfl rfl gX12_lineAt_14.2.2.2.2.2.1 ?_
        refine astN hC hK hP hD hS 1 (ws' := [(nc, iA G 100 fnc), (nl, iA G 54 (upd (upd (upd (upd (upd (upd (upd (upd fnl ja 0) (ja + 1) (nI v_8710)) (ja + 2) (-9)) (ja + 3) (-9)) (ja + 2) 0) (ja + 3) 0) (ja + 4) (nI kc)) (ja + 5) (nI kc))), (nF, sA G 5 (FCT K)), (nt, iA G 240 fnt), (h0, oX12 nw nk mhasKept nt (nI ktp) nr mrowMany mroundOf mroundFrom mouts nm mfromHour mtoHour ns (nI kf18706) (nI kt18707) so18708 1 0 (nI kc) mlines nl nc nF np ntr nb mbestCost nso nsi nit nsh nsf nss nrc mtraced mdealer mnumber mwhose msize misParted)]) rfl (k := (ja + 5)) (by omega) (Nat.le_of_ble_eq_true rfl) (rfl) gX12_lineAt_14.2.2.2.2.2.2.1 (fun H locs hP hD hS => ?_)
        refine lv_aload_n hx hb gX12_lineAt_14.2.2.2.2.2.2.2.1 rfl (lv_at1 hl) ?_
        refine lv_aload_n hx hb gX12_lineAt_14.2.2.2.2.2.2.2.2.1 rfl (lv_at1 hl) ?_
        refine lv_bipush (v := 59) hx hb gX12_lineAt_14.2.2.2.2.2.2.2.2.2 (by decide) ?_
        refine pV hC hK hl hP hD (m_isSignF l G h0 59 nw nk mhasKept nt (nI ktp) nr mrowMany mroundOf mroundFrom mouts nm mfromHour mtoHour ns (nI kf18706) (nI kt18707) so18708 0 (nI kc) mlines nl nc nF np ntr nb mbestCost nso nsi nit nsh nsf nss nrc mtraced mdealer mnumber mwhose msize misParted) si_X12_262 [4] sm_4 fm_4 nd_4 rfl rfl rfl rfl rfl (Nat.le_of_ble_eq_true rfl) rm_32_1_2 ⟨by first | exact Nat.le_of_ble_eq_true rfl | exact Nat.zero_le _, by first | exact Nat.le_of_ble_eq_true rfl | exact Nat.zero_le _⟩ gX12_lineAt_15.1 (Keqr ?_)
        refine vV (wr := [(nc, iA G 100 fnc), (nl, iA G 54 (upd (upd (upd (upd (upd (upd (upd (upd fnl ja 0) (ja + 1) (nI v_8710)) (ja + 2) (-9)) (ja + 3) (-9)) (ja + 2) 0) (ja + 3) 0) (ja + 4) (nI kc)) (ja + 5) (nI kc))), (nF, sA G 5 (FCT K)), (nt, iA G 240 fnt)]) hC hK hl hP hD hS hA (m_needF l G h0 0 nw nk mhasKept nt (nI ktp) nr mrowMany mroundOf mroundFrom mouts nm mfromHour mtoHour ns (nI kf18706) (nI kt18707) so18708 0 (nI kc) mlines nl nc nF np ntr nb mbestCost nso nsi nit nsh nsf nss nrc mtraced mdealer mnumber mwhose msize misParted) si_X12_236 [4] [0, 1, 2, 3] sm_4 fm_4 nd_4 sm_0_1_2_3 nd_0_1_2_3 dj_4__0_1_2_3 rfl rfl rfl rfl rfl (Nat.le_of_ble_eq_true rfl) rm_32_4_2 ⟨Nat.le_of_ble_eq_true rfl, Nat.le_of_ble_eq_true rfl⟩ gX12_lineAt_15.2.1 (fun u8880 H locs hr8879 hP hD hS => ?_)
        refine Kpdr (ws := [(nc, iA G 100 fnc), (nl, iA G 54 (upd (upd (upd (upd (upd (upd (upd (upd fnl ja 0) (ja + 1) (nI v_8710)) (ja + 2) (-9)) (ja + 3) (-9)) (ja + 2) 0) (ja + 3) 0) (ja + 4) (nI kc)) (ja + 5) (nI kc))), (nF, sA G 5 (FCT K)), (nt, iA G 240 fnt), (h0, oX12 nw nk mhasKept nt (nI ktp) nr mrowMany mroundOf mroundFrom mouts nm mfromHour mtoHour ns (nI kf18706) (nI kt18707) so18708 1 0 (nI kc) mlines nl nc nF np ntr nb mbestCost nso nsi nit nsh nsf nss nrc mtraced mdealer mnumber mwhose msize misParted)]) hP hD (fun hP hD => ?_)
        refine toQ hQ0 ?_
        exact RV hC hP hD hS [4, 3, 0, 1, 2] (1, kf18706, kt18707, so18708, kc, fnc, upd (upd (upd (upd (upd (upd (upd (upd fnl ja 0) (ja + 1) (nI v_8710)) (ja + 2) (-9)) (ja + 3) (-9)) (ja + 2) 0) (ja + 3) 0) (ja + 4) (nI kc)) (ja + 5) (nI kc)) rfl rfl (by decide) (Or.inl rfl) gX12_lineAt_15.2.2
  · refine lv_if_eq (tgt := 14) hx hb gX12_lineAt_0.2.2.2.1 (by decide) (fun _ => ?_) (fun c9 => absurd (by decide) c9)
    refine lv_aload_n hx hb gX12_lineAt_0.2.2.2.2.2.2.1 rfl (lv_at0 hl) ?_
    refine va_ldcSw (index := 276) (tx := "warn") hx hb hown (hO.2.2 2 (by decide)) gX12_lineAt_0.2.2.2.2.2.2.2.1 ?_
    refine pVo hO hS hC hK hl hP hD (m_isName0 l G K 2 h0 nw nk mhasKept nt ktp nr mrowMany mroundOf mroundFrom mouts nm mfromHour mtoHour ns kf kt so 0 (nI kc) mlines nl nc nF np ntr nb mbestCost nso nsi nit nsh nsf nss nrc mtraced mdealer mnumber mwhose msize misParted fnt ((by decide)) (hT) (htp)) si_X12_248 [0, 1] sm_0_1 fm_0_1 nd_0_1 rfl rfl rfl rfl rfl (Nat.le_of_ble_eq_true rfl) rm_32_5_4 ⟨by first | exact Nat.le_of_ble_eq_true rfl | exact Nat.zero_le _, by first | exact Nat.le_of_ble_eq_true rfl | exact Nat.zero_le _⟩ gX12_lineAt_0.2.2.2.2.2.2.2.2.1 (Kors (Keqa fun a8882 => ?_) (Keqr ?_))
    · refine lv_if_eq (tgt := 28) hx hb gX12_lineAt_0.2.2.2.2.2.2.2.2.2 (by decide) (fun c9 => absurd c9 (by decide)) (fun _ => ?_)
      refine lv_iconst (v := 1) hx hb gX12_lineAt_1.1 (by decide) ?_
      refine lv_goto (tgt := 57) hx hb gX12_lineAt_1.2.1 (by decide) ?_
      refine lv_istore_n (lv' := [(2, .int 1), (0, .ref h0), (1, .int (nI ja))]) hx hb gX12_lineAt_2.2.2.2.2.2.1 rfl hl (by decide) rfl (fun ls hl => ?_)
      refine lv_aload_n hx hb gX12_lineAt_2.2.2.2.2.2.2.1 rfl (lv_at1 hl) ?_
      refine lv_iload_n hx hb gX12_lineAt_2.2.2.2.2.2.2.2.1 rfl (lv_at0 hl) ?_
      refine lv_if_lt (tgt := 67) hx hb gX12_lineAt_2.2.2.2.2.2.2.2.2.1 (by decide) (fun c9 => absurd c9 (by decide)) (fun _ => ?_)
      refine lv_iconst (v := 1) hx hb gX12_lineAt_2.2.2.2.2.2.2.2.2.2 (by decide) ?_
      refine lv_goto (tgt := 68) hx hb gX12_lineAt_3.1 (by decide) ?_
      have tI8883 : kt = kf + 4 := a8882.2
      refine vV (wr := [(nc, iA G 100 fnc), (nl, iA G 54 fnl), (nF, sA G 5 (FCT K))]) hC hK hl hP hD hS hA (m_need1 l G h0 nw nk mhasKept nt ktp nr mrowMany mroundOf mroundFrom mouts nm mfromHour mtoHour ns (nI kf) kt so 0 (nI kc) mlines nl nc nF np ntr nb mbestCost nso nsi nit nsh nsf nss nrc mtraced mdealer mnumber mwhose msize misParted fnt (by omega) (htp)) si_X12_236 [0, 1] [2, 3, 4] sm_0_1 fm_0_1 nd_0_1 sm_2_3_4 nd_2_3_4 dj_0_1__2_3_4 rfl rfl rfl rfl rfl (Nat.le_of_ble_eq_true rfl) rm_32_4_2 ⟨Nat.le_of_ble_eq_true rfl, Nat.le_of_ble_eq_true rfl⟩ gX12_lineAt_3.2.2.1 (Ktu3 fun kf18886 kt18887 so18888 => ?_)
      intro H locs hr8884 hP hD hS
      try dsimp only at hr8884
      refine Kpdr (ws := [(nc, iA G 100 fnc), (nl, iA G 54 fnl), (nF, sA G 5 (FCT K)), (h0, oX12 nw nk mhasKept nt (nI ktp) nr mrowMany mroundOf mroundFrom mouts nm mfromHour mtoHour ns (nI kf18886) (nI kt18887) so18888 0 0 (nI kc) mlines nl nc nF np ntr nb mbestCost nso nsi nit nsh nsf nss nrc mtraced mdealer mnumber mwhose msize misParted), (nt, iA G 240 fnt)]) hP hD (fun hP hD => ?_)
      have hw8890_0 := hr8884.1
      have hw8890_1 := hr8884.2
      have tA8892 := hw8890_1.1
      have tB8892 := hw8890_1.2.1
      refine lv_aload_n hx hb gX12_lineAt_3.2.2.2.1 rfl (lv_at1 hl) ?_
      refine gf_X12_32 hC rfl hK hP 3 rfl rfl gX12_lineAt_3.2.2.2.2.1 ?_
      refine lv_iload_n hx hb gX12_lineAt_3.2.2.2.2.2.1 rfl (lv_at2 hl) ?_
      refine lv_iload_n hx hb gX12_lineAt_3.2.2.2.2.2.2.1 rfl (lv_at0 hl) ?_
      refine astN hC hK hP hD hS 1 (ws' := [(nc, iA G 100 fnc), (nl, iA G 54 (upd fnl ja 1)), (nF, sA G 5 (FCT K)), (h0, oX12 nw nk mhasKept nt (nI ktp) nr mrowMany mroundOf mroundFrom mouts nm mfromHour mtoHour ns (nI kf18886) (nI kt18887) so18888 0 0 (nI kc) mlines nl nc nF np ntr nb mbestCost nso nsi nit nsh nsf nss nrc mtraced mdealer mnumber mwhose msize misParted), (nt, iA G 240 fnt)]) rfl (k := ja) (by omega) (Nat.le_of_ble_eq_true rfl) (rfl) gX12_lineAt_3.2.2.2.2.2.2.2.1 (fun H locs hP hD hS => ?_)
      refine lv_aload_n hx hb gX12_lineAt_3.2.2.2.2.2.2.2.2.1 rfl (lv_at1 hl) ?_
      refine gf_X12_32 hC rfl hK hP 3 rfl rfl gX12_lineAt_3.2.2.2.2.2.2.2.2.2 ?_
      refine lv_iload_n hx hb gX12_lineAt_4.1 rfl (lv_at2 hl) ?_
      refine lv_iconst (v := 1) hx hb gX12_lineAt_4.2.1 (by decide) ?_
      refine lv_iadd hx hb gX12_lineAt_4.2.2.1 ?_
      refine eqi (x1 := nI (ja + 1)) (nI_add ja 1) ?_
      refine lv_aload_n hx hb gX12_lineAt_4.2.2.2.1 rfl (lv_at1 hl) ?_
      refine lv_iload_n hx hb gX12_lineAt_4.2.2.2.2.1 rfl (lv_at0 hl) ?_
      refine lv_if_eq (tgt := 95) hx hb gX12_lineAt_4.2.2.2.2.2.1 (by decide) (fun c9 => absurd c9 (by decide)) (fun _ => ?_)
      refine lv_iload_n hx hb gX12_lineAt_4.2.2.2.2.2.2.1 rfl (lv_at0 hl) ?_
      refine lv_iconst (v := 1) hx hb gX12_lineAt_4.2.2.2.2.2.2.2.1 (by decide) ?_
      refine lv_icmp_ne (tgt := 100) hx hb gX12_lineAt_4.2.2.2.2.2.2.2.2.1 (by decide) (fun c9 => absurd (by decide) c9) (fun _ => ?_)
      refine lv_bipush (v := 99) hx hb gX12_lineAt_4.2.2.2.2.2.2.2.2.2 (by decide) ?_
      refine lv_goto (tgt := 112) hx hb gX12_lineAt_5.1 (by decide) ?_
      refine iV (wr := [(nc, iA G 100 fnc), (nl, iA G 54 (upd fnl ja 1)), (nF, sA G 5 (FCT K))]) hC hK hl hP hD hS hA (m_number0 l G h0 99 nw nk mhasKept nt ktp nr mrowMany mroundOf mroundFrom mouts nm mfromHour mtoHour ns kf18886 kt18887 so18888 0 (nI kc) mlines nl nc nF np ntr nb mbestCost nso nsi nit nsh nsf nss nrc mtraced mdealer mnumber mwhose msize misParted fnt (hw8890_1) (htp) (by omega)) si_X12_271 [3, 4] [0, 1, 2] sm_3_4 fm_3_4 nd_3_4 sm_0_1_2 nd_0_1_2 dj_3_4__0_1_2 rfl rfl rfl rfl rfl (Nat.le_of_ble_eq_true rfl) rm_32_5_5 ⟨Nat.le_of_ble_eq_true rfl, Nat.le_of_ble_eq_true rfl⟩ gX12_lineAt_5.2.2.2.2.2.2.2.1 (fun r8893 => Ktu4 fun ff18895 kf18896 kt18897 so18898 => ?_)
      intro H locs hr8893 hP hD hS
      try dsimp only at hr8893
      refine Kpdr (ws := [(nc, iA G 100 fnc), (nl, iA G 54 (upd fnl ja 1)), (nF, sA G 5 (FCT K)), (h0, oX12 nw nk mhasKept nt (nI ktp) nr mrowMany mroundOf mroundFrom mouts nm mfromHour mtoHour ns (nI kf18896) (nI kt18897) so18898 ff18895 0 (nI kc) mlines nl nc nF np ntr nb mbestCost nso nsi nit nsh nsf nss nrc mtraced mdealer mnumber mwhose msize misParted), (nt, iA G 240 fnt)]) hP hD (fun hP hD => ?_)
      obtain ⟨hr8893, w8899⟩ := hr8893
      rcases w8899 with rfl | ⟨rfl, ⟨v_8900, hv_8900, rfl⟩, hw8900_1, hw8900_2⟩
      · refine astN hC hK hP hD hS 1 (ws' := [(nc, iA G 100 fnc), (nl, iA G 54 (upd (upd fnl ja 1) (ja + 1) r8893)), (nF, sA G 5 (FCT K)), (h0, oX12 nw nk mhasKept nt (nI ktp) nr mrowMany mroundOf mroundFrom mouts nm mfromHour mtoHour ns (nI kf18896) (nI kt18897) so18898 1 0 (nI kc) mlines nl nc nF np ntr nb mbestCost nso nsi nit nsh nsf nss nrc mtraced mdealer mnumber mwhose msize misParted), (nt, iA G 240 fnt)]) rfl (k := (ja + 1)) (by omega) (Nat.le_of_ble_eq_true rfl) (rfl) gX12_lineAt_5.2.2.2.2.2.2.2.2.1 (fun H locs hP hD hS => ?_)
        refine lv_aload_n hx hb gX12_lineAt_5.2.2.2.2.2.2.2.2.2 rfl (lv_at1 hl) ?_
        refine gf_X12_32 hC rfl hK hP 3 rfl rfl gX12_lineAt_6.1 ?_
        refine lv_iload_n hx hb gX12_lineAt_6.2.1 rfl (lv_at2 hl) ?_
        refine lv_iconst (v := 2) hx hb gX12_lineAt_6.2.2.1 (by decide) ?_
        refine lv_iadd hx hb gX12_lineAt_6.2.2.2.1 ?_
        refine eqi (x1 := nI (ja + 2)) (nI_add ja 2) ?_
        refine lv_bipush (v := (-9)) hx hb gX12_lineAt_6.2.2.2.2.1 (by decide) ?_
        refine astN hC hK hP hD hS 1 (ws' := [(nc, iA G 100 fnc), (nl, iA G 54 (upd (upd (upd fnl ja 1) (ja + 1) r8893) (ja + 2) (-9))), (nF, sA G 5 (FCT K)), (h0, oX12 nw nk mhasKept nt (nI ktp) nr mrowMany mroundOf mroundFrom mouts nm mfromHour mtoHour ns (nI kf18896) (nI kt18897) so18898 1 0 (nI kc) mlines nl nc nF np ntr nb mbestCost nso nsi nit nsh nsf nss nrc mtraced mdealer mnumber mwhose msize misParted), (nt, iA G 240 fnt)]) rfl (k := (ja + 2)) (by omega) (Nat.le_of_ble_eq_true rfl) (rfl) gX12_lineAt_6.2.2.2.2.2.1 (fun H locs hP hD hS => ?_)
        refine lv_aload_n hx hb gX12_lineAt_6.2.2.2.2.2.2.1 rfl (lv_at1 hl) ?_
        refine gf_X12_32 hC rfl hK hP 3 rfl rfl gX12_lineAt_6.2.2.2.2.2.2.2.1 ?_
        refine lv_iload_n hx hb gX12_lineAt_6.2.2.2.2.2.2.2.2.1 rfl (lv_at2 hl) ?_
        refine lv_iconst (v := 3) hx hb gX12_lineAt_6.2.2.2.2.2.2.2.2.2 (by decide) ?_
        refine lv_iadd hx hb gX12_lineAt_7.1 ?_
        refine eqi (x1 := nI (ja + 3)) (nI_add ja 3) ?_
        refine lv_bipush (v := (-9)) hx hb gX12_lineAt_7.2.1 (by decide) ?_
        refine astN hC hK hP hD hS 1 (ws' := [(nc, iA G 100 fnc), (nl, iA G 54 (upd (upd (upd (upd fnl ja 1) (ja + 1) r8893) (ja + 2) (-9)) (ja + 3) (-9))), (nF, sA G 5 (FCT K)), (h0, oX12 nw nk mhasKept nt (nI ktp) nr mrowMany mroundOf mroundFrom mouts nm mfromHour mtoHour ns (nI kf18896) (nI kt18897) so18898 1 0 (nI kc) mlines nl nc nF np ntr nb mbestCost nso nsi nit nsh nsf nss nrc mtraced mdealer mnumber mwhose msize misParted), (nt, iA G 240 fnt)]) rfl (k := (ja + 3)) (by omega) (Nat.le_of_ble_eq_true rfl) (rfl) gX12_lineAt_7.2.2.1 (fun H locs hP hD hS => ?_)
        refine lv_iload_n hx hb gX12_lineAt_7.2.2.2.1 rfl (lv_at0 hl) ?_
        refine lv_if_ne (tgt := 190) hx hb gX12_lineAt_7.2.2.2.2.1 (by decide) (fun _ => ?_) (fun c9 => absurd c9 (by decide))
        refine lv_iload_n hx hb gX12_lineAt_10.2.2.2.1 rfl (lv_at0 hl) ?_
        refine lv_iconst (v := 2) hx hb gX12_lineAt_10.2.2.2.2.1 (by decide) ?_
        refine lv_icmp_ne (tgt := 221) hx hb gX12_lineAt_10.2.2.2.2.2.1 (by decide) (fun _ => ?_) (fun c9 => absurd c9 (by decide))
        refine lv_aload_n hx hb gX12_lineAt_12.1 rfl (lv_at1 hl) ?_
        refine gf_X12_32 hC rfl hK hP 3 rfl rfl gX12_lineAt_12.2.1 ?_
        refine lv_iload_n hx hb gX12_lineAt_12.2.2.1 rfl (lv_at2 hl) ?_
        refine lv_iconst (v := 4) hx hb gX12_lineAt_12.2.2.2.1 (by decide) ?_
        refine lv_iadd hx hb gX12_lineAt_12.2.2.2.2.1 ?_
        refine eqi (x1 := nI (ja + 4)) (nI_add ja 4) ?_
        refine lv_aload_n hx hb gX12_lineAt_12.2.2.2.2.2.1 rfl (lv_at1 hl) ?_
        refine gf_X12_240 hC rfl hK hP 3 rfl rfl gX12_lineAt_12.2.2.2.2.2.2.1 ?_
        refine astN hC hK hP hD hS 1 (ws' := [(nc, iA G 100 fnc), (nl, iA G 54 (upd (upd (upd (upd (upd fnl ja 1) (ja + 1) r8893) (ja + 2) (-9)) (ja + 3) (-9)) (ja + 4) (nI kc))), (nF, sA G 5 (FCT K)), (h0, oX12 nw nk mhasKept nt (nI ktp) nr mrowMany mroundOf mroundFrom mouts nm mfromHour mtoHour ns (nI kf18896) (nI kt18897) so18898 1 0 (nI kc) mlines nl nc nF np ntr nb mbestCost nso nsi nit nsh nsf nss nrc mtraced mdealer mnumber mwhose msize misParted), (nt, iA G 240 fnt)]) rfl (k := (ja + 4)) (by omega) (Nat.le_of_ble_eq_true rfl) (rfl) gX12_lineAt_12.2.2.2.2.2.2.2.1 (fun H locs hP hD hS => ?_)
        refine lv_iload_n hx hb gX12_lineAt_12.2.2.2.2.2.2.2.2.1 rfl (lv_at0 hl) ?_
        refine lv_iconst (v := 3) hx hb gX12_lineAt_12.2.2.2.2.2.2.2.2.2 (by decide) ?_
        refine lv_icmp_eq (tgt := 256) hx hb gX12_lineAt_13.1 (by decide) (fun c9 => absurd c9 (by decide)) (fun _ => ?_)
        refine lv_aload_n hx hb gX12_lineAt_13.2.1 rfl (lv_at1 hl) ?_
        refine va_ldcSw (index := 287) (tx := "if") hx hb hown (hO.2.2 0 (by decide)) gX12_lineAt_13.2.2.1 ?_
        refine pVo hO hS hC hK hl hP hD (m_isNameF l G K 0 h0 nw nk mhasKept nt (nI ktp) nr mrowMany mroundOf mroundFrom mouts nm mfromHour mtoHour ns (nI kf18896) (nI kt18897) so18898 0 (nI kc) mlines nl nc nF np ntr nb mbestCost nso nsi nit nsh nsf nss nrc mtraced mdealer mnumber mwhose msize misParted ((by decide))) si_X12_248 [3] sm_3 fm_3 nd_3 rfl rfl rfl rfl rfl (Nat.le_of_ble_eq_true rfl) rm_32_5_4 ⟨by first | exact Nat.le_of_ble_eq_true rfl | exact Nat.zero_le _, by first | exact Nat.le_of_ble_eq_true rfl | exact Nat.zero_le _⟩ gX12_lineAt_13.2.2.2.1 (Keqr ?_)
        refine lv_if_eq (tgt := 256) hx hb gX12_lineAt_13.2.2.2.2.1 (by decide) (fun _ => ?_) (fun c9 => absurd (by decide) c9)
        refine lv_aload_n hx hb gX12_lineAt_13.2.2.2.2.2.2.2.2.2 rfl (lv_at1 hl) ?_
        refine gf_X12_32 hC rfl hK hP 3 rfl rfl gX12_lineAt_14.1 ?_
        refine lv_iload_n hx hb gX12_lineAt_14.2.1 rfl (lv_at2 hl) ?_
        refine lv_iconst (v := 5) hx hb gX12_lineAt_14.2.2.1 (by decide) ?_
        refine lv_iadd hx hb gX12_lineAt_14.2.2.2.1 ?_
        refine eqi (x1 := nI (ja + 5)) (nI_add ja 5) ?_
        refine lv_aload_n hx hb gX12_lineAt_14.2.2.2.2.1 rfl (lv_at1 hl) ?_
        refine gf_X12_240 hC rfl hK hP 3 rfl rfl gX12_lineAt_14.2.2.2.2.2.1 ?_
        refine astN hC hK hP hD hS 1 (ws' := [(nc, iA G 100 fnc), (nl, iA G 54 (upd (upd (upd (upd (upd (upd fnl ja 1) (ja + 1) r8893) (ja + 2) (-9)) (ja + 3) (-9)) (ja + 4) (nI kc)) (ja + 5) (nI kc))), (nF, sA G 5 (FCT K)), (h0, oX12 nw nk mhasKept nt (nI ktp) nr mrowMany mroundOf mroundFrom mouts nm mfromHour mtoHour ns (nI kf18896) (nI kt18897) so18898 1 0 (nI kc) mlines nl nc nF np ntr nb mbestCost nso nsi nit nsh nsf nss nrc mtraced mdealer mnumber mwhose msize misParted), (nt, iA G 240 fnt)]) rfl (k := (ja + 5)) (by omega) (Nat.le_of_ble_eq_true rfl) (rfl) gX12_lineAt_14.2.2.2.2.2.2.1 (fun H locs hP hD hS => ?_)
        refine lv_aload_n hx hb gX12_lineAt_14.2.2.2.2.2.2.2.1 rfl (lv_at1 hl) ?_
        refine lv_aload_n hx hb gX12_lineAt_14.2.2.2.2.2.2.2.2.1 rfl (lv_at1 hl) ?_
        refine lv_bipush (v := 59) hx hb gX12_lineAt_14.2.2.2.2.2.2.2.2.2 (by decide) ?_
        refine pV hC hK hl hP hD (m_isSignF l G h0 59 nw nk mhasKept nt (nI ktp) nr mrowMany mroundOf mroundFrom mouts nm mfromHour mtoHour ns (nI kf18896) (nI kt18897) so18898 0 (nI kc) mlines nl nc nF np ntr nb mbestCost nso nsi nit nsh nsf nss nrc mtraced mdealer mnumber mwhose msize misParted) si_X12_262 [3] sm_3 fm_3 nd_3 rfl rfl rfl rfl rfl (Nat.le_of_ble_eq_true rfl) rm_32_1_2 ⟨by first | exact Nat.le_of_ble_eq_true rfl | exact Nat.zero_le _, by first | exact Nat.le_of_ble_eq_true rfl | exact Nat.zero_le _⟩ gX12_lineAt_15.1 (Keqr ?_)
        refine vV (wr := [(nc, iA G 100 fnc), (nl, iA G 54 (upd (upd (upd (upd (upd (upd fnl ja 1) (ja + 1) r8893) (ja + 2) (-9)) (ja + 3) (-9)) (ja + 4) (nI kc)) (ja + 5) (nI kc))), (nF, sA G 5 (FCT K)), (nt, iA G 240 fnt)]) hC hK hl hP hD hS hA (m_needF l G h0 0 nw nk mhasKept nt (nI ktp) nr mrowMany mroundOf mroundFrom mouts nm mfromHour mtoHour ns (nI kf18896) (nI kt18897) so18898 0 (nI kc) mlines nl nc nF np ntr nb mbestCost nso nsi nit nsh nsf nss nrc mtraced mdealer mnumber mwhose msize misParted) si_X12_236 [3] [0, 1, 2, 4] sm_3 fm_3 nd_3 sm_0_1_2_4 nd_0_1_2_4 dj_3__0_1_2_4 rfl rfl rfl rfl rfl (Nat.le_of_ble_eq_true rfl) rm_32_4_2 ⟨Nat.le_of_ble_eq_true rfl, Nat.le_of_ble_eq_true rfl⟩ gX12_lineAt_15.2.1 (fun u8906 H locs hr8905 hP hD hS => ?_)
        refine Kpdr (ws := [(nc, iA G 100 fnc), (nl, iA G 54 (upd (upd (upd (upd (upd (upd fnl ja 1) (ja + 1) r8893) (ja + 2) (-9)) (ja + 3) (-9)) (ja + 4) (nI kc)) (ja + 5) (nI kc))), (nF, sA G 5 (FCT K)), (nt, iA G 240 fnt), (h0, oX12 nw nk mhasKept nt (nI ktp) nr mrowMany mroundOf mroundFrom mouts nm mfromHour mtoHour ns (nI kf18896) (nI kt18897) so18898 1 0 (nI kc) mlines nl nc nF np ntr nb mbestCost nso nsi nit nsh nsf nss nrc mtraced mdealer mnumber mwhose msize misParted)]) hP hD (fun hP hD => ?_)
        refine toQ hQ0 ?_
        exact RV hC hP hD hS [4, 3, 0, 1, 2] (1, kf18896, kt18897, so18898, kc, fnc, upd (upd (upd (upd (upd (upd fnl ja 1) (ja + 1) r8893) (ja + 2) (-9)) (ja + 3) (-9)) (ja + 4) (nI kc)) (ja + 5) (nI kc)) rfl rfl (by decide) (Or.inl rfl) gX12_lineAt_15.2.2
      · have tA8908 := hw8900_2.1
        have tB8908 := hw8900_2.2.1
        refine astN hC hK hP hD hS 1 (ws' := [(nc, iA G 100 fnc), (nl, iA G 54 (upd (upd fnl ja 1) (ja + 1) (nI v_8900))), (nF, sA G 5 (FCT K)), (h0, oX12 nw nk mhasKept nt (nI ktp) nr mrowMany mroundOf mroundFrom mouts nm mfromHour mtoHour ns (nI kf18896) (nI kt18897) so18898 0 0 (nI kc) mlines nl nc nF np ntr nb mbestCost nso nsi nit nsh nsf nss nrc mtraced mdealer mnumber mwhose msize misParted), (nt, iA G 240 fnt)]) rfl (k := (ja + 1)) (by omega) (Nat.le_of_ble_eq_true rfl) (rfl) gX12_lineAt_5.2.2.2.2.2.2.2.2.1 (fun H locs hP hD hS => ?_)
        refine lv_aload_n hx hb gX12_lineAt_5.2.2.2.2.2.2.2.2.2 rfl (lv_at1 hl) ?_
        refine gf_X12_32 hC rfl hK hP 3 rfl rfl gX12_lineAt_6.1 ?_
        refine lv_iload_n hx hb gX12_lineAt_6.2.1 rfl (lv_at2 hl) ?_
        refine lv_iconst (v := 2) hx hb gX12_lineAt_6.2.2.1 (by decide) ?_
        refine lv_iadd hx hb gX12_lineAt_6.2.2.2.1 ?_
        refine eqi (x1 := nI (ja + 2)) (nI_add ja 2) ?_
        refine lv_bipush (v := (-9)) hx hb gX12_lineAt_6.2.2.2.2.1 (by decide) ?_
        refine astN hC hK hP hD hS 1 (ws' := [(nc, iA G 100 fnc), (nl, iA G 54 (upd (upd (upd fnl ja 1) (ja + 1) (nI v_8900)) (ja + 2) (-9))), (nF, sA G 5 (FCT K)), (h0, oX12 nw nk mhasKept nt (nI ktp) nr mrowMany mroundOf mroundFrom mouts nm mfromHour mtoHour ns (nI kf18896) (nI kt18897) so18898 0 0 (nI kc) mlines nl nc nF np ntr nb mbestCost nso nsi nit nsh nsf nss nrc mtraced mdealer mnumber mwhose msize misParted), (nt, iA G 240 fnt)]) rfl (k := (ja + 2)) (by omega) (Nat.le_of_ble_eq_true rfl) (rfl) gX12_lineAt_6.2.2.2.2.2.1 (fun H locs hP hD hS => ?_)
        refine lv_aload_n hx hb gX12_lineAt_6.2.2.2.2.2.2.1 rfl (lv_at1 hl) ?_
        refine gf_X12_32 hC rfl hK hP 3 rfl rfl gX12_lineAt_6.2.2.2.2.2.2.2.1 ?_
        refine lv_iload_n hx hb gX12_lineAt_6.2.2.2.2.2.2.2.2.1 rfl (lv_at2 hl) ?_
        refine lv_iconst (v := 3) hx hb gX12_lineAt_6.2.2.2.2.2.2.2.2.2 (by decide) ?_
        refine lv_iadd hx hb gX12_lineAt_7.1 ?_
        refine eqi (x1 := nI (ja + 3)) (nI_add ja 3) ?_
        refine lv_bipush (v := (-9)) hx hb gX12_lineAt_7.2.1 (by decide) ?_
        refine astN hC hK hP hD hS 1 (ws' := [(nc, iA G 100 fnc), (nl, iA G 54 (upd (upd (upd (upd fnl ja 1) (ja + 1) (nI v_8900)) (ja + 2) (-9)) (ja + 3) (-9))), (nF, sA G 5 (FCT K)), (h0, oX12 nw nk mhasKept nt (nI ktp) nr mrowMany mroundOf mroundFrom mouts nm mfromHour mtoHour ns (nI kf18896) (nI kt18897) so18898 0 0 (nI kc) mlines nl nc nF np ntr nb mbestCost nso nsi nit nsh nsf nss nrc mtraced mdealer mnumber mwhose msize misParted), (nt, iA G 240 fnt)]) rfl (k := (ja + 3)) (by omega) (Nat.le_of_ble_eq_true rfl) (rfl) gX12_lineAt_7.2.2.1 (fun H locs hP hD hS => ?_)
        refine lv_iload_n hx hb gX12_lineAt_7.2.2.2.1 rfl (lv_at0 hl) ?_
        refine lv_if_ne (tgt := 190) hx hb gX12_lineAt_7.2.2.2.2.1 (by decide) (fun _ => ?_) (fun c9 => absurd c9 (by decide))
        refine lv_iload_n hx hb gX12_lineAt_10.2.2.2.1 rfl (lv_at0 hl) ?_
        refine lv_iconst (v := 2) hx hb gX12_lineAt_10.2.2.2.2.1 (by decide) ?_
        refine lv_icmp_ne (tgt := 221) hx hb gX12_lineAt_10.2.2.2.2.2.1 (by decide) (fun _ => ?_) (fun c9 => absurd c9 (by decide))
        refine lv_aload_n hx hb gX12_lineAt_12.1 rfl (lv_at1 hl) ?_
        refine gf_X12_32 hC rfl hK hP 3 rfl rfl gX12_lineAt_12.2.1 ?_
        refine lv_iload_n hx hb gX12_lineAt_12.2.2.1 rfl (lv_at2 hl) ?_
        refine lv_iconst (v := 4) hx hb gX12_lineAt_12.2.2.2.1 (by decide) ?_
        refine lv_iadd hx hb gX12_lineAt_12.2.2.2.2.1 ?_
        refine eqi (x1 := nI (ja + 4)) (nI_add ja 4) ?_
        refine lv_aload_n hx hb gX12_lineAt_12.2.2.2.2.2.1 rfl (lv_at1 hl) ?_
        refine gf_X12_240 hC rfl hK hP 3 rfl rfl gX12_lineAt_12.2.2.2.2.2.2.1 ?_
        refine astN hC hK hP hD hS 1 (ws' := [(nc, iA G 100 fnc), (nl, iA G 54 (upd (upd (upd (upd (upd fnl ja 1) (ja + 1) (nI v_8900)) (ja + 2) (-9)) (ja + 3) (-9)) (ja + 4) (nI kc))), (nF, sA G 5 (FCT K)), (h0, oX12 nw nk mhasKept nt (nI ktp) nr mrowMany mroundOf mroundFrom mouts nm mfromHour mtoHour ns (nI kf18896) (nI kt18897) so18898 0 0 (nI kc) mlines nl nc nF np ntr nb mbestCost nso nsi nit nsh nsf nss nrc mtraced mdealer mnumber mwhose msize misParted), (nt, iA G 240 fnt)]) rfl (k := (ja + 4)) (by omega) (Nat.le_of_ble_eq_true rfl) (rfl) gX12_lineAt_12.2.2.2.2.2.2.2.1 (fun H locs hP hD hS => ?_)
        refine lv_iload_n hx hb gX12_lineAt_12.2.2.2.2.2.2.2.2.1 rfl (lv_at0 hl) ?_
        refine lv_iconst (v := 3) hx hb gX12_lineAt_12.2.2.2.2.2.2.2.2.2 (by decide) ?_
        refine lv_icmp_eq (tgt := 256) hx hb gX12_lineAt_13.1 (by decide) (fun c9 => absurd c9 (by decide)) (fun _ => ?_)
        refine lv_aload_n hx hb gX12_lineAt_13.2.1 rfl (lv_at1 hl) ?_
        refine va_ldcSw (index := 287) (tx := "if") hx hb hown (hO.2.2 0 (by decide)) gX12_lineAt_13.2.2.1 ?_
        refine pVo hO hS hC hK hl hP hD (m_isName0 l G K 0 h0 nw nk mhasKept nt ktp nr mrowMany mroundOf mroundFrom mouts nm mfromHour mtoHour ns kf18896 kt18897 so18898 0 (nI kc) mlines nl nc nF np ntr nb mbestCost nso nsi nit nsh nsf nss nrc mtraced mdealer mnumber mwhose msize misParted fnt ((by decide)) (hw8900_2) (htp)) si_X12_248 [3, 4] sm_3_4 fm_3_4 nd_3_4 rfl rfl rfl rfl rfl (Nat.le_of_ble_eq_true rfl) rm_32_5_4 ⟨by first | exact Nat.le_of_ble_eq_true rfl | exact Nat.zero_le _, by first | exact Nat.le_of_ble_eq_true rfl | exact Nat.zero_le _⟩ gX12_lineAt_13.2.2.2.1 (Kors (Keqa fun a8910 => ?_) (Keqr ?_))
        · refine lv_if_eq (tgt := 256) hx hb gX12_lineAt_13.2.2.2.2.1 (by decide) (fun c9 => absurd c9 (by decide)) (fun _ => ?_)
          refine lv_aload_n hx hb gX12_lineAt_13.2.2.2.2.2.1 rfl (lv_at1 hl) ?_
          have tI8911 : kt18897 = kf18896 + 2 := a8910.2
          refine vV (wr := [(nc, iA G 100 fnc), (nl, iA G 54 (upd (upd (upd (upd (upd fnl ja 1) (ja + 1) (nI v_8900)) (ja + 2) (-9)) (ja + 3) (-9)) (ja + 4) (nI kc))), (nF, sA G 5 (FCT K))]) hC hK hl hP hD hS hA (m_next l G h0 nw nk mhasKept nt ktp nr mrowMany mroundOf mroundFrom mouts nm mfromHour mtoHour ns (nI kf18896) kt18897 so18898 0 0 (nI kc) mlines nl nc nF np ntr nb mbestCost nso nsi nit nsh nsf nss nrc mtraced mdealer mnumber mwhose msize misParted fnt (by omega) (htp)) si_X12_233 [3, 4] [0, 1, 2] sm_3_4 fm_3_4 nd_3_4 sm_0_1_2 nd_0_1_2 dj_3_4__0_1_2 rfl rfl rfl rfl rfl (Nat.le_of_ble_eq_true rfl) rm_32_3_1 ⟨Nat.le_of_ble_eq_true rfl, Nat.le_of_ble_eq_true rfl⟩ gX12_lineAt_13.2.2.2.2.2.2.1 (Ktu3 fun kf18914 kt18915 so18916 => ?_)
          intro H locs hr8912 hP hD hS
          try dsimp only at hr8912
          refine Kpdr (ws := [(nc, iA G 100 fnc), (nl, iA G 54 (upd (upd (upd (upd (upd fnl ja 1) (ja + 1) (nI v_8900)) (ja + 2) (-9)) (ja + 3) (-9)) (ja + 4) (nI kc))), (nF, sA G 5 (FCT K)), (h0, oX12 nw nk mhasKept nt (nI ktp) nr mrowMany mroundOf mroundFrom mouts nm mfromHour mtoHour ns (nI kf18914) (nI kt18915) so18916 0 0 (nI kc) mlines nl nc nF np ntr nb mbestCost nso nsi nit nsh nsf nss nrc mtraced mdealer mnumber mwhose msize misParted), (nt, iA G 240 fnt)]) hP hD (fun hP hD => ?_)
          have hw8918_0 := hr8912.1
          have hw8918_1 := hr8912.2
          have tA8920 := hw8918_1.1
          have tB8920 := hw8918_1.2.1
          refine lv_aload_n hx hb gX12_lineAt_13.2.2.2.2.2.2.2.1 rfl (lv_at1 hl) ?_
          refine vVo (wr := [(nl, iA G 54 (upd (upd (upd (upd (upd fnl ja 1) (ja + 1) (nI v_8900)) (ja + 2) (-9)) (ja + 3) (-9)) (ja + 4) (nI kc)))]) hO hC hK hl hP hD hS hA (m_either l G K 4 h0 nw nk mhasKept nt ktp nr mrowMany mroundOf mroundFrom mouts nm mfromHour mtoHour ns kf18914 kt18915 so18916 0 kc mlines nl nc nF np ntr nb mbestCost nso nsi nit nsh nsf nss nrc mtraced mdealer mnumber mwhose msize misParted fnt fnc (hw8918_1) (by omega) (by omega) (by omega)) si_X12_268 [3, 4, 0, 2] [1] sm_3_4_0_2 fm_3_4_0_2 nd_3_4_0_2 sm_1 nd_1 dj_3_4_0_2__1 rfl rfl rfl rfl rfl (Nat.le_of_ble_eq_true rfl) ⟨Nat.le_of_ble_eq_true rfl, Nat.le_of_ble_eq_true rfl⟩ ⟨Nat.le_of_ble_eq_true rfl, Nat.le_of_ble_eq_true rfl⟩ gX12_lineAt_13.2.2.2.2.2.2.2.2.1 (Ktu6 fun ff18923 kf18924 kt18925 so18926 kc18927 gnc8928 => ?_)
          intro H locs hr8921 hP hD hS
          try dsimp only at hr8921
          refine Kpdr (ws := [(nl, iA G 54 (upd (upd (upd (upd (upd fnl ja 1) (ja + 1) (nI v_8900)) (ja + 2) (-9)) (ja + 3) (-9)) (ja + 4) (nI kc))), (h0, oX12 nw nk mhasKept nt (nI ktp) nr mrowMany mroundOf mroundFrom mouts nm mfromHour mtoHour ns (nI kf18924) (nI kt18925) so18926 ff18923 0 (nI kc18927) mlines nl nc nF np ntr nb mbestCost nso nsi nit nsh nsf nss nrc mtraced mdealer mnumber mwhose msize misParted), (nt, iA G 240 fnt), (nc, iA G 100 gnc8928), (nF, sA G 5 (FCT K))]) hP hD (fun hP hD => ?_)
          have w8929 := hr8921
          rcases w8929 with rfl | ⟨rfl, hw8930_0, hw8930_1⟩
          · refine lv_aload_n hx hb gX12_lineAt_13.2.2.2.2.2.2.2.2.2 rfl (lv_at1 hl) ?_
            refine gf_X12_32 hC rfl hK hP 1 rfl rfl gX12_lineAt_14.1 ?_
            refine lv_iload_n hx hb gX12_lineAt_14.2.1 rfl (lv_at2 hl) ?_
            refine lv_iconst (v := 5) hx hb gX12_lineAt_14.2.2.1 (by decide) ?_
            refine lv_iadd hx hb gX12_lineAt_14.2.2.2.1 ?_
            refine eqi (x1 := nI (ja + 5)) (nI_add ja 5) ?_
            refine lv_aload_n hx hb gX12_lineAt_14.2.2.2.2.1 rfl (lv_at1 hl) ?_
            refine gf_X12_240 hC rfl hK hP 1 rfl rfl gX12_lineAt_14.2.2.2.2.2.1 ?_
            refine astN hC hK hP hD hS 0 (ws' := [(nl, iA G 54 (upd (upd (upd (upd (upd (upd fnl ja 1) (ja + 1) (nI v_8900)) (ja + 2) (-9)) (ja + 3) (-9)) (ja + 4) (nI kc)) (ja + 5) (nI kc18927))), (h0, oX12 nw nk mhasKept nt (nI ktp) nr mrowMany mroundOf mroundFrom mouts nm mfromHour mtoHour ns (nI kf18924) (nI kt18925) so18926 1 0 (nI kc18927) mlines nl nc nF np ntr nb mbestCost nso nsi nit nsh nsf nss nrc mtraced mdealer mnumber mwhose msize misParted), (nt, iA G 240 fnt), (nc, iA G 100 gnc8928), (nF, sA G 5 (FCT K))]) rfl (k := (ja + 5)) (by omega) (Nat.le_of_ble_eq_true rfl) (rfl) gX12_lineAt_14.2.2.2.2.2.2.1 (fun H locs hP hD hS => ?_)
            refine lv_aload_n hx hb gX12_lineAt_14.2.2.2.2.2.2.2.1 rfl (lv_at1 hl) ?_
            refine lv_aload_n hx hb gX12_lineAt_14.2.2.2.2.2.2.2.2.1 rfl (lv_at1 hl) ?_
            refine lv_bipush (v := 59) hx hb gX12_lineAt_14.2.2.2.2.2.2.2.2.2 (by decide) ?_
            refine pV hC hK hl hP hD (m_isSignF l G h0 59 nw nk mhasKept nt (nI ktp) nr mrowMany mroundOf mroundFrom mouts nm mfromHour mtoHour ns (nI kf18924) (nI kt18925) so18926 0 (nI kc18927) mlines nl nc nF np ntr nb mbestCost nso nsi nit nsh nsf nss nrc mtraced mdealer mnumber mwhose msize misParted) si_X12_262 [1] sm_1 fm_1 nd_1 rfl rfl rfl rfl rfl (Nat.le_of_ble_eq_true rfl) rm_32_1_2 ⟨by first | exact Nat.le_of_ble_eq_true rfl | exact Nat.zero_le _, by first | exact Nat.le_of_ble_eq_true rfl | exact Nat.zero_le _⟩ gX12_lineAt_15.1 (Keqr ?_)
            refine vV (wr := [(nl, iA G 54 (upd (upd (upd (upd (upd (upd fnl ja 1) (ja + 1) (nI v_8900)) (ja + 2) (-9)) (ja + 3) (-9)) (ja + 4) (nI kc)) (ja + 5) (nI kc18927))), (nt, iA G 240 fnt), (nc, iA G 100 gnc8928), (nF, sA G 5 (FCT K))]) hC hK hl hP hD hS hA (m_needF l G h0 0 nw nk mhasKept nt (nI ktp) nr mrowMany mroundOf mroundFrom mouts nm mfromHour mtoHour ns (nI kf18924) (nI kt18925) so18926 0 (nI kc18927) mlines nl nc nF np ntr nb mbestCost nso nsi nit nsh nsf nss nrc mtraced mdealer mnumber mwhose msize misParted) si_X12_236 [1] [0, 2, 3, 4] sm_1 fm_1 nd_1 sm_0_2_3_4 nd_0_2_3_4 dj_1__0_2_3_4 rfl rfl rfl rfl rfl (Nat.le_of_ble_eq_true rfl) rm_32_4_2 ⟨Nat.le_of_ble_eq_true rfl, Nat.le_of_ble_eq_true rfl⟩ gX12_lineAt_15.2.1 (fun u8934 H locs hr8933 hP hD hS => ?_)
            refine Kpdr (ws := [(nl, iA G 54 (upd (upd (upd (upd (upd (upd fnl ja 1) (ja + 1) (nI v_8900)) (ja + 2) (-9)) (ja + 3) (-9)) (ja + 4) (nI kc)) (ja + 5) (nI kc18927))), (nt, iA G 240 fnt), (nc, iA G 100 gnc8928), (nF, sA G 5 (FCT K)), (h0, oX12 nw nk mhasKept nt (nI ktp) nr mrowMany mroundOf mroundFrom mouts nm mfromHour mtoHour ns (nI kf18924) (nI kt18925) so18926 1 0 (nI kc18927) mlines nl nc nF np ntr nb mbestCost nso nsi nit nsh nsf nss nrc mtraced mdealer mnumber mwhose msize misParted)]) hP hD (fun hP hD => ?_)
            refine toQ hQ0 ?_
            exact RV hC hP hD hS [4, 1, 2, 0, 3] (1, kf18924, kt18925, so18926, kc18927, gnc8928, upd (upd (upd (upd (upd (upd fnl ja 1) (ja + 1) (nI v_8900)) (ja + 2) (-9)) (ja + 3) (-9)) (ja + 4) (nI kc)) (ja + 5) (nI kc18927)) rfl rfl (by decide) (Or.inl rfl) gX12_lineAt_15.2.2
          · have tA8935 := hw8930_0.1
            have tB8935 := hw8930_0.2.1
            have tA8936 := hw8930_1.1
            have tB8936 := hw8930_1.2.1
            refine lv_aload_n hx hb gX12_lineAt_13.2.2.2.2.2.2.2.2.2 rfl (lv_at1 hl) ?_
            refine gf_X12_32 hC rfl hK hP 1 rfl rfl gX12_lineAt_14.1 ?_
            refine lv_iload_n hx hb gX12_lineAt_14.2.1 rfl (lv_at2 hl) ?_
            refine lv_iconst (v := 5) hx hb gX12_lineAt_14.2.2.1 (by decide) ?_
            refine lv_iadd hx hb gX12_lineAt_14.2.2.2.1 ?_
            refine eqi (x1 := nI (ja + 5)) (nI_add ja 5) ?_
            refine lv_aload_n hx hb gX12_lineAt_14.2.2.2.2.1 rfl (lv_at1 hl) ?_
            refine gf_X12_240 hC rfl hK hP 1 rfl rfl gX12_lineAt_14.2.2.2.2.2.1 ?_
            refine astN hC hK hP hD hS 0 (ws' := [(nl, iA G 54 (upd (upd (upd (upd (upd (upd fnl ja 1) (ja + 1) (nI v_8900)) (ja + 2) (-9)) (ja + 3) (-9)) (ja + 4) (nI kc)) (ja + 5) (nI kc18927))), (h0, oX12 nw nk mhasKept nt (nI ktp) nr mrowMany mroundOf mroundFrom mouts nm mfromHour mtoHour ns (nI kf18924) (nI kt18925) so18926 0 0 (nI kc18927) mlines nl nc nF np ntr nb mbestCost nso nsi nit nsh nsf nss nrc mtraced mdealer mnumber mwhose msize misParted), (nt, iA G 240 fnt), (nc, iA G 100 gnc8928), (nF, sA G 5 (FCT K))]) rfl (k := (ja + 5)) (by omega) (Nat.le_of_ble_eq_true rfl) (rfl) gX12_lineAt_14.2.2.2.2.2.2.1 (fun H locs hP hD hS => ?_)
            refine lv_aload_n hx hb gX12_lineAt_14.2.2.2.2.2.2.2.1 rfl (lv_at1 hl) ?_
            refine lv_aload_n hx hb gX12_lineAt_14.2.2.2.2.2.2.2.2.1 rfl (lv_at1 hl) ?_
            refine lv_bipush (v := 59) hx hb gX12_lineAt_14.2.2.2.2.2.2.2.2.2 (by decide) ?_
            refine pV hC hK hl hP hD (m_isSign0 l G h0 59 nw nk mhasKept nt ktp nr mrowMany mroundOf mroundFrom mouts nm mfromHour mtoHour ns kf18924 kt18925 so18926 0 (nI kc18927) mlines nl nc nF np ntr nb mbestCost nso nsi nit nsh nsf nss nrc mtraced mdealer mnumber mwhose msize misParted fnt (hw8930_0) (htp)) si_X12_262 [1, 2] sm_1_2 fm_1_2 nd_1_2 rfl rfl rfl rfl rfl (Nat.le_of_ble_eq_true rfl) rm_32_1_2 ⟨by first | exact Nat.le_of_ble_eq_true rfl | exact Nat.zero_le _, by first | exact Nat.le_of_ble_eq_true rfl | exact Nat.zero_le _⟩ gX12_lineAt_15.1 (Kors (Keqa fun a8938 => ?_) (Keqa fun a8938 => ?_))
            · have tI8939 := a8938.1
              refine vV (wr := [(nl, iA G 54 (upd (upd (upd (upd (upd (upd fnl ja 1) (ja + 1) (nI v_8900)) (ja + 2) (-9)) (ja + 3) (-9)) (ja + 4) (nI kc)) (ja + 5) (nI kc18927))), (nc, iA G 100 gnc8928), (nF, sA G 5 (FCT K))]) hC hK hl hP hD hS hA (m_need1 l G h0 nw nk mhasKept nt ktp nr mrowMany mroundOf mroundFrom mouts nm mfromHour mtoHour ns (nI kf18924) kt18925 so18926 0 (nI kc18927) mlines nl nc nF np ntr nb mbestCost nso nsi nit nsh nsf nss nrc mtraced mdealer mnumber mwhose msize misParted fnt (by omega) (htp)) si_X12_236 [1, 2] [0, 3, 4] sm_1_2 fm_1_2 nd_1_2 sm_0_3_4 nd_0_3_4 dj_1_2__0_3_4 rfl rfl rfl rfl rfl (Nat.le_of_ble_eq_true rfl) rm_32_4_2 ⟨Nat.le_of_ble_eq_true rfl, Nat.le_of_ble_eq_true rfl⟩ gX12_lineAt_15.2.1 (Ktu3 fun kf18942 kt18943 so18944 => ?_)
              intro H locs hr8940 hP hD hS
              try dsimp only at hr8940
              refine Kpdr (ws := [(nl, iA G 54 (upd (upd (upd (upd (upd (upd fnl ja 1) (ja + 1) (nI v_8900)) (ja + 2) (-9)) (ja + 3) (-9)) (ja + 4) (nI kc)) (ja + 5) (nI kc18927))), (nc, iA G 100 gnc8928), (nF, sA G 5 (FCT K)), (h0, oX12 nw nk mhasKept nt (nI ktp) nr mrowMany mroundOf mroundFrom mouts nm mfromHour mtoHour ns (nI kf18942) (nI kt18943) so18944 0 0 (nI kc18927) mlines nl nc nF np ntr nb mbestCost nso nsi nit nsh nsf nss nrc mtraced mdealer mnumber mwhose msize misParted), (nt, iA G 240 fnt)]) hP hD (fun hP hD => ?_)
              have hw8946_0 := hr8940.1
              have hw8946_1 := hr8940.2
              have tA8948 := hw8946_1.1
              have tB8948 := hw8946_1.2.1
              refine toQ hQ0 ?_
              exact RV hC hP hD hS [3, 4, 1, 0, 2] (0, kf18942, kt18943, so18944, kc18927, gnc8928, upd (upd (upd (upd (upd (upd fnl ja 1) (ja + 1) (nI v_8900)) (ja + 2) (-9)) (ja + 3) (-9)) (ja + 4) (nI kc)) (ja + 5) (nI kc18927)) rfl rfl (by decide) (Or.inr ⟨rfl, hw8946_1, by (try dsimp only); omega, by (try dsimp only); omega, fun i hi => (upd_ne (by omega)).trans ((upd_ne (by omega)).trans ((upd_ne (by omega)).trans ((upd_ne (by omega)).trans ((upd_ne (by omega)).trans ((upd_ne (by omega)).trans (rfl)))))), hw8930_1.2.2.1, ⟨1, by decide, (upd_ne (by omega)).trans ((upd_ne (by omega)).trans ((upd_ne (by omega)).trans ((upd_ne (by omega)).trans ((upd_ne (by omega)).trans (upd_eq (by omega)))))), fun h9 => absurd h9 (by decide), fun h9 => absurd h9 (by decide)⟩, kc, kc18927, (upd_ne (by omega)).trans (upd_eq (by omega)), upd_eq (by omega), by (try dsimp only); omega, by (try dsimp only); omega, hw8930_1.2.2.2.wfc⟩) gX12_lineAt_15.2.2
            · refine vV (wr := [(nl, iA G 54 (upd (upd (upd (upd (upd (upd fnl ja 1) (ja + 1) (nI v_8900)) (ja + 2) (-9)) (ja + 3) (-9)) (ja + 4) (nI kc)) (ja + 5) (nI kc18927))), (nt, iA G 240 fnt), (nc, iA G 100 gnc8928), (nF, sA G 5 (FCT K))]) hC hK hl hP hD hS hA (m_need0 l G h0 nw nk mhasKept nt (nI ktp) nr mrowMany mroundOf mroundFrom mouts nm mfromHour mtoHour ns (nI kf18924) (nI kt18925) so18926 0 (nI kc18927) mlines nl nc nF np ntr nb mbestCost nso nsi nit nsh nsf nss nrc mtraced mdealer mnumber mwhose msize misParted) si_X12_236 [1] [0, 2, 3, 4] sm_1 fm_1 nd_1 sm_0_2_3_4 nd_0_2_3_4 dj_1__0_2_3_4 rfl rfl rfl rfl rfl (Nat.le_of_ble_eq_true rfl) rm_32_4_2 ⟨Nat.le_of_ble_eq_true rfl, Nat.le_of_ble_eq_true rfl⟩ gX12_lineAt_15.2.1 (fun u8950 H locs hr8949 hP hD hS => ?_)
              refine Kpdr (ws := [(nl, iA G 54 (upd (upd (upd (upd (upd (upd fnl ja 1) (ja + 1) (nI v_8900)) (ja + 2) (-9)) (ja + 3) (-9)) (ja + 4) (nI kc)) (ja + 5) (nI kc18927))), (nt, iA G 240 fnt), (nc, iA G 100 gnc8928), (nF, sA G 5 (FCT K)), (h0, oX12 nw nk mhasKept nt (nI ktp) nr mrowMany mroundOf mroundFrom mouts nm mfromHour mtoHour ns (nI kf18924) (nI kt18925) so18926 1 0 (nI kc18927) mlines nl nc nF np ntr nb mbestCost nso nsi nit nsh nsf nss nrc mtraced mdealer mnumber mwhose msize misParted)]) hP hD (fun hP hD => ?_)
              refine toQ hQ0 ?_
              exact RV hC hP hD hS [4, 1, 2, 0, 3] (1, kf18924, kt18925, so18926, kc18927, gnc8928, upd (upd (upd (upd (upd (upd fnl ja 1) (ja + 1) (nI v_8900)) (ja + 2) (-9)) (ja + 3) (-9)) (ja + 4) (nI kc)) (ja + 5) (nI kc18927)) rfl rfl (by decide) (Or.inl rfl) gX12_lineAt_15.2.2
        · refine lv_if_eq (tgt := 256) hx hb gX12_lineAt_13.2.2.2.2.1 (by decide) (fun _ => ?_) (fun c9 => absurd (by decide) c9)
          refine lv_aload_n hx hb gX12_lineAt_13.2.2.2.2.2.2.2.2.2 rfl (lv_at1 hl) ?_
          refine gf_X12_32 hC rfl hK hP 3 rfl rfl gX12_lineAt_14.1 ?_
          refine lv_iload_n hx hb gX12_lineAt_14.2.1 rfl (lv_at2 hl) ?_
          refine lv_iconst (v := 5) hx hb gX12_lineAt_14.2.2.1 (by decide) ?_
          refine lv_iadd hx hb gX12_lineAt_14.2.2.2.1 ?_
          refine eqi (x1 := nI (ja + 5)) (nI_add ja 5) ?_
          refine lv_aload_n hx hb gX12_lineAt_14.2.2.2.2.1 rfl (lv_at1 hl) ?_
          refine gf_X12_240 hC rfl hK hP 3 rfl rfl gX12_lineAt_14.2.2.2.2.2.1 ?_
          refine astN hC hK hP hD hS 1 (ws' := [(nc, iA G 100 fnc), (nl, iA G 54 (upd (upd (upd (upd (upd (upd fnl ja 1) (ja + 1) (nI v_8900)) (ja + 2) (-9)) (ja + 3) (-9)) (ja + 4) (nI kc)) (ja + 5) (nI kc))), (nF, sA G 5 (FCT K)), (h0, oX12 nw nk mhasKept nt (nI ktp) nr mrowMany mroundOf mroundFrom mouts nm mfromHour mtoHour ns (nI kf18896) (nI kt18897) so18898 0 0 (nI kc) mlines nl nc nF np ntr nb mbestCost nso nsi nit nsh nsf nss nrc mtraced mdealer mnumber mwhose msize misParted), (nt, iA G 240 fnt)]) rfl (k := (ja + 5)) (by omega) (Nat.le_of_ble_eq_true rfl) (rfl) gX12_lineAt_14.2.2.2.2.2.2.1 (fun H locs hP hD hS => ?_)
          refine lv_aload_n hx hb gX12_lineAt_14.2.2.2.2.2.2.2.1 rfl (lv_at1 hl) ?_
          refine lv_aload_n hx hb gX12_lineAt_14.2.2.2.2.2.2.2.2.1 rfl (lv_at1 hl) ?_
          refine lv_bipush (v := 59) hx hb gX12_lineAt_14.2.2.2.2.2.2.2.2.2 (by decide) ?_
          refine pV hC hK hl hP hD (m_isSign0 l G h0 59 nw nk mhasKept nt ktp nr mrowMany mroundOf mroundFrom mouts nm mfromHour mtoHour ns kf18896 kt18897 so18898 0 (nI kc) mlines nl nc nF np ntr nb mbestCost nso nsi nit nsh nsf nss nrc mtraced mdealer mnumber mwhose msize misParted fnt (hw8900_2) (htp)) si_X12_262 [3, 4] sm_3_4 fm_3_4 nd_3_4 rfl rfl rfl rfl rfl (Nat.le_of_ble_eq_true rfl) rm_32_1_2 ⟨by first | exact Nat.le_of_ble_eq_true rfl | exact Nat.zero_le _, by first | exact Nat.le_of_ble_eq_true rfl | exact Nat.zero_le _⟩ gX12_lineAt_15.1 (Kors (Keqa fun a8952 => ?_) (Keqa fun a8952 => ?_))
          · have tI8953 := a8952.1
            refine vV (wr := [(nc, iA G 100 fnc), (nl, iA G 54 (upd (upd (upd (upd (upd (upd fnl ja 1) (ja + 1) (nI v_8900)) (ja + 2) (-9)) (ja + 3) (-9)) (ja + 4) (nI kc)) (ja + 5) (nI kc))), (nF, sA G 5 (FCT K))]) hC hK hl hP hD hS hA (m_need1 l G h0 nw nk mhasKept nt ktp nr mrowMany mroundOf mroundFrom mouts nm mfromHour mtoHour ns (nI kf18896) kt18897 so18898 0 (nI kc) mlines nl nc nF np ntr nb mbestCost nso nsi nit nsh nsf nss nrc mtraced mdealer mnumber mwhose msize misParted fnt (by omega) (htp)) si_X12_236 [3, 4] [0, 1, 2] sm_3_4 fm_3_4 nd_3_4 sm_0_1_2 nd_0_1_2 dj_3_4__0_1_2 rfl rfl rfl rfl rfl (Nat.le_of_ble_eq_true rfl) rm_32_4_2 ⟨Nat.le_of_ble_eq_true rfl, Nat.le_of_ble_eq_true rfl⟩ gX12_lineAt_15.2.1 (Ktu3 fun kf18956 kt18957 so18958 => ?_)
            intro H locs hr8954 hP hD hS
            try dsimp only at hr8954
            refine Kpdr (ws := [(nc, iA G 100 fnc), (nl, iA G 54 (upd (upd (upd (upd (upd (upd fnl ja 1) (ja + 1) (nI v_8900)) (ja + 2) (-9)) (ja + 3) (-9)) (ja + 4) (nI kc)) (ja + 5) (nI kc))), (nF, sA G 5 (FCT K)), (h0, oX12 nw nk mhasKept nt (nI ktp) nr mrowMany mroundOf mroundFrom mouts nm mfromHour mtoHour ns (nI kf18956) (nI kt18957) so18958 0 0 (nI kc) mlines nl nc nF np ntr nb mbestCost nso nsi nit nsh nsf nss nrc mtraced mdealer mnumber mwhose msize misParted), (nt, iA G 240 fnt)]) hP hD (fun hP hD => ?_)
            have hw8960_0 := hr8954.1
            have hw8960_1 := hr8954.2
            have tA8962 := hw8960_1.1
            have tB8962 := hw8960_1.2.1
            refine toQ hQ0 ?_
            exact RV hC hP hD hS [3, 4, 0, 1, 2] (0, kf18956, kt18957, so18958, kc, fnc, upd (upd (upd (upd (upd (upd fnl ja 1) (ja + 1) (nI v_8900)) (ja + 2) (-9)) (ja + 3) (-9)) (ja + 4) (nI kc)) (ja + 5) (nI kc)) rfl rfl (by decide) (Or.inr ⟨rfl, hw8960_1, by (try dsimp only); omega, by (try dsimp only); omega, fun i hi => (upd_ne (by omega)).trans ((upd_ne (by omega)).trans ((upd_ne (by omega)).trans ((upd_ne (by omega)).trans ((upd_ne (by omega)).trans ((upd_ne (by omega)).trans (rfl)))))), fun _ _ => rfl, ⟨1, by decide, (upd_ne (by omega)).trans ((upd_ne (by omega)).trans ((upd_ne (by omega)).trans ((upd_ne (by omega)).trans ((upd_ne (by omega)).trans (upd_eq (by omega)))))), fun h9 => absurd h9 (by decide), fun h9 => absurd h9 (by decide)⟩, kc, kc, (upd_ne (by omega)).trans (upd_eq (by omega)), upd_eq (by omega), by (try dsimp only); omega, by (try dsimp only); omega, WFC.zero⟩) gX12_lineAt_15.2.2
          · refine vV (wr := [(nc, iA G 100 fnc), (nl, iA G 54 (upd (upd (upd (upd (upd (upd fnl ja 1) (ja + 1) (nI v_8900)) (ja + 2) (-9)) (ja + 3) (-9)) (ja + 4) (nI kc)) (ja + 5) (nI kc))), (nF, sA G 5 (FCT K)), (nt, iA G 240 fnt)]) hC hK hl hP hD hS hA (m_need0 l G h0 nw nk mhasKept nt (nI ktp) nr mrowMany mroundOf mroundFrom mouts nm mfromHour mtoHour ns (nI kf18896) (nI kt18897) so18898 0 (nI kc) mlines nl nc nF np ntr nb mbestCost nso nsi nit nsh nsf nss nrc mtraced mdealer mnumber mwhose msize misParted) si_X12_236 [3] [0, 1, 2, 4] sm_3 fm_3 nd_3 sm_0_1_2_4 nd_0_1_2_4 dj_3__0_1_2_4 rfl rfl rfl rfl rfl (Nat.le_of_ble_eq_true rfl) rm_32_4_2 ⟨Nat.le_of_ble_eq_true rfl, Nat.le_of_ble_eq_true rfl⟩ gX12_lineAt_15.2.1 (fun u8964 H locs hr8963 hP hD hS => ?_)
            refine Kpdr (ws := [(nc, iA G 100 fnc), (nl, iA G 54 (upd (upd (upd (upd (upd (upd fnl ja 1) (ja + 1) (nI v_8900)) (ja + 2) (-9)) (ja + 3) (-9)) (ja + 4) (nI kc)) (ja + 5) (nI kc))), (nF, sA G 5 (FCT K)), (nt, iA G 240 fnt), (h0, oX12 nw nk mhasKept nt (nI ktp) nr mrowMany mroundOf mroundFrom mouts nm mfromHour mtoHour ns (nI kf18896) (nI kt18897) so18898 1 0 (nI kc) mlines nl nc nF np ntr nb mbestCost nso nsi nit nsh nsf nss nrc mtraced mdealer mnumber mwhose msize misParted)]) hP hD (fun hP hD => ?_)
            refine toQ hQ0 ?_
            exact RV hC hP hD hS [4, 3, 0, 1, 2] (1, kf18896, kt18897, so18898, kc, fnc, upd (upd (upd (upd (upd (upd fnl ja 1) (ja + 1) (nI v_8900)) (ja + 2) (-9)) (ja + 3) (-9)) (ja + 4) (nI kc)) (ja + 5) (nI kc)) rfl rfl (by decide) (Or.inl rfl) gX12_lineAt_15.2.2
    · refine lv_if_eq (tgt := 28) hx hb gX12_lineAt_0.2.2.2.2.2.2.2.2.2 (by decide) (fun _ => ?_) (fun c9 => absurd (by decide) c9)
      refine lv_aload_n hx hb gX12_lineAt_1.2.2.1 rfl (lv_at0 hl) ?_
      refine va_ldcSw (index := 278) (tx := "ask") hx hb hown (hO.2.2 3 (by decide)) gX12_lineAt_1.2.2.2.1 ?_
      refine pVo hO hS hC hK hl hP hD (m_isName0 l G K 3 h0 nw nk mhasKept nt ktp nr mrowMany mroundOf mroundFrom mouts nm mfromHour mtoHour ns kf kt so 0 (nI kc) mlines nl nc nF np ntr nb mbestCost nso nsi nit nsh nsf nss nrc mtraced mdealer mnumber mwhose msize misParted fnt ((by decide)) (hT) (htp)) si_X12_248 [0, 1] sm_0_1 fm_0_1 nd_0_1 rfl rfl rfl rfl rfl (Nat.le_of_ble_eq_true rfl) rm_32_5_4 ⟨by first | exact Nat.le_of_ble_eq_true rfl | exact Nat.zero_le _, by first | exact Nat.le_of_ble_eq_true rfl | exact Nat.zero_le _⟩ gX12_lineAt_1.2.2.2.2.1 (Kors (Keqa fun a8966 => ?_) (Keqr ?_))
      · refine lv_if_eq (tgt := 42) hx hb gX12_lineAt_1.2.2.2.2.2.1 (by decide) (fun c9 => absurd c9 (by decide)) (fun _ => ?_)
        refine lv_iconst (v := 2) hx hb gX12_lineAt_1.2.2.2.2.2.2.1 (by decide) ?_
        refine lv_goto (tgt := 57) hx hb gX12_lineAt_1.2.2.2.2.2.2.2.1 (by decide) ?_
        refine lv_istore_n (lv' := [(2, .int 2), (0, .ref h0), (1, .int (nI ja))]) hx hb gX12_lineAt_2.2.2.2.2.2.1 rfl hl (by decide) rfl (fun ls hl => ?_)
        refine lv_aload_n hx hb gX12_lineAt_2.2.2.2.2.2.2.1 rfl (lv_at1 hl) ?_
        refine lv_iload_n hx hb gX12_lineAt_2.2.2.2.2.2.2.2.1 rfl (lv_at0 hl) ?_
        refine lv_if_lt (tgt := 67) hx hb gX12_lineAt_2.2.2.2.2.2.2.2.2.1 (by decide) (fun c9 => absurd c9 (by decide)) (fun _ => ?_)
        refine lv_iconst (v := 1) hx hb gX12_lineAt_2.2.2.2.2.2.2.2.2.2 (by decide) ?_
        refine lv_goto (tgt := 68) hx hb gX12_lineAt_3.1 (by decide) ?_
        have tI8967 : kt = kf + 3 := a8966.2
        refine vV (wr := [(nc, iA G 100 fnc), (nl, iA G 54 fnl), (nF, sA G 5 (FCT K))]) hC hK hl hP hD hS hA (m_need1 l G h0 nw nk mhasKept nt ktp nr mrowMany mroundOf mroundFrom mouts nm mfromHour mtoHour ns (nI kf) kt so 0 (nI kc) mlines nl nc nF np ntr nb mbestCost nso nsi nit nsh nsf nss nrc mtraced mdealer mnumber mwhose msize misParted fnt (by omega) (htp)) si_X12_236 [0, 1] [2, 3, 4] sm_0_1 fm_0_1 nd_0_1 sm_2_3_4 nd_2_3_4 dj_0_1__2_3_4 rfl rfl rfl rfl rfl (Nat.le_of_ble_eq_true rfl) rm_32_4_2 ⟨Nat.le_of_ble_eq_true rfl, Nat.le_of_ble_eq_true rfl⟩ gX12_lineAt_3.2.2.1 (Ktu3 fun kf18970 kt18971 so18972 => ?_)
        intro H locs hr8968 hP hD hS
        try dsimp only at hr8968
        refine Kpdr (ws := [(nc, iA G 100 fnc), (nl, iA G 54 fnl), (nF, sA G 5 (FCT K)), (h0, oX12 nw nk mhasKept nt (nI ktp) nr mrowMany mroundOf mroundFrom mouts nm mfromHour mtoHour ns (nI kf18970) (nI kt18971) so18972 0 0 (nI kc) mlines nl nc nF np ntr nb mbestCost nso nsi nit nsh nsf nss nrc mtraced mdealer mnumber mwhose msize misParted), (nt, iA G 240 fnt)]) hP hD (fun hP hD => ?_)
        have hw8974_0 := hr8968.1
        have hw8974_1 := hr8968.2
        have tA8976 := hw8974_1.1
        have tB8976 := hw8974_1.2.1
        refine lv_aload_n hx hb gX12_lineAt_3.2.2.2.1 rfl (lv_at1 hl) ?_
        refine gf_X12_32 hC rfl hK hP 3 rfl rfl gX12_lineAt_3.2.2.2.2.1 ?_
        refine lv_iload_n hx hb gX12_lineAt_3.2.2.2.2.2.1 rfl (lv_at2 hl) ?_
        refine lv_iload_n hx hb gX12_lineAt_3.2.2.2.2.2.2.1 rfl (lv_at0 hl) ?_
        refine astN hC hK hP hD hS 1 (ws' := [(nc, iA G 100 fnc), (nl, iA G 54 (upd fnl ja 2)), (nF, sA G 5 (FCT K)), (h0, oX12 nw nk mhasKept nt (nI ktp) nr mrowMany mroundOf mroundFrom mouts nm mfromHour mtoHour ns (nI kf18970) (nI kt18971) so18972 0 0 (nI kc) mlines nl nc nF np ntr nb mbestCost nso nsi nit nsh nsf nss nrc mtraced mdealer mnumber mwhose msize misParted), (nt, iA G 240 fnt)]) rfl (k := ja) (by omega) (Nat.le_of_ble_eq_true rfl) (rfl) gX12_lineAt_3.2.2.2.2.2.2.2.1 (fun H locs hP hD hS => ?_)
        refine lv_aload_n hx hb gX12_lineAt_3.2.2.2.2.2.2.2.2.1 rfl (lv_at1 hl) ?_
        refine gf_X12_32 hC rfl hK hP 3 rfl rfl gX12_lineAt_3.2.2.2.2.2.2.2.2.2 ?_
        refine lv_iload_n hx hb gX12_lineAt_4.1 rfl (lv_at2 hl) ?_
        refine lv_iconst (v := 1) hx hb gX12_lineAt_4.2.1 (by decide) ?_
        refine lv_iadd hx hb gX12_lineAt_4.2.2.1 ?_
        refine eqi (x1 := nI (ja + 1)) (nI_add ja 1) ?_
        refine lv_aload_n hx hb gX12_lineAt_4.2.2.2.1 rfl (lv_at1 hl) ?_
        refine lv_iload_n hx hb gX12_lineAt_4.2.2.2.2.1 rfl (lv_at0 hl) ?_
        refine lv_if_eq (tgt := 95) hx hb gX12_lineAt_4.2.2.2.2.2.1 (by decide) (fun c9 => absurd c9 (by decide)) (fun _ => ?_)
        refine lv_iload_n hx hb gX12_lineAt_4.2.2.2.2.2.2.1 rfl (lv_at0 hl) ?_
        refine lv_iconst (v := 1) hx hb gX12_lineAt_4.2.2.2.2.2.2.2.1 (by decide) ?_
        refine lv_icmp_ne (tgt := 100) hx hb gX12_lineAt_4.2.2.2.2.2.2.2.2.1 (by decide) (fun _ => ?_) (fun c9 => absurd c9 (by decide))
        refine lv_iload_n hx hb gX12_lineAt_5.2.1 rfl (lv_at0 hl) ?_
        refine lv_iconst (v := 2) hx hb gX12_lineAt_5.2.2.1 (by decide) ?_
        refine lv_icmp_ne (tgt := 110) hx hb gX12_lineAt_5.2.2.2.1 (by decide) (fun c9 => absurd (by decide) c9) (fun _ => ?_)
        refine lv_bipush (v := 7) hx hb gX12_lineAt_5.2.2.2.2.1 (by decide) ?_
        refine lv_goto (tgt := 112) hx hb gX12_lineAt_5.2.2.2.2.2.1 (by decide) ?_
        refine iV (wr := [(nc, iA G 100 fnc), (nl, iA G 54 (upd fnl ja 2)), (nF, sA G 5 (FCT K))]) hC hK hl hP hD hS hA (m_number0 l G h0 7 nw nk mhasKept nt ktp nr mrowMany mroundOf mroundFrom mouts nm mfromHour mtoHour ns kf18970 kt18971 so18972 0 (nI kc) mlines nl nc nF np ntr nb mbestCost nso nsi nit nsh nsf nss nrc mtraced mdealer mnumber mwhose msize misParted fnt (hw8974_1) (htp) (by omega)) si_X12_271 [3, 4] [0, 1, 2] sm_3_4 fm_3_4 nd_3_4 sm_0_1_2 nd_0_1_2 dj_3_4__0_1_2 rfl rfl rfl rfl rfl (Nat.le_of_ble_eq_true rfl) rm_32_5_5 ⟨Nat.le_of_ble_eq_true rfl, Nat.le_of_ble_eq_true rfl⟩ gX12_lineAt_5.2.2.2.2.2.2.2.1 (fun r8977 => Ktu4 fun ff18979 kf18980 kt18981 so18982 => ?_)
        intro H locs hr8977 hP hD hS
        try dsimp only at hr8977
        refine Kpdr (ws := [(nc, iA G 100 fnc), (nl, iA G 54 (upd fnl ja 2)), (nF, sA G 5 (FCT K)), (h0, oX12 nw nk mhasKept nt (nI ktp) nr mrowMany mroundOf mroundFrom mouts nm mfromHour mtoHour ns (nI kf18980) (nI kt18981) so18982 ff18979 0 (nI kc) mlines nl nc nF np ntr nb mbestCost nso nsi nit nsh nsf nss nrc mtraced mdealer mnumber mwhose msize misParted), (nt, iA G 240 fnt)]) hP hD (fun hP hD => ?_)
        obtain ⟨hr8977, w8983⟩ := hr8977
        rcases w8983 with rfl | ⟨rfl, ⟨v_8984, hv_8984, rfl⟩, hw8984_1, hw8984_2⟩
        · refine astN hC hK hP hD hS 1 (ws' := [(nc, iA G 100 fnc), (nl, iA G 54 (upd (upd fnl ja 2) (ja + 1) r8977)), (nF, sA G 5 (FCT K)), (h0, oX12 nw nk mhasKept nt (nI ktp) nr mrowMany mroundOf mroundFrom mouts nm mfromHour mtoHour ns (nI kf18980) (nI kt18981) so18982 1 0 (nI kc) mlines nl nc nF np ntr nb mbestCost nso nsi nit nsh nsf nss nrc mtraced mdealer mnumber mwhose msize misParted), (nt, iA G 240 fnt)]) rfl (k := (ja + 1)) (by omega) (Nat.le_of_ble_eq_true rfl) (rfl) gX12_lineAt_5.2.2.2.2.2.2.2.2.1 (fun H locs hP hD hS => ?_)
          refine lv_aload_n hx hb gX12_lineAt_5.2.2.2.2.2.2.2.2.2 rfl (lv_at1 hl) ?_
          refine gf_X12_32 hC rfl hK hP 3 rfl rfl gX12_lineAt_6.1 ?_
          refine lv_iload_n hx hb gX12_lineAt_6.2.1 rfl (lv_at2 hl) ?_
          refine lv_iconst (v := 2) hx hb gX12_lineAt_6.2.2.1 (by decide) ?_
          refine lv_iadd hx hb gX12_lineAt_6.2.2.2.1 ?_
          refine eqi (x1 := nI (ja + 2)) (nI_add ja 2) ?_
          refine lv_bipush (v := (-9)) hx hb gX12_lineAt_6.2.2.2.2.1 (by decide) ?_
          refine astN hC hK hP hD hS 1 (ws' := [(nc, iA G 100 fnc), (nl, iA G 54 (upd (upd (upd fnl ja 2) (ja + 1) r8977) (ja + 2) (-9))), (nF, sA G 5 (FCT K)), (h0, oX12 nw nk mhasKept nt (nI ktp) nr mrowMany mroundOf mroundFrom mouts nm mfromHour mtoHour ns (nI kf18980) (nI kt18981) so18982 1 0 (nI kc) mlines nl nc nF np ntr nb mbestCost nso nsi nit nsh nsf nss nrc mtraced mdealer mnumber mwhose msize misParted), (nt, iA G 240 fnt)]) rfl (k := (ja + 2)) (by omega) (Nat.le_of_ble_eq_true rfl) (rfl) gX12_lineAt_6.2.2.2.2.2.1 (fun H locs hP hD hS => ?_)
          refine lv_aload_n hx hb gX12_lineAt_6.2.2.2.2.2.2.1 rfl (lv_at1 hl) ?_
          refine gf_X12_32 hC rfl hK hP 3 rfl rfl gX12_lineAt_6.2.2.2.2.2.2.2.1 ?_
          refine lv_iload_n hx hb gX12_lineAt_6.2.2.2.2.2.2.2.2.1 rfl (lv_at2 hl) ?_
          refine lv_iconst (v := 3) hx hb gX12_lineAt_6.2.2.2.2.2.2.2.2.2 (by decide) ?_
          refine lv_iadd hx hb gX12_lineAt_7.1 ?_
          refine eqi (x1 := nI (ja + 3)) (nI_add ja 3) ?_
          refine lv_bipush (v := (-9)) hx hb gX12_lineAt_7.2.1 (by decide) ?_
          refine astN hC hK hP hD hS 1 (ws' := [(nc, iA G 100 fnc), (nl, iA G 54 (upd (upd (upd (upd fnl ja 2) (ja + 1) r8977) (ja + 2) (-9)) (ja + 3) (-9))), (nF, sA G 5 (FCT K)), (h0, oX12 nw nk mhasKept nt (nI ktp) nr mrowMany mroundOf mroundFrom mouts nm mfromHour mtoHour ns (nI kf18980) (nI kt18981) so18982 1 0 (nI kc) mlines nl nc nF np ntr nb mbestCost nso nsi nit nsh nsf nss nrc mtraced mdealer mnumber mwhose msize misParted), (nt, iA G 240 fnt)]) rfl (k := (ja + 3)) (by omega) (Nat.le_of_ble_eq_true rfl) (rfl) gX12_lineAt_7.2.2.1 (fun H locs hP hD hS => ?_)
          refine lv_iload_n hx hb gX12_lineAt_7.2.2.2.1 rfl (lv_at0 hl) ?_
          refine lv_if_ne (tgt := 190) hx hb gX12_lineAt_7.2.2.2.2.1 (by decide) (fun _ => ?_) (fun c9 => absurd c9 (by decide))
          refine lv_iload_n hx hb gX12_lineAt_10.2.2.2.1 rfl (lv_at0 hl) ?_
          refine lv_iconst (v := 2) hx hb gX12_lineAt_10.2.2.2.2.1 (by decide) ?_
          refine lv_icmp_ne (tgt := 221) hx hb gX12_lineAt_10.2.2.2.2.2.1 (by decide) (fun c9 => absurd (by decide) c9) (fun _ => ?_)
          refine lv_aload_n hx hb gX12_lineAt_10.2.2.2.2.2.2.1 rfl (lv_at1 hl) ?_
          refine lv_aload_n hx hb gX12_lineAt_10.2.2.2.2.2.2.2.1 rfl (lv_at1 hl) ?_
          refine va_ldcSw (index := 285) (tx := "by") hx hb hown (hO.2.2 7 (by decide)) gX12_lineAt_10.2.2.2.2.2.2.2.2.1 ?_
          refine pVo hO hS hC hK hl hP hD (m_isNameF l G K 7 h0 nw nk mhasKept nt (nI ktp) nr mrowMany mroundOf mroundFrom mouts nm mfromHour mtoHour ns (nI kf18980) (nI kt18981) so18982 0 (nI kc) mlines nl nc nF np ntr nb mbestCost nso nsi nit nsh nsf nss nrc mtraced mdealer mnumber mwhose msize misParted ((by decide))) si_X12_248 [3] sm_3 fm_3 nd_3 rfl rfl rfl rfl rfl (Nat.le_of_ble_eq_true rfl) rm_32_5_4 ⟨by first | exact Nat.le_of_ble_eq_true rfl | exact Nat.zero_le _, by first | exact Nat.le_of_ble_eq_true rfl | exact Nat.zero_le _⟩ gX12_lineAt_10.2.2.2.2.2.2.2.2.2 (Keqr ?_)
          refine vV (wr := [(nc, iA G 100 fnc), (nl, iA G 54 (upd (upd (upd (upd fnl ja 2) (ja + 1) r8977) (ja + 2) (-9)) (ja + 3) (-9))), (nF, sA G 5 (FCT K)), (nt, iA G 240 fnt)]) hC hK hl hP hD hS hA (m_needF l G h0 0 nw nk mhasKept nt (nI ktp) nr mrowMany mroundOf mroundFrom mouts nm mfromHour mtoHour ns (nI kf18980) (nI kt18981) so18982 0 (nI kc) mlines nl nc nF np ntr nb mbestCost nso nsi nit nsh nsf nss nrc mtraced mdealer mnumber mwhose msize misParted) si_X12_236 [3] [0, 1, 2, 4] sm_3 fm_3 nd_3 sm_0_1_2_4 nd_0_1_2_4 dj_3__0_1_2_4 rfl rfl rfl rfl rfl (Nat.le_of_ble_eq_true rfl) rm_32_4_2 ⟨Nat.le_of_ble_eq_true rfl, Nat.le_of_ble_eq_true rfl⟩ gX12_lineAt_11.1 (fun u8988 H locs hr8987 hP hD hS => ?_)
          refine Kpdr (ws := [(nc, iA G 100 fnc), (nl, iA G 54 (upd (upd (upd (upd fnl ja 2) (ja + 1) r8977) (ja + 2) (-9)) (ja + 3) (-9))), (nF, sA G 5 (FCT K)), (nt, iA G 240 fnt), (h0, oX12 nw nk mhasKept nt (nI ktp) nr mrowMany mroundOf mroundFrom mouts nm mfromHour mtoHour ns (nI kf18980) (nI kt18981) so18982 1 0 (nI kc) mlines nl nc nF np ntr nb mbestCost nso nsi nit nsh nsf nss nrc mtraced mdealer mnumber mwhose msize misParted)]) hP hD (fun hP hD => ?_)
          refine lv_aload_n hx hb gX12_lineAt_11.2.1 rfl (lv_at1 hl) ?_
          refine gf_X12_32 hC rfl hK hP 4 rfl rfl gX12_lineAt_11.2.2.1 ?_
          refine lv_iload_n hx hb gX12_lineAt_11.2.2.2.1 rfl (lv_at2 hl) ?_
          refine lv_iconst (v := 2) hx hb gX12_lineAt_11.2.2.2.2.1 (by decide) ?_
          refine lv_iadd hx hb gX12_lineAt_11.2.2.2.2.2.1 ?_
          refine eqi (x1 := nI (ja + 2)) (nI_add ja 2) ?_
          refine lv_aload_n hx hb gX12_lineAt_11.2.2.2.2.2.2.1 rfl (lv_at1 hl) ?_
          refine lv_sipush (v := 999) hx hb gX12_lineAt_11.2.2.2.2.2.2.2.1 (by decide) ?_
          refine iV (wr := [(nc, iA G 100 fnc), (nl, iA G 54 (upd (upd (upd (upd fnl ja 2) (ja + 1) r8977) (ja + 2) (-9)) (ja + 3) (-9))), (nF, sA G 5 (FCT K)), (nt, iA G 240 fnt)]) hC hK hl hP hD hS hA (m_numberF l G h0 999 nw nk mhasKept nt (nI ktp) nr mrowMany mroundOf mroundFrom mouts nm mfromHour mtoHour ns (nI kf18980) (nI kt18981) so18982 0 (nI kc) mlines nl nc nF np ntr nb mbestCost nso nsi nit nsh nsf nss nrc mtraced mdealer mnumber mwhose msize misParted) si_X12_271 [4] [0, 1, 2, 3] sm_4 fm_4 nd_4 sm_0_1_2_3 nd_0_1_2_3 dj_4__0_1_2_3 rfl rfl rfl rfl rfl (Nat.le_of_ble_eq_true rfl) rm_32_5_5 ⟨Nat.le_of_ble_eq_true rfl, Nat.le_of_ble_eq_true rfl⟩ gX12_lineAt_11.2.2.2.2.2.2.2.2.1 (fun r8989 u8990 H locs hr8989 hP hD hS => ?_)
          refine Kpdr (ws := [(nc, iA G 100 fnc), (nl, iA G 54 (upd (upd (upd (upd fnl ja 2) (ja + 1) r8977) (ja + 2) (-9)) (ja + 3) (-9))), (nF, sA G 5 (FCT K)), (nt, iA G 240 fnt), (h0, oX12 nw nk mhasKept nt (nI ktp) nr mrowMany mroundOf mroundFrom mouts nm mfromHour mtoHour ns (nI kf18980) (nI kt18981) so18982 1 0 (nI kc) mlines nl nc nF np ntr nb mbestCost nso nsi nit nsh nsf nss nrc mtraced mdealer mnumber mwhose msize misParted)]) hP hD (fun hP hD => ?_)
          obtain rfl := hr8989
          refine astN hC hK hP hD hS 1 (ws' := [(nc, iA G 100 fnc), (nl, iA G 54 (upd (upd (upd (upd (upd fnl ja 2) (ja + 1) r8977) (ja + 2) (-9)) (ja + 3) (-9)) (ja + 2) 0)), (nF, sA G 5 (FCT K)), (nt, iA G 240 fnt), (h0, oX12 nw nk mhasKept nt (nI ktp) nr mrowMany mroundOf mroundFrom mouts nm mfromHour mtoHour ns (nI kf18980) (nI kt18981) so18982 1 0 (nI kc) mlines nl nc nF np ntr nb mbestCost nso nsi nit nsh nsf nss nrc mtraced mdealer mnumber mwhose msize misParted)]) rfl (k := (ja + 2)) (by omega) (Nat.le_of_ble_eq_true rfl) (rfl) gX12_lineAt_11.2.2.2.2.2.2.2.2.2 (fun H locs hP hD hS => ?_)
          refine lv_aload_n hx hb gX12_lineAt_12.1 rfl (lv_at1 hl) ?_
          refine gf_X12_32 hC rfl hK hP 4 rfl rfl gX12_lineAt_12.2.1 ?_
          refine lv_iload_n hx hb gX12_lineAt_12.2.2.1 rfl (lv_at2 hl) ?_
          refine lv_iconst (v := 4) hx hb gX12_lineAt_12.2.2.2.1 (by decide) ?_
          refine lv_iadd hx hb gX12_lineAt_12.2.2.2.2.1 ?_
          refine eqi (x1 := nI (ja + 4)) (nI_add ja 4) ?_
          refine lv_aload_n hx hb gX12_lineAt_12.2.2.2.2.2.1 rfl (lv_at1 hl) ?_
          refine gf_X12_240 hC rfl hK hP 4 rfl rfl gX12_lineAt_12.2.2.2.2.2.2.1 ?_
          refine astN hC hK hP hD hS 1 (ws' := [(nc, iA G 100 fnc), (nl, iA G 54 (upd (upd (upd (upd (upd (upd fnl ja 2) (ja + 1) r8977) (ja + 2) (-9)) (ja + 3) (-9)) (ja + 2) 0) (ja + 4) (nI kc))), (nF, sA G 5 (FCT K)), (nt, iA G 240 fnt), (h0, oX12 nw nk mhasKept nt (nI ktp) nr mrowMany mroundOf mroundFrom mouts nm mfromHour mtoHour ns (nI kf18980) (nI kt18981) so18982 1 0 (nI kc) mlines nl nc nF np ntr nb mbestCost nso nsi nit nsh nsf nss nrc mtraced mdealer mnumber mwhose msize misParted)]) rfl (k := (ja + 4)) (by omega) (Nat.le_of_ble_eq_true rfl) (rfl) gX12_lineAt_12.2.2.2.2.2.2.2.1 (fun H locs hP hD hS => ?_)
          refine lv_iload_n hx hb gX12_lineAt_12.2.2.2.2.2.2.2.2.1 rfl (lv_at0 hl) ?_
          refine lv_iconst (v := 3) hx hb gX12_lineAt_12.2.2.2.2.2.2.2.2.2 (by decide) ?_
          refine lv_icmp_eq (tgt := 256) hx hb gX12_lineAt_13.1 (by decide) (fun c9 => absurd c9 (by decide)) (fun _ => ?_)
          refine lv_aload_n hx hb gX12_lineAt_13.2.1 rfl (lv_at1 hl) ?_
          refine va_ldcSw (index := 287) (tx := "if") hx hb hown (hO.2.2 0 (by decide)) gX12_lineAt_13.2.2.1 ?_
          refine pVo hO hS hC hK hl hP hD (m_isNameF l G K 0 h0 nw nk mhasKept nt (nI ktp) nr mrowMany mroundOf mroundFrom mouts nm mfromHour mtoHour ns (nI kf18980) (nI kt18981) so18982 0 (nI kc) mlines nl nc nF np ntr nb mbestCost nso nsi nit nsh nsf nss nrc mtraced mdealer mnumber mwhose msize misParted ((by decide))) si_X12_248 [4] sm_4 fm_4 nd_4 rfl rfl rfl rfl rfl (Nat.le_of_ble_eq_true rfl) rm_32_5_4 ⟨by first | exact Nat.le_of_ble_eq_true rfl | exact Nat.zero_le _, by first | exact Nat.le_of_ble_eq_true rfl | exact Nat.zero_le _⟩ gX12_lineAt_13.2.2.2.1 (Keqr ?_)
          refine lv_if_eq (tgt := 256) hx hb gX12_lineAt_13.2.2.2.2.1 (by decide) (fun _ => ?_) (fun c9 => absurd (by decide) c9)
          refine lv_aload_n hx hb gX12_lineAt_13.2.2.2.2.2.2.2.2.2 rfl (lv_at1 hl) ?_
          refine gf_X12_32 hC rfl hK hP 4 rfl rfl gX12_lineAt_14.1 ?_
          refine lv_iload_n hx hb gX12_lineAt_14.2.1 rfl (lv_at2 hl) ?_
          refine lv_iconst (v := 5) hx hb gX12_lineAt_14.2.2.1 (by decide) ?_
          refine lv_iadd hx hb gX12_lineAt_14.2.2.2.1 ?_
          refine eqi (x1 := nI (ja + 5)) (nI_add ja 5) ?_
          refine lv_aload_n hx hb gX12_lineAt_14.2.2.2.2.1 rfl (lv_at1 hl) ?_
          refine gf_X12_240 hC rfl hK hP 4 rfl rfl gX12_lineAt_14.2.2.2.2.2.1 ?_
          refine astN hC hK hP hD hS 1 (ws' := [(nc, iA G 100 fnc), (nl, iA G 54 (upd (upd (upd (upd (upd (upd (upd fnl ja 2) (ja + 1) r8977) (ja + 2) (-9)) (ja + 3) (-9)) (ja + 2) 0) (ja + 4) (nI kc)) (ja + 5) (nI kc))), (nF, sA G 5 (FCT K)), (nt, iA G 240 fnt), (h0, oX12 nw nk mhasKept nt (nI ktp) nr mrowMany mroundOf mroundFrom mouts nm mfromHour mtoHour ns (nI kf18980) (nI kt18981) so18982 1 0 (nI kc) mlines nl nc nF np ntr nb mbestCost nso nsi nit nsh nsf nss nrc mtraced mdealer mnumber mwhose msize misParted)]) rfl (k := (ja + 5)) (by omega) (Nat.le_of_ble_eq_true rfl) (rfl) gX12_lineAt_14.2.2.2.2.2.2.1 (fun H locs hP hD hS => ?_)
          refine lv_aload_n hx hb gX12_lineAt_14.2.2.2.2.2.2.2.1 rfl (lv_at1 hl) ?_
          refine lv_aload_n hx hb gX12_lineAt_14.2.2.2.2.2.2.2.2.1 rfl (lv_at1 hl) ?_
          refine lv_bipush (v := 59) hx hb gX12_lineAt_14.2.2.2.2.2.2.2.2.2 (by decide) ?_
          refine pV hC hK hl hP hD (m_isSignF l G h0 59 nw nk mhasKept nt (nI ktp) nr mrowMany mroundOf mroundFrom mouts nm mfromHour mtoHour ns (nI kf18980) (nI kt18981) so18982 0 (nI kc) mlines nl nc nF np ntr nb mbestCost nso nsi nit nsh nsf nss nrc mtraced mdealer mnumber mwhose msize misParted) si_X12_262 [4] sm_4 fm_4 nd_4 rfl rfl rfl rfl rfl (Nat.le_of_ble_eq_true rfl) rm_32_1_2 ⟨by first | exact Nat.le_of_ble_eq_true rfl | exact Nat.zero_le _, by first | exact Nat.le_of_ble_eq_true rfl | exact Nat.zero_le _⟩ gX12_lineAt_15.1 (Keqr ?_)
          refine vV (wr := [(nc, iA G 100 fnc), (nl, iA G 54 (upd (upd (upd (upd (upd (upd (upd fnl ja 2) (ja + 1) r8977) (ja + 2) (-9)) (ja + 3) (-9)) (ja + 2) 0) (ja + 4) (nI kc)) (ja + 5) (nI kc))), (nF, sA G 5 (FCT K)), (nt, iA G 240 fnt)]) hC hK hl hP hD hS hA (m_needF l G h0 0 nw nk mhasKept nt (nI ktp) nr mrowMany mroundOf mroundFrom mouts nm mfromHour mtoHour ns (nI kf18980) (nI kt18981) so18982 0 (nI kc) mlines nl nc nF np ntr nb mbestCost nso nsi nit nsh nsf nss nrc mtraced mdealer mnumber mwhose msize misParted) si_X12_236 [4] [0, 1, 2, 3] sm_4 fm_4 nd_4 sm_0_1_2_3 nd_0_1_2_3 dj_4__0_1_2_3 rfl rfl rfl rfl rfl (Nat.le_of_ble_eq_true rfl) rm_32_4_2 ⟨Nat.le_of_ble_eq_true rfl, Nat.le_of_ble_eq_true rfl⟩ gX12_lineAt_15.2.1 (fun u8997 H locs hr8996 hP hD hS => ?_)
          refine Kpdr (ws := [(nc, iA G 100 fnc), (nl, iA G 54 (upd (upd (upd (upd (upd (upd (upd fnl ja 2) (ja + 1) r8977) (ja + 2) (-9)) (ja + 3) (-9)) (ja + 2) 0) (ja + 4) (nI kc)) (ja + 5) (nI kc))), (nF, sA G 5 (FCT K)), (nt, iA G 240 fnt), (h0, oX12 nw nk mhasKept nt (nI ktp) nr mrowMany mroundOf mroundFrom mouts nm mfromHour mtoHour ns (nI kf18980) (nI kt18981) so18982 1 0 (nI kc) mlines nl nc nF np ntr nb mbestCost nso nsi nit nsh nsf nss nrc mtraced mdealer mnumber mwhose msize misParted)]) hP hD (fun hP hD => ?_)
          refine toQ hQ0 ?_
          exact RV hC hP hD hS [4, 3, 0, 1, 2] (1, kf18980, kt18981, so18982, kc, fnc, upd (upd (upd (upd (upd (upd (upd fnl ja 2) (ja + 1) r8977) (ja + 2) (-9)) (ja + 3) (-9)) (ja + 2) 0) (ja + 4) (nI kc)) (ja + 5) (nI kc)) rfl rfl (by decide) (Or.inl rfl) gX12_lineAt_15.2.2
        · have tA8999 := hw8984_2.1
          have tB8999 := hw8984_2.2.1
          refine astN hC hK hP hD hS 1 (ws' := [(nc, iA G 100 fnc), (nl, iA G 54 (upd (upd fnl ja 2) (ja + 1) (nI v_8984))), (nF, sA G 5 (FCT K)), (h0, oX12 nw nk mhasKept nt (nI ktp) nr mrowMany mroundOf mroundFrom mouts nm mfromHour mtoHour ns (nI kf18980) (nI kt18981) so18982 0 0 (nI kc) mlines nl nc nF np ntr nb mbestCost nso nsi nit nsh nsf nss nrc mtraced mdealer mnumber mwhose msize misParted), (nt, iA G 240 fnt)]) rfl (k := (ja + 1)) (by omega) (Nat.le_of_ble_eq_true rfl) (rfl) gX12_lineAt_5.2.2.2.2.2.2.2.2.1 (fun H locs hP hD hS => ?_)
          refine lv_aload_n hx hb gX12_lineAt_5.2.2.2.2.2.2.2.2.2 rfl (lv_at1 hl) ?_
          refine gf_X12_32 hC rfl hK hP 3 rfl rfl gX12_lineAt_6.1 ?_
          refine lv_iload_n hx hb gX12_lineAt_6.2.1 rfl (lv_at2 hl) ?_
          refine lv_iconst (v := 2) hx hb gX12_lineAt_6.2.2.1 (by decide) ?_
          refine lv_iadd hx hb gX12_lineAt_6.2.2.2.1 ?_
          refine eqi (x1 := nI (ja + 2)) (nI_add ja 2) ?_
          refine lv_bipush (v := (-9)) hx hb gX12_lineAt_6.2.2.2.2.1 (by decide) ?_
          refine astN hC hK hP hD hS 1 (ws' := [(nc, iA G 100 fnc), (nl, iA G 54 (upd (upd (upd fnl ja 2) (ja + 1) (nI v_8984)) (ja + 2) (-9))), (nF, sA G 5 (FCT K)), (h0, oX12 nw nk mhasKept nt (nI ktp) nr mrowMany mroundOf mroundFrom mouts nm mfromHour mtoHour ns (nI kf18980) (nI kt18981) so18982 0 0 (nI kc) mlines nl nc nF np ntr nb mbestCost nso nsi nit nsh nsf nss nrc mtraced mdealer mnumber mwhose msize misParted), (nt, iA G 240 fnt)]) rfl (k := (ja + 2)) (by omega) (Nat.le_of_ble_eq_true rfl) (rfl) gX12_lineAt_6.2.2.2.2.2.1 (fun H locs hP hD hS => ?_)
          refine lv_aload_n hx hb gX12_lineAt_6.2.2.2.2.2.2.1 rfl (lv_at1 hl) ?_
          refine gf_X12_32 hC rfl hK hP 3 rfl rfl gX12_lineAt_6.2.2.2.2.2.2.2.1 ?_
          refine lv_iload_n hx hb gX12_lineAt_6.2.2.2.2.2.2.2.2.1 rfl (lv_at2 hl) ?_
          refine lv_iconst (v := 3) hx hb gX12_lineAt_6.2.2.2.2.2.2.2.2.2 (by decide) ?_
          refine lv_iadd hx hb gX12_lineAt_7.1 ?_
          refine eqi (x1 := nI (ja + 3)) (nI_add ja 3) ?_
          refine lv_bipush (v := (-9)) hx hb gX12_lineAt_7.2.1 (by decide) ?_
          refine astN hC hK hP hD hS 1 (ws' := [(nc, iA G 100 fnc), (nl, iA G 54 (upd (upd (upd (upd fnl ja 2) (ja + 1) (nI v_8984)) (ja + 2) (-9)) (ja + 3) (-9))), (nF, sA G 5 (FCT K)), (h0, oX12 nw nk mhasKept nt (nI ktp) nr mrowMany mroundOf mroundFrom mouts nm mfromHour mtoHour ns (nI kf18980) (nI kt18981) so18982 0 0 (nI kc) mlines nl nc nF np ntr nb mbestCost nso nsi nit nsh nsf nss nrc mtraced mdealer mnumber mwhose msize misParted), (nt, iA G 240 fnt)]) rfl (k := (ja + 3)) (by omega) (Nat.le_of_ble_eq_true rfl) (rfl) gX12_lineAt_7.2.2.1 (fun H locs hP hD hS => ?_)
          refine lv_iload_n hx hb gX12_lineAt_7.2.2.2.1 rfl (lv_at0 hl) ?_
          refine lv_if_ne (tgt := 190) hx hb gX12_lineAt_7.2.2.2.2.1 (by decide) (fun _ => ?_) (fun c9 => absurd c9 (by decide))
          refine lv_iload_n hx hb gX12_lineAt_10.2.2.2.1 rfl (lv_at0 hl) ?_
          refine lv_iconst (v := 2) hx hb gX12_lineAt_10.2.2.2.2.1 (by decide) ?_
          refine lv_icmp_ne (tgt := 221) hx hb gX12_lineAt_10.2.2.2.2.2.1 (by decide) (fun c9 => absurd (by decide) c9) (fun _ => ?_)
          refine lv_aload_n hx hb gX12_lineAt_10.2.2.2.2.2.2.1 rfl (lv_at1 hl) ?_
          refine lv_aload_n hx hb gX12_lineAt_10.2.2.2.2.2.2.2.1 rfl (lv_at1 hl) ?_
          refine va_ldcSw (index := 285) (tx := "by") hx hb hown (hO.2.2 7 (by decide)) gX12_lineAt_10.2.2.2.2.2.2.2.2.1 ?_
          refine pVo hO hS hC hK hl hP hD (m_isName0 l G K 7 h0 nw nk mhasKept nt ktp nr mrowMany mroundOf mroundFrom mouts nm mfromHour mtoHour ns kf18980 kt18981 so18982 0 (nI kc) mlines nl nc nF np ntr nb mbestCost nso nsi nit nsh nsf nss nrc mtraced mdealer mnumber mwhose msize misParted fnt ((by decide)) (hw8984_2) (htp)) si_X12_248 [3, 4] sm_3_4 fm_3_4 nd_3_4 rfl rfl rfl rfl rfl (Nat.le_of_ble_eq_true rfl) rm_32_5_4 ⟨by first | exact Nat.le_of_ble_eq_true rfl | exact Nat.zero_le _, by first | exact Nat.le_of_ble_eq_true rfl | exact Nat.zero_le _⟩ gX12_lineAt_10.2.2.2.2.2.2.2.2.2 (Kors (Keqa fun a9001 => ?_) (Keqr ?_))
          · have tI9002 : kt18981 = kf18980 + 2 := a9001.2
            refine vV (wr := [(nc, iA G 100 fnc), (nl, iA G 54 (upd (upd (upd (upd fnl ja 2) (ja + 1) (nI v_8984)) (ja + 2) (-9)) (ja + 3) (-9))), (nF, sA G 5 (FCT K))]) hC hK hl hP hD hS hA (m_need1 l G h0 nw nk mhasKept nt ktp nr mrowMany mroundOf mroundFrom mouts nm mfromHour mtoHour ns (nI kf18980) kt18981 so18982 0 (nI kc) mlines nl nc nF np ntr nb mbestCost nso nsi nit nsh nsf nss nrc mtraced mdealer mnumber mwhose msize misParted fnt (by omega) (htp)) si_X12_236 [3, 4] [0, 1, 2] sm_3_4 fm_3_4 nd_3_4 sm_0_1_2 nd_0_1_2 dj_3_4__0_1_2 rfl rfl rfl rfl rfl (Nat.le_of_ble_eq_true rfl) rm_32_4_2 ⟨Nat.le_of_ble_eq_true rfl, Nat.le_of_ble_eq_true rfl⟩ gX12_lineAt_11.1 (Ktu3 fun kf19005 kt19006 so19007 => ?_)
            intro H locs hr9003 hP hD hS
            try dsimp only at hr9003
            refine Kpdr (ws := [(nc, iA G 100 fnc), (nl, iA G 54 (upd (upd (upd (upd fnl ja 2) (ja + 1) (nI v_8984)) (ja + 2) (-9)) (ja + 3) (-9))), (nF, sA G 5 (FCT K)), (h0, oX12 nw nk mhasKept nt (nI ktp) nr mrowMany mroundOf mroundFrom mouts nm mfromHour mtoHour ns (nI kf19005) (nI kt19006) so19007 0 0 (nI kc) mlines nl nc nF np ntr nb mbestCost nso nsi nit nsh nsf nss nrc mtraced mdealer mnumber mwhose msize misParted), (nt, iA G 240 fnt)]) hP hD (fun hP hD => ?_)
            have hw9009_0 := hr9003.1
            have hw9009_1 := hr9003.2
            have tA9011 := hw9009_1.1
            have tB9011 := hw9009_1.2.1
            refine lv_aload_n hx hb gX12_lineAt_11.2.1 rfl (lv_at1 hl) ?_
            refine gf_X12_32 hC rfl hK hP 3 rfl rfl gX12_lineAt_11.2.2.1 ?_
            refine lv_iload_n hx hb gX12_lineAt_11.2.2.2.1 rfl (lv_at2 hl) ?_
            refine lv_iconst (v := 2) hx hb gX12_lineAt_11.2.2.2.2.1 (by decide) ?_
            refine lv_iadd hx hb gX12_lineAt_11.2.2.2.2.2.1 ?_
            refine eqi (x1 := nI (ja + 2)) (nI_add ja 2) ?_
            refine lv_aload_n hx hb gX12_lineAt_11.2.2.2.2.2.2.1 rfl (lv_at1 hl) ?_
            refine lv_sipush (v := 999) hx hb gX12_lineAt_11.2.2.2.2.2.2.2.1 (by decide) ?_
            refine iV (wr := [(nc, iA G 100 fnc), (nl, iA G 54 (upd (upd (upd (upd fnl ja 2) (ja + 1) (nI v_8984)) (ja + 2) (-9)) (ja + 3) (-9))), (nF, sA G 5 (FCT K))]) hC hK hl hP hD hS hA (m_number0 l G h0 999 nw nk mhasKept nt ktp nr mrowMany mroundOf mroundFrom mouts nm mfromHour mtoHour ns kf19005 kt19006 so19007 0 (nI kc) mlines nl nc nF np ntr nb mbestCost nso nsi nit nsh nsf nss nrc mtraced mdealer mnumber mwhose msize misParted fnt (hw9009_1) (htp) (by omega)) si_X12_271 [3, 4] [0, 1, 2] sm_3_4 fm_3_4 nd_3_4 sm_0_1_2 nd_0_1_2 dj_3_4__0_1_2 rfl rfl rfl rfl rfl (Nat.le_of_ble_eq_true rfl) rm_32_5_5 ⟨Nat.le_of_ble_eq_true rfl, Nat.le_of_ble_eq_true rfl⟩ gX12_lineAt_11.2.2.2.2.2.2.2.2.1 (fun r9012 => Ktu4 fun ff19014 kf19015 kt19016 so19017 => ?_)
            intro H locs hr9012 hP hD hS
            try dsimp only at hr9012
            refine Kpdr (ws := [(nc, iA G 100 fnc), (nl, iA G 54 (upd (upd (upd (upd fnl ja 2) (ja + 1) (nI v_8984)) (ja + 2) (-9)) (ja + 3) (-9))), (nF, sA G 5 (FCT K)), (h0, oX12 nw nk mhasKept nt (nI ktp) nr mrowMany mroundOf mroundFrom mouts nm mfromHour mtoHour ns (nI kf19015) (nI kt19016) so19017 ff19014 0 (nI kc) mlines nl nc nF np ntr nb mbestCost nso nsi nit nsh nsf nss nrc mtraced mdealer mnumber mwhose msize misParted), (nt, iA G 240 fnt)]) hP hD (fun hP hD => ?_)
            obtain ⟨hr9012, w9018⟩ := hr9012
            rcases w9018 with rfl | ⟨rfl, ⟨v_9019, hv_9019, rfl⟩, hw9019_1, hw9019_2⟩
            · refine astN hC hK hP hD hS 1 (ws' := [(nc, iA G 100 fnc), (nl, iA G 54 (upd (upd (upd (upd (upd fnl ja 2) (ja + 1) (nI v_8984)) (ja + 2) (-9)) (ja + 3) (-9)) (ja + 2) r9012)), (nF, sA G 5 (FCT K)), (h0, oX12 nw nk mhasKept nt (nI ktp) nr mrowMany mroundOf mroundFrom mouts nm mfromHour mtoHour ns (nI kf19015) (nI kt19016) so19017 1 0 (nI kc) mlines nl nc nF np ntr nb mbestCost nso nsi nit nsh nsf nss nrc mtraced mdealer mnumber mwhose msize misParted), (nt, iA G 240 fnt)]) rfl (k := (ja + 2)) (by omega) (Nat.le_of_ble_eq_true rfl) (rfl) gX12_lineAt_11.2.2.2.2.2.2.2.2.2 (fun H locs hP hD hS => ?_)
              refine lv_aload_n hx hb gX12_lineAt_12.1 rfl (lv_at1 hl) ?_
              refine gf_X12_32 hC rfl hK hP 3 rfl rfl gX12_lineAt_12.2.1 ?_
              refine lv_iload_n hx hb gX12_lineAt_12.2.2.1 rfl (lv_at2 hl) ?_
              refine lv_iconst (v := 4) hx hb gX12_lineAt_12.2.2.2.1 (by decide) ?_
              refine lv_iadd hx hb gX12_lineAt_12.2.2.2.2.1 ?_
              refine eqi (x1 := nI (ja + 4)) (nI_add ja 4) ?_
              refine lv_aload_n hx hb gX12_lineAt_12.2.2.2.2.2.1 rfl (lv_at1 hl) ?_
              refine gf_X12_240 hC rfl hK hP 3 rfl rfl gX12_lineAt_12.2.2.2.2.2.2.1 ?_
              refine astN hC hK hP hD hS 1 (ws' := [(nc, iA G 100 fnc), (nl, iA G 54 (upd (upd (upd (upd (upd (upd fnl ja 2) (ja + 1) (nI v_8984)) (ja + 2) (-9)) (ja + 3) (-9)) (ja + 2) r9012) (ja + 4) (nI kc))), (nF, sA G 5 (FCT K)), (h0, oX12 nw nk mhasKept nt (nI ktp) nr mrowMany mroundOf mroundFrom mouts nm mfromHour mtoHour ns (nI kf19015) (nI kt19016) so19017 1 0 (nI kc) mlines nl nc nF np ntr nb mbestCost nso nsi nit nsh nsf nss nrc mtraced mdealer mnumber mwhose msize misParted), (nt, iA G 240 fnt)]) rfl (k := (ja + 4)) (by omega) (Nat.le_of_ble_eq_true rfl) (rfl) gX12_lineAt_12.2.2.2.2.2.2.2.1 (fun H locs hP hD hS => ?_)
              refine lv_iload_n hx hb gX12_lineAt_12.2.2.2.2.2.2.2.2.1 rfl (lv_at0 hl) ?_
              refine lv_iconst (v := 3) hx hb gX12_lineAt_12.2.2.2.2.2.2.2.2.2 (by decide) ?_
              refine lv_icmp_eq (tgt := 256) hx hb gX12_lineAt_13.1 (by decide) (fun c9 => absurd c9 (by decide)) (fun _ => ?_)
              refine lv_aload_n hx hb gX12_lineAt_13.2.1 rfl (lv_at1 hl) ?_
              refine va_ldcSw (index := 287) (tx := "if") hx hb hown (hO.2.2 0 (by decide)) gX12_lineAt_13.2.2.1 ?_
              refine pVo hO hS hC hK hl hP hD (m_isNameF l G K 0 h0 nw nk mhasKept nt (nI ktp) nr mrowMany mroundOf mroundFrom mouts nm mfromHour mtoHour ns (nI kf19015) (nI kt19016) so19017 0 (nI kc) mlines nl nc nF np ntr nb mbestCost nso nsi nit nsh nsf nss nrc mtraced mdealer mnumber mwhose msize misParted ((by decide))) si_X12_248 [3] sm_3 fm_3 nd_3 rfl rfl rfl rfl rfl (Nat.le_of_ble_eq_true rfl) rm_32_5_4 ⟨by first | exact Nat.le_of_ble_eq_true rfl | exact Nat.zero_le _, by first | exact Nat.le_of_ble_eq_true rfl | exact Nat.zero_le _⟩ gX12_lineAt_13.2.2.2.1 (Keqr ?_)
              refine lv_if_eq (tgt := 256) hx hb gX12_lineAt_13.2.2.2.2.1 (by decide) (fun _ => ?_) (fun c9 => absurd (by decide) c9)
              refine lv_aload_n hx hb gX12_lineAt_13.2.2.2.2.2.2.2.2.2 rfl (lv_at1 hl) ?_
              refine gf_X12_32 hC rfl hK hP 3 rfl rfl gX12_lineAt_14.1 ?_
              refine lv_iload_n hx hb gX12_lineAt_14.2.1 rfl (lv_at2 hl) ?_
              refine lv_iconst (v := 5) hx hb gX12_lineAt_14.2.2.1 (by decide) ?_
              refine lv_iadd hx hb gX12_lineAt_14.2.2.2.1 ?_
              refine eqi (x1 := nI (ja + 5)) (nI_add ja 5) ?_
              refine lv_aload_n hx hb gX12_lineAt_14.2.2.2.2.1 rfl (lv_at1 hl) ?_
              refine gf_X12_240 hC rfl hK hP 3 rfl rfl gX12_lineAt_14.2.2.2.2.2.1 ?_
              refine astN hC hK hP hD hS 1 (ws' := [(nc, iA G 100 fnc), (nl, iA G 54 (upd (upd (upd (upd (upd (upd (upd fnl ja 2) (ja + 1) (nI v_8984)) (ja + 2) (-9)) (ja + 3) (-9)) (ja + 2) r9012) (ja + 4) (nI kc)) (ja + 5) (nI kc))), (nF, sA G 5 (FCT K)), (h0, oX12 nw nk mhasKept nt (nI ktp) nr mrowMany mroundOf mroundFrom mouts nm mfromHour mtoHour ns (nI kf19015) (nI kt19016) so19017 1 0 (nI kc) mlines nl nc nF np ntr nb mbestCost nso nsi nit nsh nsf nss nrc mtraced mdealer mnumber mwhose msize misParted), (nt, iA G 240 fnt)]) rfl (k := (ja + 5)) (by omega) (Nat.le_of_ble_eq_true rfl) (rfl) gX12_lineAt_14.2.2.2.2.2.2.1 (fun H locs hP hD hS => ?_)
              refine lv_aload_n hx hb gX12_lineAt_14.2.2.2.2.2.2.2.1 rfl (lv_at1 hl) ?_
              refine lv_aload_n hx hb gX12_lineAt_14.2.2.2.2.2.2.2.2.1 rfl (lv_at1 hl) ?_
              refine lv_bipush (v := 59) hx hb gX12_lineAt_14.2.2.2.2.2.2.2.2.2 (by decide) ?_
              refine pV hC hK hl hP hD (m_isSignF l G h0 59 nw nk mhasKept nt (nI ktp) nr mrowMany mroundOf mroundFrom mouts nm mfromHour mtoHour ns (nI kf19015) (nI kt19016) so19017 0 (nI kc) mlines nl nc nF np ntr nb mbestCost nso nsi nit nsh nsf nss nrc mtraced mdealer mnumber mwhose msize misParted) si_X12_262 [3] sm_3 fm_3 nd_3 rfl rfl rfl rfl rfl (Nat.le_of_ble_eq_true rfl) rm_32_1_2 ⟨by first | exact Nat.le_of_ble_eq_true rfl | exact Nat.zero_le _, by first | exact Nat.le_of_ble_eq_true rfl | exact Nat.zero_le _⟩ gX12_lineAt_15.1 (Keqr ?_)
              refine vV (wr := [(nc, iA G 100 fnc), (nl, iA G 54 (upd (upd (upd (upd (upd (upd (upd fnl ja 2) (ja + 1) (nI v_8984)) (ja + 2) (-9)) (ja + 3) (-9)) (ja + 2) r9012) (ja + 4) (nI kc)) (ja + 5) (nI kc))), (nF, sA G 5 (FCT K)), (nt, iA G 240 fnt)]) hC hK hl hP hD hS hA (m_needF l G h0 0 nw nk mhasKept nt (nI ktp) nr mrowMany mroundOf mroundFrom mouts nm mfromHour mtoHour ns (nI kf19015) (nI kt19016) so19017 0 (nI kc) mlines nl nc nF np ntr nb mbestCost nso nsi nit nsh nsf nss nrc mtraced mdealer mnumber mwhose msize misParted) si_X12_236 [3] [0, 1, 2, 4] sm_3 fm_3 nd_3 sm_0_1_2_4 nd_0_1_2_4 dj_3__0_1_2_4 rfl rfl rfl rfl rfl (Nat.le_of_ble_eq_true rfl) rm_32_4_2 ⟨Nat.le_of_ble_eq_true rfl, Nat.le_of_ble_eq_true rfl⟩ gX12_lineAt_15.2.1 (fun u9025 H locs hr9024 hP hD hS => ?_)
              refine Kpdr (ws := [(nc, iA G 100 fnc), (nl, iA G 54 (upd (upd (upd (upd (upd (upd (upd fnl ja 2) (ja + 1) (nI v_8984)) (ja + 2) (-9)) (ja + 3) (-9)) (ja + 2) r9012) (ja + 4) (nI kc)) (ja + 5) (nI kc))), (nF, sA G 5 (FCT K)), (nt, iA G 240 fnt), (h0, oX12 nw nk mhasKept nt (nI ktp) nr mrowMany mroundOf mroundFrom mouts nm mfromHour mtoHour ns (nI kf19015) (nI kt19016) so19017 1 0 (nI kc) mlines nl nc nF np ntr nb mbestCost nso nsi nit nsh nsf nss nrc mtraced mdealer mnumber mwhose msize misParted)]) hP hD (fun hP hD => ?_)
              refine toQ hQ0 ?_
              exact RV hC hP hD hS [4, 3, 0, 1, 2] (1, kf19015, kt19016, so19017, kc, fnc, upd (upd (upd (upd (upd (upd (upd fnl ja 2) (ja + 1) (nI v_8984)) (ja + 2) (-9)) (ja + 3) (-9)) (ja + 2) r9012) (ja + 4) (nI kc)) (ja + 5) (nI kc)) rfl rfl (by decide) (Or.inl rfl) gX12_lineAt_15.2.2
            · have tA9027 := hw9019_2.1
              have tB9027 := hw9019_2.2.1
              refine astN hC hK hP hD hS 1 (ws' := [(nc, iA G 100 fnc), (nl, iA G 54 (upd (upd (upd (upd (upd fnl ja 2) (ja + 1) (nI v_8984)) (ja + 2) (-9)) (ja + 3) (-9)) (ja + 2) (nI v_9019))), (nF, sA G 5 (FCT K)), (h0, oX12 nw nk mhasKept nt (nI ktp) nr mrowMany mroundOf mroundFrom mouts nm mfromHour mtoHour ns (nI kf19015) (nI kt19016) so19017 0 0 (nI kc) mlines nl nc nF np ntr nb mbestCost nso nsi nit nsh nsf nss nrc mtraced mdealer mnumber mwhose msize misParted), (nt, iA G 240 fnt)]) rfl (k := (ja + 2)) (by omega) (Nat.le_of_ble_eq_true rfl) (rfl) gX12_lineAt_11.2.2.2.2.2.2.2.2.2 (fun H locs hP hD hS => ?_)
              refine lv_aload_n hx hb gX12_lineAt_12.1 rfl (lv_at1 hl) ?_
              refine gf_X12_32 hC rfl hK hP 3 rfl rfl gX12_lineAt_12.2.1 ?_
              refine lv_iload_n hx hb gX12_lineAt_12.2.2.1 rfl (lv_at2 hl) ?_
              refine lv_iconst (v := 4) hx hb gX12_lineAt_12.2.2.2.1 (by decide) ?_
              refine lv_iadd hx hb gX12_lineAt_12.2.2.2.2.1 ?_
              refine eqi (x1 := nI (ja + 4)) (nI_add ja 4) ?_
              refine lv_aload_n hx hb gX12_lineAt_12.2.2.2.2.2.1 rfl (lv_at1 hl) ?_
              refine gf_X12_240 hC rfl hK hP 3 rfl rfl gX12_lineAt_12.2.2.2.2.2.2.1 ?_
              refine astN hC hK hP hD hS 1 (ws' := [(nc, iA G 100 fnc), (nl, iA G 54 (upd (upd (upd (upd (upd (upd fnl ja 2) (ja + 1) (nI v_8984)) (ja + 2) (-9)) (ja + 3) (-9)) (ja + 2) (nI v_9019)) (ja + 4) (nI kc))), (nF, sA G 5 (FCT K)), (h0, oX12 nw nk mhasKept nt (nI ktp) nr mrowMany mroundOf mroundFrom mouts nm mfromHour mtoHour ns (nI kf19015) (nI kt19016) so19017 0 0 (nI kc) mlines nl nc nF np ntr nb mbestCost nso nsi nit nsh nsf nss nrc mtraced mdealer mnumber mwhose msize misParted), (nt, iA G 240 fnt)]) rfl (k := (ja + 4)) (by omega) (Nat.le_of_ble_eq_true rfl) (rfl) gX12_lineAt_12.2.2.2.2.2.2.2.1 (fun H locs hP hD hS => ?_)
              refine lv_iload_n hx hb gX12_lineAt_12.2.2.2.2.2.2.2.2.1 rfl (lv_at0 hl) ?_
              refine lv_iconst (v := 3) hx hb gX12_lineAt_12.2.2.2.2.2.2.2.2.2 (by decide) ?_
              refine lv_icmp_eq (tgt := 256) hx hb gX12_lineAt_13.1 (by decide) (fun c9 => absurd c9 (by decide)) (fun _ => ?_)
              refine lv_aload_n hx hb gX12_lineAt_13.2.1 rfl (lv_at1 hl) ?_
              refine va_ldcSw (index := 287) (tx := "if") hx hb hown (hO.2.2 0 (by decide)) gX12_lineAt_13.2.2.1 ?_
              refine pVo hO hS hC hK hl hP hD (m_isName0 l G K 0 h0 nw nk mhasKept nt ktp nr mrowMany mroundOf mroundFrom mouts nm mfromHour mtoHour ns kf19015 kt19016 so19017 0 (nI kc) mlines nl nc nF np ntr nb mbestCost nso nsi nit nsh nsf nss nrc mtraced mdealer mnumber mwhose msize misParted fnt ((by decide)) (hw9019_2) (htp)) si_X12_248 [3, 4] sm_3_4 fm_3_4 nd_3_4 rfl rfl rfl rfl rfl (Nat.le_of_ble_eq_true rfl) rm_32_5_4 ⟨by first | exact Nat.le_of_ble_eq_true rfl | exact Nat.zero_le _, by first | exact Nat.le_of_ble_eq_true rfl | exact Nat.zero_le _⟩ gX12_lineAt_13.2.2.2.1 (Kors (Keqa fun a9029 => ?_) (Keqr ?_))
              · refine lv_if_eq (tgt := 256) hx hb gX12_lineAt_13.2.2.2.2.1 (by decide) (fun c9 => absurd c9 (by decide)) (fun _ => ?_)
                refine lv_aload_n hx hb gX12_lineAt_13.2.2.2.2.2.1 rfl (lv_at1 hl) ?_
                have tI9030 : kt19016 = kf19015 + 2 := a9029.2
                refine vV (wr := [(nc, iA G 100 fnc), (nl, iA G 54 (upd (upd (upd (upd (upd (upd fnl ja 2) (ja + 1) (nI v_8984)) (ja + 2) (-9)) (ja + 3) (-9)) (ja + 2) (nI v_9019)) (ja + 4) (nI kc))), (nF, sA G 5 (FCT K))]) hC hK hl hP hD hS hA (m_next l G h0 nw nk mhasKept nt ktp nr mrowMany mroundOf mroundFrom mouts nm mfromHour mtoHour ns (nI kf19015) kt19016 so19017 0 0 (nI kc) mlines nl nc nF np ntr nb mbestCost nso nsi nit nsh nsf nss nrc mtraced mdealer mnumber mwhose msize misParted fnt (by omega) (htp)) si_X12_233 [3, 4] [0, 1, 2] sm_3_4 fm_3_4 nd_3_4 sm_0_1_2 nd_0_1_2 dj_3_4__0_1_2 rfl rfl rfl rfl rfl (Nat.le_of_ble_eq_true rfl) rm_32_3_1 ⟨Nat.le_of_ble_eq_true rfl, Nat.le_of_ble_eq_true rfl⟩ gX12_lineAt_13.2.2.2.2.2.2.1 (Ktu3 fun kf19033 kt19034 so19035 => ?_)
                intro H locs hr9031 hP hD hS
                try dsimp only at hr9031
                refine Kpdr (ws := [(nc, iA G 100 fnc), (nl, iA G 54 (upd (upd (upd (upd (upd (upd fnl ja 2) (ja + 1) (nI v_8984)) (ja + 2) (-9)) (ja + 3) (-9)) (ja + 2) (nI v_9019)) (ja + 4) (nI kc))), (nF, sA G 5 (FCT K)), (h0, oX12 nw nk mhasKept nt (nI ktp) nr mrowMany mroundOf mroundFrom mouts nm mfromHour mtoHour ns (nI kf19033) (nI kt19034) so19035 0 0 (nI kc) mlines nl nc nF np ntr nb mbestCost nso nsi nit nsh nsf nss nrc mtraced mdealer mnumber mwhose msize misParted), (nt, iA G 240 fnt)]) hP hD (fun hP hD => ?_)
                have hw9037_0 := hr9031.1
                have hw9037_1 := hr9031.2
                have tA9039 := hw9037_1.1
                have tB9039 := hw9037_1.2.1
                refine lv_aload_n hx hb gX12_lineAt_13.2.2.2.2.2.2.2.1 rfl (lv_at1 hl) ?_
                refine vVo (wr := [(nl, iA G 54 (upd (upd (upd (upd (upd (upd fnl ja 2) (ja + 1) (nI v_8984)) (ja + 2) (-9)) (ja + 3) (-9)) (ja + 2) (nI v_9019)) (ja + 4) (nI kc)))]) hO hC hK hl hP hD hS hA (m_either l G K 4 h0 nw nk mhasKept nt ktp nr mrowMany mroundOf mroundFrom mouts nm mfromHour mtoHour ns kf19033 kt19034 so19035 0 kc mlines nl nc nF np ntr nb mbestCost nso nsi nit nsh nsf nss nrc mtraced mdealer mnumber mwhose msize misParted fnt fnc (hw9037_1) (by omega) (by omega) (by omega)) si_X12_268 [3, 4, 0, 2] [1] sm_3_4_0_2 fm_3_4_0_2 nd_3_4_0_2 sm_1 nd_1 dj_3_4_0_2__1 rfl rfl rfl rfl rfl (Nat.le_of_ble_eq_true rfl) ⟨Nat.le_of_ble_eq_true rfl, Nat.le_of_ble_eq_true rfl⟩ ⟨Nat.le_of_ble_eq_true rfl, Nat.le_of_ble_eq_true rfl⟩ gX12_lineAt_13.2.2.2.2.2.2.2.2.1 (Ktu6 fun ff19042 kf19043 kt19044 so19045 kc19046 gnc9047 => ?_)
                intro H locs hr9040 hP hD hS
                try dsimp only at hr9040
                refine Kpdr (ws := [(nl, iA G 54 (upd (upd (upd (upd (upd (upd fnl ja 2) (ja + 1) (nI v_8984)) (ja + 2) (-9)) (ja + 3) (-9)) (ja + 2) (nI v_9019)) (ja + 4) (nI kc))), (h0, oX12 nw nk mhasKept nt (nI ktp) nr mrowMany mroundOf mroundFrom mouts nm mfromHour mtoHour ns (nI kf19043) (nI kt19044) so19045 ff19042 0 (nI kc19046) mlines nl nc nF np ntr nb mbestCost nso nsi nit nsh nsf nss nrc mtraced mdealer mnumber mwhose msize misParted), (nt, iA G 240 fnt), (nc, iA G 100 gnc9047), (nF, sA G 5 (FCT K))]) hP hD (fun hP hD => ?_)
                have w9048 := hr9040
                rcases w9048 with rfl | ⟨rfl, hw9049_0, hw9049_1⟩
                · refine lv_aload_n hx hb gX12_lineAt_13.2.2.2.2.2.2.2.2.2 rfl (lv_at1 hl) ?_
                  refine gf_X12_32 hC rfl hK hP 1 rfl rfl gX12_lineAt_14.1 ?_
                  refine lv_iload_n hx hb gX12_lineAt_14.2.1 rfl (lv_at2 hl) ?_
                  refine lv_iconst (v := 5) hx hb gX12_lineAt_14.2.2.1 (by decide) ?_
                  refine lv_iadd hx hb gX12_lineAt_14.2.2.2.1 ?_
                  refine eqi (x1 := nI (ja + 5)) (nI_add ja 5) ?_
                  refine lv_aload_n hx hb gX12_lineAt_14.2.2.2.2.1 rfl (lv_at1 hl) ?_
                  refine gf_X12_240 hC rfl hK hP 1 rfl rfl gX12_lineAt_14.2.2.2.2.2.1 ?_
                  refine astN hC hK hP hD hS 0 (ws' := [(nl, iA G 54 (upd (upd (upd (upd (upd (upd (upd fnl ja 2) (ja + 1) (nI v_8984)) (ja + 2) (-9)) (ja + 3) (-9)) (ja + 2) (nI v_9019)) (ja + 4) (nI kc)) (ja + 5) (nI kc19046))), (h0, oX12 nw nk mhasKept nt (nI ktp) nr mrowMany mroundOf mroundFrom mouts nm mfromHour mtoHour ns (nI kf19043) (nI kt19044) so19045 1 0 (nI kc19046) mlines nl nc nF np ntr nb mbestCost nso nsi nit nsh nsf nss nrc mtraced mdealer mnumber mwhose msize misParted), (nt, iA G 240 fnt), (nc, iA G 100 gnc9047), (nF, sA G 5 (FCT K))]) rfl (k := (ja + 5)) (by omega) (Nat.le_of_ble_eq_true rfl) (rfl) gX12_lineAt_14.2.2.2.2.2.2.1 (fun H locs hP hD hS => ?_)
                  refine lv_aload_n hx hb gX12_lineAt_14.2.2.2.2.2.2.2.1 rfl (lv_at1 hl) ?_
                  refine lv_aload_n hx hb gX12_lineAt_14.2.2.2.2.2.2.2.2.1 rfl (lv_at1 hl) ?_
                  refine lv_bipush (v := 59) hx hb gX12_lineAt_14.2.2.2.2.2.2.2.2.2 (by decide) ?_
                  refine pV hC hK hl hP hD (m_isSignF l G h0 59 nw nk mhasKept nt (nI ktp) nr mrowMany mroundOf mroundFrom mouts nm mfromHour mtoHour ns (nI kf19043) (nI kt19044) so19045 0 (nI kc19046) mlines nl nc nF np ntr nb mbestCost nso nsi nit nsh nsf nss nrc mtraced mdealer mnumber mwhose msize misParted) si_X12_262 [1] sm_1 fm_1 nd_1 rfl rfl rfl rfl rfl (Nat.le_of_ble_eq_true rfl) rm_32_1_2 ⟨by first | exact Nat.le_of_ble_eq_true rfl | exact Nat.zero_le _, by first | exact Nat.le_of_ble_eq_true rfl | exact Nat.zero_le _⟩ gX12_lineAt_15.1 (Keqr ?_)
                  refine vV (wr := [(nl, iA G 54 (upd (upd (upd (upd (upd (upd (upd fnl ja 2) (ja + 1) (nI v_8984)) (ja + 2) (-9)) (ja + 3) (-9)) (ja + 2) (nI v_9019)) (ja + 4) (nI kc)) (ja + 5) (nI kc19046))), (nt, iA G 240 fnt), (nc, iA G 100 gnc9047), (nF, sA G 5 (FCT K))]) hC hK hl hP hD hS hA (m_needF l G h0 0 nw nk mhasKept nt (nI ktp) nr mrowMany mroundOf mroundFrom mouts nm mfromHour mtoHour ns (nI kf19043) (nI kt19044) so19045 0 (nI kc19046) mlines nl nc nF np ntr nb mbestCost nso nsi nit nsh nsf nss nrc mtraced mdealer mnumber mwhose msize misParted) si_X12_236 [1] [0, 2, 3, 4] sm_1 fm_1 nd_1 sm_0_2_3_4 nd_0_2_3_4 dj_1__0_2_3_4 rfl rfl rfl rfl rfl (Nat.le_of_ble_eq_true rfl) rm_32_4_2 ⟨Nat.le_of_ble_eq_true rfl, Nat.le_of_ble_eq_true rfl⟩ gX12_lineAt_15.2.1 (fun u9053 H locs hr9052 hP hD hS => ?_)
                  refine Kpdr (ws := [(nl, iA G 54 (upd (upd (upd (upd (upd (upd (upd fnl ja 2) (ja + 1) (nI v_8984)) (ja + 2) (-9)) (ja + 3) (-9)) (ja + 2) (nI v_9019)) (ja + 4) (nI kc)) (ja + 5) (nI kc19046))), (nt, iA G 240 fnt), (nc, iA G 100 gnc9047), (nF, sA G 5 (FCT K)), (h0, oX12 nw nk mhasKept nt (nI ktp) nr mrowMany mroundOf mroundFrom mouts nm mfromHour mtoHour ns (nI kf19043) (nI kt19044) so19045 1 0 (nI kc19046) mlines nl nc nF np ntr nb mbestCost nso nsi nit nsh nsf nss nrc mtraced mdealer mnumber mwhose msize misParted)]) hP hD (fun hP hD => ?_)
                  refine toQ hQ0 ?_
                  exact RV hC hP hD hS [4, 1, 2, 0, 3] (1, kf19043, kt19044, so19045, kc19046, gnc9047, upd (upd (upd (upd (upd (upd (upd fnl ja 2) (ja + 1) (nI v_8984)) (ja + 2) (-9)) (ja + 3) (-9)) (ja + 2) (nI v_9019)) (ja + 4) (nI kc)) (ja + 5) (nI kc19046)) rfl rfl (by decide) (Or.inl rfl) gX12_lineAt_15.2.2
                · have tA9054 := hw9049_0.1
                  have tB9054 := hw9049_0.2.1
                  have tA9055 := hw9049_1.1
                  have tB9055 := hw9049_1.2.1
                  refine lv_aload_n hx hb gX12_lineAt_13.2.2.2.2.2.2.2.2.2 rfl (lv_at1 hl) ?_
                  refine gf_X12_32 hC rfl hK hP 1 rfl rfl gX12_lineAt_14.1 ?_
                  refine lv_iload_n hx hb gX12_lineAt_14.2.1 rfl (lv_at2 hl) ?_
                  refine lv_iconst (v := 5) hx hb gX12_lineAt_14.2.2.1 (by decide) ?_
                  refine lv_iadd hx hb gX12_lineAt_14.2.2.2.1 ?_
                  refine eqi (x1 := nI (ja + 5)) (nI_add ja 5) ?_
                  refine lv_aload_n hx hb gX12_lineAt_14.2.2.2.2.1 rfl (lv_at1 hl) ?_
                  refine gf_X12_240 hC rfl hK hP 1 rfl rfl gX12_lineAt_14.2.2.2.2.2.1 ?_
                  refine astN hC hK hP hD hS 0 (ws' := [(nl, iA G 54 (upd (upd (upd (upd (upd (upd (upd fnl ja 2) (ja + 1) (nI v_8984)) (ja + 2) (-9)) (ja + 3) (-9)) (ja + 2) (nI v_9019)) (ja + 4) (nI kc)) (ja + 5) (nI kc19046))), (h0, oX12 nw nk mhasKept nt (nI ktp) nr mrowMany mroundOf mroundFrom mouts nm mfromHour mtoHour ns (nI kf19043) (nI kt19044) so19045 0 0 (nI kc19046) mlines nl nc nF np ntr nb mbestCost nso nsi nit nsh nsf nss nrc mtraced mdealer mnumber mwhose msize misParted), (nt, iA G 240 fnt), (nc, iA G 100 gnc9047), (nF, sA G 5 (FCT K))]) rfl (k := (ja + 5)) (by omega) (Nat.le_of_ble_eq_true rfl) (rfl) gX12_lineAt_14.2.2.2.2.2.2.1 (fun H locs hP hD hS => ?_)
                  refine lv_aload_n hx hb gX12_lineAt_14.2.2.2.2.2.2.2.1 rfl (lv_at1 hl) ?_
                  refine lv_aload_n hx hb gX12_lineAt_14.2.2.2.2.2.2.2.2.1 rfl (lv_at1 hl) ?_
                  refine lv_bipush (v := 59) hx hb gX12_lineAt_14.2.2.2.2.2.2.2.2.2 (by decide) ?_
                  refine pV hC hK hl hP hD (m_isSign0 l G h0 59 nw nk mhasKept nt ktp nr mrowMany mroundOf mroundFrom mouts nm mfromHour mtoHour ns kf19043 kt19044 so19045 0 (nI kc19046) mlines nl nc nF np ntr nb mbestCost nso nsi nit nsh nsf nss nrc mtraced mdealer mnumber mwhose msize misParted fnt (hw9049_0) (htp)) si_X12_262 [1, 2] sm_1_2 fm_1_2 nd_1_2 rfl rfl rfl rfl rfl (Nat.le_of_ble_eq_true rfl) rm_32_1_2 ⟨by first | exact Nat.le_of_ble_eq_true rfl | exact Nat.zero_le _, by first | exact Nat.le_of_ble_eq_true rfl | exact Nat.zero_le _⟩ gX12_lineAt_15.1 (Kors (Keqa fun a9057 => ?_) (Keqa fun a9057 => ?_))
                  · have tI9058 := a9057.1
                    refine vV (wr := [(nl, iA G 54 (upd (upd (upd (upd (upd (upd (upd fnl ja 2) (ja + 1) (nI v_8984)) (ja + 2) (-9)) (ja + 3) (-9)) (ja + 2) (nI v_9019)) (ja + 4) (nI kc)) (ja + 5) (nI kc19046))), (nc, iA G 100 gnc9047), (nF, sA G 5 (FCT K))]) hC hK hl hP hD hS hA (m_need1 l G h0 nw nk mhasKept nt ktp nr mrowMany mroundOf mroundFrom mouts nm mfromHour mtoHour ns (nI kf19043) kt19044 so19045 0 (nI kc19046) mlines nl nc nF np ntr nb mbestCost nso nsi nit nsh nsf nss nrc mtraced mdealer mnumber mwhose msize misParted fnt (by omega) (htp)) si_X12_236 [1, 2] [0, 3, 4] sm_1_2 fm_1_2 nd_1_2 sm_0_3_4 nd_0_3_4 dj_1_2__0_3_4 rfl rfl rfl rfl rfl (Nat.le_of_ble_eq_true rfl) rm_32_4_2 ⟨Nat.le_of_ble_eq_true rfl, Nat.le_of_ble_eq_true rfl⟩ gX12_lineAt_15.2.1 (Ktu3 fun kf19061 kt19062 so19063 => ?_)
                    intro H locs hr9059 hP hD hS
                    try dsimp only at hr9059
                    refine Kpdr (ws := [(nl, iA G 54 (upd (upd (upd (upd (upd (upd (upd fnl ja 2) (ja + 1) (nI v_8984)) (ja + 2) (-9)) (ja + 3) (-9)) (ja + 2) (nI v_9019)) (ja + 4) (nI kc)) (ja + 5) (nI kc19046))), (nc, iA G 100 gnc9047), (nF, sA G 5 (FCT K)), (h0, oX12 nw nk mhasKept nt (nI ktp) nr mrowMany mroundOf mroundFrom mouts nm mfromHour mtoHour ns (nI kf19061) (nI kt19062) so19063 0 0 (nI kc19046) mlines nl nc nF np ntr nb mbestCost nso nsi nit nsh nsf nss nrc mtraced mdealer mnumber mwhose msize misParted), (nt, iA G 240 fnt)]) hP hD (fun hP hD => ?_)
                    have hw9065_0 := hr9059.1
                    have hw9065_1 := hr9059.2
                    have tA9067 := hw9065_1.1
                    have tB9067 := hw9065_1.2.1
                    refine toQ hQ0 ?_
                    exact RV hC hP hD hS [3, 4, 1, 0, 2] (0, kf19061, kt19062, so19063, kc19046, gnc9047, upd (upd (upd (upd (upd (upd (upd fnl ja 2) (ja + 1) (nI v_8984)) (ja + 2) (-9)) (ja + 3) (-9)) (ja + 2) (nI v_9019)) (ja + 4) (nI kc)) (ja + 5) (nI kc19046)) rfl rfl (by decide) (Or.inr ⟨rfl, hw9065_1, by (try dsimp only); omega, by (try dsimp only); omega, fun i hi => (upd_ne (by omega)).trans ((upd_ne (by omega)).trans ((upd_ne (by omega)).trans ((upd_ne (by omega)).trans ((upd_ne (by omega)).trans ((upd_ne (by omega)).trans ((upd_ne (by omega)).trans (rfl))))))), hw9049_1.2.2.1, ⟨2, by decide, (upd_ne (by omega)).trans ((upd_ne (by omega)).trans ((upd_ne (by omega)).trans ((upd_ne (by omega)).trans ((upd_ne (by omega)).trans ((upd_ne (by omega)).trans (upd_eq (by omega))))))), fun h9 => absurd h9 (by decide), fun _ => ⟨v_8984, by omega, (upd_ne (by omega)).trans ((upd_ne (by omega)).trans ((upd_ne (by omega)).trans ((upd_ne (by omega)).trans ((upd_ne (by omega)).trans (upd_eq (by omega))))))⟩⟩, kc, kc19046, (upd_ne (by omega)).trans (upd_eq (by omega)), upd_eq (by omega), by (try dsimp only); omega, by (try dsimp only); omega, hw9049_1.2.2.2.wfc⟩) gX12_lineAt_15.2.2
                  · refine vV (wr := [(nl, iA G 54 (upd (upd (upd (upd (upd (upd (upd fnl ja 2) (ja + 1) (nI v_8984)) (ja + 2) (-9)) (ja + 3) (-9)) (ja + 2) (nI v_9019)) (ja + 4) (nI kc)) (ja + 5) (nI kc19046))), (nt, iA G 240 fnt), (nc, iA G 100 gnc9047), (nF, sA G 5 (FCT K))]) hC hK hl hP hD hS hA (m_need0 l G h0 nw nk mhasKept nt (nI ktp) nr mrowMany mroundOf mroundFrom mouts nm mfromHour mtoHour ns (nI kf19043) (nI kt19044) so19045 0 (nI kc19046) mlines nl nc nF np ntr nb mbestCost nso nsi nit nsh nsf nss nrc mtraced mdealer mnumber mwhose msize misParted) si_X12_236 [1] [0, 2, 3, 4] sm_1 fm_1 nd_1 sm_0_2_3_4 nd_0_2_3_4 dj_1__0_2_3_4 rfl rfl rfl rfl rfl (Nat.le_of_ble_eq_true rfl) rm_32_4_2 ⟨Nat.le_of_ble_eq_true rfl, Nat.le_of_ble_eq_true rfl⟩ gX12_lineAt_15.2.1 (fun u9069 H locs hr9068 hP hD hS => ?_)
                    refine Kpdr (ws := [(nl, iA G 54 (upd (upd (upd (upd (upd (upd (upd fnl ja 2) (ja + 1) (nI v_8984)) (ja + 2) (-9)) (ja + 3) (-9)) (ja + 2) (nI v_9019)) (ja + 4) (nI kc)) (ja + 5) (nI kc19046))), (nt, iA G 240 fnt), (nc, iA G 100 gnc9047), (nF, sA G 5 (FCT K)), (h0, oX12 nw nk mhasKept nt (nI ktp) nr mrowMany mroundOf mroundFrom mouts nm mfromHour mtoHour ns (nI kf19043) (nI kt19044) so19045 1 0 (nI kc19046) mlines nl nc nF np ntr nb mbestCost nso nsi nit nsh nsf nss nrc mtraced mdealer mnumber mwhose msize misParted)]) hP hD (fun hP hD => ?_)
                    refine toQ hQ0 ?_
                    exact RV hC hP hD hS [4, 1, 2, 0, 3] (1, kf19043, kt19044, so19045, kc19046, gnc9047, upd (upd (upd (upd (upd (upd (upd fnl ja 2) (ja + 1) (nI v_8984)) (ja + 2) (-9)) (ja + 3) (-9)) (ja + 2) (nI v_9019)) (ja + 4) (nI kc)) (ja + 5) (nI kc19046)) rfl rfl (by decide) (Or.inl rfl) gX12_lineAt_15.2.2
              · refine lv_if_eq (tgt := 256) hx hb gX12_lineAt_13.2.2.2.2.1 (by decide) (fun _ => ?_) (fun c9 => absurd (by decide) c9)
                refine lv_aload_n hx hb gX12_lineAt_13.2.2.2.2.2.2.2.2.2 rfl (lv_at1 hl) ?_
                refine gf_X12_32 hC rfl hK hP 3 rfl rfl gX12_lineAt_14.1 ?_
                refine lv_iload_n hx hb gX12_lineAt_14.2.1 rfl (lv_at2 hl) ?_
                refine lv_iconst (v := 5) hx hb gX12_lineAt_14.2.2.1 (by decide) ?_
                refine lv_iadd hx hb gX12_lineAt_14.2.2.2.1 ?_
                refine eqi (x1 := nI (ja + 5)) (nI_add ja 5) ?_
                refine lv_aload_n hx hb gX12_lineAt_14.2.2.2.2.1 rfl (lv_at1 hl) ?_
                refine gf_X12_240 hC rfl hK hP 3 rfl rfl gX12_lineAt_14.2.2.2.2.2.1 ?_
                refine astN hC hK hP hD hS 1 (ws' := [(nc, iA G 100 fnc), (nl, iA G 54 (upd (upd (upd (upd (upd (upd (upd fnl ja 2) (ja + 1) (nI v_8984)) (ja + 2) (-9)) (ja + 3) (-9)) (ja + 2) (nI v_9019)) (ja + 4) (nI kc)) (ja + 5) (nI kc))), (nF, sA G 5 (FCT K)), (h0, oX12 nw nk mhasKept nt (nI ktp) nr mrowMany mroundOf mroundFrom mouts nm mfromHour mtoHour ns (nI kf19015) (nI kt19016) so19017 0 0 (nI kc) mlines nl nc nF np ntr nb mbestCost nso nsi nit nsh nsf nss nrc mtraced mdealer mnumber mwhose msize misParted), (nt, iA G 240 fnt)]) rfl (k := (ja + 5)) (by omega) (Nat.le_of_ble_eq_true rfl) (rfl) gX12_lineAt_14.2.2.2.2.2.2.1 (fun H locs hP hD hS => ?_)
                refine lv_aload_n hx hb gX12_lineAt_14.2.2.2.2.2.2.2.1 rfl (lv_at1 hl) ?_
                refine lv_aload_n hx hb gX12_lineAt_14.2.2.2.2.2.2.2.2.1 rfl (lv_at1 hl) ?_
                refine lv_bipush (v := 59) hx hb gX12_lineAt_14.2.2.2.2.2.2.2.2.2 (by decide) ?_
                refine pV hC hK hl hP hD (m_isSign0 l G h0 59 nw nk mhasKept nt ktp nr mrowMany mroundOf mroundFrom mouts nm mfromHour mtoHour ns kf19015 kt19016 so19017 0 (nI kc) mlines nl nc nF np ntr nb mbestCost nso nsi nit nsh nsf nss nrc mtraced mdealer mnumber mwhose msize misParted fnt (hw9019_2) (htp)) si_X12_262 [3, 4] sm_3_4 fm_3_4 nd_3_4 rfl rfl rfl rfl rfl (Nat.le_of_ble_eq_true rfl) rm_32_1_2 ⟨by first | exact Nat.le_of_ble_eq_true rfl | exact Nat.zero_le _, by first | exact Nat.le_of_ble_eq_true rfl | exact Nat.zero_le _⟩ gX12_lineAt_15.1 (Kors (Keqa fun a9071 => ?_) (Keqa fun a9071 => ?_))
                · have tI9072 := a9071.1
                  refine vV (wr := [(nc, iA G 100 fnc), (nl, iA G 54 (upd (upd (upd (upd (upd (upd (upd fnl ja 2) (ja + 1) (nI v_8984)) (ja + 2) (-9)) (ja + 3) (-9)) (ja + 2) (nI v_9019)) (ja + 4) (nI kc)) (ja + 5) (nI kc))), (nF, sA G 5 (FCT K))]) hC hK hl hP hD hS hA (m_need1 l G h0 nw nk mhasKept nt ktp nr mrowMany mroundOf mroundFrom mouts nm mfromHour mtoHour ns (nI kf19015) kt19016 so19017 0 (nI kc) mlines nl nc nF np ntr nb mbestCost nso nsi nit nsh nsf nss nrc mtraced mdealer mnumber mwhose msize misParted fnt (by omega) (htp)) si_X12_236 [3, 4] [0, 1, 2] sm_3_4 fm_3_4 nd_3_4 sm_0_1_2 nd_0_1_2 dj_3_4__0_1_2 rfl rfl rfl rfl rfl (Nat.le_of_ble_eq_true rfl) rm_32_4_2 ⟨Nat.le_of_ble_eq_true rfl, Nat.le_of_ble_eq_true rfl⟩ gX12_lineAt_15.2.1 (Ktu3 fun kf19075 kt19076 so19077 => ?_)
                  intro H locs hr9073 hP hD hS
                  try dsimp only at hr9073
                  refine Kpdr (ws := [(nc, iA G 100 fnc), (nl, iA G 54 (upd (upd (upd (upd (upd (upd (upd fnl ja 2) (ja + 1) (nI v_8984)) (ja + 2) (-9)) (ja + 3) (-9)) (ja + 2) (nI v_9019)) (ja + 4) (nI kc)) (ja + 5) (nI kc))), (nF, sA G 5 (FCT K)), (h0, oX12 nw nk mhasKept nt (nI ktp) nr mrowMany mroundOf mroundFrom mouts nm mfromHour mtoHour ns (nI kf19075) (nI kt19076) so19077 0 0 (nI kc) mlines nl nc nF np ntr nb mbestCost nso nsi nit nsh nsf nss nrc mtraced mdealer mnumber mwhose msize misParted), (nt, iA G 240 fnt)]) hP hD (fun hP hD => ?_)
                  have hw9079_0 := hr9073.1
                  have hw9079_1 := hr9073.2
                  have tA9081 := hw9079_1.1
                  have tB9081 := hw9079_1.2.1
                  refine toQ hQ0 ?_
                  exact RV hC hP hD hS [3, 4, 0, 1, 2] (0, kf19075, kt19076, so19077, kc, fnc, upd (upd (upd (upd (upd (upd (upd fnl ja 2) (ja + 1) (nI v_8984)) (ja + 2) (-9)) (ja + 3) (-9)) (ja + 2) (nI v_9019)) (ja + 4) (nI kc)) (ja + 5) (nI kc)) rfl rfl (by decide) (Or.inr ⟨rfl, hw9079_1, by (try dsimp only); omega, by (try dsimp only); omega, fun i hi => (upd_ne (by omega)).trans ((upd_ne (by omega)).trans ((upd_ne (by omega)).trans ((upd_ne (by omega)).trans ((upd_ne (by omega)).trans ((upd_ne (by omega)).trans ((upd_ne (by omega)).trans (rfl))))))), fun _ _ => rfl, ⟨2, by decide, (upd_ne (by omega)).trans ((upd_ne (by omega)).trans ((upd_ne (by omega)).trans ((upd_ne (by omega)).trans ((upd_ne (by omega)).trans ((upd_ne (by omega)).trans (upd_eq (by omega))))))), fun h9 => absurd h9 (by decide), fun _ => ⟨v_8984, by omega, (upd_ne (by omega)).trans ((upd_ne (by omega)).trans ((upd_ne (by omega)).trans ((upd_ne (by omega)).trans ((upd_ne (by omega)).trans (upd_eq (by omega))))))⟩⟩, kc, kc, (upd_ne (by omega)).trans (upd_eq (by omega)), upd_eq (by omega), by (try dsimp only); omega, by (try dsimp only); omega, WFC.zero⟩) gX12_lineAt_15.2.2
                · refine vV (wr := [(nc, iA G 100 fnc), (nl, iA G 54 (upd (upd (upd (upd (upd (upd (upd fnl ja 2) (ja + 1) (nI v_8984)) (ja + 2) (-9)) (ja + 3) (-9)) (ja + 2) (nI v_9019)) (ja + 4) (nI kc)) (ja + 5) (nI kc))), (nF, sA G 5 (FCT K)), (nt, iA G 240 fnt)]) hC hK hl hP hD hS hA (m_need0 l G h0 nw nk mhasKept nt (nI ktp) nr mrowMany mroundOf mroundFrom mouts nm mfromHour mtoHour ns (nI kf19015) (nI kt19016) so19017 0 (nI kc) mlines nl nc nF np ntr nb mbestCost nso nsi nit nsh nsf nss nrc mtraced mdealer mnumber mwhose msize misParted) si_X12_236 [3] [0, 1, 2, 4] sm_3 fm_3 nd_3 sm_0_1_2_4 nd_0_1_2_4 dj_3__0_1_2_4 rfl rfl rfl rfl rfl (Nat.le_of_ble_eq_true rfl) rm_32_4_2 ⟨Nat.le_of_ble_eq_true rfl, Nat.le_of_ble_eq_true rfl⟩ gX12_lineAt_15.2.1 (fun u9083 H locs hr9082 hP hD hS => ?_)
                  refine Kpdr (ws := [(nc, iA G 100 fnc), (nl, iA G 54 (upd (upd (upd (upd (upd (upd (upd fnl ja 2) (ja + 1) (nI v_8984)) (ja + 2) (-9)) (ja + 3) (-9)) (ja + 2) (nI v_9019)) (ja + 4) (nI kc)) (ja + 5) (nI kc))), (nF, sA G 5 (FCT K)), (nt, iA G 240 fnt), (h0, oX12 nw nk mhasKept nt (nI ktp) nr mrowMany mroundOf mroundFrom mouts nm mfromHour mtoHour ns (nI kf19015) (nI kt19016) so19017 1 0 (nI kc) mlines nl nc nF np ntr nb mbestCost nso nsi nit nsh nsf nss nrc mtraced mdealer mnumber mwhose msize misParted)]) hP hD (fun hP hD => ?_)
                  refine toQ hQ0 ?_
                  exact RV hC hP hD hS [4, 3, 0, 1, 2] (1, kf19015, kt19016, so19017, kc, fnc, upd (upd (upd (upd (upd (upd (upd fnl ja 2) (ja + 1) (nI v_8984)) (ja + 2) (-9)) (ja + 3) (-9)) (ja + 2) (nI v_9019)) (ja + 4) (nI kc)) (ja + 5) (nI kc)) rfl rfl (by decide) (Or.inl rfl) gX12_lineAt_15.2.2
          · refine vV (wr := [(nc, iA G 100 fnc), (nl, iA G 54 (upd (upd (upd (upd fnl ja 2) (ja + 1) (nI v_8984)) (ja + 2) (-9)) (ja + 3) (-9))), (nF, sA G 5 (FCT K)), (nt, iA G 240 fnt)]) hC hK hl hP hD hS hA (m_need0 l G h0 nw nk mhasKept nt (nI ktp) nr mrowMany mroundOf mroundFrom mouts nm mfromHour mtoHour ns (nI kf18980) (nI kt18981) so18982 0 (nI kc) mlines nl nc nF np ntr nb mbestCost nso nsi nit nsh nsf nss nrc mtraced mdealer mnumber mwhose msize misParted) si_X12_236 [3] [0, 1, 2, 4] sm_3 fm_3 nd_3 sm_0_1_2_4 nd_0_1_2_4 dj_3__0_1_2_4 rfl rfl rfl rfl rfl (Nat.le_of_ble_eq_true rfl) rm_32_4_2 ⟨Nat.le_of_ble_eq_true rfl, Nat.le_of_ble_eq_true rfl⟩ gX12_lineAt_11.1 (fun u9085 H locs hr9084 hP hD hS => ?_)
            refine Kpdr (ws := [(nc, iA G 100 fnc), (nl, iA G 54 (upd (upd (upd (upd fnl ja 2) (ja + 1) (nI v_8984)) (ja + 2) (-9)) (ja + 3) (-9))), (nF, sA G 5 (FCT K)), (nt, iA G 240 fnt), (h0, oX12 nw nk mhasKept nt (nI ktp) nr mrowMany mroundOf mroundFrom mouts nm mfromHour mtoHour ns (nI kf18980) (nI kt18981) so18982 1 0 (nI kc) mlines nl nc nF np ntr nb mbestCost nso nsi nit nsh nsf nss nrc mtraced mdealer mnumber mwhose msize misParted)]) hP hD (fun hP hD => ?_)
            refine lv_aload_n hx hb gX12_lineAt_11.2.1 rfl (lv_at1 hl) ?_
            refine gf_X12_32 hC rfl hK hP 4 rfl rfl gX12_lineAt_11.2.2.1 ?_
            refine lv_iload_n hx hb gX12_lineAt_11.2.2.2.1 rfl (lv_at2 hl) ?_
            refine lv_iconst (v := 2) hx hb gX12_lineAt_11.2.2.2.2.1 (by decide) ?_
            refine lv_iadd hx hb gX12_lineAt_11.2.2.2.2.2.1 ?_
            refine eqi (x1 := nI (ja + 2)) (nI_add ja 2) ?_
            refine lv_aload_n hx hb gX12_lineAt_11.2.2.2.2.2.2.1 rfl (lv_at1 hl) ?_
            refine lv_sipush (v := 999) hx hb gX12_lineAt_11.2.2.2.2.2.2.2.1 (by decide) ?_
            refine iV (wr := [(nc, iA G 100 fnc), (nl, iA G 54 (upd (upd (upd (upd fnl ja 2) (ja + 1) (nI v_8984)) (ja + 2) (-9)) (ja + 3) (-9))), (nF, sA G 5 (FCT K)), (nt, iA G 240 fnt)]) hC hK hl hP hD hS hA (m_numberF l G h0 999 nw nk mhasKept nt (nI ktp) nr mrowMany mroundOf mroundFrom mouts nm mfromHour mtoHour ns (nI kf18980) (nI kt18981) so18982 0 (nI kc) mlines nl nc nF np ntr nb mbestCost nso nsi nit nsh nsf nss nrc mtraced mdealer mnumber mwhose msize misParted) si_X12_271 [4] [0, 1, 2, 3] sm_4 fm_4 nd_4 sm_0_1_2_3 nd_0_1_2_3 dj_4__0_1_2_3 rfl rfl rfl rfl rfl (Nat.le_of_ble_eq_true rfl) rm_32_5_5 ⟨Nat.le_of_ble_eq_true rfl, Nat.le_of_ble_eq_true rfl⟩ gX12_lineAt_11.2.2.2.2.2.2.2.2.1 (fun r9086 u9087 H locs hr9086 hP hD hS => ?_)
            refine Kpdr (ws := [(nc, iA G 100 fnc), (nl, iA G 54 (upd (upd (upd (upd fnl ja 2) (ja + 1) (nI v_8984)) (ja + 2) (-9)) (ja + 3) (-9))), (nF, sA G 5 (FCT K)), (nt, iA G 240 fnt), (h0, oX12 nw nk mhasKept nt (nI ktp) nr mrowMany mroundOf mroundFrom mouts nm mfromHour mtoHour ns (nI kf18980) (nI kt18981) so18982 1 0 (nI kc) mlines nl nc nF np ntr nb mbestCost nso nsi nit nsh nsf nss nrc mtraced mdealer mnumber mwhose msize misParted)]) hP hD (fun hP hD => ?_)
            obtain rfl := hr9086
            refine astN hC hK hP hD hS 1 (ws' := [(nc, iA G 100 fnc), (nl, iA G 54 (upd (upd (upd (upd (upd fnl ja 2) (ja + 1) (nI v_8984)) (ja + 2) (-9)) (ja + 3) (-9)) (ja + 2) 0)), (nF, sA G 5 (FCT K)), (nt, iA G 240 fnt), (h0, oX12 nw nk mhasKept nt (nI ktp) nr mrowMany mroundOf mroundFrom mouts nm mfromHour mtoHour ns (nI kf18980) (nI kt18981) so18982 1 0 (nI kc) mlines nl nc nF np ntr nb mbestCost nso nsi nit nsh nsf nss nrc mtraced mdealer mnumber mwhose msize misParted)]) rfl (k := (ja + 2)) (by omega) (Nat.le_of_ble_eq_true rfl) (rfl) gX12_lineAt_11.2.2.2.2.2.2.2.2.2 (fun H locs hP hD hS => ?_)
            refine lv_aload_n hx hb gX12_lineAt_12.1 rfl (lv_at1 hl) ?_
            refine gf_X12_32 hC rfl hK hP 4 rfl rfl gX12_lineAt_12.2.1 ?_
            refine lv_iload_n hx hb gX12_lineAt_12.2.2.1 rfl (lv_at2 hl) ?_
            refine lv_iconst (v := 4) hx hb gX12_lineAt_12.2.2.2.1 (by decide) ?_
            refine lv_iadd hx hb gX12_lineAt_12.2.2.2.2.1 ?_
            refine eqi (x1 := nI (ja + 4)) (nI_add ja 4) ?_
            refine lv_aload_n hx hb gX12_lineAt_12.2.2.2.2.2.1 rfl (lv_at1 hl) ?_
            refine gf_X12_240 hC rfl hK hP 4 rfl rfl gX12_lineAt_12.2.2.2.2.2.2.1 ?_
            refine astN hC hK hP hD hS 1 (ws' := [(nc, iA G 100 fnc), (nl, iA G 54 (upd (upd (upd (upd (upd (upd fnl ja 2) (ja + 1) (nI v_8984)) (ja + 2) (-9)) (ja + 3) (-9)) (ja + 2) 0) (ja + 4) (nI kc))), (nF, sA G 5 (FCT K)), (nt, iA G 240 fnt), (h0, oX12 nw nk mhasKept nt (nI ktp) nr mrowMany mroundOf mroundFrom mouts nm mfromHour mtoHour ns (nI kf18980) (nI kt18981) so18982 1 0 (nI kc) mlines nl nc nF np ntr nb mbestCost nso nsi nit nsh nsf nss nrc mtraced mdealer mnumber mwhose msize misParted)]) rfl (k := (ja + 4)) (by omega) (Nat.le_of_ble_eq_true rfl) (rfl) gX12_lineAt_12.2.2.2.2.2.2.2.1 (fun H locs hP hD hS => ?_)
            refine lv_iload_n hx hb gX12_lineAt_12.2.2.2.2.2.2.2.2.1 rfl (lv_at0 hl) ?_
            refine lv_iconst (v := 3) hx hb gX12_lineAt_12.2.2.2.2.2.2.2.2.2 (by decide) ?_
            refine lv_icmp_eq (tgt := 256) hx hb gX12_lineAt_13.1 (by decide) (fun c9 => absurd c9 (by decide)) (fun _ => ?_)
            refine lv_aload_n hx hb gX12_lineAt_13.2.1 rfl (lv_at1 hl) ?_
            refine va_ldcSw (index := 287) (tx := "if") hx hb hown (hO.2.2 0 (by decide)) gX12_lineAt_13.2.2.1 ?_
            refine pVo hO hS hC hK hl hP hD (m_isNameF l G K 0 h0 nw nk mhasKept nt (nI ktp) nr mrowMany mroundOf mroundFrom mouts nm mfromHour mtoHour ns (nI kf18980) (nI kt18981) so18982 0 (nI kc) mlines nl nc nF np ntr nb mbestCost nso nsi nit nsh nsf nss nrc mtraced mdealer mnumber mwhose msize misParted ((by decide))) si_X12_248 [4] sm_4 fm_4 nd_4 rfl rfl rfl rfl rfl (Nat.le_of_ble_eq_true rfl) rm_32_5_4 ⟨by first | exact Nat.le_of_ble_eq_true rfl | exact Nat.zero_le _, by first | exact Nat.le_of_ble_eq_true rfl | exact Nat.zero_le _⟩ gX12_lineAt_13.2.2.2.1 (Keqr ?_)
            refine lv_if_eq (tgt := 256) hx hb gX12_lineAt_13.2.2.2.2.1 (by decide) (fun _ => ?_) (fun c9 => absurd (by decide) c9)
            refine lv_aload_n hx hb gX12_lineAt_13.2.2.2.2.2.2.2.2.2 rfl (lv_at1 hl) ?_
            refine gf_X12_32 hC rfl hK hP 4 rfl rfl gX12_lineAt_14.1 ?_
            refine lv_iload_n hx hb gX12_lineAt_14.2.1 rfl (lv_at2 hl) ?_
            refine lv_iconst (v := 5) hx hb gX12_lineAt_14.2.2.1 (by decide) ?_
            refine lv_iadd hx hb gX12_lineAt_14.2.2.2.1 ?_
            refine eqi (x1 := nI (ja + 5)) (nI_add ja 5) ?_
            refine lv_aload_n hx hb gX12_lineAt_14.2.2.2.2.1 rfl (lv_at1 hl) ?_
            refine gf_X12_240 hC rfl hK hP 4 rfl rfl gX12_lineAt_14.2.2.2.2.2.1 ?_
            refine astN hC hK hP hD hS 1 (ws' := [(nc, iA G 100 fnc), (nl, iA G 54 (upd (upd (upd (upd (upd (upd (upd fnl ja 2) (ja + 1) (nI v_8984)) (ja + 2) (-9)) (ja + 3) (-9)) (ja + 2) 0) (ja + 4) (nI kc)) (ja + 5) (nI kc))), (nF, sA G 5 (FCT K)), (nt, iA G 240 fnt), (h0, oX12 nw nk mhasKept nt (nI ktp) nr mrowMany mroundOf mroundFrom mouts nm mfromHour mtoHour ns (nI kf18980) (nI kt18981) so18982 1 0 (nI kc) mlines nl nc nF np ntr nb mbestCost nso nsi nit nsh nsf nss nrc mtraced mdealer mnumber mwhose msize misParted)]) rfl (k := (ja + 5)) (by omega) (Nat.le_of_ble_eq_true rfl) (rfl) gX12_lineAt_14.2.2.2.2.2.2.1 (fun H locs hP hD hS => ?_)
            refine lv_aload_n hx hb gX12_lineAt_14.2.2.2.2.2.2.2.1 rfl (lv_at1 hl) ?_
            refine lv_aload_n hx hb gX12_lineAt_14.2.2.2.2.2.2.2.2.1 rfl (lv_at1 hl) ?_
            refine lv_bipush (v := 59) hx hb gX12_lineAt_14.2.2.2.2.2.2.2.2.2 (by decide) ?_
            refine pV hC hK hl hP hD (m_isSignF l G h0 59 nw nk mhasKept nt (nI ktp) nr mrowMany mroundOf mroundFrom mouts nm mfromHour mtoHour ns (nI kf18980) (nI kt18981) so18982 0 (nI kc) mlines nl nc nF np ntr nb mbestCost nso nsi nit nsh nsf nss nrc mtraced mdealer mnumber mwhose msize misParted) si_X12_262 [4] sm_4 fm_4 nd_4 rfl rfl rfl rfl rfl (Nat.le_of_ble_eq_true rfl) rm_32_1_2 ⟨by first | exact Nat.le_of_ble_eq_true rfl | exact Nat.zero_le _, by first | exact Nat.le_of_ble_eq_true rfl | exact Nat.zero_le _⟩ gX12_lineAt_15.1 (Keqr ?_)
            refine vV (wr := [(nc, iA G 100 fnc), (nl, iA G 54 (upd (upd (upd (upd (upd (upd (upd fnl ja 2) (ja + 1) (nI v_8984)) (ja + 2) (-9)) (ja + 3) (-9)) (ja + 2) 0) (ja + 4) (nI kc)) (ja + 5) (nI kc))), (nF, sA G 5 (FCT K)), (nt, iA G 240 fnt)]) hC hK hl hP hD hS hA (m_needF l G h0 0 nw nk mhasKept nt (nI ktp) nr mrowMany mroundOf mroundFrom mouts nm mfromHour mtoHour ns (nI kf18980) (nI kt18981) so18982 0 (nI kc) mlines nl nc nF np ntr nb mbestCost nso nsi nit nsh nsf nss nrc mtraced mdealer mnumber mwhose msize misParted) si_X12_236 [4] [0, 1, 2, 3] sm_4 fm_4 nd_4 sm_0_1_2_3 nd_0_1_2_3 dj_4__0_1_2_3 rfl rfl rfl rfl rfl (Nat.le_of_ble_eq_true rfl) rm_32_4_2 ⟨Nat.le_of_ble_eq_true rfl, Nat.le_of_ble_eq_true rfl⟩ gX12_lineAt_15.2.1 (fun u9094 H locs hr9093 hP hD hS => ?_)
            refine Kpdr (ws := [(nc, iA G 100 fnc), (nl, iA G 54 (upd (upd (upd (upd (upd (upd (upd fnl ja 2) (ja + 1) (nI v_8984)) (ja + 2) (-9)) (ja + 3) (-9)) (ja + 2) 0) (ja + 4) (nI kc)) (ja + 5) (nI kc))), (nF, sA G 5 (FCT K)), (nt, iA G 240 fnt), (h0, oX12 nw nk mhasKept nt (nI ktp) nr mrowMany mroundOf mroundFrom mouts nm mfromHour mtoHour ns (nI kf18980) (nI kt18981) so18982 1 0 (nI kc) mlines nl nc nF np ntr nb mbestCost nso nsi nit nsh nsf nss nrc mtraced mdealer mnumber mwhose msize misParted)]) hP hD (fun hP hD => ?_)
            refine toQ hQ0 ?_
            exact RV hC hP hD hS [4, 3, 0, 1, 2] (1, kf18980, kt18981, so18982, kc, fnc, upd (upd (upd (upd (upd (upd (upd fnl ja 2) (ja + 1) (nI v_8984)) (ja + 2) (-9)) (ja + 3) (-9)) (ja + 2) 0) (ja + 4) (nI kc)) (ja + 5) (nI kc)) rfl rfl (by decide) (Or.inl rfl) gX12_lineAt_15.2.2
      · refine lv_if_eq (tgt := 42) hx hb gX12_lineAt_1.2.2.2.2.2.1 (by decide) (fun _ => ?_) (fun c9 => absurd (by decide) c9)
        refine lv_aload_n hx hb gX12_lineAt_1.2.2.2.2.2.2.2.2.1 rfl (lv_at0 hl) ?_
        refine va_ldcSw (index := 280) (tx := "heard") hx hb hown (hO.2.2 4 (by decide)) gX12_lineAt_1.2.2.2.2.2.2.2.2.2 ?_
        refine pVo hO hS hC hK hl hP hD (m_isName0 l G K 4 h0 nw nk mhasKept nt ktp nr mrowMany mroundOf mroundFrom mouts nm mfromHour mtoHour ns kf kt so 0 (nI kc) mlines nl nc nF np ntr nb mbestCost nso nsi nit nsh nsf nss nrc mtraced mdealer mnumber mwhose msize misParted fnt ((by decide)) (hT) (htp)) si_X12_248 [0, 1] sm_0_1 fm_0_1 nd_0_1 rfl rfl rfl rfl rfl (Nat.le_of_ble_eq_true rfl) rm_32_5_4 ⟨by first | exact Nat.le_of_ble_eq_true rfl | exact Nat.zero_le _, by first | exact Nat.le_of_ble_eq_true rfl | exact Nat.zero_le _⟩ gX12_lineAt_2.1 (Kors (Keqa fun a9096 => ?_) (Keqr ?_))
        · refine lv_if_eq (tgt := 56) hx hb gX12_lineAt_2.2.1 (by decide) (fun c9 => absurd c9 (by decide)) (fun _ => ?_)
          refine lv_iconst (v := 3) hx hb gX12_lineAt_2.2.2.1 (by decide) ?_
          refine lv_goto (tgt := 57) hx hb gX12_lineAt_2.2.2.2.1 (by decide) ?_
          refine lv_istore_n (lv' := [(2, .int 3), (0, .ref h0), (1, .int (nI ja))]) hx hb gX12_lineAt_2.2.2.2.2.2.1 rfl hl (by decide) rfl (fun ls hl => ?_)
          refine lv_aload_n hx hb gX12_lineAt_2.2.2.2.2.2.2.1 rfl (lv_at1 hl) ?_
          refine lv_iload_n hx hb gX12_lineAt_2.2.2.2.2.2.2.2.1 rfl (lv_at0 hl) ?_
          refine lv_if_lt (tgt := 67) hx hb gX12_lineAt_2.2.2.2.2.2.2.2.2.1 (by decide) (fun c9 => absurd c9 (by decide)) (fun _ => ?_)
          refine lv_iconst (v := 1) hx hb gX12_lineAt_2.2.2.2.2.2.2.2.2.2 (by decide) ?_
          refine lv_goto (tgt := 68) hx hb gX12_lineAt_3.1 (by decide) ?_
          have tI9097 : kt = kf + 5 := a9096.2
          refine vV (wr := [(nc, iA G 100 fnc), (nl, iA G 54 fnl), (nF, sA G 5 (FCT K))]) hC hK hl hP hD hS hA (m_need1 l G h0 nw nk mhasKept nt ktp nr mrowMany mroundOf mroundFrom mouts nm mfromHour mtoHour ns (nI kf) kt so 0 (nI kc) mlines nl nc nF np ntr nb mbestCost nso nsi nit nsh nsf nss nrc mtraced mdealer mnumber mwhose msize misParted fnt (by omega) (htp)) si_X12_236 [0, 1] [2, 3, 4] sm_0_1 fm_0_1 nd_0_1 sm_2_3_4 nd_2_3_4 dj_0_1__2_3_4 rfl rfl rfl rfl rfl (Nat.le_of_ble_eq_true rfl) rm_32_4_2 ⟨Nat.le_of_ble_eq_true rfl, Nat.le_of_ble_eq_true rfl⟩ gX12_lineAt_3.2.2.1 (Ktu3 fun kf19100 kt19101 so19102 => ?_)
          intro H locs hr9098 hP hD hS
          try dsimp only at hr9098
          refine Kpdr (ws := [(nc, iA G 100 fnc), (nl, iA G 54 fnl), (nF, sA G 5 (FCT K)), (h0, oX12 nw nk mhasKept nt (nI ktp) nr mrowMany mroundOf mroundFrom mouts nm mfromHour mtoHour ns (nI kf19100) (nI kt19101) so19102 0 0 (nI kc) mlines nl nc nF np ntr nb mbestCost nso nsi nit nsh nsf nss nrc mtraced mdealer mnumber mwhose msize misParted), (nt, iA G 240 fnt)]) hP hD (fun hP hD => ?_)
          have hw9104_0 := hr9098.1
          have hw9104_1 := hr9098.2
          have tA9106 := hw9104_1.1
          have tB9106 := hw9104_1.2.1
          refine lv_aload_n hx hb gX12_lineAt_3.2.2.2.1 rfl (lv_at1 hl) ?_
          refine gf_X12_32 hC rfl hK hP 3 rfl rfl gX12_lineAt_3.2.2.2.2.1 ?_
          refine lv_iload_n hx hb gX12_lineAt_3.2.2.2.2.2.1 rfl (lv_at2 hl) ?_
          refine lv_iload_n hx hb gX12_lineAt_3.2.2.2.2.2.2.1 rfl (lv_at0 hl) ?_
          refine astN hC hK hP hD hS 1 (ws' := [(nc, iA G 100 fnc), (nl, iA G 54 (upd fnl ja 3)), (nF, sA G 5 (FCT K)), (h0, oX12 nw nk mhasKept nt (nI ktp) nr mrowMany mroundOf mroundFrom mouts nm mfromHour mtoHour ns (nI kf19100) (nI kt19101) so19102 0 0 (nI kc) mlines nl nc nF np ntr nb mbestCost nso nsi nit nsh nsf nss nrc mtraced mdealer mnumber mwhose msize misParted), (nt, iA G 240 fnt)]) rfl (k := ja) (by omega) (Nat.le_of_ble_eq_true rfl) (rfl) gX12_lineAt_3.2.2.2.2.2.2.2.1 (fun H locs hP hD hS => ?_)
          refine lv_aload_n hx hb gX12_lineAt_3.2.2.2.2.2.2.2.2.1 rfl (lv_at1 hl) ?_
          refine gf_X12_32 hC rfl hK hP 3 rfl rfl gX12_lineAt_3.2.2.2.2.2.2.2.2.2 ?_
          refine lv_iload_n hx hb gX12_lineAt_4.1 rfl (lv_at2 hl) ?_
          refine lv_iconst (v := 1) hx hb gX12_lineAt_4.2.1 (by decide) ?_
          refine lv_iadd hx hb gX12_lineAt_4.2.2.1 ?_
          refine eqi (x1 := nI (ja + 1)) (nI_add ja 1) ?_
          refine lv_aload_n hx hb gX12_lineAt_4.2.2.2.1 rfl (lv_at1 hl) ?_
          refine lv_iload_n hx hb gX12_lineAt_4.2.2.2.2.1 rfl (lv_at0 hl) ?_
          refine lv_if_eq (tgt := 95) hx hb gX12_lineAt_4.2.2.2.2.2.1 (by decide) (fun c9 => absurd c9 (by decide)) (fun _ => ?_)
          refine lv_iload_n hx hb gX12_lineAt_4.2.2.2.2.2.2.1 rfl (lv_at0 hl) ?_
          refine lv_iconst (v := 1) hx hb gX12_lineAt_4.2.2.2.2.2.2.2.1 (by decide) ?_
          refine lv_icmp_ne (tgt := 100) hx hb gX12_lineAt_4.2.2.2.2.2.2.2.2.1 (by decide) (fun _ => ?_) (fun c9 => absurd c9 (by decide))
          refine lv_iload_n hx hb gX12_lineAt_5.2.1 rfl (lv_at0 hl) ?_
          refine lv_iconst (v := 2) hx hb gX12_lineAt_5.2.2.1 (by decide) ?_
          refine lv_icmp_ne (tgt := 110) hx hb gX12_lineAt_5.2.2.2.1 (by decide) (fun _ => ?_) (fun c9 => absurd c9 (by decide))
          refine lv_bipush (v := 9) hx hb gX12_lineAt_5.2.2.2.2.2.2.1 (by decide) ?_
          refine iV (wr := [(nc, iA G 100 fnc), (nl, iA G 54 (upd fnl ja 3)), (nF, sA G 5 (FCT K))]) hC hK hl hP hD hS hA (m_number0 l G h0 9 nw nk mhasKept nt ktp nr mrowMany mroundOf mroundFrom mouts nm mfromHour mtoHour ns kf19100 kt19101 so19102 0 (nI kc) mlines nl nc nF np ntr nb mbestCost nso nsi nit nsh nsf nss nrc mtraced mdealer mnumber mwhose msize misParted fnt (hw9104_1) (htp) (by omega)) si_X12_271 [3, 4] [0, 1, 2] sm_3_4 fm_3_4 nd_3_4 sm_0_1_2 nd_0_1_2 dj_3_4__0_1_2 rfl rfl rfl rfl rfl (Nat.le_of_ble_eq_true rfl) rm_32_5_5 ⟨Nat.le_of_ble_eq_true rfl, Nat.le_of_ble_eq_true rfl⟩ gX12_lineAt_5.2.2.2.2.2.2.2.1 (fun r9107 => Ktu4 fun ff19109 kf19110 kt19111 so19112 => ?_)
          intro H locs hr9107 hP hD hS
          try dsimp only at hr9107
          refine Kpdr (ws := [(nc, iA G 100 fnc), (nl, iA G 54 (upd fnl ja 3)), (nF, sA G 5 (FCT K)), (h0, oX12 nw nk mhasKept nt (nI ktp) nr mrowMany mroundOf mroundFrom mouts nm mfromHour mtoHour ns (nI kf19110) (nI kt19111) so19112 ff19109 0 (nI kc) mlines nl nc nF np ntr nb mbestCost nso nsi nit nsh nsf nss nrc mtraced mdealer mnumber mwhose msize misParted), (nt, iA G 240 fnt)]) hP hD (fun hP hD => ?_)
          obtain ⟨hr9107, w9113⟩ := hr9107
          rcases w9113 with rfl | ⟨rfl, ⟨v_9114, hv_9114, rfl⟩, hw9114_1, hw9114_2⟩
          · refine astN hC hK hP hD hS 1 (ws' := [(nc, iA G 100 fnc), (nl, iA G 54 (upd (upd fnl ja 3) (ja + 1) r9107)), (nF, sA G 5 (FCT K)), (h0, oX12 nw nk mhasKept nt (nI ktp) nr mrowMany mroundOf mroundFrom mouts nm mfromHour mtoHour ns (nI kf19110) (nI kt19111) so19112 1 0 (nI kc) mlines nl nc nF np ntr nb mbestCost nso nsi nit nsh nsf nss nrc mtraced mdealer mnumber mwhose msize misParted), (nt, iA G 240 fnt)]) rfl (k := (ja + 1)) (by omega) (Nat.le_of_ble_eq_true rfl) (rfl) gX12_lineAt_5.2.2.2.2.2.2.2.2.1 (fun H locs hP hD hS => ?_)
            refine lv_aload_n hx hb gX12_lineAt_5.2.2.2.2.2.2.2.2.2 rfl (lv_at1 hl) ?_
            refine gf_X12_32 hC rfl hK hP 3 rfl rfl gX12_lineAt_6.1 ?_
            refine lv_iload_n hx hb gX12_lineAt_6.2.1 rfl (lv_at2 hl) ?_
            refine lv_iconst (v := 2) hx hb gX12_lineAt_6.2.2.1 (by decide) ?_
            refine lv_iadd hx hb gX12_lineAt_6.2.2.2.1 ?_
            refine eqi (x1 := nI (ja + 2)) (nI_add ja 2) ?_
            refine lv_bipush (v := (-9)) hx hb gX12_lineAt_6.2.2.2.2.1 (by decide) ?_
            refine astN hC hK hP hD hS 1 (ws' := [(nc, iA G 100 fnc), (nl, iA G 54 (upd (upd (upd fnl ja 3) (ja + 1) r9107) (ja + 2) (-9))), (nF, sA G 5 (FCT K)), (h0, oX12 nw nk mhasKept nt (nI ktp) nr mrowMany mroundOf mroundFrom mouts nm mfromHour mtoHour ns (nI kf19110) (nI kt19111) so19112 1 0 (nI kc) mlines nl nc nF np ntr nb mbestCost nso nsi nit nsh nsf nss nrc mtraced mdealer mnumber mwhose msize misParted), (nt, iA G 240 fnt)]) rfl (k := (ja + 2)) (by omega) (Nat.le_of_ble_eq_true rfl) (rfl) gX12_lineAt_6.2.2.2.2.2.1 (fun H locs hP hD hS => ?_)
            refine lv_aload_n hx hb gX12_lineAt_6.2.2.2.2.2.2.1 rfl (lv_at1 hl) ?_
            refine gf_X12_32 hC rfl hK hP 3 rfl rfl gX12_lineAt_6.2.2.2.2.2.2.2.1 ?_
            refine lv_iload_n hx hb gX12_lineAt_6.2.2.2.2.2.2.2.2.1 rfl (lv_at2 hl) ?_
            refine lv_iconst (v := 3) hx hb gX12_lineAt_6.2.2.2.2.2.2.2.2.2 (by decide) ?_
            refine lv_iadd hx hb gX12_lineAt_7.1 ?_
            refine eqi (x1 := nI (ja + 3)) (nI_add ja 3) ?_
            refine lv_bipush (v := (-9)) hx hb gX12_lineAt_7.2.1 (by decide) ?_
            refine astN hC hK hP hD hS 1 (ws' := [(nc, iA G 100 fnc), (nl, iA G 54 (upd (upd (upd (upd fnl ja 3) (ja + 1) r9107) (ja + 2) (-9)) (ja + 3) (-9))), (nF, sA G 5 (FCT K)), (h0, oX12 nw nk mhasKept nt (nI ktp) nr mrowMany mroundOf mroundFrom mouts nm mfromHour mtoHour ns (nI kf19110) (nI kt19111) so19112 1 0 (nI kc) mlines nl nc nF np ntr nb mbestCost nso nsi nit nsh nsf nss nrc mtraced mdealer mnumber mwhose msize misParted), (nt, iA G 240 fnt)]) rfl (k := (ja + 3)) (by omega) (Nat.le_of_ble_eq_true rfl) (rfl) gX12_lineAt_7.2.2.1 (fun H locs hP hD hS => ?_)
            refine lv_iload_n hx hb gX12_lineAt_7.2.2.2.1 rfl (lv_at0 hl) ?_
            refine lv_if_ne (tgt := 190) hx hb gX12_lineAt_7.2.2.2.2.1 (by decide) (fun _ => ?_) (fun c9 => absurd c9 (by decide))
            refine lv_iload_n hx hb gX12_lineAt_10.2.2.2.1 rfl (lv_at0 hl) ?_
            refine lv_iconst (v := 2) hx hb gX12_lineAt_10.2.2.2.2.1 (by decide) ?_
            refine lv_icmp_ne (tgt := 221) hx hb gX12_lineAt_10.2.2.2.2.2.1 (by decide) (fun _ => ?_) (fun c9 => absurd c9 (by decide))
            refine lv_aload_n hx hb gX12_lineAt_12.1 rfl (lv_at1 hl) ?_
            refine gf_X12_32 hC rfl hK hP 3 rfl rfl gX12_lineAt_12.2.1 ?_
            refine lv_iload_n hx hb gX12_lineAt_12.2.2.1 rfl (lv_at2 hl) ?_
            refine lv_iconst (v := 4) hx hb gX12_lineAt_12.2.2.2.1 (by decide) ?_
            refine lv_iadd hx hb gX12_lineAt_12.2.2.2.2.1 ?_
            refine eqi (x1 := nI (ja + 4)) (nI_add ja 4) ?_
            refine lv_aload_n hx hb gX12_lineAt_12.2.2.2.2.2.1 rfl (lv_at1 hl) ?_
            refine gf_X12_240 hC rfl hK hP 3 rfl rfl gX12_lineAt_12.2.2.2.2.2.2.1 ?_
            refine astN hC hK hP hD hS 1 (ws' := [(nc, iA G 100 fnc), (nl, iA G 54 (upd (upd (upd (upd (upd fnl ja 3) (ja + 1) r9107) (ja + 2) (-9)) (ja + 3) (-9)) (ja + 4) (nI kc))), (nF, sA G 5 (FCT K)), (h0, oX12 nw nk mhasKept nt (nI ktp) nr mrowMany mroundOf mroundFrom mouts nm mfromHour mtoHour ns (nI kf19110) (nI kt19111) so19112 1 0 (nI kc) mlines nl nc nF np ntr nb mbestCost nso nsi nit nsh nsf nss nrc mtraced mdealer mnumber mwhose msize misParted), (nt, iA G 240 fnt)]) rfl (k := (ja + 4)) (by omega) (Nat.le_of_ble_eq_true rfl) (rfl) gX12_lineAt_12.2.2.2.2.2.2.2.1 (fun H locs hP hD hS => ?_)
            refine lv_iload_n hx hb gX12_lineAt_12.2.2.2.2.2.2.2.2.1 rfl (lv_at0 hl) ?_
            refine lv_iconst (v := 3) hx hb gX12_lineAt_12.2.2.2.2.2.2.2.2.2 (by decide) ?_
            refine lv_icmp_eq (tgt := 256) hx hb gX12_lineAt_13.1 (by decide) (fun _ => ?_) (fun c9 => absurd (by decide) c9)
            refine lv_aload_n hx hb gX12_lineAt_13.2.2.2.2.2.2.2.2.2 rfl (lv_at1 hl) ?_
            refine gf_X12_32 hC rfl hK hP 3 rfl rfl gX12_lineAt_14.1 ?_
            refine lv_iload_n hx hb gX12_lineAt_14.2.1 rfl (lv_at2 hl) ?_
            refine lv_iconst (v := 5) hx hb gX12_lineAt_14.2.2.1 (by decide) ?_
            refine lv_iadd hx hb gX12_lineAt_14.2.2.2.1 ?_
            refine eqi (x1 := nI (ja + 5)) (nI_add ja 5) ?_
            refine lv_aload_n hx hb gX12_lineAt_14.2.2.2.2.1 rfl (lv_at1 hl) ?_
            refine gf_X12_240 hC rfl hK hP 3 rfl rfl gX12_lineAt_14.2.2.2.2.2.1 ?_
            refine astN hC hK hP hD hS 1 (ws' := [(nc, iA G 100 fnc), (nl, iA G 54 (upd (upd (upd (upd (upd (upd fnl ja 3) (ja + 1) r9107) (ja + 2) (-9)) (ja + 3) (-9)) (ja + 4) (nI kc)) (ja + 5) (nI kc))), (nF, sA G 5 (FCT K)), (h0, oX12 nw nk mhasKept nt (nI ktp) nr mrowMany mroundOf mroundFrom mouts nm mfromHour mtoHour ns (nI kf19110) (nI kt19111) so19112 1 0 (nI kc) mlines nl nc nF np ntr nb mbestCost nso nsi nit nsh nsf nss nrc mtraced mdealer mnumber mwhose msize misParted), (nt, iA G 240 fnt)]) rfl (k := (ja + 5)) (by omega) (Nat.le_of_ble_eq_true rfl) (rfl) gX12_lineAt_14.2.2.2.2.2.2.1 (fun H locs hP hD hS => ?_)
            refine lv_aload_n hx hb gX12_lineAt_14.2.2.2.2.2.2.2.1 rfl (lv_at1 hl) ?_
            refine lv_aload_n hx hb gX12_lineAt_14.2.2.2.2.2.2.2.2.1 rfl (lv_at1 hl) ?_
            refine lv_bipush (v := 59) hx hb gX12_lineAt_14.2.2.2.2.2.2.2.2.2 (by decide) ?_
            refine pV hC hK hl hP hD (m_isSignF l G h0 59 nw nk mhasKept nt (nI ktp) nr mrowMany mroundOf mroundFrom mouts nm mfromHour mtoHour ns (nI kf19110) (nI kt19111) so19112 0 (nI kc) mlines nl nc nF np ntr nb mbestCost nso nsi nit nsh nsf nss nrc mtraced mdealer mnumber mwhose msize misParted) si_X12_262 [3] sm_3 fm_3 nd_3 rfl rfl rfl rfl rfl (Nat.le_of_ble_eq_true rfl) rm_32_1_2 ⟨by first | exact Nat.le_of_ble_eq_true rfl | exact Nat.zero_le _, by first | exact Nat.le_of_ble_eq_true rfl | exact Nat.zero_le _⟩ gX12_lineAt_15.1 (Keqr ?_)
            refine vV (wr := [(nc, iA G 100 fnc), (nl, iA G 54 (upd (upd (upd (upd (upd (upd fnl ja 3) (ja + 1) r9107) (ja + 2) (-9)) (ja + 3) (-9)) (ja + 4) (nI kc)) (ja + 5) (nI kc))), (nF, sA G 5 (FCT K)), (nt, iA G 240 fnt)]) hC hK hl hP hD hS hA (m_needF l G h0 0 nw nk mhasKept nt (nI ktp) nr mrowMany mroundOf mroundFrom mouts nm mfromHour mtoHour ns (nI kf19110) (nI kt19111) so19112 0 (nI kc) mlines nl nc nF np ntr nb mbestCost nso nsi nit nsh nsf nss nrc mtraced mdealer mnumber mwhose msize misParted) si_X12_236 [3] [0, 1, 2, 4] sm_3 fm_3 nd_3 sm_0_1_2_4 nd_0_1_2_4 dj_3__0_1_2_4 rfl rfl rfl rfl rfl (Nat.le_of_ble_eq_true rfl) rm_32_4_2 ⟨Nat.le_of_ble_eq_true rfl, Nat.le_of_ble_eq_true rfl⟩ gX12_lineAt_15.2.1 (fun u9118 H locs hr9117 hP hD hS => ?_)
            refine Kpdr (ws := [(nc, iA G 100 fnc), (nl, iA G 54 (upd (upd (upd (upd (upd (upd fnl ja 3) (ja + 1) r9107) (ja + 2) (-9)) (ja + 3) (-9)) (ja + 4) (nI kc)) (ja + 5) (nI kc))), (nF, sA G 5 (FCT K)), (nt, iA G 240 fnt), (h0, oX12 nw nk mhasKept nt (nI ktp) nr mrowMany mroundOf mroundFrom mouts nm mfromHour mtoHour ns (nI kf19110) (nI kt19111) so19112 1 0 (nI kc) mlines nl nc nF np ntr nb mbestCost nso nsi nit nsh nsf nss nrc mtraced mdealer mnumber mwhose msize misParted)]) hP hD (fun hP hD => ?_)
            refine toQ hQ0 ?_
            exact RV hC hP hD hS [4, 3, 0, 1, 2] (1, kf19110, kt19111, so19112, kc, fnc, upd (upd (upd (upd (upd (upd fnl ja 3) (ja + 1) r9107) (ja + 2) (-9)) (ja + 3) (-9)) (ja + 4) (nI kc)) (ja + 5) (nI kc)) rfl rfl (by decide) (Or.inl rfl) gX12_lineAt_15.2.2
          · have tA9120 := hw9114_2.1
            have tB9120 := hw9114_2.2.1
            refine astN hC hK hP hD hS 1 (ws' := [(nc, iA G 100 fnc), (nl, iA G 54 (upd (upd fnl ja 3) (ja + 1) (nI v_9114))), (nF, sA G 5 (FCT K)), (h0, oX12 nw nk mhasKept nt (nI ktp) nr mrowMany mroundOf mroundFrom mouts nm mfromHour mtoHour ns (nI kf19110) (nI kt19111) so19112 0 0 (nI kc) mlines nl nc nF np ntr nb mbestCost nso nsi nit nsh nsf nss nrc mtraced mdealer mnumber mwhose msize misParted), (nt, iA G 240 fnt)]) rfl (k := (ja + 1)) (by omega) (Nat.le_of_ble_eq_true rfl) (rfl) gX12_lineAt_5.2.2.2.2.2.2.2.2.1 (fun H locs hP hD hS => ?_)
            refine lv_aload_n hx hb gX12_lineAt_5.2.2.2.2.2.2.2.2.2 rfl (lv_at1 hl) ?_
            refine gf_X12_32 hC rfl hK hP 3 rfl rfl gX12_lineAt_6.1 ?_
            refine lv_iload_n hx hb gX12_lineAt_6.2.1 rfl (lv_at2 hl) ?_
            refine lv_iconst (v := 2) hx hb gX12_lineAt_6.2.2.1 (by decide) ?_
            refine lv_iadd hx hb gX12_lineAt_6.2.2.2.1 ?_
            refine eqi (x1 := nI (ja + 2)) (nI_add ja 2) ?_
            refine lv_bipush (v := (-9)) hx hb gX12_lineAt_6.2.2.2.2.1 (by decide) ?_
            refine astN hC hK hP hD hS 1 (ws' := [(nc, iA G 100 fnc), (nl, iA G 54 (upd (upd (upd fnl ja 3) (ja + 1) (nI v_9114)) (ja + 2) (-9))), (nF, sA G 5 (FCT K)), (h0, oX12 nw nk mhasKept nt (nI ktp) nr mrowMany mroundOf mroundFrom mouts nm mfromHour mtoHour ns (nI kf19110) (nI kt19111) so19112 0 0 (nI kc) mlines nl nc nF np ntr nb mbestCost nso nsi nit nsh nsf nss nrc mtraced mdealer mnumber mwhose msize misParted), (nt, iA G 240 fnt)]) rfl (k := (ja + 2)) (by omega) (Nat.le_of_ble_eq_true rfl) (rfl) gX12_lineAt_6.2.2.2.2.2.1 (fun H locs hP hD hS => ?_)
            refine lv_aload_n hx hb gX12_lineAt_6.2.2.2.2.2.2.1 rfl (lv_at1 hl) ?_
            refine gf_X12_32 hC rfl hK hP 3 rfl rfl gX12_lineAt_6.2.2.2.2.2.2.2.1 ?_
            refine lv_iload_n hx hb gX12_lineAt_6.2.2.2.2.2.2.2.2.1 rfl (lv_at2 hl) ?_
            refine lv_iconst (v := 3) hx hb gX12_lineAt_6.2.2.2.2.2.2.2.2.2 (by decide) ?_
            refine lv_iadd hx hb gX12_lineAt_7.1 ?_
            refine eqi (x1 := nI (ja + 3)) (nI_add ja 3) ?_
            refine lv_bipush (v := (-9)) hx hb gX12_lineAt_7.2.1 (by decide) ?_
            refine astN hC hK hP hD hS 1 (ws' := [(nc, iA G 100 fnc), (nl, iA G 54 (upd (upd (upd (upd fnl ja 3) (ja + 1) (nI v_9114)) (ja + 2) (-9)) (ja + 3) (-9))), (nF, sA G 5 (FCT K)), (h0, oX12 nw nk mhasKept nt (nI ktp) nr mrowMany mroundOf mroundFrom mouts nm mfromHour mtoHour ns (nI kf19110) (nI kt19111) so19112 0 0 (nI kc) mlines nl nc nF np ntr nb mbestCost nso nsi nit nsh nsf nss nrc mtraced mdealer mnumber mwhose msize misParted), (nt, iA G 240 fnt)]) rfl (k := (ja + 3)) (by omega) (Nat.le_of_ble_eq_true rfl) (rfl) gX12_lineAt_7.2.2.1 (fun H locs hP hD hS => ?_)
            refine lv_iload_n hx hb gX12_lineAt_7.2.2.2.1 rfl (lv_at0 hl) ?_
            refine lv_if_ne (tgt := 190) hx hb gX12_lineAt_7.2.2.2.2.1 (by decide) (fun _ => ?_) (fun c9 => absurd c9 (by decide))
            refine lv_iload_n hx hb gX12_lineAt_10.2.2.2.1 rfl (lv_at0 hl) ?_
            refine lv_iconst (v := 2) hx hb gX12_lineAt_10.2.2.2.2.1 (by decide) ?_
            refine lv_icmp_ne (tgt := 221) hx hb gX12_lineAt_10.2.2.2.2.2.1 (by decide) (fun _ => ?_) (fun c9 => absurd c9 (by decide))
            refine lv_aload_n hx hb gX12_lineAt_12.1 rfl (lv_at1 hl) ?_
            refine gf_X12_32 hC rfl hK hP 3 rfl rfl gX12_lineAt_12.2.1 ?_
            refine lv_iload_n hx hb gX12_lineAt_12.2.2.1 rfl (lv_at2 hl) ?_
            refine lv_iconst (v := 4) hx hb gX12_lineAt_12.2.2.2.1 (by decide) ?_
            refine lv_iadd hx hb gX12_lineAt_12.2.2.2.2.1 ?_
            refine eqi (x1 := nI (ja + 4)) (nI_add ja 4) ?_
            refine lv_aload_n hx hb gX12_lineAt_12.2.2.2.2.2.1 rfl (lv_at1 hl) ?_
            refine gf_X12_240 hC rfl hK hP 3 rfl rfl gX12_lineAt_12.2.2.2.2.2.2.1 ?_
            refine astN hC hK hP hD hS 1 (ws' := [(nc, iA G 100 fnc), (nl, iA G 54 (upd (upd (upd (upd (upd fnl ja 3) (ja + 1) (nI v_9114)) (ja + 2) (-9)) (ja + 3) (-9)) (ja + 4) (nI kc))), (nF, sA G 5 (FCT K)), (h0, oX12 nw nk mhasKept nt (nI ktp) nr mrowMany mroundOf mroundFrom mouts nm mfromHour mtoHour ns (nI kf19110) (nI kt19111) so19112 0 0 (nI kc) mlines nl nc nF np ntr nb mbestCost nso nsi nit nsh nsf nss nrc mtraced mdealer mnumber mwhose msize misParted), (nt, iA G 240 fnt)]) rfl (k := (ja + 4)) (by omega) (Nat.le_of_ble_eq_true rfl) (rfl) gX12_lineAt_12.2.2.2.2.2.2.2.1 (fun H locs hP hD hS => ?_)
            refine lv_iload_n hx hb gX12_lineAt_12.2.2.2.2.2.2.2.2.1 rfl (lv_at0 hl) ?_
            refine lv_iconst (v := 3) hx hb gX12_lineAt_12.2.2.2.2.2.2.2.2.2 (by decide) ?_
            refine lv_icmp_eq (tgt := 256) hx hb gX12_lineAt_13.1 (by decide) (fun _ => ?_) (fun c9 => absurd (by decide) c9)
            refine lv_aload_n hx hb gX12_lineAt_13.2.2.2.2.2.2.2.2.2 rfl (lv_at1 hl) ?_
            refine gf_X12_32 hC rfl hK hP 3 rfl rfl gX12_lineAt_14.1 ?_
            refine lv_iload_n hx hb gX12_lineAt_14.2.1 rfl (lv_at2 hl) ?_
            refine lv_iconst (v := 5) hx hb gX12_lineAt_14.2.2.1 (by decide) ?_
            refine lv_iadd hx hb gX12_lineAt_14.2.2.2.1 ?_
            refine eqi (x1 := nI (ja + 5)) (nI_add ja 5) ?_
            refine lv_aload_n hx hb gX12_lineAt_14.2.2.2.2.1 rfl (lv_at1 hl) ?_
            refine gf_X12_240 hC rfl hK hP 3 rfl rfl gX12_lineAt_14.2.2.2.2.2.1 ?_
            refine astN hC hK hP hD hS 1 (ws' := [(nc, iA G 100 fnc), (nl, iA G 54 (upd (upd (upd (upd (upd (upd fnl ja 3) (ja + 1) (nI v_9114)) (ja + 2) (-9)) (ja + 3) (-9)) (ja + 4) (nI kc)) (ja + 5) (nI kc))), (nF, sA G 5 (FCT K)), (h0, oX12 nw nk mhasKept nt (nI ktp) nr mrowMany mroundOf mroundFrom mouts nm mfromHour mtoHour ns (nI kf19110) (nI kt19111) so19112 0 0 (nI kc) mlines nl nc nF np ntr nb mbestCost nso nsi nit nsh nsf nss nrc mtraced mdealer mnumber mwhose msize misParted), (nt, iA G 240 fnt)]) rfl (k := (ja + 5)) (by omega) (Nat.le_of_ble_eq_true rfl) (rfl) gX12_lineAt_14.2.2.2.2.2.2.1 (fun H locs hP hD hS => ?_)
            refine lv_aload_n hx hb gX12_lineAt_14.2.2.2.2.2.2.2.1 rfl (lv_at1 hl) ?_
            refine lv_aload_n hx hb gX12_lineAt_14.2.2.2.2.2.2.2.2.1 rfl (lv_at1 hl) ?_
            refine lv_bipush (v := 59) hx hb gX12_lineAt_14.2.2.2.2.2.2.2.2.2 (by decide) ?_
            refine pV hC hK hl hP hD (m_isSign0 l G h0 59 nw nk mhasKept nt ktp nr mrowMany mroundOf mroundFrom mouts nm mfromHour mtoHour ns kf19110 kt19111 so19112 0 (nI kc) mlines nl nc nF np ntr nb mbestCost nso nsi nit nsh nsf nss nrc mtraced mdealer mnumber mwhose msize misParted fnt (hw9114_2) (htp)) si_X12_262 [3, 4] sm_3_4 fm_3_4 nd_3_4 rfl rfl rfl rfl rfl (Nat.le_of_ble_eq_true rfl) rm_32_1_2 ⟨by first | exact Nat.le_of_ble_eq_true rfl | exact Nat.zero_le _, by first | exact Nat.le_of_ble_eq_true rfl | exact Nat.zero_le _⟩ gX12_lineAt_15.1 (Kors (Keqa fun a9122 => ?_) (Keqa fun a9122 => ?_))
            · have tI9123 := a9122.1
              refine vV (wr := [(nc, iA G 100 fnc), (nl, iA G 54 (upd (upd (upd (upd (upd (upd fnl ja 3) (ja + 1) (nI v_9114)) (ja + 2) (-9)) (ja + 3) (-9)) (ja + 4) (nI kc)) (ja + 5) (nI kc))), (nF, sA G 5 (FCT K))]) hC hK hl hP hD hS hA (m_need1 l G h0 nw nk mhasKept nt ktp nr mrowMany mroundOf mroundFrom mouts nm mfromHour mtoHour ns (nI kf19110) kt19111 so19112 0 (nI kc) mlines nl nc nF np ntr nb mbestCost nso nsi nit nsh nsf nss nrc mtraced mdealer mnumber mwhose msize misParted fnt (by omega) (htp)) si_X12_236 [3, 4] [0, 1, 2] sm_3_4 fm_3_4 nd_3_4 sm_0_1_2 nd_0_1_2 dj_3_4__0_1_2 rfl rfl rfl rfl rfl (Nat.le_of_ble_eq_true rfl) rm_32_4_2 ⟨Nat.le_of_ble_eq_true rfl, Nat.le_of_ble_eq_true rfl⟩ gX12_lineAt_15.2.1 (Ktu3 fun kf19126 kt19127 so19128 => ?_)
              intro H locs hr9124 hP hD hS
              try dsimp only at hr9124
              refine Kpdr (ws := [(nc, iA G 100 fnc), (nl, iA G 54 (upd (upd (upd (upd (upd (upd fnl ja 3) (ja + 1) (nI v_9114)) (ja + 2) (-9)) (ja + 3) (-9)) (ja + 4) (nI kc)) (ja + 5) (nI kc))), (nF, sA G 5 (FCT K)), (h0, oX12 nw nk mhasKept nt (nI ktp) nr mrowMany mroundOf mroundFrom mouts nm mfromHour mtoHour ns (nI kf19126) (nI kt19127) so19128 0 0 (nI kc) mlines nl nc nF np ntr nb mbestCost nso nsi nit nsh nsf nss nrc mtraced mdealer mnumber mwhose msize misParted), (nt, iA G 240 fnt)]) hP hD (fun hP hD => ?_)
              have hw9130_0 := hr9124.1
              have hw9130_1 := hr9124.2
              have tA9132 := hw9130_1.1
              have tB9132 := hw9130_1.2.1
              refine toQ hQ0 ?_
              exact RV hC hP hD hS [3, 4, 0, 1, 2] (0, kf19126, kt19127, so19128, kc, fnc, upd (upd (upd (upd (upd (upd fnl ja 3) (ja + 1) (nI v_9114)) (ja + 2) (-9)) (ja + 3) (-9)) (ja + 4) (nI kc)) (ja + 5) (nI kc)) rfl rfl (by decide) (Or.inr ⟨rfl, hw9130_1, by (try dsimp only); omega, by (try dsimp only); omega, fun i hi => (upd_ne (by omega)).trans ((upd_ne (by omega)).trans ((upd_ne (by omega)).trans ((upd_ne (by omega)).trans ((upd_ne (by omega)).trans ((upd_ne (by omega)).trans (rfl)))))), fun _ _ => rfl, ⟨3, by decide, (upd_ne (by omega)).trans ((upd_ne (by omega)).trans ((upd_ne (by omega)).trans ((upd_ne (by omega)).trans ((upd_ne (by omega)).trans (upd_eq (by omega)))))), fun h9 => absurd h9 (by decide), fun h9 => absurd h9 (by decide)⟩, kc, kc, (upd_ne (by omega)).trans (upd_eq (by omega)), upd_eq (by omega), by (try dsimp only); omega, by (try dsimp only); omega, WFC.zero⟩) gX12_lineAt_15.2.2
            · refine vV (wr := [(nc, iA G 100 fnc), (nl, iA G 54 (upd (upd (upd (upd (upd (upd fnl ja 3) (ja + 1) (nI v_9114)) (ja + 2) (-9)) (ja + 3) (-9)) (ja + 4) (nI kc)) (ja + 5) (nI kc))), (nF, sA G 5 (FCT K)), (nt, iA G 240 fnt)]) hC hK hl hP hD hS hA (m_need0 l G h0 nw nk mhasKept nt (nI ktp) nr mrowMany mroundOf mroundFrom mouts nm mfromHour mtoHour ns (nI kf19110) (nI kt19111) so19112 0 (nI kc) mlines nl nc nF np ntr nb mbestCost nso nsi nit nsh nsf nss nrc mtraced mdealer mnumber mwhose msize misParted) si_X12_236 [3] [0, 1, 2, 4] sm_3 fm_3 nd_3 sm_0_1_2_4 nd_0_1_2_4 dj_3__0_1_2_4 rfl rfl rfl rfl rfl (Nat.le_of_ble_eq_true rfl) rm_32_4_2 ⟨Nat.le_of_ble_eq_true rfl, Nat.le_of_ble_eq_true rfl⟩ gX12_lineAt_15.2.1 (fun u9134 H locs hr9133 hP hD hS => ?_)
              refine Kpdr (ws := [(nc, iA G 100 fnc), (nl, iA G 54 (upd (upd (upd (upd (upd (upd fnl ja 3) (ja + 1) (nI v_9114)) (ja + 2) (-9)) (ja + 3) (-9)) (ja + 4) (nI kc)) (ja + 5) (nI kc))), (nF, sA G 5 (FCT K)), (nt, iA G 240 fnt), (h0, oX12 nw nk mhasKept nt (nI ktp) nr mrowMany mroundOf mroundFrom mouts nm mfromHour mtoHour ns (nI kf19110) (nI kt19111) so19112 1 0 (nI kc) mlines nl nc nF np ntr nb mbestCost nso nsi nit nsh nsf nss nrc mtraced mdealer mnumber mwhose msize misParted)]) hP hD (fun hP hD => ?_)
              refine toQ hQ0 ?_
              exact RV hC hP hD hS [4, 3, 0, 1, 2] (1, kf19110, kt19111, so19112, kc, fnc, upd (upd (upd (upd (upd (upd fnl ja 3) (ja + 1) (nI v_9114)) (ja + 2) (-9)) (ja + 3) (-9)) (ja + 4) (nI kc)) (ja + 5) (nI kc)) rfl rfl (by decide) (Or.inl rfl) gX12_lineAt_15.2.2
        · refine lv_if_eq (tgt := 56) hx hb gX12_lineAt_2.2.1 (by decide) (fun _ => ?_) (fun c9 => absurd (by decide) c9)
          refine lv_iconst (v := (-1)) hx hb gX12_lineAt_2.2.2.2.2.1 (by decide) ?_
          refine lv_istore_n (lv' := [(2, .int (-1)), (0, .ref h0), (1, .int (nI ja))]) hx hb gX12_lineAt_2.2.2.2.2.2.1 rfl hl (by decide) rfl (fun ls hl => ?_)
          refine lv_aload_n hx hb gX12_lineAt_2.2.2.2.2.2.2.1 rfl (lv_at1 hl) ?_
          refine lv_iload_n hx hb gX12_lineAt_2.2.2.2.2.2.2.2.1 rfl (lv_at0 hl) ?_
          refine lv_if_lt (tgt := 67) hx hb gX12_lineAt_2.2.2.2.2.2.2.2.2.1 (by decide) (fun _ => ?_) (fun c9 => absurd (by decide) c9)
          refine lv_iconst (v := 0) hx hb gX12_lineAt_3.2.1 (by decide) ?_
          refine vV (wr := [(nt, iA G 240 fnt), (nc, iA G 100 fnc), (nl, iA G 54 fnl), (nF, sA G 5 (FCT K))]) hC hK hl hP hD hS hA (m_need0 l G h0 nw nk mhasKept nt (nI ktp) nr mrowMany mroundOf mroundFrom mouts nm mfromHour mtoHour ns (nI kf) (nI kt) so 0 (nI kc) mlines nl nc nF np ntr nb mbestCost nso nsi nit nsh nsf nss nrc mtraced mdealer mnumber mwhose msize misParted) si_X12_236 [0] [1, 2, 3, 4] sm_0 fm_0 nd_0 sm_1_2_3_4 nd_1_2_3_4 dj_0__1_2_3_4 rfl rfl rfl rfl rfl (Nat.le_of_ble_eq_true rfl) rm_32_4_2 ⟨Nat.le_of_ble_eq_true rfl, Nat.le_of_ble_eq_true rfl⟩ gX12_lineAt_3.2.2.1 (fun u9136 H locs hr9135 hP hD hS => ?_)
          refine Kpdr (ws := [(nt, iA G 240 fnt), (nc, iA G 100 fnc), (nl, iA G 54 fnl), (nF, sA G 5 (FCT K)), (h0, oX12 nw nk mhasKept nt (nI ktp) nr mrowMany mroundOf mroundFrom mouts nm mfromHour mtoHour ns (nI kf) (nI kt) so 1 0 (nI kc) mlines nl nc nF np ntr nb mbestCost nso nsi nit nsh nsf nss nrc mtraced mdealer mnumber mwhose msize misParted)]) hP hD (fun hP hD => ?_)
          refine lv_aload_n hx hb gX12_lineAt_3.2.2.2.1 rfl (lv_at1 hl) ?_
          refine gf_X12_32 hC rfl hK hP 4 rfl rfl gX12_lineAt_3.2.2.2.2.1 ?_
          refine lv_iload_n hx hb gX12_lineAt_3.2.2.2.2.2.1 rfl (lv_at2 hl) ?_
          refine lv_iload_n hx hb gX12_lineAt_3.2.2.2.2.2.2.1 rfl (lv_at0 hl) ?_
          refine astN hC hK hP hD hS 2 (ws' := [(nt, iA G 240 fnt), (nc, iA G 100 fnc), (nl, iA G 54 (upd fnl ja (-1))), (nF, sA G 5 (FCT K)), (h0, oX12 nw nk mhasKept nt (nI ktp) nr mrowMany mroundOf mroundFrom mouts nm mfromHour mtoHour ns (nI kf) (nI kt) so 1 0 (nI kc) mlines nl nc nF np ntr nb mbestCost nso nsi nit nsh nsf nss nrc mtraced mdealer mnumber mwhose msize misParted)]) rfl (k := ja) (by omega) (Nat.le_of_ble_eq_true rfl) (rfl) gX12_lineAt_3.2.2.2.2.2.2.2.1 (fun H locs hP hD hS => ?_)
          refine lv_aload_n hx hb gX12_lineAt_3.2.2.2.2.2.2.2.2.1 rfl (lv_at1 hl) ?_
          refine gf_X12_32 hC rfl hK hP 4 rfl rfl gX12_lineAt_3.2.2.2.2.2.2.2.2.2 ?_
          refine lv_iload_n hx hb gX12_lineAt_4.1 rfl (lv_at2 hl) ?_
          refine lv_iconst (v := 1) hx hb gX12_lineAt_4.2.1 (by decide) ?_
          refine lv_iadd hx hb gX12_lineAt_4.2.2.1 ?_
          refine eqi (x1 := nI (ja + 1)) (nI_add ja 1) ?_
          refine lv_aload_n hx hb gX12_lineAt_4.2.2.2.1 rfl (lv_at1 hl) ?_
          refine lv_iload_n hx hb gX12_lineAt_4.2.2.2.2.1 rfl (lv_at0 hl) ?_
          refine lv_if_eq (tgt := 95) hx hb gX12_lineAt_4.2.2.2.2.2.1 (by decide) (fun c9 => absurd c9 (by decide)) (fun _ => ?_)
          refine lv_iload_n hx hb gX12_lineAt_4.2.2.2.2.2.2.1 rfl (lv_at0 hl) ?_
          refine lv_iconst (v := 1) hx hb gX12_lineAt_4.2.2.2.2.2.2.2.1 (by decide) ?_
          refine lv_icmp_ne (tgt := 100) hx hb gX12_lineAt_4.2.2.2.2.2.2.2.2.1 (by decide) (fun _ => ?_) (fun c9 => absurd c9 (by decide))
          refine lv_iload_n hx hb gX12_lineAt_5.2.1 rfl (lv_at0 hl) ?_
          refine lv_iconst (v := 2) hx hb gX12_lineAt_5.2.2.1 (by decide) ?_
          refine lv_icmp_ne (tgt := 110) hx hb gX12_lineAt_5.2.2.2.1 (by decide) (fun _ => ?_) (fun c9 => absurd c9 (by decide))
          refine lv_bipush (v := 9) hx hb gX12_lineAt_5.2.2.2.2.2.2.1 (by decide) ?_
          refine iV (wr := [(nt, iA G 240 fnt), (nc, iA G 100 fnc), (nl, iA G 54 (upd fnl ja (-1))), (nF, sA G 5 (FCT K))]) hC hK hl hP hD hS hA (m_numberF l G h0 9 nw nk mhasKept nt (nI ktp) nr mrowMany mroundOf mroundFrom mouts nm mfromHour mtoHour ns (nI kf) (nI kt) so 0 (nI kc) mlines nl nc nF np ntr nb mbestCost nso nsi nit nsh nsf nss nrc mtraced mdealer mnumber mwhose msize misParted) si_X12_271 [4] [0, 1, 2, 3] sm_4 fm_4 nd_4 sm_0_1_2_3 nd_0_1_2_3 dj_4__0_1_2_3 rfl rfl rfl rfl rfl (Nat.le_of_ble_eq_true rfl) rm_32_5_5 ⟨Nat.le_of_ble_eq_true rfl, Nat.le_of_ble_eq_true rfl⟩ gX12_lineAt_5.2.2.2.2.2.2.2.1 (fun r9137 u9138 H locs hr9137 hP hD hS => ?_)
          refine Kpdr (ws := [(nt, iA G 240 fnt), (nc, iA G 100 fnc), (nl, iA G 54 (upd fnl ja (-1))), (nF, sA G 5 (FCT K)), (h0, oX12 nw nk mhasKept nt (nI ktp) nr mrowMany mroundOf mroundFrom mouts nm mfromHour mtoHour ns (nI kf) (nI kt) so 1 0 (nI kc) mlines nl nc nF np ntr nb mbestCost nso nsi nit nsh nsf nss nrc mtraced mdealer mnumber mwhose msize misParted)]) hP hD (fun hP hD => ?_)
          obtain rfl := hr9137
          refine astN hC hK hP hD hS 2 (ws' := [(nt, iA G 240 fnt), (nc, iA G 100 fnc), (nl, iA G 54 (upd (upd fnl ja (-1)) (ja + 1) 0)), (nF, sA G 5 (FCT K)), (h0, oX12 nw nk mhasKept nt (nI ktp) nr mrowMany mroundOf mroundFrom mouts nm mfromHour mtoHour ns (nI kf) (nI kt) so 1 0 (nI kc) mlines nl nc nF np ntr nb mbestCost nso nsi nit nsh nsf nss nrc mtraced mdealer mnumber mwhose msize misParted)]) rfl (k := (ja + 1)) (by omega) (Nat.le_of_ble_eq_true rfl) (rfl) gX12_lineAt_5.2.2.2.2.2.2.2.2.1 (fun H locs hP hD hS => ?_)
          refine lv_aload_n hx hb gX12_lineAt_5.2.2.2.2.2.2.2.2.2 rfl (lv_at1 hl) ?_
          refine gf_X12_32 hC rfl hK hP 4 rfl rfl gX12_lineAt_6.1 ?_
          refine lv_iload_n hx hb gX12_lineAt_6.2.1 rfl (lv_at2 hl) ?_
          refine lv_iconst (v := 2) hx hb gX12_lineAt_6.2.2.1 (by decide) ?_
          refine lv_iadd hx hb gX12_lineAt_6.2.2.2.1 ?_
          refine eqi (x1 := nI (ja + 2)) (nI_add ja 2) ?_
          refine lv_bipush (v := (-9)) hx hb gX12_lineAt_6.2.2.2.2.1 (by decide) ?_
          refine astN hC hK hP hD hS 2 (ws' := [(nt, iA G 240 fnt), (nc, iA G 100 fnc), (nl, iA G 54 (upd (upd (upd fnl ja (-1)) (ja + 1) 0) (ja + 2) (-9))), (nF, sA G 5 (FCT K)), (h0, oX12 nw nk mhasKept nt (nI ktp) nr mrowMany mroundOf mroundFrom mouts nm mfromHour mtoHour ns (nI kf) (nI kt) so 1 0 (nI kc) mlines nl nc nF np ntr nb mbestCost nso nsi nit nsh nsf nss nrc mtraced mdealer mnumber mwhose msize misParted)]) rfl (k := (ja + 2)) (by omega) (Nat.le_of_ble_eq_true rfl) (rfl) gX12_lineAt_6.2.2.2.2.2.1 (fun H locs hP hD hS => ?_)
          refine lv_aload_n hx hb gX12_lineAt_6.2.2.2.2.2.2.1 rfl (lv_at1 hl) ?_
          refine gf_X12_32 hC rfl hK hP 4 rfl rfl gX12_lineAt_6.2.2.2.2.2.2.2.1 ?_
          refine lv_iload_n hx hb gX12_lineAt_6.2.2.2.2.2.2.2.2.1 rfl (lv_at2 hl) ?_
          refine lv_iconst (v := 3) hx hb gX12_lineAt_6.2.2.2.2.2.2.2.2.2 (by decide) ?_
          refine lv_iadd hx hb gX12_lineAt_7.1 ?_
          refine eqi (x1 := nI (ja + 3)) (nI_add ja 3) ?_
          refine lv_bipush (v := (-9)) hx hb gX12_lineAt_7.2.1 (by decide) ?_
          refine astN hC hK hP hD hS 2 (ws' := [(nt, iA G 240 fnt), (nc, iA G 100 fnc), (nl, iA G 54 (upd (upd (upd (upd fnl ja (-1)) (ja + 1) 0) (ja + 2) (-9)) (ja + 3) (-9))), (nF, sA G 5 (FCT K)), (h0, oX12 nw nk mhasKept nt (nI ktp) nr mrowMany mroundOf mroundFrom mouts nm mfromHour mtoHour ns (nI kf) (nI kt) so 1 0 (nI kc) mlines nl nc nF np ntr nb mbestCost nso nsi nit nsh nsf nss nrc mtraced mdealer mnumber mwhose msize misParted)]) rfl (k := (ja + 3)) (by omega) (Nat.le_of_ble_eq_true rfl) (rfl) gX12_lineAt_7.2.2.1 (fun H locs hP hD hS => ?_)
          refine lv_iload_n hx hb gX12_lineAt_7.2.2.2.1 rfl (lv_at0 hl) ?_
          refine lv_if_ne (tgt := 190) hx hb gX12_lineAt_7.2.2.2.2.1 (by decide) (fun _ => ?_) (fun c9 => absurd c9 (by decide))
          refine lv_iload_n hx hb gX12_lineAt_10.2.2.2.1 rfl (lv_at0 hl) ?_
          refine lv_iconst (v := 2) hx hb gX12_lineAt_10.2.2.2.2.1 (by decide) ?_
          refine lv_icmp_ne (tgt := 221) hx hb gX12_lineAt_10.2.2.2.2.2.1 (by decide) (fun _ => ?_) (fun c9 => absurd c9 (by decide))
          refine lv_aload_n hx hb gX12_lineAt_12.1 rfl (lv_at1 hl) ?_
          refine gf_X12_32 hC rfl hK hP 4 rfl rfl gX12_lineAt_12.2.1 ?_
          refine lv_iload_n hx hb gX12_lineAt_12.2.2.1 rfl (lv_at2 hl) ?_
          refine lv_iconst (v := 4) hx hb gX12_lineAt_12.2.2.2.1 (by decide) ?_
          refine lv_iadd hx hb gX12_lineAt_12.2.2.2.2.1 ?_
          refine eqi (x1 := nI (ja + 4)) (nI_add ja 4) ?_
          refine lv_aload_n hx hb gX12_lineAt_12.2.2.2.2.2.1 rfl (lv_at1 hl) ?_
          refine gf_X12_240 hC rfl hK hP 4 rfl rfl gX12_lineAt_12.2.2.2.2.2.2.1 ?_
          refine astN hC hK hP hD hS 2 (ws' := [(nt, iA G 240 fnt), (nc, iA G 100 fnc), (nl, iA G 54 (upd (upd (upd (upd (upd fnl ja (-1)) (ja + 1) 0) (ja + 2) (-9)) (ja + 3) (-9)) (ja + 4) (nI kc))), (nF, sA G 5 (FCT K)), (h0, oX12 nw nk mhasKept nt (nI ktp) nr mrowMany mroundOf mroundFrom mouts nm mfromHour mtoHour ns (nI kf) (nI kt) so 1 0 (nI kc) mlines nl nc nF np ntr nb mbestCost nso nsi nit nsh nsf nss nrc mtraced mdealer mnumber mwhose msize misParted)]) rfl (k := (ja + 4)) (by omega) (Nat.le_of_ble_eq_true rfl) (rfl) gX12_lineAt_12.2.2.2.2.2.2.2.1 (fun H locs hP hD hS => ?_)
          refine lv_iload_n hx hb gX12_lineAt_12.2.2.2.2.2.2.2.2.1 rfl (lv_at0 hl) ?_
          refine lv_iconst (v := 3) hx hb gX12_lineAt_12.2.2.2.2.2.2.2.2.2 (by decide) ?_
          refine lv_icmp_eq (tgt := 256) hx hb gX12_lineAt_13.1 (by decide) (fun c9 => absurd c9 (by decide)) (fun _ => ?_)
          refine lv_aload_n hx hb gX12_lineAt_13.2.1 rfl (lv_at1 hl) ?_
          refine va_ldcSw (index := 287) (tx := "if") hx hb hown (hO.2.2 0 (by decide)) gX12_lineAt_13.2.2.1 ?_
          refine pVo hO hS hC hK hl hP hD (m_isNameF l G K 0 h0 nw nk mhasKept nt (nI ktp) nr mrowMany mroundOf mroundFrom mouts nm mfromHour mtoHour ns (nI kf) (nI kt) so 0 (nI kc) mlines nl nc nF np ntr nb mbestCost nso nsi nit nsh nsf nss nrc mtraced mdealer mnumber mwhose msize misParted ((by decide))) si_X12_248 [4] sm_4 fm_4 nd_4 rfl rfl rfl rfl rfl (Nat.le_of_ble_eq_true rfl) rm_32_5_4 ⟨by first | exact Nat.le_of_ble_eq_true rfl | exact Nat.zero_le _, by first | exact Nat.le_of_ble_eq_true rfl | exact Nat.zero_le _⟩ gX12_lineAt_13.2.2.2.1 (Keqr ?_)
          refine lv_if_eq (tgt := 256) hx hb gX12_lineAt_13.2.2.2.2.1 (by decide) (fun _ => ?_) (fun c9 => absurd (by decide) c9)
          refine lv_aload_n hx hb gX12_lineAt_13.2.2.2.2.2.2.2.2.2 rfl (lv_at1 hl) ?_
          refine gf_X12_32 hC rfl hK hP 4 rfl rfl gX12_lineAt_14.1 ?_
          refine lv_iload_n hx hb gX12_lineAt_14.2.1 rfl (lv_at2 hl) ?_
          refine lv_iconst (v := 5) hx hb gX12_lineAt_14.2.2.1 (by decide) ?_
          refine lv_iadd hx hb gX12_lineAt_14.2.2.2.1 ?_
          refine eqi (x1 := nI (ja + 5)) (nI_add ja 5) ?_
          refine lv_aload_n hx hb gX12_lineAt_14.2.2.2.2.1 rfl (lv_at1 hl) ?_
          refine gf_X12_240 hC rfl hK hP 4 rfl rfl gX12_lineAt_14.2.2.2.2.2.1 ?_
          refine astN hC hK hP hD hS 2 (ws' := [(nt, iA G 240 fnt), (nc, iA G 100 fnc), (nl, iA G 54 (upd (upd (upd (upd (upd (upd fnl ja (-1)) (ja + 1) 0) (ja + 2) (-9)) (ja + 3) (-9)) (ja + 4) (nI kc)) (ja + 5) (nI kc))), (nF, sA G 5 (FCT K)), (h0, oX12 nw nk mhasKept nt (nI ktp) nr mrowMany mroundOf mroundFrom mouts nm mfromHour mtoHour ns (nI kf) (nI kt) so 1 0 (nI kc) mlines nl nc nF np ntr nb mbestCost nso nsi nit nsh nsf nss nrc mtraced mdealer mnumber mwhose msize misParted)]) rfl (k := (ja + 5)) (by omega) (Nat.le_of_ble_eq_true rfl) (rfl) gX12_lineAt_14.2.2.2.2.2.2.1 (fun H locs hP hD hS => ?_)
          refine lv_aload_n hx hb gX12_lineAt_14.2.2.2.2.2.2.2.1 rfl (lv_at1 hl) ?_
          refine lv_aload_n hx hb gX12_lineAt_14.2.2.2.2.2.2.2.2.1 rfl (lv_at1 hl) ?_
          refine lv_bipush (v := 59) hx hb gX12_lineAt_14.2.2.2.2.2.2.2.2.2 (by decide) ?_
          refine pV hC hK hl hP hD (m_isSignF l G h0 59 nw nk mhasKept nt (nI ktp) nr mrowMany mroundOf mroundFrom mouts nm mfromHour mtoHour ns (nI kf) (nI kt) so 0 (nI kc) mlines nl nc nF np ntr nb mbestCost nso nsi nit nsh nsf nss nrc mtraced mdealer mnumber mwhose msize misParted) si_X12_262 [4] sm_4 fm_4 nd_4 rfl rfl rfl rfl rfl (Nat.le_of_ble_eq_true rfl) rm_32_1_2 ⟨by first | exact Nat.le_of_ble_eq_true rfl | exact Nat.zero_le _, by first | exact Nat.le_of_ble_eq_true rfl | exact Nat.zero_le _⟩ gX12_lineAt_15.1 (Keqr ?_)
          refine vV (wr := [(nt, iA G 240 fnt), (nc, iA G 100 fnc), (nl, iA G 54 (upd (upd (upd (upd (upd (upd fnl ja (-1)) (ja + 1) 0) (ja + 2) (-9)) (ja + 3) (-9)) (ja + 4) (nI kc)) (ja + 5) (nI kc))), (nF, sA G 5 (FCT K))]) hC hK hl hP hD hS hA (m_needF l G h0 0 nw nk mhasKept nt (nI ktp) nr mrowMany mroundOf mroundFrom mouts nm mfromHour mtoHour ns (nI kf) (nI kt) so 0 (nI kc) mlines nl nc nF np ntr nb mbestCost nso nsi nit nsh nsf nss nrc mtraced mdealer mnumber mwhose msize misParted) si_X12_236 [4] [0, 1, 2, 3] sm_4 fm_4 nd_4 sm_0_1_2_3 nd_0_1_2_3 dj_4__0_1_2_3 rfl rfl rfl rfl rfl (Nat.le_of_ble_eq_true rfl) rm_32_4_2 ⟨Nat.le_of_ble_eq_true rfl, Nat.le_of_ble_eq_true rfl⟩ gX12_lineAt_15.2.1 (fun u9145 H locs hr9144 hP hD hS => ?_)
          refine Kpdr (ws := [(nt, iA G 240 fnt), (nc, iA G 100 fnc), (nl, iA G 54 (upd (upd (upd (upd (upd (upd fnl ja (-1)) (ja + 1) 0) (ja + 2) (-9)) (ja + 3) (-9)) (ja + 4) (nI kc)) (ja + 5) (nI kc))), (nF, sA G 5 (FCT K)), (h0, oX12 nw nk mhasKept nt (nI ktp) nr mrowMany mroundOf mroundFrom mouts nm mfromHour mtoHour ns (nI kf) (nI kt) so 1 0 (nI kc) mlines nl nc nF np ntr nb mbestCost nso nsi nit nsh nsf nss nrc mtraced mdealer mnumber mwhose msize misParted)]) hP hD (fun hP hD => ?_)
          refine toQ hQ0 ?_
          exact RV hC hP hD hS [4, 0, 1, 2, 3] (1, kf, kt, so, kc, fnc, upd (upd (upd (upd (upd (upd fnl ja (-1)) (ja + 1) 0) (ja + 2) (-9)) (ja + 3) (-9)) (ja + 4) (nI kc)) (ja + 5) (nI kc)) rfl rfl (by decide) (Or.inl rfl) gX12_lineAt_15.2.2
def K_w_read (l : Launch) (G : GG) (K : OO) (h0 : Nat) (nw : Nat) (nk : Nat) (mhasKept : Int32) (nt : Nat) (ktp : Nat) (nr : Nat) (mrowMany : Int32) (mroundOf : Int32) (mroundFrom : Int32) (mouts : Int32) (nm : Nat) (mfromHour : Int32) (mtoHour : Int32) (ns : Nat) (mfrom : Int32) (mto : Int32) (msort : Int32) (misFault : Int32) (mdeep : Int32) (mcoded : Int32) (mlines : Int32) (nl : Nat) (nc : Nat) (nF : Nat) (np : Nat) (ntr : Nat) (nb : Nat) (mbestCost : Int32) (nso : Nat) (nsi : Nat) (nit : Nat) (nsh : Nat) (nsf : Nat) (nss : Nat) (nrc : Nat) (mtraced : Int32) (mdealer : Int32) (mnumber : Int32) (mwhose : Int32) (msize : Int32) (misParted : Int32) (fnw : Nat → Int32) (fnt : Nat → Int32) (fnc : Nat → Int32) (fnl : Nat → Int32) : Prop := MIo l G K yX12_read cX12_read 5 (some .int) 33 0 0 [.ref h0] [(h0, oX12 nw nk mhasKept nt (nI ktp) nr mrowMany mroundOf mroundFrom mouts nm mfromHour mtoHour ns mfrom mto msort misFault mdeep mcoded mlines nl nc nF np ntr nb mbestCost nso nsi nit nsh nsf nss nrc mtraced mdealer mnumber mwhose msize misParted), (nw, iA G 1662 fnw), (nt, iA G 240 fnt), (nc, iA G 100 fnc), (nl, iA G 54 fnl), (nF, sA G 5 (FCT K))] (fun (r : Int32) (u : Int32 × Nat × Nat × Int32 × Nat × Nat × (Nat → Int32) × (Nat → Int32) × (Nat → Int32)) => (True) ∧ (NI u.2.2.2.2.2.2.1 ∧ VI u.2.2.2.2.2.2.1 ∧ SCX u.2.2.2.2.2.2.1 (fnw 0) (fnw 1) (fnw 2) (fnw 3) (fnw 4) (fnw 5) (fnw 6) (fnw 8) (fnw 9) (fnw 10) (fnw 11) ∧ FRO u.2.2.2.2.2.2.1 fnw 176 1424)) (fun u : Int32 × Nat × Nat × Int32 × Nat × Nat × (Nat → Int32) × (Nat → Int32) × (Nat → Int32) => [(h0, oX12 nw nk mhasKept nt 0 nr mrowMany mroundOf mroundFrom mouts nm mfromHour mtoHour ns (nI u.2.1) (nI u.2.2.1) u.2.2.2.1 u.1 0 (nI u.2.2.2.2.1) (nI u.2.2.2.2.2.1) nl nc nF np ntr nb mbestCost nso nsi nit nsh nsf nss nrc mtraced mdealer mnumber mwhose msize misParted), (nw, iA G 1662 u.2.2.2.2.2.2.1), (nt, iA G 240 fnt), (nc, iA G 100 u.2.2.2.2.2.2.2.1), (nl, iA G 54 u.2.2.2.2.2.2.2.2), (nF, sA G 5 (FCT K))])
set_option maxHeartbeats 4000000 in
set_option maxRecDepth 100000 in
theorem w_read (l : Launch) (G : GG) (K : OO) (h0 : Nat) (nw : Nat) (nk : Nat) (mhasKept : Int32) (nt : Nat) (ktp : Nat) (nr : Nat) (mrowMany : Int32) (mroundOf : Int32) (mroundFrom : Int32) (mouts : Int32) (nm : Nat) (mfromHour : Int32) (mtoHour : Int32) (ns : Nat) (mfrom : Int32) (mto : Int32) (msort : Int32) (misFault : Int32) (mdeep : Int32) (mcoded : Int32) (mlines : Int32) (nl : Nat) (nc : Nat) (nF : Nat) (np : Nat) (ntr : Nat) (nb : Nat) (mbestCost : Int32) (nso : Nat) (nsi : Nat) (nit : Nat) (nsh : Nat) (nsf : Nat) (nss : Nat) (nrc : Nat) (mtraced : Int32) (mdealer : Int32) (mnumber : Int32) (mwhose : Int32) (msize : Int32) (misParted : Int32) (fnw : Nat → Int32) (fnt : Nat → Int32) (fnc : Nat → Int32) (fnl : Nat → Int32) (hN : NI fnw) (hV : VI fnw) (htp : ktp ≤ 240) : K_w_read l G K h0 nw nk mhasKept nt ktp nr mrowMany mroundOf mroundFrom mouts nm mfromHour mtoHour ns mfrom mto msort misFault mdeep mcoded mlines nl nc nF np ntr nb mbestCost nso nsi nit nsh nsf nss nrc mtraced mdealer mnumber mwhose msize misParted fnw fnt fnc fnl := by
  refine MIo.start (by decide +kernel) (Nat.le_of_ble_eq_true rfl) ?_
  intro p e s m below meth c A ls hC hK hP hD hS hA hl hO
  refine absQ (fun Q0 hQ0 => ?_)
  have hl : lv_has ls 5 [(0, .ref h0)] := hl
  refine Kan8 hC (fun hx hb hr hml hB hown hlocks hnm => ?_)
  obtain ⟨k7, hk7, ek7⟩ := NI.nat hN (i := 7) (B := 8) (by decide +kernel) (by decide)
  refine lv_aload_n hx hb gX12_read_0.1 rfl (lv_at0 hl) ?_
  refine lv_iconst (v := 0) hx hb gX12_read_0.2.1 (by decide) ?_
  refine pf_X12_211 hC rfl hK hP hD hS 0 (ws' := [(h0, oX12 nw nk mhasKept nt (nI ktp) nr mrowMany mroundOf mroundFrom mouts nm mfromHour mtoHour ns mfrom 0 msort misFault mdeep mcoded mlines nl nc nF np ntr nb mbestCost nso nsi nit nsh nsf nss nrc mtraced mdealer mnumber mwhose msize misParted), (nw, iA G 1662 fnw), (nt, iA G 240 fnt), (nc, iA G 100 fnc), (nl, iA G 54 fnl), (nF, sA G 5 (FCT K))]) rfl (Nat.le_of_ble_eq_true rfl) rfl rfl rfl gX12_read_0.2.2.1 (fun H locs hP hD hS => ?_)
  refine lv_aload_n hx hb gX12_read_0.2.2.2.1 rfl (lv_at0 hl) ?_
  refine lv_iconst (v := 0) hx hb gX12_read_0.2.2.2.2.1 (by decide) ?_
  refine pf_X12_222 hC rfl hK hP hD hS 0 (ws' := [(h0, oX12 nw nk mhasKept nt (nI ktp) nr mrowMany mroundOf mroundFrom mouts nm mfromHour mtoHour ns mfrom 0 msort 0 mdeep mcoded mlines nl nc nF np ntr nb mbestCost nso nsi nit nsh nsf nss nrc mtraced mdealer mnumber mwhose msize misParted), (nw, iA G 1662 fnw), (nt, iA G 240 fnt), (nc, iA G 100 fnc), (nl, iA G 54 fnl), (nF, sA G 5 (FCT K))]) rfl (Nat.le_of_ble_eq_true rfl) rfl (by decide +kernel) (by decide +kernel) gX12_read_0.2.2.2.2.2.1 (fun H locs hP hD hS => ?_)
  refine lv_aload_n hx hb gX12_read_0.2.2.2.2.2.2.1 rfl (lv_at0 hl) ?_
  refine lv_iconst (v := 0) hx hb gX12_read_0.2.2.2.2.2.2.2.1 (by decide) ?_
  refine pf_X12_265 hC rfl hK hP hD hS 0 (ws' := [(h0, oX12 nw nk mhasKept nt (nI ktp) nr mrowMany mroundOf mroundFrom mouts nm mfromHour mtoHour ns mfrom 0 msort 0 0 mcoded mlines nl nc nF np ntr nb mbestCost nso nsi nit nsh nsf nss nrc mtraced mdealer mnumber mwhose msize misParted), (nw, iA G 1662 fnw), (nt, iA G 240 fnt), (nc, iA G 100 fnc), (nl, iA G 54 fnl), (nF, sA G 5 (FCT K))]) rfl (Nat.le_of_ble_eq_true rfl) rfl rfl rfl gX12_read_0.2.2.2.2.2.2.2.2.1 (fun H locs hP hD hS => ?_)
  refine lv_aload_n hx hb gX12_read_0.2.2.2.2.2.2.2.2.2 rfl (lv_at0 hl) ?_
  refine lv_iconst (v := 0) hx hb gX12_read_1.1 (by decide) ?_
  refine pf_X12_240 hC rfl hK hP hD hS 0 (ws' := [(h0, oX12 nw nk mhasKept nt (nI ktp) nr mrowMany mroundOf mroundFrom mouts nm mfromHour mtoHour ns mfrom 0 msort 0 0 0 mlines nl nc nF np ntr nb mbestCost nso nsi nit nsh nsf nss nrc mtraced mdealer mnumber mwhose msize misParted), (nw, iA G 1662 fnw), (nt, iA G 240 fnt), (nc, iA G 100 fnc), (nl, iA G 54 fnl), (nF, sA G 5 (FCT K))]) rfl (Nat.le_of_ble_eq_true rfl) rfl rfl rfl gX12_read_1.2.1 (fun H locs hP hD hS => ?_)
  refine lv_aload_n hx hb gX12_read_1.2.2.1 rfl (lv_at0 hl) ?_
  refine lv_iconst (v := 0) hx hb gX12_read_1.2.2.2.1 (by decide) ?_
  refine pf_X12_289 hC rfl hK hP hD hS 0 (ws' := [(h0, oX12 nw nk mhasKept nt (nI ktp) nr mrowMany mroundOf mroundFrom mouts nm mfromHour mtoHour ns mfrom 0 msort 0 0 0 0 nl nc nF np ntr nb mbestCost nso nsi nit nsh nsf nss nrc mtraced mdealer mnumber mwhose msize misParted), (nw, iA G 1662 fnw), (nt, iA G 240 fnt), (nc, iA G 100 fnc), (nl, iA G 54 fnl), (nF, sA G 5 (FCT K))]) rfl (Nat.le_of_ble_eq_true rfl) rfl rfl rfl gX12_read_1.2.2.2.2.1 (fun H locs hP hD hS => ?_)
  refine lv_aload_n hx hb gX12_read_1.2.2.2.2.2.1 rfl (lv_at0 hl) ?_
  refine vV (wr := [(nw, iA G 1662 fnw), (nc, iA G 100 fnc), (nl, iA G 54 fnl), (nF, sA G 5 (FCT K))]) hC hK hl hP hD hS hA (m_next l G h0 nw nk mhasKept nt ktp nr mrowMany mroundOf mroundFrom mouts nm mfromHour mtoHour ns mfrom 0 msort 0 0 0 0 nl nc nF np ntr nb mbestCost nso nsi nit nsh nsf nss nrc mtraced mdealer mnumber mwhose msize misParted fnt (by omega) (htp)) si_X12_233 [0, 2] [1, 3, 4, 5] sm_0_2 fm_0_2 nd_0_2 sm_1_3_4_5 nd_1_3_4_5 dj_0_2__1_3_4_5 rfl rfl rfl rfl rfl (Nat.le_of_ble_eq_true rfl) rm_33_3_1 ⟨Nat.le_of_ble_eq_true rfl, Nat.le_of_ble_eq_true rfl⟩ gX12_read_1.2.2.2.2.2.2.1 (Ktu3 fun kf19148 kt19149 so19150 => ?_)
  intro H locs hr9146 hP hD hS
  try dsimp only at hr9146
  refine Kpdr (ws := [(nw, iA G 1662 fnw), (nc, iA G 100 fnc), (nl, iA G 54 fnl), (nF, sA G 5 (FCT K)), (h0, oX12 nw nk mhasKept nt (nI ktp) nr mrowMany mroundOf mroundFrom mouts nm mfromHour mtoHour ns (nI kf19148) (nI kt19149) so19150 0 0 0 0 nl nc nF np ntr nb mbestCost nso nsi nit nsh nsf nss nrc mtraced mdealer mnumber mwhose msize misParted), (nt, iA G 240 fnt)]) hP hD (fun hP hD => ?_)
  have hw9152_0 := hr9146.1
  have hw9152_1 := hr9146.2
  have tA9154 := hw9152_1.1
  have tB9154 := hw9152_1.2.1
  have keyR : ∀ (nR : Nat) (vs : Int32) (vff : Int32) (vf : Nat) (vt : Nat) (vc : Nat) (vl : Nat) (vL : Nat → Int32) (vC : Nat → Int32) (H : Heap) (locs : List Loc) (ls : Array Slot), (vff = 1 ∨ (vff = 0 ∧ RDI fnt vs vf vt ktp vL vC vc vl ∧ 10 ≤ vl + nR)) → va_PD G A [(nw, iA G 1662 fnw), (nc, iA G 100 vC), (nl, iA G 54 vL), (nF, sA G 5 (FCT K)), (h0, oX12 nw nk mhasKept nt (nI ktp) nr mrowMany mroundOf mroundFrom mouts nm mfromHour mtoHour ns (nI vf) (nI vt) vs vff 0 (nI vc) (nI vl) nl nc nF np ntr nb mbestCost nso nsi nit nsh nsf nss nrc mtraced mdealer mnumber mwhose msize misParted), (nt, iA G 240 fnt)] H → va_S A s.heap H locs → lv_has ls 5 [(0, .ref h0)] → W p l e (RM 33 0 0) s m ([.ref h0] : List Value).toArray below meth c H locs 0 0 Q0 (F0 m 29 ls []) := by
    intro nR
    induction nR with
    | zero =>
      intro vs vff vf vt vc vl vL vC H locs ls hiR hPD hS hl
      refine Kan2 hPD (fun hP hD => ?_)
      rcases hiR with rfl | ⟨rfl, hRD, hRn⟩
      · refine lv_aload_n hx hb gX12_read_1.2.2.2.2.2.2.2.1 rfl (lv_at0 hl) ?_
        refine gf_X12_222 hC rfl hK hP 4 rfl rfl gX12_read_1.2.2.2.2.2.2.2.2.1 ?_
        refine lv_if_ne (tgt := 92) hx hb gX12_read_1.2.2.2.2.2.2.2.2.2 (by decide) (fun _ => ?_) (fun c9 => absurd c9 (by decide))
        refine lv_aload_n hx hb gX12_read_4.2.2.2.2.2.2.2.2.1 rfl (lv_at0 hl) ?_
        refine gf_X12_214 hC rfl hK hP 4 rfl rfl gX12_read_4.2.2.2.2.2.2.2.2.2 ?_
        refine lv_istore_n (lv' := [(1, .int (nI vf)), (0, .ref h0)]) hx hb gX12_read_5.1 rfl hl (by decide) rfl (fun ls hl => ?_)
        refine lv_aload_n hx hb gX12_read_5.2.1 rfl (lv_at1 hl) ?_
        refine lv_iconst (v := 0) hx hb gX12_read_5.2.2.1 (by decide) ?_
        refine pf_X12_206 hC rfl hK hP hD hS 4 (ws' := [(nw, iA G 1662 fnw), (nc, iA G 100 vC), (nl, iA G 54 vL), (nF, sA G 5 (FCT K)), (h0, oX12 nw nk mhasKept nt 0 nr mrowMany mroundOf mroundFrom mouts nm mfromHour mtoHour ns (nI vf) (nI vt) vs 1 0 (nI vc) (nI vl) nl nc nF np ntr nb mbestCost nso nsi nit nsh nsf nss nrc mtraced mdealer mnumber mwhose msize misParted), (nt, iA G 240 fnt)]) rfl (Nat.le_of_ble_eq_true rfl) rfl rfl rfl gX12_read_5.2.2.2.1 (fun H locs hP hD hS => ?_)
        refine lv_aload_n hx hb gX12_read_5.2.2.2.2.1 rfl (lv_at1 hl) ?_
        refine gf_X12_222 hC rfl hK hP 4 rfl rfl gX12_read_5.2.2.2.2.2.1 ?_
        refine lv_if_eq (tgt := 114) hx hb gX12_read_5.2.2.2.2.2.2.1 (by decide) (fun c9 => absurd c9 (by decide)) (fun _ => ?_)
        refine lv_bipush (v := (-100)) hx hb gX12_read_5.2.2.2.2.2.2.2.1 (by decide) ?_
        refine lv_iload_n hx hb gX12_read_5.2.2.2.2.2.2.2.2.1 rfl (lv_at0 hl) ?_
        refine lv_isub hx hb gX12_read_5.2.2.2.2.2.2.2.2.2 ?_
        refine toQ hQ0 ?_
        exact RI (v := (-100) - (nI vf)) hC hP hD hS [4, 0, 5, 1, 2, 3] (1, vf, vt, vs, vc, vl, fnw, vC, vL) rfl rfl (by decide) (⟨trivial, ⟨hN, hV, SCX.rf, FRO.rf⟩⟩) rfl gX12_read_6.1
      · have hR9 := hRD.2.2.1; exact (show False by omega).elim
    | succ nR ihR =>
      intro vs vff vf vt vc vl vL vC H locs ls hiR hPD hS hl
      refine Kan2 hPD (fun hP hD => ?_)
      rcases hiR with rfl | ⟨rfl, hRD, hRn⟩
      · refine lv_aload_n hx hb gX12_read_1.2.2.2.2.2.2.2.1 rfl (lv_at0 hl) ?_
        refine gf_X12_222 hC rfl hK hP 4 rfl rfl gX12_read_1.2.2.2.2.2.2.2.2.1 ?_
        refine lv_if_ne (tgt := 92) hx hb gX12_read_1.2.2.2.2.2.2.2.2.2 (by decide) (fun _ => ?_) (fun c9 => absurd c9 (by decide))
        refine lv_aload_n hx hb gX12_read_4.2.2.2.2.2.2.2.2.1 rfl (lv_at0 hl) ?_
        refine gf_X12_214 hC rfl hK hP 4 rfl rfl gX12_read_4.2.2.2.2.2.2.2.2.2 ?_
        refine lv_istore_n (lv' := [(1, .int (nI vf)), (0, .ref h0)]) hx hb gX12_read_5.1 rfl hl (by decide) rfl (fun ls hl => ?_)
        refine lv_aload_n hx hb gX12_read_5.2.1 rfl (lv_at1 hl) ?_
        refine lv_iconst (v := 0) hx hb gX12_read_5.2.2.1 (by decide) ?_
        refine pf_X12_206 hC rfl hK hP hD hS 4 (ws' := [(nw, iA G 1662 fnw), (nc, iA G 100 vC), (nl, iA G 54 vL), (nF, sA G 5 (FCT K)), (h0, oX12 nw nk mhasKept nt 0 nr mrowMany mroundOf mroundFrom mouts nm mfromHour mtoHour ns (nI vf) (nI vt) vs 1 0 (nI vc) (nI vl) nl nc nF np ntr nb mbestCost nso nsi nit nsh nsf nss nrc mtraced mdealer mnumber mwhose msize misParted), (nt, iA G 240 fnt)]) rfl (Nat.le_of_ble_eq_true rfl) rfl rfl rfl gX12_read_5.2.2.2.1 (fun H locs hP hD hS => ?_)
        refine lv_aload_n hx hb gX12_read_5.2.2.2.2.1 rfl (lv_at1 hl) ?_
        refine gf_X12_222 hC rfl hK hP 4 rfl rfl gX12_read_5.2.2.2.2.2.1 ?_
        refine lv_if_eq (tgt := 114) hx hb gX12_read_5.2.2.2.2.2.2.1 (by decide) (fun c9 => absurd c9 (by decide)) (fun _ => ?_)
        refine lv_bipush (v := (-100)) hx hb gX12_read_5.2.2.2.2.2.2.2.1 (by decide) ?_
        refine lv_iload_n hx hb gX12_read_5.2.2.2.2.2.2.2.2.1 rfl (lv_at0 hl) ?_
        refine lv_isub hx hb gX12_read_5.2.2.2.2.2.2.2.2.2 ?_
        refine toQ hQ0 ?_
        exact RI (v := (-100) - (nI vf)) hC hP hD hS [4, 0, 5, 1, 2, 3] (1, vf, vt, vs, vc, vl, fnw, vC, vL) rfl rfl (by decide) (⟨trivial, ⟨hN, hV, SCX.rf, FRO.rf⟩⟩) rfl gX12_read_6.1
      · have hRT := hRD.1
        have tA9155 := hRT.1
        have tB9155 := hRT.2.1
        have hRc := hRD.2.1
        have hRl := hRD.2.2.1
        refine lv_aload_n hx hb gX12_read_1.2.2.2.2.2.2.2.1 rfl (lv_at0 hl) ?_
        refine gf_X12_222 hC rfl hK hP 4 rfl rfl gX12_read_1.2.2.2.2.2.2.2.2.1 ?_
        refine lv_if_ne (tgt := 92) hx hb gX12_read_1.2.2.2.2.2.2.2.2.2 (by decide) (fun c9 => absurd (by decide) c9) (fun _ => ?_)
        refine lv_aload_n hx hb gX12_read_2.1 rfl (lv_at0 hl) ?_
        refine gf_X12_217 hC rfl hK hP 4 rfl rfl gX12_read_2.2.1 ?_
        refine lv_if_eq (tgt := 92) hx hb gX12_read_2.2.2.1 (by decide) (fun c_40_9156 => ?_) (fun c_40_9156 => ?_)
        · refine lv_aload_n hx hb gX12_read_4.2.2.2.2.2.2.2.2.1 rfl (lv_at0 hl) ?_
          refine gf_X12_214 hC rfl hK hP 4 rfl rfl gX12_read_4.2.2.2.2.2.2.2.2.2 ?_
          refine lv_istore_n (lv' := [(1, .int (nI vf)), (0, .ref h0)]) hx hb gX12_read_5.1 rfl hl (by decide) rfl (fun ls hl => ?_)
          refine lv_aload_n hx hb gX12_read_5.2.1 rfl (lv_at1 hl) ?_
          refine lv_iconst (v := 0) hx hb gX12_read_5.2.2.1 (by decide) ?_
          refine pf_X12_206 hC rfl hK hP hD hS 4 (ws' := [(nw, iA G 1662 fnw), (nc, iA G 100 vC), (nl, iA G 54 vL), (nF, sA G 5 (FCT K)), (h0, oX12 nw nk mhasKept nt 0 nr mrowMany mroundOf mroundFrom mouts nm mfromHour mtoHour ns (nI vf) (nI vt) vs 0 0 (nI vc) (nI vl) nl nc nF np ntr nb mbestCost nso nsi nit nsh nsf nss nrc mtraced mdealer mnumber mwhose msize misParted), (nt, iA G 240 fnt)]) rfl (Nat.le_of_ble_eq_true rfl) rfl rfl rfl gX12_read_5.2.2.2.1 (fun H locs hP hD hS => ?_)
          refine lv_aload_n hx hb gX12_read_5.2.2.2.2.1 rfl (lv_at1 hl) ?_
          refine gf_X12_222 hC rfl hK hP 4 rfl rfl gX12_read_5.2.2.2.2.2.1 ?_
          refine lv_if_eq (tgt := 114) hx hb gX12_read_5.2.2.2.2.2.2.1 (by decide) (fun _ => ?_) (fun c9 => absurd (by decide) c9)
          refine lv_aload_n hx hb gX12_read_6.2.1 rfl (lv_at1 hl) ?_
          refine gf_X12_9 hC rfl hK hP 4 rfl rfl gX12_read_6.2.2.1 ?_
          refine lv_bipush (v := 7) hx hb gX12_read_6.2.2.2.1 (by decide) ?_
          refine ald hC hK hP 0 rfl (vin (by decide +kernel)) (k := 7) (by decide +kernel) (v := nI k7) (ek7) gX12_read_6.2.2.2.2.1 ?_
          refine lv_istore_n (lv' := [(2, .int (nI k7)), (1, .int (nI vf)), (0, .ref h0)]) hx hb gX12_read_6.2.2.2.2.2.1 rfl hl (by decide) rfl (fun ls hl => ?_)
          refine lv_iload_n hx hb gX12_read_6.2.2.2.2.2.2.1 rfl (lv_at0 hl) ?_
          refine lv_bipush (v := 8) hx hb gX12_read_6.2.2.2.2.2.2.2.1 (by decide) ?_
          refine lv_icmp_ne (tgt := 131) hx hb gX12_read_6.2.2.2.2.2.2.2.2.1 (by decide) (fun c_125_9157 => ?_) (fun c_125_9157 => ?_)
          · have hk79 := nI_neq (a := k7) (b := 8) (by omega) (by decide) c_125_9157
            refine lv_sipush (v := 176) hx hb gX12_read_7.2.1 (by decide) ?_
            refine lv_sipush (v := 156) hx hb gX12_read_7.2.2.1 (by decide) ?_
            refine lv_iload_n hx hb gX12_read_7.2.2.2.1 rfl (lv_at0 hl) ?_
            refine lv_imul hx hb gX12_read_7.2.2.2.2.1 ?_
            refine eqi (x1 := nI (156 * k7)) (nI_mul 156 k7) ?_
            refine lv_iadd hx hb gX12_read_7.2.2.2.2.2.1 ?_
            refine eqi (x1 := nI (176 + 156 * k7)) (nI_add 176 (156 * k7)) ?_
            refine lv_istore_n (lv' := [(3, .int (nI (176 + 156 * k7))), (2, .int (nI k7)), (1, .int (nI vf)), (0, .ref h0)]) hx hb gX12_read_7.2.2.2.2.2.2.1 rfl hl (by decide) rfl (fun ls hl => ?_)
            refine lv_aload_n hx hb gX12_read_7.2.2.2.2.2.2.2.1 rfl (lv_at3 hl) ?_
            refine gf_X12_9 hC rfl hK hP 4 rfl rfl gX12_read_7.2.2.2.2.2.2.2.2.1 ?_
            refine lv_iload_n hx hb gX12_read_7.2.2.2.2.2.2.2.2.2 rfl (lv_at0 hl) ?_
            refine lv_iconst (v := 0) hx hb gX12_read_8.1 (by decide) ?_
            refine lv_iadd hx hb gX12_read_8.2.1 ?_
            refine eqi (x1 := nI (176 + 156 * k7 + 0)) (nI_add (176 + 156 * k7) 0) ?_
            refine lv_aload_n hx hb gX12_read_8.2.2.1 rfl (lv_at3 hl) ?_
            refine gf_X12_9 hC rfl hK hP 4 rfl rfl gX12_read_8.2.2.2.1 ?_
            refine lv_iconst (v := 0) hx hb gX12_read_8.2.2.2.2.1 (by decide) ?_
            refine ald hC hK hP 0 rfl (vin (by decide +kernel)) (k := 0) (by decide +kernel) (v := fnw 0) (rfl) gX12_read_8.2.2.2.2.2.1 ?_
            refine astN hC hK hP hD hS 0 (ws' := [(nw, iA G 1662 (upd fnw (176 + 156 * k7 + 0) (fnw 0))), (nc, iA G 100 vC), (nl, iA G 54 vL), (nF, sA G 5 (FCT K)), (h0, oX12 nw nk mhasKept nt 0 nr mrowMany mroundOf mroundFrom mouts nm mfromHour mtoHour ns (nI vf) (nI vt) vs 0 0 (nI vc) (nI vl) nl nc nF np ntr nb mbestCost nso nsi nit nsh nsf nss nrc mtraced mdealer mnumber mwhose msize misParted), (nt, iA G 240 fnt)]) rfl (k := (176 + 156 * k7 + 0)) (by omega) (Nat.le_of_ble_eq_true rfl) (rfl) gX12_read_8.2.2.2.2.2.2.1 (fun H locs hP hD hS => ?_)
            refine lv_aload_n hx hb gX12_read_8.2.2.2.2.2.2.2.1 rfl (lv_at3 hl) ?_
            refine gf_X12_9 hC rfl hK hP 4 rfl rfl gX12_read_8.2.2.2.2.2.2.2.2.1 ?_
            refine lv_iload_n hx hb gX12_read_8.2.2.2.2.2.2.2.2.2 rfl (lv_at0 hl) ?_
            refine lv_iconst (v := 1) hx hb gX12_read_9.1 (by decide) ?_
            refine lv_iadd hx hb gX12_read_9.2.1 ?_
            refine eqi (x1 := nI (176 + 156 * k7 + 1)) (nI_add (176 + 156 * k7) 1) ?_
            refine lv_aload_n hx hb gX12_read_9.2.2.1 rfl (lv_at3 hl) ?_
            refine gf_X12_289 hC rfl hK hP 4 rfl rfl gX12_read_9.2.2.2.1 ?_
            refine astN hC hK hP hD hS 0 (ws' := [(nw, iA G 1662 (upd (upd fnw (176 + 156 * k7 + 0) (fnw 0)) (176 + 156 * k7 + 1) (nI vl))), (nc, iA G 100 vC), (nl, iA G 54 vL), (nF, sA G 5 (FCT K)), (h0, oX12 nw nk mhasKept nt 0 nr mrowMany mroundOf mroundFrom mouts nm mfromHour mtoHour ns (nI vf) (nI vt) vs 0 0 (nI vc) (nI vl) nl nc nF np ntr nb mbestCost nso nsi nit nsh nsf nss nrc mtraced mdealer mnumber mwhose msize misParted), (nt, iA G 240 fnt)]) rfl (k := (176 + 156 * k7 + 1)) (by omega) (Nat.le_of_ble_eq_true rfl) (rfl) gX12_read_9.2.2.2.2.1 (fun H locs hP hD hS => ?_)
            refine lv_iconst (v := 0) hx hb gX12_read_9.2.2.2.2.2.1 (by decide) ?_
            refine lv_istore (lv' := [(4, .int 0), (3, .int (nI (176 + 156 * k7))), (2, .int (nI k7)), (1, .int (nI vf)), (0, .ref h0)]) hx hb gX12_read_9.2.2.2.2.2.2.1 hl (by decide) rfl (fun ls hl => ?_)
            have hNF : NI (upd (upd fnw (176 + 156 * k7 + 0) (fnw 0)) (176 + 156 * k7 + 1) (nI vl)) := (hN.setA (bnd_ver (by omega) (by omega))).setA (bnd_ver (by omega) (by omega))
            have keyP : ∀ (nP kP : Nat) (vW : Nat → Int32) (H : Heap) (locs : List Loc) (ls : Array Slot), kP + nP = 54 → (CP (upd (upd fnw (176 + 156 * k7 + 0) (fnw 0)) (176 + 156 * k7 + 1) (nI vl)) vW (176 + 156 * k7 + 2) kP vL) → va_PD G A [(nw, iA G 1662 vW), (nc, iA G 100 vC), (nl, iA G 54 vL), (nF, sA G 5 (FCT K)), (h0, oX12 nw nk mhasKept nt 0 nr mrowMany mroundOf mroundFrom mouts nm mfromHour mtoHour ns (nI vf) (nI vt) vs 0 0 (nI vc) (nI vl) nl nc nF np ntr nb mbestCost nso nsi nit nsh nsf nss nrc mtraced mdealer mnumber mwhose msize misParted), (nt, iA G 240 fnt)] H → va_S A s.heap H locs → lv_has ls 5 [(4, .int (nI kP)), (3, .int (nI (176 + 156 * k7))), (2, .int (nI k7)), (1, .int (nI vf)), (0, .ref h0)] → W p l e (RM 33 0 0) s m ([.ref h0] : List Value).toArray below meth c H locs 0 0 Q0 (F0 m 170 ls []) := by
              intro nP
              induction nP with
              | zero =>
                intro kP vW H locs ls hkP hcp hPD hS hl
                refine Kan2 hPD (fun hP hD => ?_)
                obtain rfl : 54 = kP := by omega
                have hl : lv_has ls 5 [(4, .int 54), (3, .int (nI (176 + 156 * k7))), (2, .int (nI k7)), (1, .int (nI vf)), (0, .ref h0)] := hl
                refine lv_iload hx hb gX12_read_9.2.2.2.2.2.2.2.1 (lv_at0 hl) ?_
                refine lv_bipush (v := 54) hx hb gX12_read_9.2.2.2.2.2.2.2.2.1 (by decide) ?_
                refine lv_icmp_ge (tgt := 201) hx hb gX12_read_9.2.2.2.2.2.2.2.2.2 (by decide) (fun _ => ?_) (fun c9 => absurd (by decide) c9)
                refine lv_iconst (v := 0) hx hb gX12_read_11.2.2.2.2.1 (by decide) ?_
                refine lv_istore (lv' := [(4, .int 0), (3, .int (nI (176 + 156 * k7))), (2, .int (nI k7)), (1, .int (nI vf)), (0, .ref h0)]) hx hb gX12_read_11.2.2.2.2.2.1 hl (by decide) rfl (fun ls hl => ?_)
                have keyQ : ∀ (nQ kQ : Nat) (vX : Nat → Int32) (H : Heap) (locs : List Loc) (ls : Array Slot), kQ + nQ = vc → (CP vW vX (176 + 156 * k7 + 56) kQ vC) → va_PD G A [(nw, iA G 1662 vX), (nc, iA G 100 vC), (nl, iA G 54 vL), (nF, sA G 5 (FCT K)), (h0, oX12 nw nk mhasKept nt 0 nr mrowMany mroundOf mroundFrom mouts nm mfromHour mtoHour ns (nI vf) (nI vt) vs 0 0 (nI vc) (nI vl) nl nc nF np ntr nb mbestCost nso nsi nit nsh nsf nss nrc mtraced mdealer mnumber mwhose msize misParted), (nt, iA G 240 fnt)] H → va_S A s.heap H locs → lv_has ls 5 [(4, .int (nI kQ)), (3, .int (nI (176 + 156 * k7))), (2, .int (nI k7)), (1, .int (nI vf)), (0, .ref h0)] → W p l e (RM 33 0 0) s m ([.ref h0] : List Value).toArray below meth c H locs 0 0 Q0 (F0 m 204 ls []) := by
                  intro nQ
                  induction nQ with
                  | zero =>
                    intro kQ vX H locs ls hkQ hcq hPD hS hl
                    refine Kan2 hPD (fun hP hD => ?_)
                    obtain rfl : vc = kQ := by omega
                    have hl : lv_has ls 5 [(4, .int (nI vc)), (3, .int (nI (176 + 156 * k7))), (2, .int (nI k7)), (1, .int (nI vf)), (0, .ref h0)] := hl
                    refine lv_iload hx hb gX12_read_11.2.2.2.2.2.2.1 (lv_at0 hl) ?_
                    refine lv_aload_n hx hb gX12_read_11.2.2.2.2.2.2.2.1 rfl (lv_at4 hl) ?_
                    refine gf_X12_240 hC rfl hK hP 4 rfl rfl gX12_read_11.2.2.2.2.2.2.2.2.1 ?_
                    refine lv_icmp_ge (tgt := 238) hx hb gX12_read_11.2.2.2.2.2.2.2.2.2 (by decide) (fun _ => ?_) (fun c9 => absurd (Int32.le_refl _) c9)
                    have e7X : vX 7 = nI k7 := (hcq.2.1 7 (by omega)).trans ((hcp.2.1 7 (by omega)).trans ((upd_ne (by omega)).trans ((upd_ne (by omega)).trans ek7)))
                    refine lv_aload_n hx hb gX12_read_13.2.2.2.2.1 rfl (lv_at4 hl) ?_
                    refine gf_X12_9 hC rfl hK hP 4 rfl rfl gX12_read_13.2.2.2.2.2.1 ?_
                    refine lv_bipush (v := 7) hx hb gX12_read_13.2.2.2.2.2.2.1 (by decide) ?_
                    refine lv_dup2_11 hx hb gX12_read_13.2.2.2.2.2.2.2.1 rfl rfl ?_
                    refine ald hC hK hP 0 rfl (vin (by decide +kernel)) (k := 7) (by decide +kernel) (v := nI k7) (e7X) gX12_read_13.2.2.2.2.2.2.2.2.1 ?_
                    refine lv_iconst (v := 1) hx hb gX12_read_13.2.2.2.2.2.2.2.2.2 (by decide) ?_
                    refine lv_iadd hx hb gX12_read_14.1 ?_
                    refine eqi (x1 := nI (k7 + 1)) (nI_add k7 1) ?_
                    refine ast hC hK hP hD hS 0 (ws' := [(nw, iA G 1662 (upd vX 7 (nI (k7 + 1)))), (nc, iA G 100 vC), (nl, iA G 54 vL), (nF, sA G 5 (FCT K)), (h0, oX12 nw nk mhasKept nt 0 nr mrowMany mroundOf mroundFrom mouts nm mfromHour mtoHour ns (nI vf) (nI vt) vs 0 0 (nI vc) (nI vl) nl nc nF np ntr nb mbestCost nso nsi nit nsh nsf nss nrc mtraced mdealer mnumber mwhose msize misParted), (nt, iA G 240 fnt)]) rfl (vin (by decide +kernel)) (k := 7) (by decide +kernel) (rfl) gX12_read_14.2.1 (fun H locs hP hD hS => ?_)
                    refine lv_iload_n hx hb gX12_read_14.2.2.1 rfl (lv_at2 hl) ?_
                    refine toQ hQ0 ?_
                    exact RI (v := nI k7) hC hP hD hS [4, 0, 5, 1, 2, 3] (0, vf, vt, vs, vc, vl, upd vX 7 (nI (k7 + 1)), vC, vL) rfl rfl (by decide) (⟨trivial, ⟨hcq.1.setN (B := 8) (show bnd 7 = (0, ((8 : Nat) : Int)) from by decide +kernel) (by omega) (by decide), VI.newrow hV (by omega) (by omega) (by omega) hcp hcq hRD.2.2.2, (hcq.SC (by omega) (hcp.SC (by omega) ((SCX.rf.set (by omega)).set (by omega)))).set (by omega), (hcq.FR (by omega) (by omega) (hcp.FR (by omega) (by omega) ((FRO.rf.set (by omega)).set (by omega)))).set (by omega)⟩⟩) rfl gX12_read_14.2.2.2
                  | succ nQ ihQ =>
                    intro kQ vX H locs ls hkQ hcq hPD hS hl
                    refine Kan2 hPD (fun hP hD => ?_)
                    refine lv_iload hx hb gX12_read_11.2.2.2.2.2.2.1 (lv_at0 hl) ?_
                    refine lv_aload_n hx hb gX12_read_11.2.2.2.2.2.2.2.1 rfl (lv_at4 hl) ?_
                    refine gf_X12_240 hC rfl hK hP 4 rfl rfl gX12_read_11.2.2.2.2.2.2.2.2.1 ?_
                    refine lv_icmp_ge (tgt := 238) hx hb gX12_read_11.2.2.2.2.2.2.2.2.2 (by decide) (fun c9 => absurd c9 (nI_ge (a := kQ) (b := vc) (by omega) (by omega))) (fun _ => ?_)
                    refine lv_aload_n hx hb gX12_read_12.1 rfl (lv_at4 hl) ?_
                    refine gf_X12_9 hC rfl hK hP 4 rfl rfl gX12_read_12.2.1 ?_
                    refine lv_iload_n hx hb gX12_read_12.2.2.1 rfl (lv_at1 hl) ?_
                    refine lv_bipush (v := 56) hx hb gX12_read_12.2.2.2.1 (by decide) ?_
                    refine lv_iadd hx hb gX12_read_12.2.2.2.2.1 ?_
                    refine eqi (x1 := nI (176 + 156 * k7 + 56)) (nI_add (176 + 156 * k7) 56) ?_
                    refine lv_iload hx hb gX12_read_12.2.2.2.2.2.1 (lv_at0 hl) ?_
                    refine lv_iadd hx hb gX12_read_12.2.2.2.2.2.2.1 ?_
                    refine eqi (x1 := nI (176 + 156 * k7 + 56 + kQ)) (nI_add (176 + 156 * k7 + 56) kQ) ?_
                    refine lv_aload_n hx hb gX12_read_12.2.2.2.2.2.2.2.1 rfl (lv_at4 hl) ?_
                    refine gf_X12_35 hC rfl hK hP 4 rfl rfl gX12_read_12.2.2.2.2.2.2.2.2.1 ?_
                    refine lv_iload hx hb gX12_read_12.2.2.2.2.2.2.2.2.2 (lv_at0 hl) ?_
                    refine aldN hC hK hP 1 rfl (k := kQ) (by omega) (Nat.le_of_ble_eq_true rfl) (v := vC kQ) rfl gX12_read_13.1 ?_
                    refine lv_topi (fun x9158 ex9158 => ?_)
                    refine astN hC hK hP hD hS 0 (ws' := [(nw, iA G 1662 (upd vX (176 + 156 * k7 + 56 + kQ) x9158)), (nc, iA G 100 vC), (nl, iA G 54 vL), (nF, sA G 5 (FCT K)), (h0, oX12 nw nk mhasKept nt 0 nr mrowMany mroundOf mroundFrom mouts nm mfromHour mtoHour ns (nI vf) (nI vt) vs 0 0 (nI vc) (nI vl) nl nc nF np ntr nb mbestCost nso nsi nit nsh nsf nss nrc mtraced mdealer mnumber mwhose msize misParted), (nt, iA G 240 fnt)]) rfl (k := (176 + 156 * k7 + 56 + kQ)) (by omega) (Nat.le_of_ble_eq_true rfl) (rfl) gX12_read_13.2.1 (fun H locs hP hD hS => ?_)
                    refine lv_iinc (v := nI (kQ + 1)) (lv' := [(4, .int (nI (kQ + 1))), (3, .int (nI (176 + 156 * k7))), (2, .int (nI k7)), (1, .int (nI vf)), (0, .ref h0)]) hx hb gX12_read_13.2.2.1 hl (k := 0) rfl (nI_1 _) (by decide) rfl (fun ls hl => ?_)
                    refine lv_goto (tgt := 204) hx hb gX12_read_13.2.2.2.1 (by decide) ?_
                    exact ihQ (kQ + 1) (upd vX (176 + 156 * k7 + 56 + kQ) x9158) _ _ _ (by omega) (by first | assumption | exact Or.inl rfl | exact Or.inr rfl | exact CP.zero hcp.1 | exact CP.next hcq (by assumption) (bnd_ver (by omega) (by omega))) (And.intro hP hD) hS (lv_sub hl [0, 1, 2, 3, 4] rfl)
                exact keyQ vc 0 vW _ _ _ (by omega) (by first | assumption | exact Or.inl rfl | exact Or.inr rfl | exact CP.zero hcp.1 | exact CP.next hcq (by assumption) (bnd_ver (by omega) (by omega))) (And.intro hP hD) hS (lv_sub hl [0, 1, 2, 3, 4] rfl)
              | succ nP ihP =>
                intro kP vW H locs ls hkP hcp hPD hS hl
                refine Kan2 hPD (fun hP hD => ?_)
                refine lv_iload hx hb gX12_read_9.2.2.2.2.2.2.2.1 (lv_at0 hl) ?_
                refine lv_bipush (v := 54) hx hb gX12_read_9.2.2.2.2.2.2.2.2.1 (by decide) ?_
                refine lv_icmp_ge (tgt := 201) hx hb gX12_read_9.2.2.2.2.2.2.2.2.2 (by decide) (fun c9 => absurd c9 (nI_ge (a := kP) (b := 54) (by omega) (by omega))) (fun _ => ?_)
                refine lv_aload_n hx hb gX12_read_10.1 rfl (lv_at4 hl) ?_
                refine gf_X12_9 hC rfl hK hP 4 rfl rfl gX12_read_10.2.1 ?_
                refine lv_iload_n hx hb gX12_read_10.2.2.1 rfl (lv_at1 hl) ?_
                refine lv_iconst (v := 2) hx hb gX12_read_10.2.2.2.1 (by decide) ?_
                refine lv_iadd hx hb gX12_read_10.2.2.2.2.1 ?_
                refine eqi (x1 := nI (176 + 156 * k7 + 2)) (nI_add (176 + 156 * k7) 2) ?_
                refine lv_iload hx hb gX12_read_10.2.2.2.2.2.1 (lv_at0 hl) ?_
                refine lv_iadd hx hb gX12_read_10.2.2.2.2.2.2.1 ?_
                refine eqi (x1 := nI (176 + 156 * k7 + 2 + kP)) (nI_add (176 + 156 * k7 + 2) kP) ?_
                refine lv_aload_n hx hb gX12_read_10.2.2.2.2.2.2.2.1 rfl (lv_at4 hl) ?_
                refine gf_X12_32 hC rfl hK hP 4 rfl rfl gX12_read_10.2.2.2.2.2.2.2.2.1 ?_
                refine lv_iload hx hb gX12_read_10.2.2.2.2.2.2.2.2.2 (lv_at0 hl) ?_
                refine aldN hC hK hP 2 rfl (k := kP) (by omega) (Nat.le_of_ble_eq_true rfl) (v := vL kP) rfl gX12_read_11.1 ?_
                refine lv_topi (fun x9159 ex9159 => ?_)
                refine astN hC hK hP hD hS 0 (ws' := [(nw, iA G 1662 (upd vW (176 + 156 * k7 + 2 + kP) x9159)), (nc, iA G 100 vC), (nl, iA G 54 vL), (nF, sA G 5 (FCT K)), (h0, oX12 nw nk mhasKept nt 0 nr mrowMany mroundOf mroundFrom mouts nm mfromHour mtoHour ns (nI vf) (nI vt) vs 0 0 (nI vc) (nI vl) nl nc nF np ntr nb mbestCost nso nsi nit nsh nsf nss nrc mtraced mdealer mnumber mwhose msize misParted), (nt, iA G 240 fnt)]) rfl (k := (176 + 156 * k7 + 2 + kP)) (by omega) (Nat.le_of_ble_eq_true rfl) (rfl) gX12_read_11.2.1 (fun H locs hP hD hS => ?_)
                refine lv_iinc (v := nI (kP + 1)) (lv' := [(4, .int (nI (kP + 1))), (3, .int (nI (176 + 156 * k7))), (2, .int (nI k7)), (1, .int (nI vf)), (0, .ref h0)]) hx hb gX12_read_11.2.2.1 hl (k := 0) rfl (nI_1 _) (by decide) rfl (fun ls hl => ?_)
                refine lv_goto (tgt := 170) hx hb gX12_read_11.2.2.2.1 (by decide) ?_
                exact ihP (kP + 1) (upd vW (176 + 156 * k7 + 2 + kP) x9159) _ _ _ (by omega) (by first | assumption | exact Or.inl rfl | exact Or.inr rfl | exact CP.zero hNF | exact CP.next hcp (by assumption) (bnd_ver (by omega) (by omega))) (And.intro hP hD) hS (lv_sub hl [0, 1, 2, 3, 4] rfl)
            exact keyP 54 0 (upd (upd fnw (176 + 156 * k7 + 0) (fnw 0)) (176 + 156 * k7 + 1) (nI vl)) _ _ _ (by omega) (by first | assumption | exact Or.inl rfl | exact Or.inr rfl | exact CP.zero hNF | exact CP.next hcp (by assumption) (bnd_ver (by omega) (by omega))) (And.intro hP hD) hS (lv_sub hl [0, 1, 2, 3, 4] rfl)
          · refine lv_bipush (v := (-2)) hx hb gX12_read_6.2.2.2.2.2.2.2.2.2 (by decide) ?_
            refine toQ hQ0 ?_
            exact RI (v := (-2)) hC hP hD hS [4, 0, 5, 1, 2, 3] (0, vf, vt, vs, vc, vl, fnw, vC, vL) rfl rfl (by decide) (⟨trivial, ⟨hN, hV, SCX.rf, FRO.rf⟩⟩) rfl gX12_read_7.1
        · refine lv_aload_n hx hb gX12_read_2.2.2.2.1 rfl (lv_at0 hl) ?_
          refine lv_aload_n hx hb gX12_read_2.2.2.2.2.1 rfl (lv_at0 hl) ?_
          refine gf_X12_289 hC rfl hK hP 4 rfl rfl gX12_read_2.2.2.2.2.2.1 ?_
          refine lv_bipush (v := 9) hx hb gX12_read_2.2.2.2.2.2.2.1 (by decide) ?_
          refine lv_icmp_ne (tgt := 57) hx hb gX12_read_2.2.2.2.2.2.2.2.1 (by decide) (fun c_50_9160 => ?_) (fun c_50_9160 => ?_)
          · refine lv_iconst (v := 0) hx hb gX12_read_3.1 (by decide) ?_
            refine pf_X12_222 hC rfl hK hP hD hS 4 (ws' := [(nw, iA G 1662 fnw), (nc, iA G 100 vC), (nl, iA G 54 vL), (nF, sA G 5 (FCT K)), (h0, oX12 nw nk mhasKept nt (nI ktp) nr mrowMany mroundOf mroundFrom mouts nm mfromHour mtoHour ns (nI vf) (nI vt) vs 0 0 (nI vc) (nI vl) nl nc nF np ntr nb mbestCost nso nsi nit nsh nsf nss nrc mtraced mdealer mnumber mwhose msize misParted), (nt, iA G 240 fnt)]) rfl (Nat.le_of_ble_eq_true rfl) rfl (by decide +kernel) (by decide +kernel) gX12_read_3.2.1 (fun H locs hP hD hS => ?_)
            refine lv_aload_n hx hb gX12_read_3.2.2.1 rfl (lv_at0 hl) ?_
            refine gf_X12_222 hC rfl hK hP 4 rfl rfl gX12_read_3.2.2.2.1 ?_
            refine lv_if_ne (tgt := 29) hx hb gX12_read_3.2.2.2.2.1 (by decide) (fun c9 => absurd (by decide) c9) (fun _ => ?_)
            have hvl9 := nI_neq (a := vl) (b := 9) (by omega) (by decide) c_50_9160
            refine lv_aload_n hx hb gX12_read_3.2.2.2.2.2.1 rfl (lv_at0 hl) ?_
            refine lv_bipush (v := 6) hx hb gX12_read_3.2.2.2.2.2.2.1 (by decide) ?_
            refine lv_aload_n hx hb gX12_read_3.2.2.2.2.2.2.2.1 rfl (lv_at0 hl) ?_
            refine gf_X12_289 hC rfl hK hP 4 rfl rfl gX12_read_3.2.2.2.2.2.2.2.2.1 ?_
            refine lv_imul hx hb gX12_read_3.2.2.2.2.2.2.2.2.2 ?_
            refine eqi (x1 := nI (6 * vl)) (nI_mul 6 vl) ?_
            refine vVo (wr := [(nw, iA G 1662 fnw)]) hO hC hK hl hP hD hS hA (m_lineAt l G K h0 (6 * vl) nw nk mhasKept nt ktp nr mrowMany mroundOf mroundFrom mouts nm mfromHour mtoHour ns vf vt vs vc (nI vl) nl nc nF np ntr nb mbestCost nso nsi nit nsh nsf nss nrc mtraced mdealer mnumber mwhose msize misParted fnt vC vL (hRT) (htp) (by omega) (by omega)) si_X12_292 [4, 5, 1, 2, 3] [0] sm_4_5_1_2_3 fm_4_5_1_2_3 nd_4_5_1_2_3 sm_0 nd_0 dj_4_5_1_2_3__0 rfl rfl rfl rfl rfl (Nat.le_of_ble_eq_true rfl) rm_33_32_3 ⟨Nat.le_of_ble_eq_true rfl, Nat.le_of_ble_eq_true rfl⟩ gX12_read_4.1 (Ktu7 fun ff19163 kf19164 kt19165 so19166 kc19167 gnc9168 gnl9169 => ?_)
            intro H locs hr9161 hP hD hS
            try dsimp only at hr9161
            refine Kpdr (ws := [(nw, iA G 1662 fnw), (h0, oX12 nw nk mhasKept nt (nI ktp) nr mrowMany mroundOf mroundFrom mouts nm mfromHour mtoHour ns (nI kf19164) (nI kt19165) so19166 ff19163 0 (nI kc19167) (nI vl) nl nc nF np ntr nb mbestCost nso nsi nit nsh nsf nss nrc mtraced mdealer mnumber mwhose msize misParted), (nt, iA G 240 fnt), (nc, iA G 100 gnc9168), (nl, iA G 54 gnl9169), (nF, sA G 5 (FCT K))]) hP hD (fun hP hD => ?_)
            have w9170 := hr9161
            rcases w9170 with rfl | ⟨rfl, hw9171_0, hw9171_1⟩
            · refine lv_aload_n hx hb gX12_read_4.2.1 rfl (lv_at0 hl) ?_
              refine lv_dup hx hb gX12_read_4.2.2.1 rfl ?_
              refine gf_X12_289 hC rfl hK hP 1 rfl rfl gX12_read_4.2.2.2.1 ?_
              refine lv_iconst (v := 1) hx hb gX12_read_4.2.2.2.2.1 (by decide) ?_
              refine lv_iadd hx hb gX12_read_4.2.2.2.2.2.1 ?_
              refine eqi (x1 := nI (vl + 1)) (nI_add vl 1) ?_
              refine pf_X12_289 hC rfl hK hP hD hS 1 (ws' := [(nw, iA G 1662 fnw), (h0, oX12 nw nk mhasKept nt (nI ktp) nr mrowMany mroundOf mroundFrom mouts nm mfromHour mtoHour ns (nI kf19164) (nI kt19165) so19166 1 0 (nI kc19167) (nI (vl + 1)) nl nc nF np ntr nb mbestCost nso nsi nit nsh nsf nss nrc mtraced mdealer mnumber mwhose msize misParted), (nt, iA G 240 fnt), (nc, iA G 100 gnc9168), (nl, iA G 54 gnl9169), (nF, sA G 5 (FCT K))]) rfl (Nat.le_of_ble_eq_true rfl) rfl rfl rfl gX12_read_4.2.2.2.2.2.2.1 (fun H locs hP hD hS => ?_)
              refine lv_goto (tgt := 29) hx hb gX12_read_4.2.2.2.2.2.2.2.1 (by decide) ?_
              refine Kpds (ws' := [(nw, iA G 1662 fnw), (nc, iA G 100 gnc9168), (nl, iA G 54 gnl9169), (nF, sA G 5 (FCT K)), (h0, oX12 nw nk mhasKept nt (nI ktp) nr mrowMany mroundOf mroundFrom mouts nm mfromHour mtoHour ns (nI kf19164) (nI kt19165) so19166 1 0 (nI kc19167) (nI (vl + 1)) nl nc nF np ntr nb mbestCost nso nsi nit nsh nsf nss nrc mtraced mdealer mnumber mwhose msize misParted), (nt, iA G 240 fnt)]) hP hD [0, 3, 4, 5, 1, 2] fm_0_3_4_5_1_2 nd_0_3_4_5_1_2 sm_0_3_4_5_1_2 (fun hP hD => ?_)
              exact ihR so19166 1 kf19164 kt19165 kc19167 (vl + 1) gnl9169 gnc9168 _ _ _ (Or.inl rfl) (And.intro hP hD) hS (lv_sub hl [0] rfl)
            · have tA9172 := hw9171_0.1
              have tB9172 := hw9171_0.2.1
              have tA9173 := hw9171_1.1
              have tB9173 := hw9171_1.2.1
              refine lv_aload_n hx hb gX12_read_4.2.1 rfl (lv_at0 hl) ?_
              refine lv_dup hx hb gX12_read_4.2.2.1 rfl ?_
              refine gf_X12_289 hC rfl hK hP 1 rfl rfl gX12_read_4.2.2.2.1 ?_
              refine lv_iconst (v := 1) hx hb gX12_read_4.2.2.2.2.1 (by decide) ?_
              refine lv_iadd hx hb gX12_read_4.2.2.2.2.2.1 ?_
              refine eqi (x1 := nI (vl + 1)) (nI_add vl 1) ?_
              refine pf_X12_289 hC rfl hK hP hD hS 1 (ws' := [(nw, iA G 1662 fnw), (h0, oX12 nw nk mhasKept nt (nI ktp) nr mrowMany mroundOf mroundFrom mouts nm mfromHour mtoHour ns (nI kf19164) (nI kt19165) so19166 0 0 (nI kc19167) (nI (vl + 1)) nl nc nF np ntr nb mbestCost nso nsi nit nsh nsf nss nrc mtraced mdealer mnumber mwhose msize misParted), (nt, iA G 240 fnt), (nc, iA G 100 gnc9168), (nl, iA G 54 gnl9169), (nF, sA G 5 (FCT K))]) rfl (Nat.le_of_ble_eq_true rfl) rfl rfl rfl gX12_read_4.2.2.2.2.2.2.1 (fun H locs hP hD hS => ?_)
              refine lv_goto (tgt := 29) hx hb gX12_read_4.2.2.2.2.2.2.2.1 (by decide) ?_
              refine Kpds (ws' := [(nw, iA G 1662 fnw), (nc, iA G 100 gnc9168), (nl, iA G 54 gnl9169), (nF, sA G 5 (FCT K)), (h0, oX12 nw nk mhasKept nt (nI ktp) nr mrowMany mroundOf mroundFrom mouts nm mfromHour mtoHour ns (nI kf19164) (nI kt19165) so19166 0 0 (nI kc19167) (nI (vl + 1)) nl nc nF np ntr nb mbestCost nso nsi nit nsh nsf nss nrc mtraced mdealer mnumber mwhose msize misParted), (nt, iA G 240 fnt)]) hP hD [0, 3, 4, 5, 1, 2] fm_0_3_4_5_1_2 nd_0_3_4_5_1_2 sm_0_3_4_5_1_2 (fun hP hD => ?_)
              exact ihR so19166 0 kf19164 kt19165 kc19167 (vl + 1) gnl9169 gnc9168 _ _ _ (Or.inr ⟨rfl, RDI.next hRD hw9171_1 hw9171_0 (by omega), by omega⟩) (And.intro hP hD) hS (lv_sub hl [0] rfl)
          · refine lv_iconst (v := 1) hx hb gX12_read_2.2.2.2.2.2.2.2.2.1 (by decide) ?_
            refine lv_goto (tgt := 58) hx hb gX12_read_2.2.2.2.2.2.2.2.2.2 (by decide) ?_
            refine pf_X12_222 hC rfl hK hP hD hS 4 (ws' := [(nw, iA G 1662 fnw), (nc, iA G 100 vC), (nl, iA G 54 vL), (nF, sA G 5 (FCT K)), (h0, oX12 nw nk mhasKept nt (nI ktp) nr mrowMany mroundOf mroundFrom mouts nm mfromHour mtoHour ns (nI vf) (nI vt) vs 1 0 (nI vc) (nI vl) nl nc nF np ntr nb mbestCost nso nsi nit nsh nsf nss nrc mtraced mdealer mnumber mwhose msize misParted), (nt, iA G 240 fnt)]) rfl (Nat.le_of_ble_eq_true rfl) rfl (by decide +kernel) (by decide +kernel) gX12_read_3.2.1 (fun H locs hP hD hS => ?_)
            refine lv_aload_n hx hb gX12_read_3.2.2.1 rfl (lv_at0 hl) ?_
            refine gf_X12_222 hC rfl hK hP 4 rfl rfl gX12_read_3.2.2.2.1 ?_
            refine lv_if_ne (tgt := 29) hx hb gX12_read_3.2.2.2.2.1 (by decide) (fun _ => ?_) (fun c9 => absurd c9 (by decide))
            exact ihR vs 1 vf vt vc vl vL vC _ _ _ (Or.inl rfl) (And.intro hP hD) hS (lv_sub hl [0] rfl)
  exact keyR 10 so19150 0 kf19148 kt19149 0 0 fnl fnc _ _ _ (Or.inr ⟨rfl, ⟨hw9152_1, by omega, by omega, fun i h9 => absurd h9 (Nat.not_lt_zero i)⟩, by omega⟩) (And.intro hP hD) hS (lv_sub hl [0] rfl)
