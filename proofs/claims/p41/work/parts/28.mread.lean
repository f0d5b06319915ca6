section WR
variable {p : Program} {l : Launch} {e : Env} {R : Room} {s : State} {m : MethodId} {args : Array Value} {below : List Frame} {meth : Method} {c : Code} {H : Heap} {locs : List Loc} {cells slots : Nat} {Q : State → Prop}
variable {pc : Nat} {ls : Array Slot} {rest : List Value} {G : GG} {ws : va_W} {A : Nat → Prop} {y0 : MethodName} {b0 : ByteArray} {mL0 : Nat} {rt0 : Option FieldType} {a : Nat} {H0 : Heap}
end WR
theorem nI_subR {a b : Nat} (h : b ≤ a) : nI a - nI b = nI (a - b) := by
  obtain ⟨c, rfl⟩ : ∃ c, a = b + c := ⟨a - b, by omega⟩
  rw [show b + c - b = c by omega, ← nI_add b c, Int32.add_comm, Int32.add_sub_cancel]
theorem nle_of {a b : Nat} (ha : a < 2 ^ 31) (hb : b < 2 ^ 31) (h : ¬ nI a < nI b) : b ≤ a := (nI_leI hb ha).mp (Int32.not_lt.mp h)
theorem slen3 : ∀ i : Nat, i < 16 → 11 ≤ i → 3 ≤ SLEN.getD i 0 := by decide
def FCT (K : OO) : Nat → Option Nat := fun k => if k < 5 then some (K.1 (11 + k)) else none
theorem Wi1_nat {v : Int32} {N : Nat} (hN : N < 2 ^ 31) (h : Wi v 1 (nI N)) : ∃ j, j ≤ N ∧ v = nI j := by
  rw [Wi_iff, nI_ti hN] at h
  obtain ⟨h1, h2⟩ := h
  have e1 : (1 : Int32).toInt = 1 := by decide
  rw [e1] at h1
  have h0 : ¬ v < 0 := by
    intro h9
    rw [Int32.lt_iff_toInt_lt] at h9
    have e : (0 : Int32).toInt = 0 := by decide
    omega
  obtain ⟨j, hj, rfl⟩ := nI_of h0
  rw [nI_ti hj] at h2
  exact ⟨j, by omega, rfl⟩
/-- digits from a to b -/
def DG (f : Nat → Int32) (a b : Nat) : Prop := ∀ i, a ≤ i → i < b → ∃ d, d ≤ 9 ∧ f i = nI (48 + d)
theorem DG.zero {f : Nat → Int32} {a : Nat} : DG f a a := fun i h1 h2 => by omega
theorem dig {x : Int32} (h : Wi x 48 57) : ∃ d, d ≤ 9 ∧ x = nI (48 + d) := by
  rw [Wi_iff] at h
  obtain ⟨h1, h2⟩ := h
  have e0 : (48 : Int32).toInt = 48 := by decide
  have e1 : (57 : Int32).toInt = 57 := by decide
  rw [e0] at h1
  rw [e1] at h2
  have h0 : ¬ x < 0 := by
    intro h9
    rw [Int32.lt_iff_toInt_lt] at h9
    have e : (0 : Int32).toInt = 0 := by decide
    omega
  obtain ⟨j, hj, rfl⟩ := nI_of h0
  rw [nI_ti hj] at h1 h2
  exact ⟨j - 48, by omega, congrArg nI (by omega)⟩
theorem DG.next {f : Nat → Int32} {a b : Nat} (h : DG f a b) (hx : Wi (f b) 48 57) : DG f a (b + 1) := by
  intro i h1 h2
  by_cases c : i = b
  · subst c; exact dig hx
  · exact h i h1 (by omega)
/-- the token at hand -/
def TOK (f : Nat → Int32) (so : Int32) (kf kt tp : Nat) : Prop := kf ≤ kt ∧ kt ≤ tp ∧ (so = 0 ∨ kf < kt) ∧ (so = 2 → DG f kf kt)
theorem TOK.n0 {f : Nat → Int32} {kf tp : Nat} (h : kf ≤ tp) : TOK f 0 kf kf tp := ⟨Nat.le_refl _, h, Or.inl rfl, fun h9 => absurd h9 (by decide)⟩
theorem TOK.n1 {f : Nat → Int32} {kf kt tp : Nat} (h : kf < kt) (h2 : kt ≤ tp) : TOK f 1 kf kt tp := ⟨by omega, h2, Or.inr h, fun h9 => absurd h9 (by decide)⟩
theorem TOK.n3 {f : Nat → Int32} {kf kt tp : Nat} (h : kf < kt) (h2 : kt ≤ tp) : TOK f 3 kf kt tp := ⟨by omega, h2, Or.inr h, fun h9 => absurd h9 (by decide)⟩
theorem TOK.n2 {f : Nat → Int32} {kf kt tp : Nat} (h : kf < kt) (h2 : kt ≤ tp) (hd : DG f kf kt) : TOK f 2 kf kt tp := ⟨by omega, h2, Or.inr h, fun _ => hd⟩
theorem TOK.lt {f : Nat → Int32} {so : Int32} {kf kt tp : Nat} (h : TOK f so kf kt tp) (c : ¬ so = 0) : kf < kt := h.2.2.1.resolve_left c
def ISG (f : Nat → Int32) (so : Int32) (kf kt : Nat) (c : Int32) : Prop := kf < kt ∧ so = 3 ∧ f kf = c
/-- codes that leave one more on the pile -/
def SEG (c : Nat → Int32) (a b : Nat) : Prop := ∀ h0 : Nat, ∃ ht : Nat → Nat, ht a = h0 ∧ ht b = h0 + 1 ∧ ∀ k, a ≤ k → k < b → STEP (c k) (ht k) (ht (k + 1))
theorem SEG.ext {c d : Nat → Int32} {a b : Nat} (h : SEG c a b) (he : ∀ k, a ≤ k → k < b → d k = c k) : SEG d a b := by
  intro h0
  obtain ⟨ht, e1, e2, hs⟩ := h h0
  exact ⟨ht, e1, e2, fun k h1 h2 => by rw [he k h1 h2]; exact hs k h1 h2⟩
theorem SEG.push {f : Nat → Int32} {a : Nat} {v : Int32} (hv : v < 30000) : SEG (upd f a v) a (a + 1) := by
  intro h0
  refine ⟨fun k => if k ≤ a then h0 else h0 + 1, if_pos (Nat.le_refl _), if_neg (by omega), fun k h1 h2 => ?_⟩
  obtain rfl : k = a := by omega
  rw [upd_eq rfl]
  refine Or.inl ⟨hv, ?_⟩
  show (if k + 1 ≤ k then h0 else h0 + 1) = (if k ≤ k then h0 else h0 + 1) + 1
  rw [if_neg (by omega), if_pos (Nat.le_refl _)]
theorem SEG.not {f : Nat → Int32} {a b : Nat} (h : SEG f a b) (hab : a < b) : SEG (upd f b 30000) a (b + 1) := by
  intro h0
  obtain ⟨ht, e1, e2, hs⟩ := h h0
  refine ⟨fun k => if k ≤ b then ht k else h0 + 1, ?_, if_neg (by omega), fun k h1 h2 => ?_⟩
  · show (if a ≤ b then ht a else h0 + 1) = h0
    rw [if_pos (by omega), e1]
  · by_cases c : k = b
    · subst c
      rw [upd_eq rfl]
      refine Or.inr (Or.inl ⟨by decide, rfl, ?_, ?_⟩)
      · show 1 ≤ (if k ≤ k then ht k else h0 + 1)
        rw [if_pos (Nat.le_refl _), e2]; omega
      · show (if k + 1 ≤ k then ht (k + 1) else h0 + 1) = (if k ≤ k then ht k else h0 + 1)
        rw [if_neg (by omega), if_pos (Nat.le_refl _), e2]
    · rw [upd_ne c]
      have h9 := hs k h1 (by omega)
      show STEP (f k) (if k ≤ b then ht k else h0 + 1) (if k + 1 ≤ b then ht (k + 1) else h0 + 1)
      rw [if_pos (by omega), if_pos (by omega)]
      exact h9
theorem SEG.op {f : Nat → Int32} {a b c : Nat} {v : Int32} (h : SEG f a b) (h2 : SEG f b c) (hab : a < b) (hbc : b < c) (hv : v = 30001 ∨ v = 30002) : SEG (upd f c v) a (c + 1) := by
  intro h0
  obtain ⟨ht, e1, e2, hs⟩ := h h0
  obtain ⟨hu, e3, e4, hs2⟩ := h2 (h0 + 1)
  refine ⟨fun k => if k ≤ b then ht k else if k ≤ c then hu k else h0 + 1, ?_, ?_, fun k h1 h9 => ?_⟩
  · show (if a ≤ b then ht a else if a ≤ c then hu a else h0 + 1) = h0
    rw [if_pos (by omega), e1]
  · show (if c + 1 ≤ b then ht (c + 1) else if c + 1 ≤ c then hu (c + 1) else h0 + 1) = h0 + 1
    rw [if_neg (by omega), if_neg (by omega)]
  · show STEP (upd f c v k) (if k ≤ b then ht k else if k ≤ c then hu k else h0 + 1) (if k + 1 ≤ b then ht (k + 1) else if k + 1 ≤ c then hu (k + 1) else h0 + 1)
    by_cases c1 : k < b
    · rw [upd_ne (by omega), if_pos (by omega), if_pos (by omega)]
      exact hs k h1 c1
    · by_cases c2 : k < c
      · rw [upd_ne (by omega), if_neg (show ¬ k + 1 ≤ b by omega), if_pos (show k + 1 ≤ c by omega)]
        have h8 := hs2 k (by omega) c2
        by_cases c3 : k = b
        · subst c3
          rw [if_pos (Nat.le_refl _), e2, ← e3]
          exact h8
        · rw [if_neg (by omega), if_pos (by omega)]
          exact h8
      · obtain rfl : k = c := by omega
        rw [upd_eq rfl, if_neg (show ¬ k ≤ b by omega), if_pos (Nat.le_refl _), if_neg (show ¬ k + 1 ≤ b by omega), if_neg (show ¬ k + 1 ≤ k by omega), e4]
        refine Or.inr (Or.inr ⟨?_, ?_, by omega, rfl⟩) <;> rcases hv with rfl | rfl <;> decide
/-- an expression has been read: its codes, and how far -/
def EXPR (f g : Nat → Int32) (a b p q : Nat) : Prop := a < b ∧ p + 3 * b + 2 ≤ q + 3 * a ∧ (∀ k, k < a → g k = f k) ∧ SEG g a b
theorem EXPR.op {f g h : Nat → Int32} {a b c p q q2 r : Nat} {v : Int32} (h1 : EXPR f g a b p q) (h2 : EXPR g h b c q2 r) (hq : q + 2 ≤ q2) (hv : v = 30001 ∨ v = 30002) : EXPR f (upd h c v) a (c + 1) p r := by
  obtain ⟨a1, a2, a3, a4⟩ := h1
  obtain ⟨b1, b2, b3, b4⟩ := h2
  refine ⟨by omega, by omega, fun k hk => ?_, ?_⟩
  · rw [upd_ne (by omega), b3 k (by omega), a3 k hk]
  · exact SEG.op (a4.ext fun k h1 h2 => b3 k h2) b4 a1 b1 hv
theorem EXPR.fact {f : Nat → Int32} {a p q : Nat} {v : Int32} (hv : v < 30000) (hq : p + 5 ≤ q) : EXPR f (upd f a v) a (a + 1) p q :=
  ⟨by omega, by omega, fun k hk => upd_ne (by omega), SEG.push hv⟩
theorem EXPR.not {f g : Nat → Int32} {a b p q : Nat} (h : EXPR f g a b p q) (hq : p + 3 * (b + 1) + 2 ≤ q + 3 * a) : EXPR f (upd g b 30000) a (b + 1) p q :=
  ⟨by have := h.1; omega, hq, fun k hk => by have := h.1; rw [upd_ne (by omega)]; exact h.2.2.1 k hk, h.2.2.2.not h.1⟩
theorem EXPR.wid {f g : Nat → Int32} {a b p q p2 q2 : Nat} (h : EXPR f g a b p q) (hq : p2 + 3 * b + 2 ≤ q2 + 3 * a) : EXPR f g a b p2 q2 := ⟨h.1, hq, h.2.2.1, h.2.2.2⟩
def LOKB (ln cd : Nat → Int32) (B : Nat) : Prop := (∃ so, so < 4 ∧ ln 0 = nI so ∧ (so = 0 → (∃ n2, n2 < 8 ∧ ln 2 = nI n2) ∧ ∃ n3, n3 < 8 ∧ ln 3 = nI n3) ∧ (so = 2 → ∃ n1, n1 < 8 ∧ ln 1 = nI n1)) ∧ ∃ a b, ln 4 = nI a ∧ ln 5 = nI b ∧ a ≤ b ∧ b ≤ B ∧ WFC cd a b
theorem LOKB.ext {l1 l2 c1 c2 : Nat → Int32} {B B2 : Nat} (h1 : ∀ j, j < 6 → l2 j = l1 j) (h2 : ∀ j, j < B → c2 j = c1 j) (hB : B ≤ B2) (h : LOKB l1 c1 B) : LOKB l2 c2 B2 := by
  obtain ⟨⟨so, hs, e0, hA, hC⟩, a, b, e4, e5, hab, hb, ht, h0, hst⟩ := h
  refine ⟨⟨so, hs, (h1 0 (by omega)).trans e0, fun h => ?_, fun h => ?_⟩, a, b, (h1 4 (by omega)).trans e4, (h1 5 (by omega)).trans e5, hab, by omega, ht, h0, fun k hk1 hk2 => ?_⟩
  · obtain ⟨⟨n2, q1, q2⟩, n3, q3, q4⟩ := hA h
    exact ⟨⟨n2, q1, (h1 2 (by omega)).trans q2⟩, n3, q3, (h1 3 (by omega)).trans q4⟩
  · obtain ⟨n1, q1, q2⟩ := hC h
    exact ⟨n1, q1, (h1 1 (by omega)).trans q2⟩
  · rw [h2 k (by omega)]
    exact hst k hk1 hk2
theorem LOKB.lok {ln cd : Nat → Int32} {B : Nat} (hB : B ≤ 100) (h : LOKB ln cd B) : LOK ln cd := by
  obtain ⟨h1, a, b, e4, e5, hab, hb, hw⟩ := h
  exact ⟨h1, a, b, e4, e5, hab, by omega, hw⟩
theorem WFC.zero {c : Nat → Int32} {a : Nat} : WFC c a a := ⟨fun _ => 0, rfl, fun k h1 h2 => by omega⟩
theorem SEG.wfc {c : Nat → Int32} {a b : Nat} (h : SEG c a b) : WFC c a b := by
  obtain ⟨ht, e1, -, hs⟩ := h 0
  exact ⟨ht, e1, hs⟩
/-- a line has been read -/
def LINE (fl gl fc gc : Nat → Int32) (ja a b q : Nat) : Prop := a ≤ b ∧ 3 * b ≤ q ∧ (∀ i, i < ja → gl i = fl i) ∧ (∀ k, k < a → gc k = fc k) ∧ LOKB (fun j => gl (ja + j)) gc b
theorem fct_lt {j c n : Nat} (h1 : j < 5) (h2 : c ≤ 2000) (h3 : n ≤ 999) : nI (3000 * j + c + n) < 30000 := by
  rw [Int32.lt_iff_toInt_lt, nI_ti (by omega)]
  have e : (30000 : Int32).toInt = 30000 := by decide
  omega
/-- what the reader keeps to between two lines -/
def RDI (f : Nat → Int32) (so : Int32) (kf kt tp : Nat) (L C : Nat → Int32) (c l : Nat) : Prop := TOK f so kf kt tp ∧ 3 * c ≤ kf ∧ l ≤ 9 ∧ ∀ i, i < l → LOKB (fun j => L (6 * i + j)) C c
theorem RDI.next {f L L2 C C2 : Nat → Int32} {so so2 : Int32} {kf kt kf2 kt2 tp c c2 l : Nat} (h : RDI f so kf kt tp L C c l) (h2 : LINE L L2 C C2 (6 * l) c c2 kf2) (hT : TOK f so2 kf2 kt2 tp) (hl : l < 9) : RDI f so2 kf2 kt2 tp L2 C2 c2 (l + 1) := by
  obtain ⟨-, -, -, h9⟩ := h
  obtain ⟨a1, a2, a3, a4, a5⟩ := h2
  refine ⟨hT, a2, by omega, fun i hi => ?_⟩
  by_cases e : i = l
  · subst e; exact a5
  · exact LOKB.ext (fun j hj => a3 _ (by omega)) (fun j hj => a4 j hj) a1 (h9 i (by omega))
/-- a piece of the row has been copied -/
def CP (f0 w : Nat → Int32) (b n : Nat) (src : Nat → Int32) : Prop := NI w ∧ (∀ i, (i < b ∨ b + n ≤ i) → w i = f0 i) ∧ ∀ k, k < n → w (b + k) = src k
theorem CP.zero {f src : Nat → Int32} {b : Nat} (h : NI f) : CP f f b 0 src := ⟨h, fun _ _ => rfl, fun k h => absurd h (Nat.not_lt_zero k)⟩
theorem CP.next {f0 w src : Nat → Int32} {b n : Nat} {x : Int32} (h : CP f0 w b n src) (hx : x = src n) (hb : bnd (b + n) = (-2147483648, 2147483647)) : CP f0 (upd w (b + n) x) b (n + 1) src := by
  obtain ⟨h1, h2, h3⟩ := h
  refine ⟨h1.setA hb, fun i hi => ?_, fun k hk => ?_⟩
  · rw [upd_ne (by omega)]; exact h2 i (by omega)
  · by_cases e : k = n
    · subst e; rw [upd_eq rfl, hx]
    · rw [upd_ne (by omega)]; exact h3 k (by omega)
theorem CP.SC {f0 w src : Nat → Int32} {b n : Nat} {a x y z p q s r u v t : Int32} (h : CP f0 w b n src) (hb : 12 ≤ b) (hs : SCX f0 a x y z p q s r u v t) : SCX w a x y z p q s r u v t :=
  hs.ag fun i h1 _ => h.2.1 i (by omega)
theorem CP.FR {f0 w e src : Nat → Int32} {b n lo hi : Nat} (h : CP f0 w b n src) (hb : lo ≤ b) (hn : b + n ≤ hi) (hs : FRO f0 e lo hi) : FRO w e lo hi :=
  fun j h1 h2 => (h.2.1 j (by omega)).trans (hs j h1 h2)
theorem VI.newrow {f w w2 ln cd : Nat → Int32} {k7 L c : Nat} {d x : Int32} (hV : VI f) (hk : k7 < 8) (hL : L ≤ 9) (hc : c ≤ 100) (h1 : CP (upd (upd f (176 + 156 * k7 + 0) d) (176 + 156 * k7 + 1) (nI L)) w (176 + 156 * k7 + 2) 54 ln) (h2 : CP w w2 (176 + 156 * k7 + 56) c cd) (hl : ∀ i, i < L → LOKB (fun j => ln (6 * i + j)) cd c) : VI (upd w2 7 x) := by
  obtain ⟨-, p2, p3⟩ := h1
  obtain ⟨-, q2, q3⟩ := h2
  intro v hv
  by_cases e : v = k7
  · subst e
    refine ⟨L, hL, ?_, fun l hl9 => LOKB.lok hc (LOKB.ext (fun j hj => ?_) (fun j hj => ?_) (Nat.le_refl c) (hl l hl9))⟩
    · show upd w2 7 x (176 + 156 * v + 1) = nI L
      rw [upd_ne (by omega), q2 _ (by omega), p2 _ (by omega), upd_eq rfl]
    · show upd w2 7 x (176 + 156 * v + (2 + 6 * l + j)) = ln (6 * l + j)
      rw [upd_ne (by omega), q2 _ (by omega), show 176 + 156 * v + (2 + 6 * l + j) = 176 + 156 * v + 2 + (6 * l + j) by omega, p3 _ (by omega)]
    · show upd w2 7 x (176 + 156 * v + (56 + j)) = cd j
      rw [upd_ne (by omega), show 176 + 156 * v + (56 + j) = 176 + 156 * v + 56 + j by omega, q3 _ hj]
  · refine VOK.ext (fun j hj => ?_) (hV v hv)
    show f (176 + 156 * v + j) = upd w2 7 x (176 + 156 * v + j)
    rw [upd_ne (by omega), q2 _ (by omega), p2 _ (by omega), upd_ne (by omega), upd_ne (by omega)]
section WR
variable {p : Program} {l : Launch} {e : Env} {R : Room} {s : State} {m : MethodId} {args : Array Value} {below : List Frame} {meth : Method} {c : Code} {H : Heap} {locs : List Loc} {cells slots : Nat} {Q : State → Prop}
variable {pc : Nat} {ls : Array Slot} {rest : List Value} {G : GG} {K : OO} {ws : va_W} {A : Nat → Prop} {y0 : MethodName} {b0 : ByteArray} {mL0 : Nat} {rt0 : Option FieldType} {a : Nat} {H0 : Heap}
theorem va_ldcSw (hexec : p.tables.exec = Jvm.exec) {cc : ByteArray} (hb : c.code = cc) {own tx : String} {index q : Nat} (hown : s.vm.findClass own = some m.cls) (hZ : vk_R own index tx q s) (hdg : decode cc pc = .ok (.ldc_w index, 3))
    (k : W p l e R s m args below meth c H locs cells slots Q (F0 m (pc + 3) ls (.ref q :: rest))) : W p l e R s m args below meth c H locs cells slots Q (F0 m pc ls rest) := by
  intro T hT X
  obtain ⟨t, a1, b1⟩ := k T hT X
  exact ⟨t, Jvm.Stand.ldcStringW X hexec hown (text := tx) (a := q) hZ.1 hZ.2 (g := F0 m pc ls rest) rfl (by rw [hb]; exact hdg) t a1, b1⟩
theorem aldS (hC : CX p s m meth c y0 b0 mL0 rt0 args) (hK : KK G s) (hP : va_P G.1 vwCl ws H) (q0 : Nat) {n : Nat} {f : Nat → Option Nat} (ha : ws[q0]? = some (a, .inl (G.2.2.2, n, .inr (.inr (.inr (.inr f)))))) {i : Int32} (hin : vp_in i n) {k v : Nat} (hk : i.toNatClampNeg = k) (hv : f k = some v) (hdg : decode b0 pc = .ok (.aaload, 1)) (kk : W p l e R s m args below meth c H locs cells slots Q (F0 m (pc + 1) ls (.ref v :: rest))) : W p l e R s m args below meth c H locs cells slots Q (F0 m pc ls (.int i :: .ref a :: rest)) := by
  obtain ⟨hx, hb, hr, hml, hB, hown, hlocks, hnm⟩ := hC
  refine va_aldq hx hb hK.1 hP q0 2 ha rfl hin hdg ?_
  rw [hk, hv]
  exact kk
theorem gX12_feed_0 : (decode cX12_feed 0 = .ok (.iload_n 3, 1)) ∧ (decode cX12_feed 1 = .ok (.iconst 1, 1)) ∧ (decode cX12_feed 2 = .ok (.bipush 8, 2)) ∧ (decode cX12_feed 4 = .ok (.invokestatic 84, 3)) ∧ (decode cX12_feed 7 = .ok (.ifCond .ne 5, 3)) ∧ (decode cX12_feed 10 = .ok (.iconst (-1), 1)) ∧ (decode cX12_feed 11 = .ok (.ireturn, 1)) ∧ (decode cX12_feed 12 = .ok (.aload_n 0, 1)) ∧ (decode cX12_feed 13 = .ok (.getfield 206, 3)) ∧ (decode cX12_feed 16 = .ok (.iload_n 3, 1)) := by decide +kernel
theorem m_1034 : Cond.fieldLink RX12 206 "InquiryBenchModel" "taped" "I" ∈ BW := iB_BW55 _ (List.mem_of_getElem? (i := 3) rfl)
theorem gf_X12_206 (hC : CX p s m meth c y0 b0 mL0 rt0 args) (hy0 : y0.cls = RX12) (hK : KK G s) (hP : va_P G.1 vwCl ws H) (q0 : Nat) {fs : List Value} {v : Value} (he : ws[q0]? = some (a, .inr (12, fs))) (hv : fs[4]? = some v) (hdg : decode b0 pc = .ok (.getfield 206, 3)) (kk : W p l e R s m args below meth c H locs cells slots Q (F0 m (pc + 3) ls (v :: rest))) : W p l e R s m args below meth c H locs cells slots Q (F0 m pc ls (.ref a :: rest)) := by
  obtain ⟨hx, hb, hr, hml, hB, hown, hlocks, hnm⟩ := hC
  rw [hy0] at hown
  exact va_get (ci := 12) (C := RX12) (T := TX12) (N := 41) hx hb hB in_X12 hown hK.1 hP q0 he rfl 4 (by decide) (hB _ m_1034) (fun _ h => h) hv hdg kk
theorem gX12_feed_1 : (decode cX12_feed 17 = .ok (.iadd, 1)) ∧ (decode cX12_feed 18 = .ok (.sipush 240, 3)) ∧ (decode cX12_feed 21 = .ok (.if_icmp .le 6, 3)) ∧ (decode cX12_feed 24 = .ok (.bipush (-2), 2)) ∧ (decode cX12_feed 26 = .ok (.ireturn, 1)) ∧ (decode cX12_feed 27 = .ok (.iconst 0, 1)) ∧ (decode cX12_feed 28 = .ok (.istore 4, 2)) ∧ (decode cX12_feed 30 = .ok (.iload 4, 2)) ∧ (decode cX12_feed 32 = .ok (.iload_n 3, 1)) ∧ (decode cX12_feed 33 = .ok (.if_icmp .ge 40, 3)) := by decide +kernel
theorem gX12_feed_4 : (decode cX12_feed 70 = .ok (.goto (-40), 3)) ∧ (decode cX12_feed 73 = .ok (.aload_n 0, 1)) ∧ (decode cX12_feed 74 = .ok (.getfield 206, 3)) ∧ (decode cX12_feed 77 = .ok (.ireturn, 1)) := by decide +kernel
theorem gX12_feed_2 : (decode cX12_feed 36 = .ok (.aload_n 0, 1)) ∧ (decode cX12_feed 37 = .ok (.getfield 16, 3)) ∧ (decode cX12_feed 40 = .ok (.aload_n 0, 1)) ∧ (decode cX12_feed 41 = .ok (.getfield 206, 3)) ∧ (decode cX12_feed 44 = .ok (.lload_n 1, 1)) ∧ (decode cX12_feed 45 = .ok (.bipush 8, 2)) ∧ (decode cX12_feed 47 = .ok (.iload 4, 2)) ∧ (decode cX12_feed 49 = .ok (.imul, 1)) ∧ (decode cX12_feed 50 = .ok (.lshr, 1)) ∧ (decode cX12_feed 51 = .ok (.ldc2_w 209, 3)) := by decide +kernel
theorem m_1033 : Cond.fieldLink RX12 16 "InquiryBenchModel" "tape" "[I" ∈ BW := iB_BW55 _ (List.mem_of_getElem? (i := 2) rfl)
theorem gf_X12_16 (hC : CX p s m meth c y0 b0 mL0 rt0 args) (hy0 : y0.cls = RX12) (hK : KK G s) (hP : va_P G.1 vwCl ws H) (q0 : Nat) {fs : List Value} {v : Value} (he : ws[q0]? = some (a, .inr (12, fs))) (hv : fs[3]? = some v) (hdg : decode b0 pc = .ok (.getfield 16, 3)) (kk : W p l e R s m args below meth c H locs cells slots Q (F0 m (pc + 3) ls (v :: rest))) : W p l e R s m args below meth c H locs cells slots Q (F0 m pc ls (.ref a :: rest)) := by
  obtain ⟨hx, hb, hr, hml, hB, hown, hlocks, hnm⟩ := hC
  rw [hy0] at hown
  exact va_get (ci := 12) (C := RX12) (T := TX12) (N := 41) hx hb hB in_X12 hown hK.1 hP q0 he rfl 3 (by decide) (hB _ m_1033) (fun _ h => h) hv hdg kk
theorem m_1237 : Cond.constantLong RX12 209 (255) ∈ BW := iB_BW66 _ (List.mem_of_getElem? (i := 5) rfl)
theorem gX12_feed_3 : (decode cX12_feed 54 = .ok (.land, 1)) ∧ (decode cX12_feed 55 = .ok (.l2i, 1)) ∧ (decode cX12_feed 56 = .ok (.iastore, 1)) ∧ (decode cX12_feed 57 = .ok (.aload_n 0, 1)) ∧ (decode cX12_feed 58 = .ok (.dup, 1)) ∧ (decode cX12_feed 59 = .ok (.getfield 206, 3)) ∧ (decode cX12_feed 62 = .ok (.iconst 1, 1)) ∧ (decode cX12_feed 63 = .ok (.iadd, 1)) ∧ (decode cX12_feed 64 = .ok (.putfield 206, 3)) ∧ (decode cX12_feed 67 = .ok (.iinc 4 1, 3)) := by decide +kernel
theorem pf_X12_206 (hC : CX p s m meth c y0 b0 mL0 rt0 args) (hy0 : y0.cls = RX12) (hK : KK G s) (hP : va_P G.1 vwCl ws H) (hD : va_D A ws) (hS : va_S A H0 H locs) (q0 : Nat) {fs : List Value} {v : Value} {ws' : va_W} (he : ws[q0]? = some (a, .inr (12, fs))) (hl : 4 < fs.length) (hws : ws.set q0 (a, .inr (12, fs.set 4 v)) = ws') (hn : narrow .int v = v) (hfit : fits .int v = true) (hdg : decode b0 pc = .ok (.putfield 206, 3)) (kk : ∀ (H1 : Heap) (locs1 : List Loc), va_P G.1 vwCl ws' H1 → va_D A ws' → va_S A H0 H1 locs1 → W p l e R s m args below meth c H1 locs1 cells slots Q (F0 m (pc + 3) ls rest)) : W p l e R s m args below meth c H locs cells slots Q (F0 m pc ls (v :: .ref a :: rest)) := by
  obtain ⟨hx, hb, hr, hml, hB, hown, hlocks, hnm⟩ := hC
  rw [hy0] at hown
  subst hws
  exact va_put (ci := 12) (ty := .int) (C := RX12) (T := TX12) (N := 41) hx hb hB in_X12 tyX12 tyX12_ok nmX12 hown hK.1 hP hD hS q0 he rfl 4 (by decide) (hB _ m_1034) (fun _ h => h) rfl (by decide +kernel) hn hfit hl hdg kk
theorem gX12_isIn__0 : (decode cX12_isIn_ 0 = .ok (.iload_n 1, 1)) ∧ (decode cX12_isIn_ 1 = .ok (.aload_n 0, 1)) ∧ (decode cX12_isIn_ 2 = .ok (.getfield 206, 3)) ∧ (decode cX12_isIn_ 5 = .ok (.if_icmp .ge 21, 3)) ∧ (decode cX12_isIn_ 8 = .ok (.aload_n 0, 1)) ∧ (decode cX12_isIn_ 9 = .ok (.getfield 16, 3)) ∧ (decode cX12_isIn_ 12 = .ok (.iload_n 1, 1)) ∧ (decode cX12_isIn_ 13 = .ok (.iaload, 1)) ∧ (decode cX12_isIn_ 14 = .ok (.iload_n 2, 1)) ∧ (decode cX12_isIn_ 15 = .ok (.iload_n 3, 1)) := by decide +kernel
theorem gX12_isIn__1 : (decode cX12_isIn_ 16 = .ok (.invokestatic 84, 3)) ∧ (decode cX12_isIn_ 19 = .ok (.ifCond .eq 7, 3)) ∧ (decode cX12_isIn_ 22 = .ok (.iconst 1, 1)) ∧ (decode cX12_isIn_ 23 = .ok (.goto 4, 3)) ∧ (decode cX12_isIn_ 26 = .ok (.iconst 0, 1)) ∧ (decode cX12_isIn_ 27 = .ok (.ireturn, 1)) := by decide +kernel
theorem gX12_next_0 : (decode cX12_next 0 = .ok (.aload_n 0, 1)) ∧ (decode cX12_next 1 = .ok (.aload_n 0, 1)) ∧ (decode cX12_next 2 = .ok (.getfield 211, 3)) ∧ (decode cX12_next 5 = .ok (.putfield 214, 3)) ∧ (decode cX12_next 8 = .ok (.aload_n 0, 1)) ∧ (decode cX12_next 9 = .ok (.getfield 214, 3)) ∧ (decode cX12_next 12 = .ok (.aload_n 0, 1)) ∧ (decode cX12_next 13 = .ok (.getfield 206, 3)) ∧ (decode cX12_next 16 = .ok (.if_icmp .ge 30, 3)) ∧ (decode cX12_next 19 = .ok (.aload_n 0, 1)) := by decide +kernel
theorem m_1045 : Cond.fieldLink RX12 211 "InquiryBenchModel" "to" "I" ∈ BW := iB_BW55 _ (List.mem_of_getElem? (i := 14) rfl)
theorem gf_X12_211 (hC : CX p s m meth c y0 b0 mL0 rt0 args) (hy0 : y0.cls = RX12) (hK : KK G s) (hP : va_P G.1 vwCl ws H) (q0 : Nat) {fs : List Value} {v : Value} (he : ws[q0]? = some (a, .inr (12, fs))) (hv : fs[15]? = some v) (hdg : decode b0 pc = .ok (.getfield 211, 3)) (kk : W p l e R s m args below meth c H locs cells slots Q (F0 m (pc + 3) ls (v :: rest))) : W p l e R s m args below meth c H locs cells slots Q (F0 m pc ls (.ref a :: rest)) := by
  obtain ⟨hx, hb, hr, hml, hB, hown, hlocks, hnm⟩ := hC
  rw [hy0] at hown
  exact va_get (ci := 12) (C := RX12) (T := TX12) (N := 41) hx hb hB in_X12 hown hK.1 hP q0 he rfl 15 (by decide) (hB _ m_1045) (fun _ h => h) hv hdg kk
theorem m_1044 : Cond.fieldLink RX12 214 "InquiryBenchModel" "from" "I" ∈ BW := iB_BW55 _ (List.mem_of_getElem? (i := 13) rfl)
theorem pf_X12_214 (hC : CX p s m meth c y0 b0 mL0 rt0 args) (hy0 : y0.cls = RX12) (hK : KK G s) (hP : va_P G.1 vwCl ws H) (hD : va_D A ws) (hS : va_S A H0 H locs) (q0 : Nat) {fs : List Value} {v : Value} {ws' : va_W} (he : ws[q0]? = some (a, .inr (12, fs))) (hl : 14 < fs.length) (hws : ws.set q0 (a, .inr (12, fs.set 14 v)) = ws') (hn : narrow .int v = v) (hfit : fits .int v = true) (hdg : decode b0 pc = .ok (.putfield 214, 3)) (kk : ∀ (H1 : Heap) (locs1 : List Loc), va_P G.1 vwCl ws' H1 → va_D A ws' → va_S A H0 H1 locs1 → W p l e R s m args below meth c H1 locs1 cells slots Q (F0 m (pc + 3) ls rest)) : W p l e R s m args below meth c H locs cells slots Q (F0 m pc ls (v :: .ref a :: rest)) := by
  obtain ⟨hx, hb, hr, hml, hB, hown, hlocks, hnm⟩ := hC
  rw [hy0] at hown
  subst hws
  exact va_put (ci := 12) (ty := .int) (C := RX12) (T := TX12) (N := 41) hx hb hB in_X12 tyX12 tyX12_ok nmX12 hown hK.1 hP hD hS q0 he rfl 14 (by decide) (hB _ m_1044) (fun _ h => h) rfl (by decide +kernel) hn hfit hl hdg kk
theorem gf_X12_214 (hC : CX p s m meth c y0 b0 mL0 rt0 args) (hy0 : y0.cls = RX12) (hK : KK G s) (hP : va_P G.1 vwCl ws H) (q0 : Nat) {fs : List Value} {v : Value} (he : ws[q0]? = some (a, .inr (12, fs))) (hv : fs[14]? = some v) (hdg : decode b0 pc = .ok (.getfield 214, 3)) (kk : W p l e R s m args below meth c H locs cells slots Q (F0 m (pc + 3) ls (v :: rest))) : W p l e R s m args below meth c H locs cells slots Q (F0 m pc ls (.ref a :: rest)) := by
  obtain ⟨hx, hb, hr, hml, hB, hown, hlocks, hnm⟩ := hC
  rw [hy0] at hown
  exact va_get (ci := 12) (C := RX12) (T := TX12) (N := 41) hx hb hB in_X12 hown hK.1 hP q0 he rfl 14 (by decide) (hB _ m_1044) (fun _ h => h) hv hdg kk
theorem gX12_next_2 : (decode cX12_next 39 = .ok (.iadd, 1)) ∧ (decode cX12_next 40 = .ok (.putfield 214, 3)) ∧ (decode cX12_next 43 = .ok (.goto (-35), 3)) ∧ (decode cX12_next 46 = .ok (.aload_n 0, 1)) ∧ (decode cX12_next 47 = .ok (.aload_n 0, 1)) ∧ (decode cX12_next 48 = .ok (.getfield 214, 3)) ∧ (decode cX12_next 51 = .ok (.putfield 211, 3)) ∧ (decode cX12_next 54 = .ok (.aload_n 0, 1)) ∧ (decode cX12_next 55 = .ok (.getfield 214, 3)) ∧ (decode cX12_next 58 = .ok (.aload_n 0, 1)) := by decide +kernel
theorem pf_X12_211 (hC : CX p s m meth c y0 b0 mL0 rt0 args) (hy0 : y0.cls = RX12) (hK : KK G s) (hP : va_P G.1 vwCl ws H) (hD : va_D A ws) (hS : va_S A H0 H locs) (q0 : Nat) {fs : List Value} {v : Value} {ws' : va_W} (he : ws[q0]? = some (a, .inr (12, fs))) (hl : 15 < fs.length) (hws : ws.set q0 (a, .inr (12, fs.set 15 v)) = ws') (hn : narrow .int v = v) (hfit : fits .int v = true) (hdg : decode b0 pc = .ok (.putfield 211, 3)) (kk : ∀ (H1 : Heap) (locs1 : List Loc), va_P G.1 vwCl ws' H1 → va_D A ws' → va_S A H0 H1 locs1 → W p l e R s m args below meth c H1 locs1 cells slots Q (F0 m (pc + 3) ls rest)) : W p l e R s m args below meth c H locs cells slots Q (F0 m pc ls (v :: .ref a :: rest)) := by
  obtain ⟨hx, hb, hr, hml, hB, hown, hlocks, hnm⟩ := hC
  rw [hy0] at hown
  subst hws
  exact va_put (ci := 12) (ty := .int) (C := RX12) (T := TX12) (N := 41) hx hb hB in_X12 tyX12 tyX12_ok nmX12 hown hK.1 hP hD hS q0 he rfl 15 (by decide) (hB _ m_1045) (fun _ h => h) rfl (by decide +kernel) hn hfit hl hdg kk
theorem gX12_next_3 : (decode cX12_next 59 = .ok (.getfield 206, 3)) ∧ (decode cX12_next 62 = .ok (.if_icmp .ne 9, 3)) ∧ (decode cX12_next 65 = .ok (.aload_n 0, 1)) ∧ (decode cX12_next 66 = .ok (.iconst 0, 1)) ∧ (decode cX12_next 67 = .ok (.putfield 217, 3)) ∧ (decode cX12_next 70 = .ok (.return_, 1)) ∧ (decode cX12_next 71 = .ok (.aload_n 0, 1)) ∧ (decode cX12_next 72 = .ok (.aload_n 0, 1)) ∧ (decode cX12_next 73 = .ok (.aload_n 0, 1)) ∧ (decode cX12_next 74 = .ok (.getfield 214, 3)) := by decide +kernel
theorem gX12_next_4 : (decode cX12_next 77 = .ok (.bipush 97, 2)) ∧ (decode cX12_next 79 = .ok (.bipush 122, 2)) ∧ (decode cX12_next 81 = .ok (.invokevirtual 220, 3)) ∧ (decode cX12_next 84 = .ok (.ifCond .eq 7, 3)) ∧ (decode cX12_next 87 = .ok (.iconst 1, 1)) ∧ (decode cX12_next 88 = .ok (.goto 23, 3)) ∧ (decode cX12_next 91 = .ok (.aload_n 0, 1)) ∧ (decode cX12_next 92 = .ok (.aload_n 0, 1)) ∧ (decode cX12_next 93 = .ok (.getfield 214, 3)) ∧ (decode cX12_next 96 = .ok (.bipush 48, 2)) := by decide +kernel
theorem m_1247 : Cond.code yX12_isIn_ cX12_isIn_ 4 (some .boolean) ∈ BW := iB_BW66 _ (List.mem_of_getElem? (i := 15) rfl)
theorem m_1245 : Cond.methodLink RX12 220 yX12_isIn_ ∈ BW := iB_BW66 _ (List.mem_of_getElem? (i := 13) rfl)
theorem m_1246 : Cond.instanceMethod yX12_isIn_ ∈ BW := iB_BW66 _ (List.mem_of_getElem? (i := 14) rfl)
theorem m_78 : Cond.selects RX12 yX12_isIn_ yX12_isIn_ ∈ BW := iB_BW3 _ (List.mem_of_getElem? (i := 18) rfl)
theorem si_X12_220 : SV RX12 RX12 220 yX12_isIn_ cX12_isIn_ 4 (some .boolean) 3 := ⟨⟨m_1245, m_1246, m_78, m_115, m_1247⟩, rfl, nK_RX12.1, nK_RX12.2, pd_0⟩
theorem gX12_next_5 : (decode cX12_next 98 = .ok (.bipush 57, 2)) ∧ (decode cX12_next 100 = .ok (.invokevirtual 220, 3)) ∧ (decode cX12_next 103 = .ok (.ifCond .eq 7, 3)) ∧ (decode cX12_next 106 = .ok (.iconst 2, 1)) ∧ (decode cX12_next 107 = .ok (.goto 4, 3)) ∧ (decode cX12_next 110 = .ok (.iconst 3, 1)) ∧ (decode cX12_next 111 = .ok (.putfield 217, 3)) ∧ (decode cX12_next 114 = .ok (.aload_n 0, 1)) ∧ (decode cX12_next 115 = .ok (.dup, 1)) ∧ (decode cX12_next 116 = .ok (.getfield 211, 3)) := by decide +kernel
theorem m_1046 : Cond.fieldLink RX12 217 "InquiryBenchModel" "sort" "I" ∈ BW := iB_BW55 _ (List.mem_of_getElem? (i := 15) rfl)
theorem pf_X12_217 (hC : CX p s m meth c y0 b0 mL0 rt0 args) (hy0 : y0.cls = RX12) (hK : KK G s) (hP : va_P G.1 vwCl ws H) (hD : va_D A ws) (hS : va_S A H0 H locs) (q0 : Nat) {fs : List Value} {v : Value} {ws' : va_W} (he : ws[q0]? = some (a, .inr (12, fs))) (hl : 16 < fs.length) (hws : ws.set q0 (a, .inr (12, fs.set 16 v)) = ws') (hn : narrow .int v = v) (hfit : fits .int v = true) (hdg : decode b0 pc = .ok (.putfield 217, 3)) (kk : ∀ (H1 : Heap) (locs1 : List Loc), va_P G.1 vwCl ws' H1 → va_D A ws' → va_S A H0 H1 locs1 → W p l e R s m args below meth c H1 locs1 cells slots Q (F0 m (pc + 3) ls rest)) : W p l e R s m args below meth c H locs cells slots Q (F0 m pc ls (v :: .ref a :: rest)) := by
  obtain ⟨hx, hb, hr, hml, hB, hown, hlocks, hnm⟩ := hC
  rw [hy0] at hown
  subst hws
  exact va_put (ci := 12) (ty := .int) (C := RX12) (T := TX12) (N := 41) hx hb hB in_X12 tyX12 tyX12_ok nmX12 hown hK.1 hP hD hS q0 he rfl 16 (by decide) (hB _ m_1046) (fun _ h => h) rfl (by decide +kernel) hn hfit hl hdg kk
theorem gX12_next_6 : (decode cX12_next 119 = .ok (.iconst 1, 1)) ∧ (decode cX12_next 120 = .ok (.iadd, 1)) ∧ (decode cX12_next 121 = .ok (.putfield 211, 3)) ∧ (decode cX12_next 124 = .ok (.aload_n 0, 1)) ∧ (decode cX12_next 125 = .ok (.getfield 217, 3)) ∧ (decode cX12_next 128 = .ok (.iconst 1, 1)) ∧ (decode cX12_next 129 = .ok (.if_icmp .ne 18, 3)) ∧ (decode cX12_next 132 = .ok (.aload_n 0, 1)) ∧ (decode cX12_next 133 = .ok (.aload_n 0, 1)) ∧ (decode cX12_next 134 = .ok (.getfield 211, 3)) := by decide +kernel
theorem gf_X12_217 (hC : CX p s m meth c y0 b0 mL0 rt0 args) (hy0 : y0.cls = RX12) (hK : KK G s) (hP : va_P G.1 vwCl ws H) (q0 : Nat) {fs : List Value} {v : Value} (he : ws[q0]? = some (a, .inr (12, fs))) (hv : fs[16]? = some v) (hdg : decode b0 pc = .ok (.getfield 217, 3)) (kk : W p l e R s m args below meth c H locs cells slots Q (F0 m (pc + 3) ls (v :: rest))) : W p l e R s m args below meth c H locs cells slots Q (F0 m pc ls (.ref a :: rest)) := by
  obtain ⟨hx, hb, hr, hml, hB, hown, hlocks, hnm⟩ := hC
  rw [hy0] at hown
  exact va_get (ci := 12) (C := RX12) (T := TX12) (N := 41) hx hb hB in_X12 hown hK.1 hP q0 he rfl 16 (by decide) (hB _ m_1046) (fun _ h => h) hv hdg kk
theorem gX12_next_7 : (decode cX12_next 137 = .ok (.bipush 97, 2)) ∧ (decode cX12_next 139 = .ok (.bipush 122, 2)) ∧ (decode cX12_next 141 = .ok (.invokevirtual 220, 3)) ∧ (decode cX12_next 144 = .ok (.ifCond .ne 26, 3)) ∧ (decode cX12_next 147 = .ok (.aload_n 0, 1)) ∧ (decode cX12_next 148 = .ok (.getfield 217, 3)) ∧ (decode cX12_next 151 = .ok (.iconst 2, 1)) ∧ (decode cX12_next 152 = .ok (.if_icmp .ne 31, 3)) ∧ (decode cX12_next 155 = .ok (.aload_n 0, 1)) ∧ (decode cX12_next 156 = .ok (.aload_n 0, 1)) := by decide +kernel
theorem gX12_next_8 : (decode cX12_next 157 = .ok (.getfield 211, 3)) ∧ (decode cX12_next 160 = .ok (.bipush 48, 2)) ∧ (decode cX12_next 162 = .ok (.bipush 57, 2)) ∧ (decode cX12_next 164 = .ok (.invokevirtual 220, 3)) ∧ (decode cX12_next 167 = .ok (.ifCond .eq 16, 3)) ∧ (decode cX12_next 170 = .ok (.aload_n 0, 1)) ∧ (decode cX12_next 171 = .ok (.dup, 1)) ∧ (decode cX12_next 172 = .ok (.getfield 211, 3)) ∧ (decode cX12_next 175 = .ok (.iconst 1, 1)) ∧ (decode cX12_next 176 = .ok (.iadd, 1)) := by decide +kernel
theorem gX12_next_9 : (decode cX12_next 177 = .ok (.putfield 211, 3)) ∧ (decode cX12_next 180 = .ok (.goto (-56), 3)) ∧ (decode cX12_next 183 = .ok (.return_, 1)) := by decide +kernel
theorem gX12_next_1 : (decode cX12_next 20 = .ok (.getfield 16, 3)) ∧ (decode cX12_next 23 = .ok (.aload_n 0, 1)) ∧ (decode cX12_next 24 = .ok (.getfield 214, 3)) ∧ (decode cX12_next 27 = .ok (.iaload, 1)) ∧ (decode cX12_next 28 = .ok (.bipush 32, 2)) ∧ (decode cX12_next 30 = .ok (.if_icmp .ne 16, 3)) ∧ (decode cX12_next 33 = .ok (.aload_n 0, 1)) ∧ (decode cX12_next 34 = .ok (.dup, 1)) ∧ (decode cX12_next 35 = .ok (.getfield 214, 3)) ∧ (decode cX12_next 38 = .ok (.iconst 1, 1)) := by decide +kernel
end WR
def FBT (f bt : Nat → Int32) (n : Nat) : Prop := ∀ j, j < n → f j = bt j
theorem FBT.feed {f fb f2 fb2 : Nat → Int32} {k y m y2 : Nat} {e : Int64} (h : FBT f fb k) (hB : BNN fb k) (e1 : y = k) (e2 : y2 = m) (hc : FDB (BYT e) k m fb fb2) (hm : FDB (BYM e) y y2 f f2) : FBT f2 fb2 m ∧ BNN fb2 m := by
  subst e1
  subst e2
  obtain ⟨c1, c2, c3⟩ := hc
  obtain ⟨m1, m2, -⟩ := hm
  refine ⟨fun j hj => ?_, fun j hj => ?_⟩
  · rcases Nat.lt_or_ge j y with q | q
    · rw [m1 j q, c1 j q]; exact h j q
    · rw [m2 j q hj, c2 j q hj]; exact BYM.eq (by omega)
  · rcases Nat.lt_or_ge j y with q | q
    · rw [c1 j q]; exact hB j q
    · rw [c2 j q hj]; exact nn255 _
section RDMS
variable {bt : Nat → Int32} {n s : Nat}
theorem MNX.en (hs : n ≤ s) : TKN bt n s = 0 ∧ TKE bt n s = s := ⟨TKN.e0 (by omega), TKE.e0 (TKN.e0 (by omega))⟩
theorem MNX.nm {j : Nat} (hs : s < n) (hl : LTR (bt s)) (h1 : s ≤ j) (h2 : j ≤ n) (h3 : RUN bt LTR s j) (h4 : j < n → ¬ LTR (bt j)) : TKN bt n s = 1 ∧ TKE bt n s = j := ⟨TKN.e1 hs hl, (TKE.nm hs hl h1 h2 h3 h4).2⟩
theorem MNX.nu {j : Nat} (hs : s < n) (hl : ¬ LTR (bt s)) (hd : DGT (bt s)) (h1 : s ≤ j) (h2 : j ≤ n) (h3 : RUN bt DGT s j) (h4 : j < n → ¬ DGT (bt j)) : TKN bt n s = 2 ∧ TKE bt n s = j := ⟨TKN.e2 hs hl hd, (TKE.nu hs hl hd h1 h2 h3 h4).2⟩
theorem MNX.by9 (hs : s < n) (hl : ¬ LTR (bt s)) (hd : ¬ DGT (bt s)) : TKN bt n s = 3 ∧ TKE bt n s = s + 1 := ⟨TKN.e3 hs hl hd, (TKE.by9 hs hl hd).2⟩
theorem TKN.lt (h : ¬ TKN bt n s = 0) : s < n := by
  rcases TKN.cases bt n s with ⟨h1, h2⟩ | ⟨h1, -⟩ | ⟨h1, -⟩ | ⟨h1, -⟩
  · exact absurd h2 h
  · exact h1
  · exact h1
  · exact h1
theorem TKN.le3 (bt : Nat → Int32) (n s : Nat) : TKN bt n s ≤ 3 := by
  rcases TKN.cases bt n s with ⟨-, h⟩ | ⟨-, -, h⟩ | ⟨-, -, -, h⟩ | ⟨-, -, -, h⟩ <;> omega
/-- a word so far, as the reference holds it -/
def ISW (bt : Nat → Int32) (s i : Nat) (is : Int32) (k : Nat) : Prop := (is = 1 ∧ WDP bt s i k) ∨ (is = 0 ∧ ¬ WDP bt s i k)
theorem WDP.le {i k m : Nat} (h : WDP bt s i m) (hk : k ≤ m) : WDP bt s i k := fun j hj => h j (by omega)
theorem WDP.nn {i k : Nat} (h : ¬ bt (s + k) = (SBY.getD i []).getD k 0) : ¬ WDP bt s i (k + 1) := fun h2 => h (h2 k (by omega))
/-- a fact so far -/
def FCI (bt : Nat → Int32) (n s : Nat) (fa : Int32) (k : Nat) : Prop := (fa = -1 ∧ ∀ j, j < k → ¬ WRD bt n s (11 + j)) ∨ ∃ j, j < k ∧ WRD bt n s (11 + j) ∧ fa = nI j
theorem FCI.zero : FCI bt n s (-1) 0 := Or.inl ⟨rfl, fun j h => absurd h (Nat.not_lt_zero j)⟩
theorem FCI.no {fa : Int32} {k i : Nat} (h : FCI bt n s fa k) (hi : i = 11 + k) (h2 : ¬ WRD bt n s i) : FCI bt n s fa (k + 1) := by
  subst hi
  rcases h with ⟨e, h⟩ | ⟨j, hj, hw, e⟩
  · refine Or.inl ⟨e, fun j hj => ?_⟩
    by_cases c : j = k
    · rw [c]; exact h2
    · exact h j (by omega)
  · exact Or.inr ⟨j, by omega, hw, e⟩
theorem FCI.yes {k i : Nat} (hi : i = 11 + k) (h2 : WRD bt n s i) : FCI bt n s (nI k) (k + 1) := Or.inr ⟨k, by omega, hi ▸ h2, rfl⟩
theorem FCI.end {fa : Int32} (h : FCI bt n s fa 5) : (fa = -1 ∧ FAC bt n s = none) ∨ (fa = nI (FAV bt n s) ∧ FAC bt n s = some (FAV bt n s) ∧ FAV bt n s < 5) := by
  rcases h with ⟨e, h⟩ | ⟨j, hj, hw, e⟩
  · exact Or.inl ⟨e, FAC.n h⟩
  · have h2 := FAV.y hj hw
    exact Or.inr ⟨e.trans h2.1, h2.2⟩
theorem STP.rep {b k : Nat} {f : Nat → Int32} {r : List Int32} {x : Int32} (h : STP (b + k) f (r ++ List.replicate k x)) : STP (b + (k + 1)) (upd f (b + k) x) (r ++ List.replicate (k + 1) x) := by
  rw [List.replicate_succ', ← List.append_assoc]
  exact h.push
theorem STP.r0 {b : Nat} {f : Nat → Int32} {r : List Int32} {x : Int32} (h : STP b f r) : STP (b + 0) f (r ++ List.replicate 0 x) := by
  show STP b f (r ++ [])
  rw [List.append_nil]
  exact h
theorem STP.cn {k v : Nat} {x : Int32} {f : Nat → Int32} {rs : List Int32} (h : STP k f ((rs ++ [x]) ++ List.replicate v 30000)) : STP k f (rs ++ x :: NTR v) := by
  rw [List.append_assoc] at h
  exact h
/-- a line's row as the reference lays it -/
def LRM (g : Nat → Int32) (b : Nat) (ln : LNT) : Prop := g b = nI ln.1 ∧ g (b + 1) = ln.2.1 ∧ g (b + 2) = ln.2.2.1 ∧ g (b + 3) = ln.2.2.2.1 ∧ g (b + 4) = nI ln.2.2.2.2.2.2.2.1 ∧ g (b + 5) = nI ln.2.2.2.2.2.2.2.2 ∧ (ln.2.2.2.2.1 = 0 → ln.2.2.2.2.2.2.2.1 = ln.2.2.2.2.2.2.2.2) ∧ (ln.2.2.2.2.1 = 1 → ln.2.2.2.2.2.2.2.1 < ln.2.2.2.2.2.2.2.2) ∧ ln.2.2.2.2.1 ≤ 1 ∧ ln.2.2.2.2.2.2.2.2 ≤ 100
def LNM (f g : Nat → Int32) (k : Nat) (ln : LNT) : Prop := (∀ j, j < 6 * k → g j = f j) ∧ LRM g (6 * k) ln
def LNZ (k : Nat) (f : Nat → Int32) (ls : List LNT) : Prop := ls.length = k ∧ ∀ i, i < k → LRM f (6 * i) (ls.getD i LN0)
theorem LNZ.zero {f : Nat → Int32} : LNZ 0 f [] := ⟨rfl, fun i h => absurd h (Nat.not_lt_zero i)⟩
theorem LRM.ext {f g : Nat → Int32} {b : Nat} {ln : LNT} (h : LRM f b ln) (e : ∀ j, j < 6 → g (b + j) = f (b + j)) : LRM g b ln :=
  ⟨(e 0 (by omega)).trans h.1, (e 1 (by omega)).trans h.2.1, (e 2 (by omega)).trans h.2.2.1, (e 3 (by omega)).trans h.2.2.2.1, (e 4 (by omega)).trans h.2.2.2.2.1, (e 5 (by omega)).trans h.2.2.2.2.2.1, h.2.2.2.2.2.2⟩
theorem LNZ.push {k : Nat} {f g : Nat → Int32} {ls : List LNT} {ln : LNT} (h : LNZ k f ls) (h2 : LNM f g k ln) : LNZ (k + 1) g (ls ++ [ln]) := by
  obtain ⟨h1, h3⟩ := h
  obtain ⟨h4, h5⟩ := h2
  refine ⟨by rw [List.length_append, h1]; rfl, fun i hi => ?_⟩
  by_cases c : i = k
  · subst c
    rw [List.getD_eq_getElem?_getD, List.getElem?_append_right (by omega), h1, Nat.sub_self]
    exact h5
  · have e : (ls ++ [ln]).getD i LN0 = ls.getD i LN0 := by rw [List.getD_eq_getElem?_getD, List.getD_eq_getElem?_getD, List.getElem?_append_left (by omega)]
    rw [e]
    exact (h3 i (by omega)).ext fun j hj => h4 _ (by omega)
/-- what the whole text comes to is what the rest of it comes to -/
def TXM (bt : Nat → Int32) (n s0 kl p kc : Nat) (fl fc : Nat → Int32) : Prop := ∃ ls c r, LNZ kl fl ls ∧ STP kc fc r ∧ ∀ q, TXT bt n (9 - kl) p ls c r q → TXT bt n 9 s0 [] [] [] q
theorem TXM.zero {fl fc : Nat → Int32} {s0 : Nat} : TXM bt n s0 0 s0 0 fl fc := ⟨[], [], [], LNZ.zero, STP.zero, fun _ h => h⟩
theorem gdl {a b : List Int32} {i : Nat} (h : i < a.length) : (a ++ b).getD i 0 = a.getD i 0 := by rw [List.getD_eq_getElem?_getD, List.getD_eq_getElem?_getD, List.getElem?_append_left h]
theorem gdr {a b : List Int32} {i : Nat} : (a ++ b).getD (a.length + i) 0 = b.getD i 0 := by rw [List.getD_eq_getElem?_getD, List.getD_eq_getElem?_getD, List.getElem?_append_right (by omega), show a.length + i - a.length = i by omega]
/-- codes that leave one more on the pile, wherever they lie -/
def WSG (t : List Int32) : Prop := 0 < t.length ∧ ∀ (f : Nat → Int32) (a : Nat), (∀ i, i < t.length → f (a + i) = t.getD i 0) → SEG f a (a + t.length)
theorem WSG.fact {v : Int32} (hv : v < 30000) : WSG [v] := by
  refine ⟨Nat.zero_lt_one, fun f a h => ?_⟩
  have e : f a = v := h 0 Nat.zero_lt_one
  show SEG f a (a + 1)
  refine (SEG.push (f := f) (a := a) hv).ext fun k h1 h2 => ?_
  obtain rfl : k = a := by omega
  rw [upd_eq rfl]
  exact e
theorem WSG.not {t : List Int32} (h : WSG t) : WSG (t ++ [30000]) := by
  have l : (t ++ [30000]).length = t.length + 1 := by rw [List.length_append]; rfl
  have p := h.1
  refine ⟨by omega, fun f a hf => ?_⟩
  have h1 : SEG f a (a + t.length) := h.2 f a (fun i hi => (hf i (by omega)).trans (gdl hi))
  have e : f (a + t.length) = 30000 := (hf (t.length + 0) (by omega)).trans gdr
  rw [l]
  refine (h1.not (by omega)).ext fun k q1 q2 => ?_
  by_cases c : k = a + t.length
  · rw [c, upd_eq rfl]; exact e
  · rw [upd_ne c]
theorem WSG.op {s t : List Int32} {v : Int32} (h : WSG s) (h2 : WSG t) (hv : v = 30001 ∨ v = 30002) : WSG ((s ++ t) ++ [v]) := by
  have l : ((s ++ t) ++ [v]).length = s.length + t.length + 1 := by rw [List.length_append, List.length_append]; rfl
  have l2 : (s ++ t).length = s.length + t.length := List.length_append
  have p := h.1
  have p2 := h2.1
  refine ⟨by omega, fun f a hf => ?_⟩
  have a1 : SEG f a (a + s.length) := h.2 f a (fun i hi => ((hf i (by omega)).trans (gdl (by omega))).trans (gdl hi))
  have a2 : SEG f (a + s.length) (a + s.length + t.length) := h2.2 f (a + s.length) (fun i hi => by
    rw [Nat.add_assoc]
    exact ((hf (s.length + i) (by omega)).trans (gdl (by omega))).trans gdr)
  have e : f (a + s.length + t.length) = v := by
    have e9 := hf ((s ++ t).length + 0) (by omega)
    have e8 : ((s ++ t) ++ [v]).getD ((s ++ t).length + 0) 0 = v := gdr
    rw [e8, Nat.add_zero, l2] at e9
    rw [Nat.add_assoc]
    exact e9
  rw [l, ← Nat.add_assoc, ← Nat.add_assoc]
  refine (SEG.op a1 a2 (by omega) (by omega) hv).ext fun k q1 q2 => ?_
  by_cases c : k = a + s.length + t.length
  · rw [c, upd_eq rfl]; exact e
  · rw [upd_ne c]
theorem WSG.nots {t : List Int32} (h : WSG t) : ∀ k, WSG (t ++ List.replicate k 30000)
  | 0 => by
    show WSG (t ++ [])
    rw [List.append_nil]
    exact h
  | k + 1 => by
    rw [List.replicate_succ', ← List.append_assoc]
    exact (WSG.nots h k).not
theorem NMO.bd {v : Nat} (h : NMO bt n s = some v) : v ≤ 999 := NMO.le h (by
  have h1 := (NMO.tk h).1
  have h2 := TKN.lt (bt := bt) (n := n) (s := s) (by omega)
  omega)
theorem CMP.bd {p v : Nat} (h : CMP bt n s = (1, p, v)) : v ≤ 14999 := by
  cases hf : FAC bt n s with
  | none =>
    rw [CMP.f1 hf] at h
    exact absurd (show (0 : Nat) = 1 from congrArg Prod.fst h) (by decide)
  | some fa =>
    cases hg : SIG bt n (NXT bt n s) with
    | none =>
      rw [CMP.f2 hf hg] at h
      exact absurd (show (0 : Nat) = 1 from congrArg Prod.fst h) (by decide)
    | some sg =>
      cases hm : NMO bt n (NXT bt n (NXT bt n s)) with
      | none =>
        rw [CMP.f3 hf hg hm] at h
        exact absurd (show (0 : Nat) = 1 from congrArg Prod.fst h) (by decide)
      | some w =>
        rw [CMP.y hf hg hm] at h
        have a1 := (FAC.of hf).1
        have a2 := (SIG.of hg).1
        have a3 := NMO.bd hm
        have e : (fa * 3 + sg) * 1000 + w = v := congrArg (fun q => q.2.2) h
        omega
theorem nI_3 {v : Nat} (h : v ≤ 14999) : nI v < 30000 := by
  rw [Int32.lt_iff_toInt_lt, nI_ti (by omega)]
  have e : (30000 : Int32).toInt = 30000 := by decide
  omega
def SGP (X : PRX) : Prop := ∀ mo d k s cs rs, (X mo d k s cs rs).1 = 1 → ∃ t, (X mo d k s cs rs).2.2.2 = rs ++ t ∧ (mo ≤ 2 → WSG t) ∧ (¬ mo ≤ 2 → ∀ s0, WSG s0 → WSG (s0 ++ t))
theorem PS0.seg {X : PRX} (h : SGP X) {d k : Nat} {cs rs : List Int32} (hn : (PS0 bt n X d k s cs rs).1 = 1) : ∃ t, (PS0 bt n X d k s cs rs).2.2.2 = rs ++ t ∧ WSG t := by
  unfold PS0 at hn ⊢
  by_cases e : WRD bt n s 10
  · rw [if_pos e] at hn
    rw [if_pos e]
    obtain ⟨t, h1, h2, -⟩ := h 0 d (k + 1) _ cs rs hn
    exact ⟨t, h1, h2 (by decide)⟩
  · rw [if_neg e] at hn
    rw [if_neg e]
    by_cases g : SGN bt n s 40
    · rw [if_pos g] at hn
      rw [if_pos g]
      by_cases q : 4 ≤ d
      · rw [if_pos q] at hn
        exact absurd hn (show ¬ (0 : Nat) = 1 by decide)
      · rw [if_neg q] at hn
        rw [if_neg q]
        by_cases c : (X 2 (d + 1) 0 (NXT bt n s) cs rs).1 = 1
        · rw [if_pos c] at hn
          rw [if_pos c]
          by_cases g2 : SGN bt n (X 2 (d + 1) 0 (NXT bt n s) cs rs).2.1 41
          · rw [if_pos g2]
            obtain ⟨t, h1, h2, -⟩ := h 2 (d + 1) 0 _ cs rs c
            refine ⟨t ++ NTR k, ?_, (h2 (by decide)).nots k⟩
            show (X 2 (d + 1) 0 (NXT bt n s) cs rs).2.2.2 ++ NTR k = rs ++ (t ++ NTR k)
            rw [h1, List.append_assoc]
          · rw [if_neg g2] at hn
            exact absurd hn (show ¬ (0 : Nat) = 1 by decide)
        · rw [if_neg c] at hn
          exact absurd hn c
    · rw [if_neg g] at hn
      rw [if_neg g]
      by_cases c : (CMP bt n s).1 = 1
      · rw [if_pos c]
        exact ⟨nI (CMP bt n s).2.2 :: NTR k, rfl, (WSG.fact (nI_3 (CMP.bd (CMP.e1 c)))).nots k⟩
      · rw [if_neg c] at hn
        exact absurd hn (show ¬ (0 : Nat) = 1 by decide)
theorem PS1.seg {X : PRX} (h : SGP X) {a b d : Nat} {cs rs : List Int32} (ha : a ≤ 2) (hb : ¬ b ≤ 2) (hn : (PS1 X a b d s cs rs).1 = 1) : ∃ t, (PS1 X a b d s cs rs).2.2.2 = rs ++ t ∧ WSG t := by
  unfold PS1 at hn ⊢
  by_cases c : (X a d 0 s cs rs).1 = 1
  · rw [if_pos c] at hn
    rw [if_pos c]
    obtain ⟨t1, h1, h2, -⟩ := h a d 0 s cs rs c
    obtain ⟨t2, h3, -, h4⟩ := h b d 0 _ _ _ hn
    refine ⟨t1 ++ t2, ?_, h4 hb t1 (h2 ha)⟩
    rw [h3, h1, List.append_assoc]
  · rw [if_neg c] at hn
    exact absurd hn c
theorem PS3.seg {X : PRX} (h : SGP X) {w a b d : Nat} {u v : Int32} {cs rs : List Int32} (ha : a ≤ 2) (hb : ¬ b ≤ 2) (hv : v = 30001 ∨ v = 30002) (hn : (PS3 bt n X w a b u v d s cs rs).1 = 1) : ∃ t, (PS3 bt n X w a b u v d s cs rs).2.2.2 = rs ++ t ∧ ∀ s0, WSG s0 → WSG (s0 ++ t) := by
  unfold PS3 at hn ⊢
  by_cases e : WRD bt n s w
  · rw [if_pos e] at hn
    rw [if_pos e]
    by_cases c : (X a d 0 (NXT bt n s) cs rs).1 = 1
    · rw [if_pos c] at hn
      rw [if_pos c]
      obtain ⟨t1, h1, h2, -⟩ := h a d 0 _ cs rs c
      obtain ⟨t2, h3, -, h4⟩ := h b d 0 _ _ _ hn
      refine ⟨(t1 ++ [v]) ++ t2, ?_, fun s0 hs0 => ?_⟩
      · rw [h3, h1]
        simp only [List.append_assoc]
      · have h5 := h4 hb _ (hs0.op (h2 ha) hv)
        simp only [List.append_assoc] at h5 ⊢
        exact h5
    · rw [if_neg c] at hn
      exact absurd hn c
  · rw [if_neg e]
    exact ⟨[], (List.append_nil rs).symm, fun s0 hs0 => by rw [List.append_nil]; exact hs0⟩
theorem PX.seg : ∀ f, SGP (PX bt n f)
  | 0 => fun _ _ _ _ _ _ h => absurd (show (2 : Nat) = 1 from h) (by decide)
  | f + 1 => fun mo d k s cs rs hn => by
    have ih : SGP (PX bt n f) := PX.seg f
    have e : PX bt n (f + 1) mo d k s cs rs = PSt bt n (PX bt n f) mo d k s cs rs := rfl
    rw [e] at hn ⊢
    unfold PSt at hn ⊢
    by_cases c0 : mo = 0
    · rw [if_pos c0] at hn
      rw [if_pos c0]
      obtain ⟨t, h1, h2⟩ := PS0.seg ih hn
      exact ⟨t, h1, fun _ => h2, fun h9 => absurd (show mo ≤ 2 by omega) h9⟩
    rw [if_neg c0] at hn
    rw [if_neg c0]
    by_cases c1 : mo = 1
    · rw [if_pos c1] at hn
      rw [if_pos c1]
      obtain ⟨t, h1, h2⟩ := PS1.seg ih (by decide) (by decide) hn
      exact ⟨t, h1, fun _ => h2, fun h9 => absurd (show mo ≤ 2 by omega) h9⟩
    rw [if_neg c1] at hn
    rw [if_neg c1]
    by_cases c2 : mo = 2
    · rw [if_pos c2] at hn
      rw [if_pos c2]
      obtain ⟨t, h1, h2⟩ := PS1.seg ih (by decide) (by decide) hn
      exact ⟨t, h1, fun _ => h2, fun h9 => absurd (show mo ≤ 2 by omega) h9⟩
    rw [if_neg c2] at hn
    rw [if_neg c2]
    by_cases c3 : mo = 3
    · rw [if_pos c3] at hn
      rw [if_pos c3]
      obtain ⟨t, h1, h2⟩ := PS3.seg ih (by decide) (by decide) (Or.inl rfl) hn
      exact ⟨t, h1, fun h9 => absurd h9 (by omega), fun _ => h2⟩
    rw [if_neg c3] at hn
    rw [if_neg c3]
    obtain ⟨t, h1, h2⟩ := PS3.seg ih (by decide) (by decide) (Or.inr rfl) hn
    exact ⟨t, h1, fun h9 => absurd h9 (by omega), fun _ => h2⟩
theorem RT.seg {mo d p : Nat} {cs rs c1 r1 : List Int32} (h : RT bt n mo d 0 s cs rs (1, p, c1, r1)) (hm : mo ≤ 2) : ∃ t, r1 = rs ++ t ∧ WSG t := by
  obtain ⟨f, h1, -⟩ := h
  obtain ⟨t, h2, h3, -⟩ := PX.seg (bt := bt) (n := n) f mo d 0 s cs rs (by rw [h1])
  rw [h1] at h2
  exact ⟨t, h2, h3 hm⟩
theorem STP.seg {kc kc1 : Nat} {f g : Nat → Int32} {rs t : List Int32} (h : STP kc f rs) (h1 : STP kc1 g (rs ++ t)) (hw : WSG t) : kc < kc1 ∧ (∀ j, j < kc → g j = f j) ∧ WFC g kc kc1 := by
  obtain ⟨a1, a2⟩ := h
  obtain ⟨b1, b2⟩ := h1
  have l : (rs ++ t).length = rs.length + t.length := List.length_append
  have p := hw.1
  obtain rfl : kc1 = kc + t.length := by omega
  refine ⟨by omega, fun j hj => ?_, ?_⟩
  · rw [b2 j (by omega), a2 j hj, gdl (by omega)]
  · refine (hw.2 g kc (fun i hi => ?_)).wfc
    rw [b2 (kc + i) (by omega), ← a1]
    exact gdr
theorem STP.same {kc kc1 : Nat} {f g : Nat → Int32} {rs : List Int32} (h : STP kc f rs) (h1 : STP kc1 g rs) : kc = kc1 ∧ ∀ j, j < kc → g j = f j :=
  ⟨h.1.symm.trans h1.1, fun j hj => (h1.2 j (by have a := h.1; have b := h1.1; omega)).trans (h.2 j hj).symm⟩
theorem HDQ.bd {so p : Nat} {x y z : Int32} (h : HDQ bt n so s (1, p, x, y, z)) : (so = 0 → (∃ n2, n2 < 8 ∧ y = nI n2) ∧ ∃ n3, n3 < 8 ∧ z = nI n3) ∧ (so = 2 → ∃ n1, n1 < 8 ∧ x = nI n1) := by
  rcases h with ⟨-, h⟩ | ⟨a, h1, h⟩
  · exact absurd (show (1 : Nat) = 0 from congrArg Prod.fst h) (by decide)
  · rcases h with ⟨hs, h⟩ | ⟨hs, h⟩ | ⟨hs, h⟩
    · exact ⟨fun h9 => absurd h9 (by omega), fun h9 => absurd h9 (by omega)⟩
    · refine ⟨fun _ => ?_, fun h9 => absurd h9 (by omega)⟩
      rcases h with ⟨-, h⟩ | ⟨-, h⟩
      · exact absurd (show (1 : Nat) = 0 from congrArg Prod.fst h) (by decide)
      · rcases h with ⟨-, h⟩ | ⟨b, h2, h⟩
        · exact absurd (show (1 : Nat) = 0 from congrArg Prod.fst h) (by decide)
        · rcases h with ⟨-, h⟩ | ⟨-, h⟩
          · exact absurd (show (1 : Nat) = 0 from congrArg Prod.fst h) (by decide)
          · rcases h with ⟨-, h⟩ | ⟨c, h3, h⟩
            · exact absurd (show (1 : Nat) = 0 from congrArg Prod.fst h) (by decide)
            · have q2 := (NML.of h2).2
              have q3 := (NML.of h3).2
              exact ⟨⟨b, by omega, congrArg (fun q => q.2.2.2.1) h⟩, c, by omega, congrArg (fun q => q.2.2.2.2) h⟩
    · refine ⟨fun h9 => absurd h9 (by omega), fun _ => ?_⟩
      subst hs
      have q1 : a ≤ 7 := (NML.of h1).2
      have e : x = nI a := by
        rcases h with ⟨-, h⟩ | ⟨-, h⟩
        · exact absurd (show (1 : Nat) = 0 from congrArg Prod.fst h) (by decide)
        · rcases h with ⟨-, h⟩ | ⟨b, -, h⟩
          · exact absurd (show (1 : Nat) = 0 from congrArg Prod.fst h) (by decide)
          · exact congrArg (fun q => q.2.2.1) h
      exact ⟨a, by omega, e⟩
theorem SRT.lt {so : Nat} (h : SRT bt n s = some so) : so < 4 := by
  by_cases c : ∃ j, j < 4 ∧ WRD bt n s (1 + j)
  · obtain ⟨j, hj, hw⟩ := c
    rw [SRT.y hj hw] at h
    cases h
    exact hj
  · rw [SRT.n (fun j hj hw => c ⟨j, hj, hw⟩)] at h
    cases h
theorem RLN.lok {p b kc kc1 : Nat} {cs rs c1 r1 : List Int32} {ln : LNT} {fc gc gl : Nat → Int32} (h : RLN bt n s cs rs (1, p, ln, c1, r1)) (hs : STP kc fc rs) (h1 : STP kc1 gc r1) (hl : LRM gl b ln) : LOKB (fun j => gl (b + j)) gc kc1 ∧ kc ≤ kc1 ∧ ∀ j, j < kc → gc j = fc j := by
  rcases h with ⟨-, e⟩ | ⟨so, hso, h⟩
  · exact absurd (show (1 : Nat) = 0 from congrArg Prod.fst e) (by decide)
  have hs4 := SRT.lt hso
  rcases h with ⟨q, -, e⟩ | ⟨q, x, y, z, hd, h⟩
  · exact absurd (show (1 : Nat) = 0 from congrArg Prod.fst e) (by decide)
  have hb := hd.bd
  rcases h with ⟨-, h⟩ | ⟨-, h⟩
  · rcases h with ⟨-, e⟩ | ⟨-, e⟩
    · exact absurd (show (1 : Nat) = 0 from congrArg Prod.fst e) (by decide)
    · have e1 : ln = (so, x, y, z, 0, cs.length, cs.length, rs.length, rs.length) := congrArg (fun q => q.2.2.1) e
      have e2 : r1 = rs := congrArg (fun q => q.2.2.2.2) e
      subst e1
      subst e2
      obtain ⟨l0, l1, l2, l3, l4, l5, -⟩ := hl
      have sm := STP.same hs h1
      refine ⟨⟨⟨so, hs4, l0, fun h9 => ?_, fun h9 => ?_⟩, _, _, l4, l5, Nat.le_refl _, ?_, WFC.zero⟩, by omega, sm.2⟩
      · obtain ⟨⟨n2, q1, q2⟩, n3, q3, q4⟩ := hb.1 h9
        exact ⟨⟨n2, q1, l2.trans q2⟩, n3, q3, l3.trans q4⟩
      · obtain ⟨n1, q1, q2⟩ := hb.2 h9
        exact ⟨n1, q1, l1.trans q2⟩
      · have a := h1.1
        show r1.length ≤ kc1
        omega
  · rcases h with ⟨q2, -, e⟩ | ⟨q2, c2, r2, hr, h⟩
    · exact absurd (show (1 : Nat) = 0 from congrArg Prod.fst e) (by decide)
    rcases h with ⟨-, e⟩ | ⟨-, e⟩
    · exact absurd (show (1 : Nat) = 0 from congrArg Prod.fst e) (by decide)
    · have e1 : ln = (so, x, y, z, 1, cs.length, c2.length, rs.length, r2.length) := congrArg (fun q => q.2.2.1) e
      have e2 : r1 = r2 := congrArg (fun q => q.2.2.2.2) e
      subst e1
      subst e2
      obtain ⟨t, rfl, hw⟩ := RT.seg hr (by decide)
      have sg := STP.seg hs h1 hw
      have k1 := hs.1
      have k2 := h1.1
      obtain ⟨l0, l1, l2, l3, l4, l5, -⟩ := hl
      refine ⟨⟨⟨so, hs4, l0, fun h9 => ?_, fun h9 => ?_⟩, kc, kc1, l4.trans (congrArg nI k1), l5.trans (congrArg nI k2), by omega, Nat.le_refl _, sg.2.2⟩, by omega, sg.2.1⟩
      · obtain ⟨⟨n2, q1, q2⟩, n3, q3, q4⟩ := hb.1 h9
        exact ⟨⟨n2, q1, l2.trans q2⟩, n3, q3, l3.trans q4⟩
      · obtain ⟨n1, q1, q2⟩ := hb.2 h9
        exact ⟨n1, q1, l1.trans q2⟩
/-- the lines so far are right -/
def LKB (L C : Nat → Int32) (c l : Nat) : Prop := ∀ i, i < l → LOKB (fun j => L (6 * i + j)) C c
theorem LKB.zero {L C : Nat → Int32} {c : Nat} : LKB L C c 0 := fun i h => absurd h (Nat.not_lt_zero i)
theorem LKB.next {L L2 C C2 : Nat → Int32} {c c2 l p : Nat} {cs rs c1 r1 : List Int32} {ln : LNT} (h : LKB L C c l) (hr : RLN bt n s cs rs (1, p, ln, c1, r1)) (hs : STP c C rs) (h1 : STP c2 C2 r1) (hl : LNM L L2 l ln) : LKB L2 C2 c2 (l + 1) := by
  obtain ⟨h2, h3, h4⟩ := RLN.lok hr hs h1 hl.2
  intro i hi
  by_cases e : i = l
  · rw [e]; exact h2
  · exact LOKB.ext (fun j hj => hl.1 _ (by omega)) h4 h3 (h i (by omega))
def RTV (bt : Nat → Int32) (n mo d s : Nat) (cs rs : List Int32) (m0 p k : Nat) (f : Nat → Int32) : Prop := ∃ c1 r1, STP k f r1 ∧ ∀ r, RT bt n m0 d 0 p c1 r1 r → RT bt n mo d 0 s cs rs r
end RDMS
section WR
variable {p : Program} {l : Launch} {e : Env} {R : Room} {s : State} {m : MethodId} {args : Array Value} {below : List Frame} {meth : Method} {c : Code} {H : Heap} {locs : List Loc} {cells slots : Nat} {Q : State → Prop}
variable {pc : Nat} {ls : Array Slot} {rest : List Value} {G : GG} {K : OO} {ws : va_W} {A : Nat → Prop} {y0 : MethodName} {b0 : ByteArray} {mL0 : Nat} {rt0 : Option FieldType} {a : Nat} {H0 : Heap}
theorem gX12_isName_0 : (decode cX12_isName 0 = .ok (.aload_n 0, 1)) ∧ (decode cX12_isName 1 = .ok (.getfield 222, 3)) ∧ (decode cX12_isName 4 = .ok (.ifCond .ne 31, 3)) ∧ (decode cX12_isName 7 = .ok (.aload_n 0, 1)) ∧ (decode cX12_isName 8 = .ok (.getfield 217, 3)) ∧ (decode cX12_isName 11 = .ok (.iconst 1, 1)) ∧ (decode cX12_isName 12 = .ok (.if_icmp .ne 23, 3)) ∧ (decode cX12_isName 15 = .ok (.aload_n 0, 1)) ∧ (decode cX12_isName 16 = .ok (.getfield 211, 3)) ∧ (decode cX12_isName 19 = .ok (.aload_n 0, 1)) := by decide +kernel
theorem m_1047 : Cond.fieldLink RX12 222 "InquiryBenchModel" "isFault" "Z" ∈ BW := iB_BW55 _ (List.mem_of_getElem? (i := 16) rfl)
theorem gf_X12_222 (hC : CX p s m meth c y0 b0 mL0 rt0 args) (hy0 : y0.cls = RX12) (hK : KK G s) (hP : va_P G.1 vwCl ws H) (q0 : Nat) {fs : List Value} {v : Value} (he : ws[q0]? = some (a, .inr (12, fs))) (hv : fs[17]? = some v) (hdg : decode b0 pc = .ok (.getfield 222, 3)) (kk : W p l e R s m args below meth c H locs cells slots Q (F0 m (pc + 3) ls (v :: rest))) : W p l e R s m args below meth c H locs cells slots Q (F0 m pc ls (.ref a :: rest)) := by
  obtain ⟨hx, hb, hr, hml, hB, hown, hlocks, hnm⟩ := hC
  rw [hy0] at hown
  exact va_get (ci := 12) (C := RX12) (T := TX12) (N := 41) hx hb hB in_X12 hown hK.1 hP q0 he rfl 17 (by decide) (hB _ m_1047) (fun _ h => h) hv hdg kk
theorem gX12_isName_1 : (decode cX12_isName 20 = .ok (.getfield 214, 3)) ∧ (decode cX12_isName 23 = .ok (.isub, 1)) ∧ (decode cX12_isName 24 = .ok (.aload_n 1, 1)) ∧ (decode cX12_isName 25 = .ok (.invokevirtual 226, 3)) ∧ (decode cX12_isName 28 = .ok (.if_icmp .ne 7, 3)) ∧ (decode cX12_isName 31 = .ok (.iconst 1, 1)) ∧ (decode cX12_isName 32 = .ok (.goto 4, 3)) ∧ (decode cX12_isName 35 = .ok (.iconst 0, 1)) ∧ (decode cX12_isName 36 = .ok (.istore_n 2, 1)) ∧ (decode cX12_isName 37 = .ok (.iconst 0, 1)) := by decide +kernel
theorem gX12_isName_2 : (decode cX12_isName 38 = .ok (.istore_n 3, 1)) ∧ (decode cX12_isName 39 = .ok (.iload_n 2, 1)) ∧ (decode cX12_isName 40 = .ok (.ifCond .eq 42, 3)) ∧ (decode cX12_isName 43 = .ok (.iload_n 3, 1)) ∧ (decode cX12_isName 44 = .ok (.aload_n 1, 1)) ∧ (decode cX12_isName 45 = .ok (.invokevirtual 226, 3)) ∧ (decode cX12_isName 48 = .ok (.if_icmp .ge 34, 3)) ∧ (decode cX12_isName 51 = .ok (.aload_n 0, 1)) ∧ (decode cX12_isName 52 = .ok (.getfield 16, 3)) ∧ (decode cX12_isName 55 = .ok (.aload_n 0, 1)) := by decide +kernel
theorem gX12_isName_4 : (decode cX12_isName 74 = .ok (.iconst 0, 1)) ∧ (decode cX12_isName 75 = .ok (.istore_n 2, 1)) ∧ (decode cX12_isName 76 = .ok (.iinc 3 1, 3)) ∧ (decode cX12_isName 79 = .ok (.goto (-40), 3)) ∧ (decode cX12_isName 82 = .ok (.iload_n 2, 1)) ∧ (decode cX12_isName 83 = .ok (.ireturn, 1)) := by decide +kernel
theorem m_1254 : Cond.methodLink RX12 226 yJ0_length_8abf5 ∈ BW := iB_BW67 _ (List.mem_of_getElem? (i := 2) rfl)
theorem si_X12_226 : SV RX12 RJ0 226 yJ0_length_8abf5 cJ0_length_8abf5 1 (some .int) 0 := ⟨⟨m_1254, m_652, m_653, m_118, m_654⟩, rfl, nK_RJ0.1, nK_RJ0.2, pd_1⟩
theorem gX12_isName_3 : (decode cX12_isName 56 = .ok (.getfield 214, 3)) ∧ (decode cX12_isName 59 = .ok (.iload_n 3, 1)) ∧ (decode cX12_isName 60 = .ok (.iadd, 1)) ∧ (decode cX12_isName 61 = .ok (.iaload, 1)) ∧ (decode cX12_isName 62 = .ok (.aload_n 1, 1)) ∧ (decode cX12_isName 63 = .ok (.iload_n 3, 1)) ∧ (decode cX12_isName 64 = .ok (.invokevirtual 229, 3)) ∧ (decode cX12_isName 67 = .ok (.if_icmp .ne 7, 3)) ∧ (decode cX12_isName 70 = .ok (.iconst 1, 1)) ∧ (decode cX12_isName 71 = .ok (.goto 4, 3)) := by decide +kernel
theorem m_1255 : Cond.methodLink RX12 229 yJ0_charAt_5068e ∈ BW := iB_BW67 _ (List.mem_of_getElem? (i := 3) rfl)
theorem si_X12_229 : SV RX12 RJ0 229 yJ0_charAt_5068e cJ0_charAt_5068e 2 (some .char) 1 := ⟨⟨m_1255, m_661, m_662, m_118, m_663⟩, rfl, nK_RJ0.1, nK_RJ0.2, pd_25⟩
theorem gX12_isSign_0 : (decode cX12_isSign 0 = .ok (.aload_n 0, 1)) ∧ (decode cX12_isSign 1 = .ok (.getfield 222, 3)) ∧ (decode cX12_isSign 4 = .ok (.ifCond .ne 28, 3)) ∧ (decode cX12_isSign 7 = .ok (.aload_n 0, 1)) ∧ (decode cX12_isSign 8 = .ok (.getfield 217, 3)) ∧ (decode cX12_isSign 11 = .ok (.iconst 3, 1)) ∧ (decode cX12_isSign 12 = .ok (.if_icmp .ne 20, 3)) ∧ (decode cX12_isSign 15 = .ok (.aload_n 0, 1)) ∧ (decode cX12_isSign 16 = .ok (.getfield 16, 3)) ∧ (decode cX12_isSign 19 = .ok (.aload_n 0, 1)) := by decide +kernel
theorem gX12_isSign_1 : (decode cX12_isSign 20 = .ok (.getfield 214, 3)) ∧ (decode cX12_isSign 23 = .ok (.iaload, 1)) ∧ (decode cX12_isSign 24 = .ok (.iload_n 1, 1)) ∧ (decode cX12_isSign 25 = .ok (.if_icmp .ne 7, 3)) ∧ (decode cX12_isSign 28 = .ok (.iconst 1, 1)) ∧ (decode cX12_isSign 29 = .ok (.goto 4, 3)) ∧ (decode cX12_isSign 32 = .ok (.iconst 0, 1)) ∧ (decode cX12_isSign 33 = .ok (.ireturn, 1)) := by decide +kernel
theorem gX12_need_0 : (decode cX12_need 0 = .ok (.aload_n 0, 1)) ∧ (decode cX12_need 1 = .ok (.aload_n 0, 1)) ∧ (decode cX12_need 2 = .ok (.getfield 222, 3)) ∧ (decode cX12_need 5 = .ok (.ifCond .ne 7, 3)) ∧ (decode cX12_need 8 = .ok (.iload_n 1, 1)) ∧ (decode cX12_need 9 = .ok (.ifCond .ne 7, 3)) ∧ (decode cX12_need 12 = .ok (.iconst 1, 1)) ∧ (decode cX12_need 13 = .ok (.goto 4, 3)) ∧ (decode cX12_need 16 = .ok (.iconst 0, 1)) ∧ (decode cX12_need 17 = .ok (.putfield 222, 3)) := by decide +kernel
theorem pf_X12_222 (hC : CX p s m meth c y0 b0 mL0 rt0 args) (hy0 : y0.cls = RX12) (hK : KK G s) (hP : va_P G.1 vwCl ws H) (hD : va_D A ws) (hS : va_S A H0 H locs) (q0 : Nat) {fs : List Value} {v : Value} {ws' : va_W} (he : ws[q0]? = some (a, .inr (12, fs))) (hl : 17 < fs.length) (hws : ws.set q0 (a, .inr (12, fs.set 17 v)) = ws') (hn : narrow .boolean v = v) (hfit : fits .boolean v = true) (hdg : decode b0 pc = .ok (.putfield 222, 3)) (kk : ∀ (H1 : Heap) (locs1 : List Loc), va_P G.1 vwCl ws' H1 → va_D A ws' → va_S A H0 H1 locs1 → W p l e R s m args below meth c H1 locs1 cells slots Q (F0 m (pc + 3) ls rest)) : W p l e R s m args below meth c H locs cells slots Q (F0 m pc ls (v :: .ref a :: rest)) := by
  obtain ⟨hx, hb, hr, hml, hB, hown, hlocks, hnm⟩ := hC
  rw [hy0] at hown
  subst hws
  exact va_put (ci := 12) (ty := .boolean) (C := RX12) (T := TX12) (N := 41) hx hb hB in_X12 tyX12 tyX12_ok nmX12 hown hK.1 hP hD hS q0 he rfl 17 (by decide) (hB _ m_1047) (fun _ h => h) rfl (by decide +kernel) hn hfit hl hdg kk
theorem gX12_need_1 : (decode cX12_need 20 = .ok (.aload_n 0, 1)) ∧ (decode cX12_need 21 = .ok (.getfield 222, 3)) ∧ (decode cX12_need 24 = .ok (.ifCond .ne 7, 3)) ∧ (decode cX12_need 27 = .ok (.aload_n 0, 1)) ∧ (decode cX12_need 28 = .ok (.invokevirtual 233, 3)) ∧ (decode cX12_need 31 = .ok (.return_, 1)) := by decide +kernel
theorem m_1244 : Cond.code yX12_next cX12_next 1 none ∈ BW := iB_BW66 _ (List.mem_of_getElem? (i := 12) rfl)
theorem m_1242 : Cond.methodLink RX12 233 yX12_next ∈ BW := iB_BW66 _ (List.mem_of_getElem? (i := 10) rfl)
theorem m_1243 : Cond.instanceMethod yX12_next ∈ BW := iB_BW66 _ (List.mem_of_getElem? (i := 11) rfl)
theorem m_77 : Cond.selects RX12 yX12_next yX12_next ∈ BW := iB_BW3 _ (List.mem_of_getElem? (i := 17) rfl)
theorem si_X12_233 : SV RX12 RX12 233 yX12_next cX12_next 1 none 0 := ⟨⟨m_1242, m_1243, m_77, m_115, m_1244⟩, rfl, nK_RX12.1, nK_RX12.2, pd_9⟩
theorem gX12_number_0 : (decode cX12_number 0 = .ok (.iconst 0, 1)) ∧ (decode cX12_number 1 = .ok (.istore_n 2, 1)) ∧ (decode cX12_number 2 = .ok (.aload_n 0, 1)) ∧ (decode cX12_number 3 = .ok (.getfield 222, 3)) ∧ (decode cX12_number 6 = .ok (.ifCond .ne 28, 3)) ∧ (decode cX12_number 9 = .ok (.aload_n 0, 1)) ∧ (decode cX12_number 10 = .ok (.getfield 217, 3)) ∧ (decode cX12_number 13 = .ok (.iconst 2, 1)) ∧ (decode cX12_number 14 = .ok (.if_icmp .ne 20, 3)) ∧ (decode cX12_number 17 = .ok (.aload_n 0, 1)) := by decide +kernel
theorem gX12_number_1 : (decode cX12_number 18 = .ok (.getfield 211, 3)) ∧ (decode cX12_number 21 = .ok (.aload_n 0, 1)) ∧ (decode cX12_number 22 = .ok (.getfield 214, 3)) ∧ (decode cX12_number 25 = .ok (.isub, 1)) ∧ (decode cX12_number 26 = .ok (.iconst 3, 1)) ∧ (decode cX12_number 27 = .ok (.if_icmp .gt 7, 3)) ∧ (decode cX12_number 30 = .ok (.iconst 1, 1)) ∧ (decode cX12_number 31 = .ok (.goto 4, 3)) ∧ (decode cX12_number 34 = .ok (.iconst 0, 1)) ∧ (decode cX12_number 35 = .ok (.istore_n 3, 1)) := by decide +kernel
theorem gX12_number_2 : (decode cX12_number 36 = .ok (.aload_n 0, 1)) ∧ (decode cX12_number 37 = .ok (.getfield 214, 3)) ∧ (decode cX12_number 40 = .ok (.istore 4, 2)) ∧ (decode cX12_number 42 = .ok (.iload_n 3, 1)) ∧ (decode cX12_number 43 = .ok (.ifCond .eq 34, 3)) ∧ (decode cX12_number 46 = .ok (.iload 4, 2)) ∧ (decode cX12_number 48 = .ok (.aload_n 0, 1)) ∧ (decode cX12_number 49 = .ok (.getfield 211, 3)) ∧ (decode cX12_number 52 = .ok (.if_icmp .ge 25, 3)) ∧ (decode cX12_number 55 = .ok (.bipush 10, 2)) := by decide +kernel
theorem gX12_number_4 : (decode cX12_number 71 = .ok (.iinc 4 1, 3)) ∧ (decode cX12_number 74 = .ok (.goto (-32), 3)) ∧ (decode cX12_number 77 = .ok (.aload_n 0, 1)) ∧ (decode cX12_number 78 = .ok (.iload_n 3, 1)) ∧ (decode cX12_number 79 = .ok (.ifCond .eq 12, 3)) ∧ (decode cX12_number 82 = .ok (.iload_n 2, 1)) ∧ (decode cX12_number 83 = .ok (.iload_n 1, 1)) ∧ (decode cX12_number 84 = .ok (.if_icmp .gt 7, 3)) ∧ (decode cX12_number 87 = .ok (.iconst 1, 1)) ∧ (decode cX12_number 88 = .ok (.goto 4, 3)) := by decide +kernel
theorem gX12_number_5 : (decode cX12_number 91 = .ok (.iconst 0, 1)) ∧ (decode cX12_number 92 = .ok (.invokevirtual 236, 3)) ∧ (decode cX12_number 95 = .ok (.iload_n 2, 1)) ∧ (decode cX12_number 96 = .ok (.ireturn, 1)) := by decide +kernel
theorem m_1258 : Cond.code yX12_need cX12_need 2 none ∈ BW := iB_BW67 _ (List.mem_of_getElem? (i := 6) rfl)
theorem pd_33 : (parseMethodDescriptor "(Z)V").map (fun d => d.parameters.length) = some 1 := by decide +kernel
theorem m_1256 : Cond.methodLink RX12 236 yX12_need ∈ BW := iB_BW67 _ (List.mem_of_getElem? (i := 4) rfl)
theorem m_1257 : Cond.instanceMethod yX12_need ∈ BW := iB_BW67 _ (List.mem_of_getElem? (i := 5) rfl)
theorem m_81 : Cond.selects RX12 yX12_need yX12_need ∈ BW := iB_BW4 _ (List.mem_of_getElem? (i := 1) rfl)
theorem si_X12_236 : SV RX12 RX12 236 yX12_need cX12_need 2 none 1 := ⟨⟨m_1256, m_1257, m_81, m_115, m_1258⟩, rfl, nK_RX12.1, nK_RX12.2, pd_33⟩
theorem gX12_number_3 : (decode cX12_number 57 = .ok (.iload_n 2, 1)) ∧ (decode cX12_number 58 = .ok (.imul, 1)) ∧ (decode cX12_number 59 = .ok (.aload_n 0, 1)) ∧ (decode cX12_number 60 = .ok (.getfield 16, 3)) ∧ (decode cX12_number 63 = .ok (.iload 4, 2)) ∧ (decode cX12_number 65 = .ok (.iaload, 1)) ∧ (decode cX12_number 66 = .ok (.iadd, 1)) ∧ (decode cX12_number 67 = .ok (.bipush 48, 2)) ∧ (decode cX12_number 69 = .ok (.isub, 1)) ∧ (decode cX12_number 70 = .ok (.istore_n 2, 1)) := by decide +kernel
theorem gX12_codes_0 : (decode cX12_codes 0 = .ok (.aload_n 0, 1)) ∧ (decode cX12_codes 1 = .ok (.getfield 222, 3)) ∧ (decode cX12_codes 4 = .ok (.ifCond .ne 23, 3)) ∧ (decode cX12_codes 7 = .ok (.aload_n 0, 1)) ∧ (decode cX12_codes 8 = .ok (.getfield 35, 3)) ∧ (decode cX12_codes 11 = .ok (.aload_n 0, 1)) ∧ (decode cX12_codes 12 = .ok (.getfield 240, 3)) ∧ (decode cX12_codes 15 = .ok (.iload_n 1, 1)) ∧ (decode cX12_codes 16 = .ok (.iastore, 1)) ∧ (decode cX12_codes 17 = .ok (.aload_n 0, 1)) := by decide +kernel
theorem gX12_codes_1 : (decode cX12_codes 18 = .ok (.dup, 1)) ∧ (decode cX12_codes 19 = .ok (.getfield 240, 3)) ∧ (decode cX12_codes 22 = .ok (.iconst 1, 1)) ∧ (decode cX12_codes 23 = .ok (.iadd, 1)) ∧ (decode cX12_codes 24 = .ok (.putfield 240, 3)) ∧ (decode cX12_codes 27 = .ok (.return_, 1)) := by decide +kernel
theorem m_1052 : Cond.fieldLink RX12 35 "InquiryBenchModel" "code" "[I" ∈ BW := iB_BW56 _ (List.mem_of_getElem? (i := 1) rfl)
theorem gf_X12_35 (hC : CX p s m meth c y0 b0 mL0 rt0 args) (hy0 : y0.cls = RX12) (hK : KK G s) (hP : va_P G.1 vwCl ws H) (q0 : Nat) {fs : List Value} {v : Value} (he : ws[q0]? = some (a, .inr (12, fs))) (hv : fs[22]? = some v) (hdg : decode b0 pc = .ok (.getfield 35, 3)) (kk : W p l e R s m args below meth c H locs cells slots Q (F0 m (pc + 3) ls (v :: rest))) : W p l e R s m args below meth c H locs cells slots Q (F0 m pc ls (.ref a :: rest)) := by
  obtain ⟨hx, hb, hr, hml, hB, hown, hlocks, hnm⟩ := hC
  rw [hy0] at hown
  exact va_get (ci := 12) (C := RX12) (T := TX12) (N := 41) hx hb hB in_X12 hown hK.1 hP q0 he rfl 22 (by decide) (hB _ m_1052) (fun _ h => h) hv hdg kk
theorem m_1049 : Cond.fieldLink RX12 240 "InquiryBenchModel" "coded" "I" ∈ BW := iB_BW55 _ (List.mem_of_getElem? (i := 18) rfl)
theorem gf_X12_240 (hC : CX p s m meth c y0 b0 mL0 rt0 args) (hy0 : y0.cls = RX12) (hK : KK G s) (hP : va_P G.1 vwCl ws H) (q0 : Nat) {fs : List Value} {v : Value} (he : ws[q0]? = some (a, .inr (12, fs))) (hv : fs[19]? = some v) (hdg : decode b0 pc = .ok (.getfield 240, 3)) (kk : W p l e R s m args below meth c H locs cells slots Q (F0 m (pc + 3) ls (v :: rest))) : W p l e R s m args below meth c H locs cells slots Q (F0 m pc ls (.ref a :: rest)) := by
  obtain ⟨hx, hb, hr, hml, hB, hown, hlocks, hnm⟩ := hC
  rw [hy0] at hown
  exact va_get (ci := 12) (C := RX12) (T := TX12) (N := 41) hx hb hB in_X12 hown hK.1 hP q0 he rfl 19 (by decide) (hB _ m_1049) (fun _ h => h) hv hdg kk
theorem pf_X12_240 (hC : CX p s m meth c y0 b0 mL0 rt0 args) (hy0 : y0.cls = RX12) (hK : KK G s) (hP : va_P G.1 vwCl ws H) (hD : va_D A ws) (hS : va_S A H0 H locs) (q0 : Nat) {fs : List Value} {v : Value} {ws' : va_W} (he : ws[q0]? = some (a, .inr (12, fs))) (hl : 19 < fs.length) (hws : ws.set q0 (a, .inr (12, fs.set 19 v)) = ws') (hn : narrow .int v = v) (hfit : fits .int v = true) (hdg : decode b0 pc = .ok (.putfield 240, 3)) (kk : ∀ (H1 : Heap) (locs1 : List Loc), va_P G.1 vwCl ws' H1 → va_D A ws' → va_S A H0 H1 locs1 → W p l e R s m args below meth c H1 locs1 cells slots Q (F0 m (pc + 3) ls rest)) : W p l e R s m args below meth c H locs cells slots Q (F0 m pc ls (v :: .ref a :: rest)) := by
  obtain ⟨hx, hb, hr, hml, hB, hown, hlocks, hnm⟩ := hC
  rw [hy0] at hown
  subst hws
  exact va_put (ci := 12) (ty := .int) (C := RX12) (T := TX12) (N := 41) hx hb hB in_X12 tyX12 tyX12_ok nmX12 hown hK.1 hP hD hS q0 he rfl 19 (by decide) (hB _ m_1049) (fun _ h => h) rfl (by decide +kernel) hn hfit hl hdg kk
theorem gX12_one_0 : (decode cX12_one 0 = .ok (.iconst 0, 1)) ∧ (decode cX12_one 1 = .ok (.istore_n 1, 1)) ∧ (decode cX12_one 2 = .ok (.aload_n 0, 1)) ∧ (decode cX12_one 3 = .ok (.ldc_w 260, 3)) ∧ (decode cX12_one 6 = .ok (.invokevirtual 248, 3)) ∧ (decode cX12_one 9 = .ok (.ifCond .eq 13, 3)) ∧ (decode cX12_one 12 = .ok (.aload_n 0, 1)) ∧ (decode cX12_one 13 = .ok (.invokevirtual 233, 3)) ∧ (decode cX12_one 16 = .ok (.iinc 1 1, 3)) ∧ (decode cX12_one 19 = .ok (.goto (-17), 3)) := by decide +kernel
theorem m_1253 : Cond.code yX12_isName cX12_isName 4 (some .boolean) ∈ BW := iB_BW67 _ (List.mem_of_getElem? (i := 1) rfl)
theorem m_1251 : Cond.methodLink RX12 248 yX12_isName ∈ BW := iB_BW66 _ (List.mem_of_getElem? (i := 19) rfl)
theorem m_1252 : Cond.instanceMethod yX12_isName ∈ BW := iB_BW67 _ (List.mem_of_getElem? (i := 0) rfl)
theorem m_80 : Cond.selects RX12 yX12_isName yX12_isName ∈ BW := iB_BW4 _ (List.mem_of_getElem? (i := 0) rfl)
theorem si_X12_248 : SV RX12 RX12 248 yX12_isName cX12_isName 4 (some .boolean) 1 := ⟨⟨m_1251, m_1252, m_80, m_115, m_1253⟩, rfl, nK_RX12.1, nK_RX12.2, pd_26⟩
theorem gX12_one_1 : (decode cX12_one 22 = .ok (.aload_n 0, 1)) ∧ (decode cX12_one 23 = .ok (.bipush 40, 2)) ∧ (decode cX12_one 25 = .ok (.invokevirtual 262, 3)) ∧ (decode cX12_one 28 = .ok (.ifCond .eq 57, 3)) ∧ (decode cX12_one 31 = .ok (.aload_n 0, 1)) ∧ (decode cX12_one 32 = .ok (.dup, 1)) ∧ (decode cX12_one 33 = .ok (.getfield 265, 3)) ∧ (decode cX12_one 36 = .ok (.iconst 1, 1)) ∧ (decode cX12_one 37 = .ok (.iadd, 1)) ∧ (decode cX12_one 38 = .ok (.putfield 265, 3)) := by decide +kernel
theorem m_1273 : Cond.code yX12_isSign cX12_isSign 2 (some .boolean) ∈ BW := iB_BW68 _ (List.mem_of_getElem? (i := 1) rfl)
theorem m_1271 : Cond.methodLink RX12 262 yX12_isSign ∈ BW := iB_BW67 _ (List.mem_of_getElem? (i := 19) rfl)
theorem m_1272 : Cond.instanceMethod yX12_isSign ∈ BW := iB_BW68 _ (List.mem_of_getElem? (i := 0) rfl)
theorem m_86 : Cond.selects RX12 yX12_isSign yX12_isSign ∈ BW := iB_BW4 _ (List.mem_of_getElem? (i := 6) rfl)
theorem si_X12_262 : SV RX12 RX12 262 yX12_isSign cX12_isSign 2 (some .boolean) 1 := ⟨⟨m_1271, m_1272, m_86, m_115, m_1273⟩, rfl, nK_RX12.1, nK_RX12.2, pd_5⟩
theorem gX12_one_4 : (decode cX12_one 78 = .ok (.isub, 1)) ∧ (decode cX12_one 79 = .ok (.putfield 265, 3)) ∧ (decode cX12_one 82 = .ok (.goto 141, 3)) ∧ (decode cX12_one 85 = .ok (.iconst (-1), 1)) ∧ (decode cX12_one 86 = .ok (.istore_n 2, 1)) ∧ (decode cX12_one 87 = .ok (.iconst 0, 1)) ∧ (decode cX12_one 88 = .ok (.istore_n 3, 1)) ∧ (decode cX12_one 89 = .ok (.iload_n 3, 1)) ∧ (decode cX12_one 90 = .ok (.iconst 5, 1)) ∧ (decode cX12_one 91 = .ok (.if_icmp .ge 28, 3)) := by decide +kernel
theorem gX12_one_5 : (decode cX12_one 94 = .ok (.aload_n 0, 1)) ∧ (decode cX12_one 95 = .ok (.aload_n 0, 1)) ∧ (decode cX12_one 96 = .ok (.getfield 50, 3)) ∧ (decode cX12_one 99 = .ok (.iload_n 3, 1)) ∧ (decode cX12_one 100 = .ok (.aaload, 1)) ∧ (decode cX12_one 101 = .ok (.invokevirtual 248, 3)) ∧ (decode cX12_one 104 = .ok (.ifCond .eq 7, 3)) ∧ (decode cX12_one 107 = .ok (.iload_n 3, 1)) ∧ (decode cX12_one 108 = .ok (.goto 4, 3)) ∧ (decode cX12_one 111 = .ok (.iload_n 2, 1)) := by decide +kernel
theorem m_1053 : Cond.fieldLink RX12 50 "InquiryBenchModel" "FACTS" "[Ljava/lang/String;" ∈ BW := iB_BW56 _ (List.mem_of_getElem? (i := 2) rfl)
theorem gf_X12_50 (hC : CX p s m meth c y0 b0 mL0 rt0 args) (hy0 : y0.cls = RX12) (hK : KK G s) (hP : va_P G.1 vwCl ws H) (q0 : Nat) {fs : List Value} {v : Value} (he : ws[q0]? = some (a, .inr (12, fs))) (hv : fs[23]? = some v) (hdg : decode b0 pc = .ok (.getfield 50, 3)) (kk : W p l e R s m args below meth c H locs cells slots Q (F0 m (pc + 3) ls (v :: rest))) : W p l e R s m args below meth c H locs cells slots Q (F0 m pc ls (.ref a :: rest)) := by
  obtain ⟨hx, hb, hr, hml, hB, hown, hlocks, hnm⟩ := hC
  rw [hy0] at hown
  exact va_get (ci := 12) (C := RX12) (T := TX12) (N := 41) hx hb hB in_X12 hown hK.1 hP q0 he rfl 23 (by decide) (hB _ m_1053) (fun _ h => h) hv hdg kk
theorem gX12_one_6 : (decode cX12_one 112 = .ok (.istore_n 2, 1)) ∧ (decode cX12_one 113 = .ok (.iinc 3 1, 3)) ∧ (decode cX12_one 116 = .ok (.goto (-27), 3)) ∧ (decode cX12_one 119 = .ok (.aload_n 0, 1)) ∧ (decode cX12_one 120 = .ok (.iload_n 2, 1)) ∧ (decode cX12_one 121 = .ok (.ifCond .lt 7, 3)) ∧ (decode cX12_one 124 = .ok (.iconst 1, 1)) ∧ (decode cX12_one 125 = .ok (.goto 4, 3)) ∧ (decode cX12_one 128 = .ok (.iconst 0, 1)) ∧ (decode cX12_one 129 = .ok (.invokevirtual 236, 3)) := by decide +kernel
theorem gX12_one_7 : (decode cX12_one 132 = .ok (.aload_n 0, 1)) ∧ (decode cX12_one 133 = .ok (.bipush 60, 2)) ∧ (decode cX12_one 135 = .ok (.invokevirtual 262, 3)) ∧ (decode cX12_one 138 = .ok (.ifCond .eq 7, 3)) ∧ (decode cX12_one 141 = .ok (.iconst 0, 1)) ∧ (decode cX12_one 142 = .ok (.goto 17, 3)) ∧ (decode cX12_one 145 = .ok (.aload_n 0, 1)) ∧ (decode cX12_one 146 = .ok (.bipush 61, 2)) ∧ (decode cX12_one 148 = .ok (.invokevirtual 262, 3)) ∧ (decode cX12_one 151 = .ok (.ifCond .eq 7, 3)) := by decide +kernel
theorem gX12_one_8 : (decode cX12_one 154 = .ok (.iconst 1, 1)) ∧ (decode cX12_one 155 = .ok (.goto 4, 3)) ∧ (decode cX12_one 158 = .ok (.iconst 2, 1)) ∧ (decode cX12_one 159 = .ok (.istore_n 3, 1)) ∧ (decode cX12_one 160 = .ok (.aload_n 0, 1)) ∧ (decode cX12_one 161 = .ok (.aload_n 0, 1)) ∧ (decode cX12_one 162 = .ok (.bipush 60, 2)) ∧ (decode cX12_one 164 = .ok (.invokevirtual 262, 3)) ∧ (decode cX12_one 167 = .ok (.ifCond .ne 21, 3)) ∧ (decode cX12_one 170 = .ok (.aload_n 0, 1)) := by decide +kernel
theorem gX12_one_9 : (decode cX12_one 171 = .ok (.bipush 61, 2)) ∧ (decode cX12_one 173 = .ok (.invokevirtual 262, 3)) ∧ (decode cX12_one 176 = .ok (.ifCond .ne 12, 3)) ∧ (decode cX12_one 179 = .ok (.aload_n 0, 1)) ∧ (decode cX12_one 180 = .ok (.bipush 62, 2)) ∧ (decode cX12_one 182 = .ok (.invokevirtual 262, 3)) ∧ (decode cX12_one 185 = .ok (.ifCond .eq 7, 3)) ∧ (decode cX12_one 188 = .ok (.iconst 1, 1)) ∧ (decode cX12_one 189 = .ok (.goto 4, 3)) ∧ (decode cX12_one 192 = .ok (.iconst 0, 1)) := by decide +kernel
theorem gX12_one_10 : (decode cX12_one 193 = .ok (.invokevirtual 236, 3)) ∧ (decode cX12_one 196 = .ok (.aload_n 0, 1)) ∧ (decode cX12_one 197 = .ok (.sipush 999, 3)) ∧ (decode cX12_one 200 = .ok (.invokevirtual 271, 3)) ∧ (decode cX12_one 203 = .ok (.istore 4, 2)) ∧ (decode cX12_one 205 = .ok (.aload_n 0, 1)) ∧ (decode cX12_one 206 = .ok (.sipush 3000, 3)) ∧ (decode cX12_one 209 = .ok (.iload_n 2, 1)) ∧ (decode cX12_one 210 = .ok (.imul, 1)) ∧ (decode cX12_one 211 = .ok (.sipush 1000, 3)) := by decide +kernel
theorem m_1261 : Cond.code yX12_number cX12_number 5 (some .int) ∈ BW := iB_BW67 _ (List.mem_of_getElem? (i := 9) rfl)
theorem m_1259 : Cond.methodLink RX12 271 yX12_number ∈ BW := iB_BW67 _ (List.mem_of_getElem? (i := 7) rfl)
theorem m_1260 : Cond.instanceMethod yX12_number ∈ BW := iB_BW67 _ (List.mem_of_getElem? (i := 8) rfl)
theorem m_82 : Cond.selects RX12 yX12_number yX12_number ∈ BW := iB_BW4 _ (List.mem_of_getElem? (i := 2) rfl)
theorem si_X12_271 : SV RX12 RX12 271 yX12_number cX12_number 5 (some .int) 1 := ⟨⟨m_1259, m_1260, m_82, m_115, m_1261⟩, rfl, nK_RX12.1, nK_RX12.2, pd_7⟩
theorem gX12_one_11 : (decode cX12_one 214 = .ok (.iload_n 3, 1)) ∧ (decode cX12_one 215 = .ok (.imul, 1)) ∧ (decode cX12_one 216 = .ok (.iadd, 1)) ∧ (decode cX12_one 217 = .ok (.iload 4, 2)) ∧ (decode cX12_one 219 = .ok (.iadd, 1)) ∧ (decode cX12_one 220 = .ok (.invokevirtual 252, 3)) ∧ (decode cX12_one 223 = .ok (.iconst 0, 1)) ∧ (decode cX12_one 224 = .ok (.istore_n 2, 1)) ∧ (decode cX12_one 225 = .ok (.iload_n 2, 1)) ∧ (decode cX12_one 226 = .ok (.iload_n 1, 1)) := by decide +kernel
theorem m_1276 : Cond.code yX12_codes cX12_codes 2 none ∈ BW := iB_BW68 _ (List.mem_of_getElem? (i := 4) rfl)
theorem m_1274 : Cond.methodLink RX12 252 yX12_codes ∈ BW := iB_BW68 _ (List.mem_of_getElem? (i := 2) rfl)
theorem m_1275 : Cond.instanceMethod yX12_codes ∈ BW := iB_BW68 _ (List.mem_of_getElem? (i := 3) rfl)
theorem m_87 : Cond.selects RX12 yX12_codes yX12_codes ∈ BW := iB_BW4 _ (List.mem_of_getElem? (i := 7) rfl)
theorem si_X12_252 : SV RX12 RX12 252 yX12_codes cX12_codes 2 none 1 := ⟨⟨m_1274, m_1275, m_87, m_115, m_1276⟩, rfl, nK_RX12.1, nK_RX12.2, pd_18⟩
theorem gX12_one_12 : (decode cX12_one 227 = .ok (.if_icmp .ge 16, 3)) ∧ (decode cX12_one 230 = .ok (.aload_n 0, 1)) ∧ (decode cX12_one 231 = .ok (.sipush 30000, 3)) ∧ (decode cX12_one 234 = .ok (.invokevirtual 252, 3)) ∧ (decode cX12_one 237 = .ok (.iinc 2 1, 3)) ∧ (decode cX12_one 240 = .ok (.goto (-15), 3)) ∧ (decode cX12_one 243 = .ok (.return_, 1)) := by decide +kernel
theorem gX12_all_0 : (decode cX12_all 0 = .ok (.aload_n 0, 1)) ∧ (decode cX12_all 1 = .ok (.invokevirtual 255, 3)) ∧ (decode cX12_all 4 = .ok (.aload_n 0, 1)) ∧ (decode cX12_all 5 = .ok (.ldc_w 258, 3)) ∧ (decode cX12_all 8 = .ok (.invokevirtual 248, 3)) ∧ (decode cX12_all 11 = .ok (.ifCond .eq 21, 3)) ∧ (decode cX12_all 14 = .ok (.aload_n 0, 1)) ∧ (decode cX12_all 15 = .ok (.invokevirtual 233, 3)) ∧ (decode cX12_all 18 = .ok (.aload_n 0, 1)) ∧ (decode cX12_all 19 = .ok (.invokevirtual 255, 3)) := by decide +kernel
theorem m_1270 : Cond.code yX12_one cX12_one 5 none ∈ BW := iB_BW67 _ (List.mem_of_getElem? (i := 18) rfl)
theorem m_1268 : Cond.methodLink RX12 255 yX12_one ∈ BW := iB_BW67 _ (List.mem_of_getElem? (i := 16) rfl)
theorem m_1269 : Cond.instanceMethod yX12_one ∈ BW := iB_BW67 _ (List.mem_of_getElem? (i := 17) rfl)
theorem m_85 : Cond.selects RX12 yX12_one yX12_one ∈ BW := iB_BW4 _ (List.mem_of_getElem? (i := 5) rfl)
theorem si_X12_255 : SV RX12 RX12 255 yX12_one cX12_one 5 none 0 := ⟨⟨m_1268, m_1269, m_85, m_115, m_1270⟩, rfl, nK_RX12.1, nK_RX12.2, pd_9⟩
theorem gX12_all_1 : (decode cX12_all 22 = .ok (.aload_n 0, 1)) ∧ (decode cX12_all 23 = .ok (.sipush 30001, 3)) ∧ (decode cX12_all 26 = .ok (.invokevirtual 252, 3)) ∧ (decode cX12_all 29 = .ok (.goto (-25), 3)) ∧ (decode cX12_all 32 = .ok (.return_, 1)) := by decide +kernel
theorem gX12_either_0 : (decode cX12_either 0 = .ok (.aload_n 0, 1)) ∧ (decode cX12_either 1 = .ok (.invokevirtual 243, 3)) ∧ (decode cX12_either 4 = .ok (.aload_n 0, 1)) ∧ (decode cX12_either 5 = .ok (.ldc 246, 2)) ∧ (decode cX12_either 7 = .ok (.invokevirtual 248, 3)) ∧ (decode cX12_either 10 = .ok (.ifCond .eq 21, 3)) ∧ (decode cX12_either 13 = .ok (.aload_n 0, 1)) ∧ (decode cX12_either 14 = .ok (.invokevirtual 233, 3)) ∧ (decode cX12_either 17 = .ok (.aload_n 0, 1)) ∧ (decode cX12_either 18 = .ok (.invokevirtual 243, 3)) := by decide +kernel
theorem m_1267 : Cond.code yX12_all cX12_all 1 none ∈ BW := iB_BW67 _ (List.mem_of_getElem? (i := 15) rfl)
theorem m_1265 : Cond.methodLink RX12 243 yX12_all ∈ BW := iB_BW67 _ (List.mem_of_getElem? (i := 13) rfl)
theorem m_1266 : Cond.instanceMethod yX12_all ∈ BW := iB_BW67 _ (List.mem_of_getElem? (i := 14) rfl)
theorem m_84 : Cond.selects RX12 yX12_all yX12_all ∈ BW := iB_BW4 _ (List.mem_of_getElem? (i := 4) rfl)
theorem si_X12_243 : SV RX12 RX12 243 yX12_all cX12_all 1 none 0 := ⟨⟨m_1265, m_1266, m_84, m_115, m_1267⟩, rfl, nK_RX12.1, nK_RX12.2, pd_9⟩
theorem gX12_either_1 : (decode cX12_either 21 = .ok (.aload_n 0, 1)) ∧ (decode cX12_either 22 = .ok (.sipush 30002, 3)) ∧ (decode cX12_either 25 = .ok (.invokevirtual 252, 3)) ∧ (decode cX12_either 28 = .ok (.goto (-24), 3)) ∧ (decode cX12_either 31 = .ok (.return_, 1)) := by decide +kernel
theorem m_1048 : Cond.fieldLink RX12 265 "InquiryBenchModel" "deep" "I" ∈ BW := iB_BW55 _ (List.mem_of_getElem? (i := 17) rfl)
theorem gf_X12_265 (hC : CX p s m meth c y0 b0 mL0 rt0 args) (hy0 : y0.cls = RX12) (hK : KK G s) (hP : va_P G.1 vwCl ws H) (q0 : Nat) {fs : List Value} {v : Value} (he : ws[q0]? = some (a, .inr (12, fs))) (hv : fs[18]? = some v) (hdg : decode b0 pc = .ok (.getfield 265, 3)) (kk : W p l e R s m args below meth c H locs cells slots Q (F0 m (pc + 3) ls (v :: rest))) : W p l e R s m args below meth c H locs cells slots Q (F0 m pc ls (.ref a :: rest)) := by
  obtain ⟨hx, hb, hr, hml, hB, hown, hlocks, hnm⟩ := hC
  rw [hy0] at hown
  exact va_get (ci := 12) (C := RX12) (T := TX12) (N := 41) hx hb hB in_X12 hown hK.1 hP q0 he rfl 18 (by decide) (hB _ m_1048) (fun _ h => h) hv hdg kk
theorem pf_X12_265 (hC : CX p s m meth c y0 b0 mL0 rt0 args) (hy0 : y0.cls = RX12) (hK : KK G s) (hP : va_P G.1 vwCl ws H) (hD : va_D A ws) (hS : va_S A H0 H locs) (q0 : Nat) {fs : List Value} {v : Value} {ws' : va_W} (he : ws[q0]? = some (a, .inr (12, fs))) (hl : 18 < fs.length) (hws : ws.set q0 (a, .inr (12, fs.set 18 v)) = ws') (hn : narrow .int v = v) (hfit : fits .int v = true) (hdg : decode b0 pc = .ok (.putfield 265, 3)) (kk : ∀ (H1 : Heap) (locs1 : List Loc), va_P G.1 vwCl ws' H1 → va_D A ws' → va_S A H0 H1 locs1 → W p l e R s m args below meth c H1 locs1 cells slots Q (F0 m (pc + 3) ls rest)) : W p l e R s m args below meth c H locs cells slots Q (F0 m pc ls (v :: .ref a :: rest)) := by
  obtain ⟨hx, hb, hr, hml, hB, hown, hlocks, hnm⟩ := hC
  rw [hy0] at hown
  subst hws
  exact va_put (ci := 12) (ty := .int) (C := RX12) (T := TX12) (N := 41) hx hb hB in_X12 tyX12 tyX12_ok nmX12 hown hK.1 hP hD hS q0 he rfl 18 (by decide) (hB _ m_1048) (fun _ h => h) rfl (by decide +kernel) hn hfit hl hdg kk
theorem gX12_one_2 : (decode cX12_one 41 = .ok (.aload_n 0, 1)) ∧ (decode cX12_one 42 = .ok (.aload_n 0, 1)) ∧ (decode cX12_one 43 = .ok (.getfield 265, 3)) ∧ (decode cX12_one 46 = .ok (.iconst 4, 1)) ∧ (decode cX12_one 47 = .ok (.if_icmp .gt 7, 3)) ∧ (decode cX12_one 50 = .ok (.iconst 1, 1)) ∧ (decode cX12_one 51 = .ok (.goto 4, 3)) ∧ (decode cX12_one 54 = .ok (.iconst 0, 1)) ∧ (decode cX12_one 55 = .ok (.invokevirtual 236, 3)) ∧ (decode cX12_one 58 = .ok (.aload_n 0, 1)) := by decide +kernel
theorem gX12_one_3 : (decode cX12_one 59 = .ok (.invokevirtual 268, 3)) ∧ (decode cX12_one 62 = .ok (.aload_n 0, 1)) ∧ (decode cX12_one 63 = .ok (.aload_n 0, 1)) ∧ (decode cX12_one 64 = .ok (.bipush 41, 2)) ∧ (decode cX12_one 66 = .ok (.invokevirtual 262, 3)) ∧ (decode cX12_one 69 = .ok (.invokevirtual 236, 3)) ∧ (decode cX12_one 72 = .ok (.aload_n 0, 1)) ∧ (decode cX12_one 73 = .ok (.dup, 1)) ∧ (decode cX12_one 74 = .ok (.getfield 265, 3)) ∧ (decode cX12_one 77 = .ok (.iconst 1, 1)) := by decide +kernel
theorem m_1264 : Cond.code yX12_either cX12_either 1 none ∈ BW := iB_BW67 _ (List.mem_of_getElem? (i := 12) rfl)
theorem m_1262 : Cond.methodLink RX12 268 yX12_either ∈ BW := iB_BW67 _ (List.mem_of_getElem? (i := 10) rfl)
theorem m_1263 : Cond.instanceMethod yX12_either ∈ BW := iB_BW67 _ (List.mem_of_getElem? (i := 11) rfl)
theorem m_83 : Cond.selects RX12 yX12_either yX12_either ∈ BW := iB_BW4 _ (List.mem_of_getElem? (i := 3) rfl)
theorem si_X12_268 : SV RX12 RX12 268 yX12_either cX12_either 1 none 0 := ⟨⟨m_1262, m_1263, m_83, m_115, m_1264⟩, rfl, nK_RX12.1, nK_RX12.2, pd_9⟩
theorem gX12_lineAt_0 : (decode cX12_lineAt 0 = .ok (.aload_n 0, 1)) ∧ (decode cX12_lineAt 1 = .ok (.ldc_w 274, 3)) ∧ (decode cX12_lineAt 4 = .ok (.invokevirtual 248, 3)) ∧ (decode cX12_lineAt 7 = .ok (.ifCond .eq 7, 3)) ∧ (decode cX12_lineAt 10 = .ok (.iconst 0, 1)) ∧ (decode cX12_lineAt 11 = .ok (.goto 46, 3)) ∧ (decode cX12_lineAt 14 = .ok (.aload_n 0, 1)) ∧ (decode cX12_lineAt 15 = .ok (.ldc_w 276, 3)) ∧ (decode cX12_lineAt 18 = .ok (.invokevirtual 248, 3)) ∧ (decode cX12_lineAt 21 = .ok (.ifCond .eq 7, 3)) := by decide +kernel
theorem gX12_lineAt_2 : (decode cX12_lineAt 46 = .ok (.invokevirtual 248, 3)) ∧ (decode cX12_lineAt 49 = .ok (.ifCond .eq 7, 3)) ∧ (decode cX12_lineAt 52 = .ok (.iconst 3, 1)) ∧ (decode cX12_lineAt 53 = .ok (.goto 4, 3)) ∧ (decode cX12_lineAt 56 = .ok (.iconst (-1), 1)) ∧ (decode cX12_lineAt 57 = .ok (.istore_n 2, 1)) ∧ (decode cX12_lineAt 58 = .ok (.aload_n 0, 1)) ∧ (decode cX12_lineAt 59 = .ok (.iload_n 2, 1)) ∧ (decode cX12_lineAt 60 = .ok (.ifCond .lt 7, 3)) ∧ (decode cX12_lineAt 63 = .ok (.iconst 1, 1)) := by decide +kernel
theorem gX12_lineAt_3 : (decode cX12_lineAt 64 = .ok (.goto 4, 3)) ∧ (decode cX12_lineAt 67 = .ok (.iconst 0, 1)) ∧ (decode cX12_lineAt 68 = .ok (.invokevirtual 236, 3)) ∧ (decode cX12_lineAt 71 = .ok (.aload_n 0, 1)) ∧ (decode cX12_lineAt 72 = .ok (.getfield 32, 3)) ∧ (decode cX12_lineAt 75 = .ok (.iload_n 1, 1)) ∧ (decode cX12_lineAt 76 = .ok (.iload_n 2, 1)) ∧ (decode cX12_lineAt 77 = .ok (.iastore, 1)) ∧ (decode cX12_lineAt 78 = .ok (.aload_n 0, 1)) ∧ (decode cX12_lineAt 79 = .ok (.getfield 32, 3)) := by decide +kernel
theorem m_1051 : Cond.fieldLink RX12 32 "InquiryBenchModel" "line" "[I" ∈ BW := iB_BW56 _ (List.mem_of_getElem? (i := 0) rfl)
theorem gf_X12_32 (hC : CX p s m meth c y0 b0 mL0 rt0 args) (hy0 : y0.cls = RX12) (hK : KK G s) (hP : va_P G.1 vwCl ws H) (q0 : Nat) {fs : List Value} {v : Value} (he : ws[q0]? = some (a, .inr (12, fs))) (hv : fs[21]? = some v) (hdg : decode b0 pc = .ok (.getfield 32, 3)) (kk : W p l e R s m args below meth c H locs cells slots Q (F0 m (pc + 3) ls (v :: rest))) : W p l e R s m args below meth c H locs cells slots Q (F0 m pc ls (.ref a :: rest)) := by
  obtain ⟨hx, hb, hr, hml, hB, hown, hlocks, hnm⟩ := hC
  rw [hy0] at hown
  exact va_get (ci := 12) (C := RX12) (T := TX12) (N := 41) hx hb hB in_X12 hown hK.1 hP q0 he rfl 21 (by decide) (hB _ m_1051) (fun _ h => h) hv hdg kk
theorem gX12_lineAt_4 : (decode cX12_lineAt 82 = .ok (.iload_n 1, 1)) ∧ (decode cX12_lineAt 83 = .ok (.iconst 1, 1)) ∧ (decode cX12_lineAt 84 = .ok (.iadd, 1)) ∧ (decode cX12_lineAt 85 = .ok (.aload_n 0, 1)) ∧ (decode cX12_lineAt 86 = .ok (.iload_n 2, 1)) ∧ (decode cX12_lineAt 87 = .ok (.ifCond .eq 8, 3)) ∧ (decode cX12_lineAt 90 = .ok (.iload_n 2, 1)) ∧ (decode cX12_lineAt 91 = .ok (.iconst 1, 1)) ∧ (decode cX12_lineAt 92 = .ok (.if_icmp .ne 8, 3)) ∧ (decode cX12_lineAt 95 = .ok (.bipush 99, 2)) := by decide +kernel
theorem gX12_lineAt_5 : (decode cX12_lineAt 97 = .ok (.goto 15, 3)) ∧ (decode cX12_lineAt 100 = .ok (.iload_n 2, 1)) ∧ (decode cX12_lineAt 101 = .ok (.iconst 2, 1)) ∧ (decode cX12_lineAt 102 = .ok (.if_icmp .ne 8, 3)) ∧ (decode cX12_lineAt 105 = .ok (.bipush 7, 2)) ∧ (decode cX12_lineAt 107 = .ok (.goto 5, 3)) ∧ (decode cX12_lineAt 110 = .ok (.bipush 9, 2)) ∧ (decode cX12_lineAt 112 = .ok (.invokevirtual 271, 3)) ∧ (decode cX12_lineAt 115 = .ok (.iastore, 1)) ∧ (decode cX12_lineAt 116 = .ok (.aload_n 0, 1)) := by decide +kernel
theorem gX12_lineAt_6 : (decode cX12_lineAt 117 = .ok (.getfield 32, 3)) ∧ (decode cX12_lineAt 120 = .ok (.iload_n 1, 1)) ∧ (decode cX12_lineAt 121 = .ok (.iconst 2, 1)) ∧ (decode cX12_lineAt 122 = .ok (.iadd, 1)) ∧ (decode cX12_lineAt 123 = .ok (.bipush (-9), 2)) ∧ (decode cX12_lineAt 125 = .ok (.iastore, 1)) ∧ (decode cX12_lineAt 126 = .ok (.aload_n 0, 1)) ∧ (decode cX12_lineAt 127 = .ok (.getfield 32, 3)) ∧ (decode cX12_lineAt 130 = .ok (.iload_n 1, 1)) ∧ (decode cX12_lineAt 131 = .ok (.iconst 3, 1)) := by decide +kernel
theorem gX12_lineAt_7 : (decode cX12_lineAt 132 = .ok (.iadd, 1)) ∧ (decode cX12_lineAt 133 = .ok (.bipush (-9), 2)) ∧ (decode cX12_lineAt 135 = .ok (.iastore, 1)) ∧ (decode cX12_lineAt 136 = .ok (.iload_n 2, 1)) ∧ (decode cX12_lineAt 137 = .ok (.ifCond .ne 53, 3)) ∧ (decode cX12_lineAt 140 = .ok (.aload_n 0, 1)) ∧ (decode cX12_lineAt 141 = .ok (.aload_n 0, 1)) ∧ (decode cX12_lineAt 142 = .ok (.ldc_w 282, 3)) ∧ (decode cX12_lineAt 145 = .ok (.invokevirtual 248, 3)) ∧ (decode cX12_lineAt 148 = .ok (.invokevirtual 236, 3)) := by decide +kernel
theorem gX12_lineAt_8 : (decode cX12_lineAt 151 = .ok (.aload_n 0, 1)) ∧ (decode cX12_lineAt 152 = .ok (.getfield 32, 3)) ∧ (decode cX12_lineAt 155 = .ok (.iload_n 1, 1)) ∧ (decode cX12_lineAt 156 = .ok (.iconst 2, 1)) ∧ (decode cX12_lineAt 157 = .ok (.iadd, 1)) ∧ (decode cX12_lineAt 158 = .ok (.aload_n 0, 1)) ∧ (decode cX12_lineAt 159 = .ok (.bipush 7, 2)) ∧ (decode cX12_lineAt 161 = .ok (.invokevirtual 271, 3)) ∧ (decode cX12_lineAt 164 = .ok (.iastore, 1)) ∧ (decode cX12_lineAt 165 = .ok (.aload_n 0, 1)) := by decide +kernel
theorem gX12_lineAt_9 : (decode cX12_lineAt 166 = .ok (.aload_n 0, 1)) ∧ (decode cX12_lineAt 167 = .ok (.ldc_w 284, 3)) ∧ (decode cX12_lineAt 170 = .ok (.invokevirtual 248, 3)) ∧ (decode cX12_lineAt 173 = .ok (.invokevirtual 236, 3)) ∧ (decode cX12_lineAt 176 = .ok (.aload_n 0, 1)) ∧ (decode cX12_lineAt 177 = .ok (.getfield 32, 3)) ∧ (decode cX12_lineAt 180 = .ok (.iload_n 1, 1)) ∧ (decode cX12_lineAt 181 = .ok (.iconst 3, 1)) ∧ (decode cX12_lineAt 182 = .ok (.iadd, 1)) ∧ (decode cX12_lineAt 183 = .ok (.aload_n 0, 1)) := by decide +kernel
theorem gX12_lineAt_10 : (decode cX12_lineAt 184 = .ok (.bipush 7, 2)) ∧ (decode cX12_lineAt 186 = .ok (.invokevirtual 271, 3)) ∧ (decode cX12_lineAt 189 = .ok (.iastore, 1)) ∧ (decode cX12_lineAt 190 = .ok (.iload_n 2, 1)) ∧ (decode cX12_lineAt 191 = .ok (.iconst 2, 1)) ∧ (decode cX12_lineAt 192 = .ok (.if_icmp .ne 29, 3)) ∧ (decode cX12_lineAt 195 = .ok (.aload_n 0, 1)) ∧ (decode cX12_lineAt 196 = .ok (.aload_n 0, 1)) ∧ (decode cX12_lineAt 197 = .ok (.ldc_w 285, 3)) ∧ (decode cX12_lineAt 200 = .ok (.invokevirtual 248, 3)) := by decide +kernel
theorem gX12_lineAt_12 : (decode cX12_lineAt 221 = .ok (.aload_n 0, 1)) ∧ (decode cX12_lineAt 222 = .ok (.getfield 32, 3)) ∧ (decode cX12_lineAt 225 = .ok (.iload_n 1, 1)) ∧ (decode cX12_lineAt 226 = .ok (.iconst 4, 1)) ∧ (decode cX12_lineAt 227 = .ok (.iadd, 1)) ∧ (decode cX12_lineAt 228 = .ok (.aload_n 0, 1)) ∧ (decode cX12_lineAt 229 = .ok (.getfield 240, 3)) ∧ (decode cX12_lineAt 232 = .ok (.iastore, 1)) ∧ (decode cX12_lineAt 233 = .ok (.iload_n 2, 1)) ∧ (decode cX12_lineAt 234 = .ok (.iconst 3, 1)) := by decide +kernel
theorem gX12_lineAt_13 : (decode cX12_lineAt 235 = .ok (.if_icmp .eq 21, 3)) ∧ (decode cX12_lineAt 238 = .ok (.aload_n 0, 1)) ∧ (decode cX12_lineAt 239 = .ok (.ldc_w 287, 3)) ∧ (decode cX12_lineAt 242 = .ok (.invokevirtual 248, 3)) ∧ (decode cX12_lineAt 245 = .ok (.ifCond .eq 11, 3)) ∧ (decode cX12_lineAt 248 = .ok (.aload_n 0, 1)) ∧ (decode cX12_lineAt 249 = .ok (.invokevirtual 233, 3)) ∧ (decode cX12_lineAt 252 = .ok (.aload_n 0, 1)) ∧ (decode cX12_lineAt 253 = .ok (.invokevirtual 268, 3)) ∧ (decode cX12_lineAt 256 = .ok (.aload_n 0, 1)) := by decide +kernel
theorem gX12_lineAt_14 : (decode cX12_lineAt 257 = .ok (.getfield 32, 3)) ∧ (decode cX12_lineAt 260 = .ok (.iload_n 1, 1)) ∧ (decode cX12_lineAt 261 = .ok (.iconst 5, 1)) ∧ (decode cX12_lineAt 262 = .ok (.iadd, 1)) ∧ (decode cX12_lineAt 263 = .ok (.aload_n 0, 1)) ∧ (decode cX12_lineAt 264 = .ok (.getfield 240, 3)) ∧ (decode cX12_lineAt 267 = .ok (.iastore, 1)) ∧ (decode cX12_lineAt 268 = .ok (.aload_n 0, 1)) ∧ (decode cX12_lineAt 269 = .ok (.aload_n 0, 1)) ∧ (decode cX12_lineAt 270 = .ok (.bipush 59, 2)) := by decide +kernel
theorem gX12_lineAt_15 : (decode cX12_lineAt 272 = .ok (.invokevirtual 262, 3)) ∧ (decode cX12_lineAt 275 = .ok (.invokevirtual 236, 3)) ∧ (decode cX12_lineAt 278 = .ok (.return_, 1)) := by decide +kernel
theorem gX12_lineAt_1 : (decode cX12_lineAt 24 = .ok (.iconst 1, 1)) ∧ (decode cX12_lineAt 25 = .ok (.goto 32, 3)) ∧ (decode cX12_lineAt 28 = .ok (.aload_n 0, 1)) ∧ (decode cX12_lineAt 29 = .ok (.ldc_w 278, 3)) ∧ (decode cX12_lineAt 32 = .ok (.invokevirtual 248, 3)) ∧ (decode cX12_lineAt 35 = .ok (.ifCond .eq 7, 3)) ∧ (decode cX12_lineAt 38 = .ok (.iconst 2, 1)) ∧ (decode cX12_lineAt 39 = .ok (.goto 18, 3)) ∧ (decode cX12_lineAt 42 = .ok (.aload_n 0, 1)) ∧ (decode cX12_lineAt 43 = .ok (.ldc_w 280, 3)) := by decide +kernel
theorem gX12_lineAt_11 : (decode cX12_lineAt 203 = .ok (.invokevirtual 236, 3)) ∧ (decode cX12_lineAt 206 = .ok (.aload_n 0, 1)) ∧ (decode cX12_lineAt 207 = .ok (.getfield 32, 3)) ∧ (decode cX12_lineAt 210 = .ok (.iload_n 1, 1)) ∧ (decode cX12_lineAt 211 = .ok (.iconst 2, 1)) ∧ (decode cX12_lineAt 212 = .ok (.iadd, 1)) ∧ (decode cX12_lineAt 213 = .ok (.aload_n 0, 1)) ∧ (decode cX12_lineAt 214 = .ok (.sipush 999, 3)) ∧ (decode cX12_lineAt 217 = .ok (.invokevirtual 271, 3)) ∧ (decode cX12_lineAt 220 = .ok (.iastore, 1)) := by decide +kernel
end WR
/-- beyond the first twelve, the row is as it was outside a region (the seventh told apart) -/
def FRV (g f : Nat → Int32) (lo hi : Nat) : Prop := ∀ j, 12 ≤ j → (j < lo ∨ hi ≤ j) → g j = f j
theorem FRV.rf {f : Nat → Int32} {lo hi : Nat} : FRV f f lo hi := fun _ _ _ => rfl
theorem FRV.set {g f : Nat → Int32} {lo hi k : Nat} {v : Int32} (h : FRV g f lo hi) (hk : k < 12 ∨ (lo ≤ k ∧ k < hi)) : FRV (upd g k v) f lo hi := fun j h1 h2 => (upd_ne (by omega)).trans (h j h1 h2)
theorem CP.FV {f0 w e src : Nat → Int32} {b n lo hi : Nat} (h : CP f0 w b n src) (hb : lo ≤ b) (hn : b + n ≤ hi) (hs : FRV f0 e lo hi) : FRV w e lo hi := fun j h1 h2 => (h.2.1 j (by omega)).trans (hs j h1 h2)
theorem EQT.fv {f0 g f : Nat → Int32} {base n lo hi : Nat} (h : EQT f0 base n f) (hf : FRV g f0 lo hi) (hb : 12 ≤ base) (hr : base + n ≤ lo ∨ hi ≤ base) : EQT g base n f := fun i hi' => (hf (base + i) (by omega) (by omega)).trans (h i hi')
section WR
variable {p : Program} {l : Launch} {e : Env} {R : Room} {s : State} {m : MethodId} {args : Array Value} {below : List Frame} {meth : Method} {c : Code} {H : Heap} {locs : List Loc} {cells slots : Nat} {Q : State → Prop}
variable {pc : Nat} {ls : Array Slot} {rest : List Value} {G : GG} {K : OO} {ws : va_W} {A : Nat → Prop} {y0 : MethodName} {b0 : ByteArray} {mL0 : Nat} {rt0 : Option FieldType} {a : Nat} {H0 : Heap}
end WR
/-- the versions' lines, as the reference holds them -/
def VML (y : Nat → Int32) (kv : Nat) (VL : Nat → List LNT) : Prop := ∀ v, v < kv → (VL v).length ≤ 9 ∧ y (176 + 156 * v + 1) = nI (VL v).length ∧ ∀ i, i < (VL v).length → LRM y (176 + 156 * v + 2 + 6 * i) ((VL v).getD i LN0)
theorem LRM.val {g : Nat → Int32} {b w : Nat} {ln : LNT} (h : LRM g b ln) (hw : w < 4) : g (b + w) = LVAL ln w := by
  rcases (show w = 0 ∨ w = 1 ∨ w = 2 ∨ w = 3 by omega) with rfl | rfl | rfl | rfl
  · exact h.1
  · exact h.2.1
  · exact h.2.2.1
  · exact h.2.2.2.1
theorem LRM.ab {g : Nat → Int32} {b : Nat} {ln : LNT} (h : LRM g b ln) : ln.2.2.2.2.2.2.2.1 ≤ ln.2.2.2.2.2.2.2.2 ∧ ln.2.2.2.2.2.2.2.2 ≤ 100 := by
  obtain ⟨-, -, -, -, -, -, h1, h2, h3, h4⟩ := h
  omega
theorem LRM.c0 {g : Nat → Int32} {b : Nat} {ln : LNT} (h : LRM g b ln) (hb : ln.2.2.2.2.2.2.2.2 ≤ ln.2.2.2.2.2.2.2.1) : (0 : Int32) = LVAL ln 4 := by
  obtain ⟨-, -, -, -, -, -, h1, h2, h3, h4⟩ := h
  have e : ln.2.2.2.2.1 = 0 := by omega
  show (0 : Int32) = nI ln.2.2.2.2.1
  rw [e]
  rfl
theorem LRM.c1 {g : Nat → Int32} {b : Nat} {ln : LNT} (h : LRM g b ln) (hb : ¬ ln.2.2.2.2.2.2.2.2 ≤ ln.2.2.2.2.2.2.2.1) : (1 : Int32) = LVAL ln 4 := by
  obtain ⟨-, -, -, -, -, -, h1, h2, h3, h4⟩ := h
  have e : ln.2.2.2.2.1 = 1 := by omega
  show (1 : Int32) = nI ln.2.2.2.2.1
  rw [e]
  rfl
theorem LRM.mv {f g : Nat → Int32} {a b : Nat} {ln : LNT} (h : LRM f a ln) (e : ∀ j, j < 6 → g (b + j) = f (a + j)) : LRM g b ln :=
  ⟨(e 0 (by omega)).trans h.1, (e 1 (by omega)).trans h.2.1, (e 2 (by omega)).trans h.2.2.1, (e 3 (by omega)).trans h.2.2.2.1, (e 4 (by omega)).trans h.2.2.2.2.1, (e 5 (by omega)).trans h.2.2.2.2.2.1, h.2.2.2.2.2.2⟩
/-- what read does to the reference's row -/
def MRD (bt : Nat → Int32) (n : Nat) (rq : Int32) (k7 : Nat) (f g : Nat → Int32) : Prop :=
  (rq = nI k7 ∧ ∃ ls c q, TXT bt n 9 (SK bt n 0) [] [] [] (1, 0, ls, c, q) ∧ g (176 + 156 * k7 + 1) = nI ls.length ∧ (∀ i, i < ls.length → LRM g (176 + 156 * k7 + 2 + 6 * i) (ls.getD i LN0)) ∧ ∀ j, 176 ≤ j → j < 176 + 156 * k7 → g j = f j) ∨ (¬ rq = nI k7 ∧ g = f)
theorem MRD.y {bt : Nat → Int32} {n k7 vl vc : Nat} {f w x L C : Nat → Int32} {d v : Int32} {ls : List LNT} {c q : List Int32} (hT : TXT bt n 9 (SK bt n 0) [] [] [] (1, 0, ls, c, q)) (hl : LNZ vl L ls) (h9 : vl ≤ 9) (hp : CP (upd (upd f (176 + 156 * k7 + 0) d) (176 + 156 * k7 + 1) (nI vl)) w (176 + 156 * k7 + 2) 54 L) (hq : CP w x (176 + 156 * k7 + 56) vc C) : MRD bt n (nI k7) k7 f (upd x 7 v) := by
  obtain ⟨-, p2, p3⟩ := hp
  obtain ⟨-, q2, -⟩ := hq
  have e1 := hl.1
  refine Or.inl ⟨rfl, ls, c, q, hT, ?_, fun i hi => ?_, fun j h1 h2 => ?_⟩
  · rw [upd_ne (by omega), q2 _ (by omega), p2 _ (by omega), upd_eq rfl, e1]
  · refine LRM.mv (hl.2 i (by omega)) fun j hj => ?_
    rw [upd_ne (by omega), q2 _ (by omega), show 176 + 156 * k7 + 2 + 6 * i + j = 176 + 156 * k7 + 2 + (6 * i + j) by omega]
    exact p3 _ (by omega)
  · rw [upd_ne (by omega), q2 _ (by omega), p2 _ (by omega), upd_ne (by omega), upd_ne (by omega)]
theorem MRD.n {bt : Nat → Int32} {n k7 : Nat} {f : Nat → Int32} {rq : Int32} (h : ¬ rq = nI k7) : MRD bt n rq k7 f f := Or.inr ⟨h, rfl⟩
/-- the versions are held alike -/
def VRE (y fv fl : Nat → Int32) (kv kl ks : Nat) : Prop := kl ≤ 9 * kv ∧ ks ≤ 120 * kv ∧ ∃ VL, VCL fv fl kv kl VL ∧ VML y kv VL
theorem VRE.zero {y fv fl : Nat → Int32} : VRE y fv fl 0 0 0 := ⟨Nat.zero_le _, Nat.zero_le _, fun _ => [], fun v h => absurd h (Nat.not_lt_zero v), fun v h => absurd h (Nat.not_lt_zero v)⟩
theorem VML.ext {y g : Nat → Int32} {kv : Nat} {VL : Nat → List LNT} (h : VML y kv VL) (e : ∀ j, 176 ≤ j → j < 176 + 156 * kv → g j = y j) : VML g kv VL := fun v hv => by
  obtain ⟨h1, h2, h3⟩ := h v hv
  exact ⟨h1, (e _ (by omega) (by omega)).trans h2, fun i hi => (h3 i hi).ext fun j hj => e _ (by omega) (by omega)⟩
theorem LRS.ext {f g : Nat → Int32} {b o : Nat} {ln : LNT} (h : LRS f b o ln) (e : ∀ j, j < 7 → g (b + j) = f (b + j)) : LRS g b o ln :=
  ⟨(e 0 (by omega)).trans h.1, (e 1 (by omega)).trans h.2.1, (e 2 (by omega)).trans h.2.2.1, (e 3 (by omega)).trans h.2.2.2.1, (e 4 (by omega)).trans h.2.2.2.2.1, (e 5 (by omega)).trans h.2.2.2.2.2.1, (e 6 (by omega)).trans h.2.2.2.2.2.2⟩
theorem VCL.ext {fv fl gv gl : Nat → Int32} {kv kl : Nat} {VL : Nat → List LNT} (h : VCL fv fl kv kl VL) (h1 : ∀ j, j < kv * 3 → gv j = fv j) (h2 : ∀ j, j < kl * 7 → gl j = fl j) : VCL gv gl kv kl VL := fun v hv => by
  obtain ⟨a1, lo, so, a2, a3, a4, a5⟩ := h v hv
  exact ⟨a1, lo, so, (h1 _ (by omega)).trans a2, (h1 _ (by omega)).trans a3, a4, fun i hi => (a5 i hi).ext fun j hj => h2 _ (by omega)⟩
theorem VRE.fr {y g fv fl : Nat → Int32} {kv kl ks lo hi : Nat} (h : VRE y fv fl kv kl ks) (hk : kv ≤ 8) (hf : FRO g y lo hi) (hr : hi ≤ 176 ∨ 1424 ≤ lo) : VRE g fv fl kv kl ks := by
  obtain ⟨h1, h2, VL, h3, h4⟩ := h
  exact ⟨h1, h2, VL, h3, h4.ext fun j q1 q2 => hf j (by omega) (by omega)⟩
theorem VRE.cp {y g fv fl gv gl : Nat → Int32} {kv kl ks : Nat} (h : VRE y fv fl kv kl ks) (hk : kv ≤ 8) (hl : kl ≤ 72) (hg : ∀ j, j < 1662 → g j = y j) (e1 : ∀ j, j < 24 → gv j = fv j) (e2 : ∀ j, j < 504 → gl j = fl j) : VRE g gv gl kv kl ks := by
  obtain ⟨h1, h2, VL, h3, h4⟩ := h
  exact ⟨h1, h2, VL, h3.ext (fun j q => e1 j (by omega)) (fun j q => e2 j (by omega)), h4.ext fun j q1 q2 => hg j (by omega)⟩
theorem VRE.read {y g fv fl gv gl bt : Nat → Int32} {kv kl ks kv1 kl1 ks1 n : Nat} {rq td : Int32} (h : VRE y fv fl kv kl ks) (hk : kv ≤ 8) (hk1 : kv1 ≤ 8) (hkv : nI kv1 = ifc (rq = nI kv) (nI kv + 1) (nI kv)) (hc : CRD bt n rq kv kl ks fv fl gv gl kl1 ks1 td) (hm : MRD bt n rq kv y g) : VRE g gv gl kv1 kl1 ks1 := by
  obtain ⟨h1, h2, VL, h3, h4⟩ := h
  rcases hc with ⟨e, ls, c, q, hT, l9, l12, k1, k2, ev, el, er⟩ | ⟨e, rfl, rfl, rfl, rfl⟩
  · rcases hm with ⟨-, ls2, c2, q2, hT2, m1, m2, m3⟩ | ⟨e2, -⟩
    · have u := TXT.uq _ _ _ _ _ _ _ hT hT2
      have u1 : ls = ls2 := congrArg (fun z9 => z9.2.2.1) u
      subst u1
      rw [ifc_t e, nI_1] at hkv
      have ek : kv1 = kv + 1 := (nI_eq (by omega) (by omega)).mp hkv
      subst ek
      refine ⟨by omega, by omega, fun v => if v = kv then ls else VL v, fun v hv => ?_, fun v hv => ?_⟩
      · by_cases cv : v = kv
        · subst cv
          show (if v = v then ls else VL v).length ≤ 9 ∧ ∃ lo so, gv (v * 3 + 1) = nI lo ∧ gv (v * 3 + 2) = nI (if v = v then ls else VL v).length ∧ lo + (if v = v then ls else VL v).length ≤ kl1 ∧ ∀ i, i < (if v = v then ls else VL v).length → LRS gl ((lo + i) * 7) so ((if v = v then ls else VL v).getD i LN0)
          rw [if_pos rfl]
          refine ⟨l9, kl, ks, ?_, ?_, by omega, er⟩
          · rw [ev, upd_ne (by omega), upd_eq rfl]
          · rw [ev, upd_eq rfl]
        · have a := h3 v (by omega)
          show (if v = kv then ls else VL v).length ≤ 9 ∧ ∃ lo so, gv (v * 3 + 1) = nI lo ∧ gv (v * 3 + 2) = nI (if v = kv then ls else VL v).length ∧ lo + (if v = kv then ls else VL v).length ≤ kl1 ∧ ∀ i, i < (if v = kv then ls else VL v).length → LRS gl ((lo + i) * 7) so ((if v = kv then ls else VL v).getD i LN0)
          rw [if_neg cv]
          obtain ⟨a1, lo, so, a2, a3, a4, a5⟩ := a
          refine ⟨a1, lo, so, ?_, ?_, by omega, fun i hi => (a5 i hi).ext fun j hj => el _ (by omega)⟩
          · rw [ev, upd_ne (by omega), upd_ne (by omega), upd_ne (by omega)]; exact a2
          · rw [ev, upd_ne (by omega), upd_ne (by omega), upd_ne (by omega)]; exact a3
      · by_cases cv : v = kv
        · subst cv
          show (if v = v then ls else VL v).length ≤ 9 ∧ g (176 + 156 * v + 1) = nI (if v = v then ls else VL v).length ∧ ∀ i, i < (if v = v then ls else VL v).length → LRM g (176 + 156 * v + 2 + 6 * i) ((if v = v then ls else VL v).getD i LN0)
          rw [if_pos rfl]
          exact ⟨l9, m1, m2⟩
        · obtain ⟨a1, a2, a3⟩ := h4 v (by omega)
          show (if v = kv then ls else VL v).length ≤ 9 ∧ g (176 + 156 * v + 1) = nI (if v = kv then ls else VL v).length ∧ ∀ i, i < (if v = kv then ls else VL v).length → LRM g (176 + 156 * v + 2 + 6 * i) ((if v = kv then ls else VL v).getD i LN0)
          rw [if_neg cv]
          exact ⟨a1, (m3 _ (by omega) (by omega)).trans a2, fun i hi => (a3 i hi).ext fun j hj => m3 _ (by omega) (by omega)⟩
    · exact absurd e e2
  · rcases hm with ⟨e2, -⟩ | ⟨-, rfl⟩
    · exact absurd e2 e
    · rw [ifc_f e] at hkv
      have ek : kv1 = kv := (nI_eq (by omega) (by omega)).mp hkv
      subst ek
      exact ⟨h1, h2, VL, h3, h4⟩
/-- what read does to the reference's codes and days -/
def MSD (bt : Nat → Int32) (n : Nat) (rq : Int32) (k7 : Nat) (f g : Nat → Int32) : Prop := (rq = nI k7 ∧ ∃ ls c q, TXT bt n 9 (SK bt n 0) [] [] [] (1, 0, ls, c, q) ∧ g (176 + 156 * k7 + 0) = f 0 ∧ ∀ i, i < q.length → g (176 + 156 * k7 + 56 + i) = q.getD i 0) ∨ (¬ rq = nI k7 ∧ g = f)
theorem MSD.y {bt : Nat → Int32} {n k7 vl vc : Nat} {f w x L C : Nat → Int32} {v : Int32} {ls : List LNT} {c q : List Int32} (hT : TXT bt n 9 (SK bt n 0) [] [] [] (1, 0, ls, c, q)) (hs : STP vc C q) (hp : CP (upd (upd f (176 + 156 * k7 + 0) (f 0)) (176 + 156 * k7 + 1) (nI vl)) w (176 + 156 * k7 + 2) 54 L) (hq : CP w x (176 + 156 * k7 + 56) vc C) : MSD bt n (nI k7) k7 f (upd x 7 v) := by
  obtain ⟨-, p2, p3⟩ := hp
  obtain ⟨-, q2, q3⟩ := hq
  have e1 := hs.1
  refine Or.inl ⟨rfl, ls, c, q, hT, ?_, fun i hi => ?_⟩
  · rw [upd_ne (by omega), q2 _ (by omega), p2 _ (by omega), upd_ne (by omega), upd_eq rfl]
  · rw [upd_ne (by omega), q3 i (by omega)]
    exact hs.2 i (by omega)
theorem MSD.n {bt : Nat → Int32} {n k7 : Nat} {f : Nat → Int32} {rq : Int32} (h : ¬ rq = nI k7) : MSD bt n rq k7 f f := Or.inr ⟨h, rfl⟩
/-- a line in the reference's row, and its codes -/
def LZM (y : Nat → Int32) (v i : Nat) (ln : LNT) (tc : List Int32) : Prop := LNB ln ∧ y (176 + 156 * v + 2 + 6 * i + 0) = nI ln.1 ∧ y (176 + 156 * v + 2 + 6 * i + 1) = ln.2.1 ∧ y (176 + 156 * v + 2 + 6 * i + 2) = ln.2.2.1 ∧ y (176 + 156 * v + 2 + 6 * i + 3) = ln.2.2.2.1 ∧ ∃ r0 r1, y (176 + 156 * v + 2 + 6 * i + 4) = nI r0 ∧ y (176 + 156 * v + 2 + 6 * i + 5) = nI r1 ∧ r1 ≤ 100 ∧ ((tc = [] ∧ r0 = r1) ∨ ∃ tr, SMP 11 tc tr ∧ r0 + tr.length = r1 ∧ ∀ k, k < tr.length → y (176 + 156 * v + 56 + (r0 + k)) = tr.getD k 0)
def VMZ (y : Nat → Int32) (kv : Nat) (VL : Nat → List LNT) (VC : Nat → Nat → List Int32) (DY : Nat → Int32) : Prop := ∀ v, v < kv → y (176 + 156 * v + 0) = DY v ∧ (VL v).length ≤ 9 ∧ y (176 + 156 * v + 1) = nI (VL v).length ∧ ∀ i, i < (VL v).length → LZM y v i ((VL v).getD i LN0) (VC v i)
theorem VMZ.ext {y g : Nat → Int32} {kv : Nat} {VL : Nat → List LNT} {VC : Nat → Nat → List Int32} {DY : Nat → Int32} (h : VMZ y kv VL VC DY) (e : ∀ j, 176 ≤ j → j < 176 + 156 * kv → g j = y j) : VMZ g kv VL VC DY := fun v hv => by
  obtain ⟨a0, a1, a2, a3⟩ := h v hv
  refine ⟨(e _ (by omega) (by omega)).trans a0, a1, (e _ (by omega) (by omega)).trans a2, fun i hi => ?_⟩
  obtain ⟨b1, b3, b4, b5, b6, r0, r1, b7, b8, b9, b10⟩ := a3 i hi
  refine ⟨b1, (e _ (by omega) (by omega)).trans b3, (e _ (by omega) (by omega)).trans b4, (e _ (by omega) (by omega)).trans b5, (e _ (by omega) (by omega)).trans b6, r0, r1, (e _ (by omega) (by omega)).trans b7, (e _ (by omega) (by omega)).trans b8, b9, ?_⟩
  rcases b10 with b10 | ⟨tr, c1, c2, c3⟩
  · exact Or.inl b10
  · exact Or.inr ⟨tr, c1, c2, fun k hk => (e _ (by omega) (by omega)).trans (c3 k hk)⟩
/-- the versions are held alike, with what they mean -/
def VRS (y fv fl fs : Nat → Int32) (kv kl ks : Nat) : Prop := ∃ VL VC DY, VCZ fv fl fs kv kl ks VL VC DY ∧ VMZ y kv VL VC DY
theorem VRS.zero {y fv fl fs : Nat → Int32} : VRS y fv fl fs 0 0 0 := ⟨fun _ => [], fun _ _ => [], fun _ => 0, fun v h => absurd h (Nat.not_lt_zero v), fun v h => absurd h (Nat.not_lt_zero v)⟩
theorem VRS.fr {y g fv fl fs : Nat → Int32} {kv kl ks lo hi : Nat} (h : VRS y fv fl fs kv kl ks) (hk : kv ≤ 8) (hf : FRO g y lo hi) (hr : hi ≤ 176 ∨ 1424 ≤ lo) : VRS g fv fl fs kv kl ks := by
  obtain ⟨VL, VC, DY, h3, h4⟩ := h
  exact ⟨VL, VC, DY, h3, h4.ext fun j q1 q2 => hf j (by omega) (by omega)⟩
theorem VRS.cp {y g fv fl fs gv gl gs : Nat → Int32} {kv kl ks : Nat} (h : VRS y fv fl fs kv kl ks) (hk : kv ≤ 8) (hl : kl ≤ 72) (hs : ks ≤ 960) (hg : ∀ j, j < 1662 → g j = y j) (e1 : ∀ j, j < 24 → gv j = fv j) (e2 : ∀ j, j < 504 → gl j = fl j) (e3 : ∀ j, j < 960 → gs j = fs j) : VRS g gv gl gs kv kl ks := by
  obtain ⟨VL, VC, DY, h3, h4⟩ := h
  exact ⟨VL, VC, DY, h3.ext (fun j q => e1 j (by omega)) (fun j q => e2 j (by omega)) (fun j q => e3 j (by omega)) (Nat.le_refl _) (Nat.le_refl _), h4.ext fun j q1 q2 => hg j (by omega)⟩
def upA {α : Type} (f : Nat → α) (k : Nat) (x : α) : Nat → α := fun v => if v = k then x else f v
theorem upA.e {α : Type} {f : Nat → α} {k : Nat} {x : α} : upA f k x k = x := if_pos rfl
theorem upA.n {α : Type} {f : Nat → α} {k v : Nat} {x : α} (h : ¬ v = k) : upA f k x v = f v := if_neg h
theorem VRS.read {y g fv fl fs gv gl gs bt : Nat → Int32} {kv kl ks kv1 kl1 ks1 n : Nat} {rq td : Int32} (h : VRS y fv fl fs kv kl ks) (hk : kv ≤ 8) (hk1 : kv1 ≤ 8) (hkv : nI kv1 = ifc (rq = nI kv) (nI kv + 1) (nI kv)) (hc : CRD bt n rq kv kl ks fv fl gv gl kl1 ks1 td) (hd : CSD bt n rq kv ks fs gs) (hm : MRD bt n rq kv y g) (hn : MSD bt n rq kv y g) (htd : y 0 = td) : VRS g gv gl gs kv1 kl1 ks1 := by
  obtain ⟨VL, VC, DY, h3, h4⟩ := h
  rcases hc with ⟨e, ls, c, q, hT, l9, l12, k1, k2, ev, el, er⟩ | ⟨e, rfl, rfl, rfl, rfl⟩
  · rcases hd with ⟨-, ls2, c2, q2, hT2, d1, d2⟩ | ⟨e2, -⟩
    · have u := TXT.uq _ _ _ _ _ _ _ hT hT2
      have u2 : c = c2 := congrArg (fun z9 => z9.2.2.2.1) u
      subst u2
      rcases hm with ⟨-, ls3, c3, q3, hT3, m1, m2, m3⟩ | ⟨e2, -⟩
      · have w := TXT.uq _ _ _ _ _ _ _ hT hT3
        have w1 : ls = ls3 := congrArg (fun z9 => z9.2.2.1) w
        subst w1
        rcases hn with ⟨-, ls4, c4, q4, hT4, n1, n2⟩ | ⟨e2, -⟩
        · have x := TXT.uq _ _ _ _ _ _ _ hT hT4
          have x3 : q = q4 := congrArg (fun z9 => z9.2.2.2.2) x
          subst x3
          have hs := TXT.sem 9 _ [] [] [] ls c q hT (fun i hi => absurd hi (Nat.not_lt_zero i))
          obtain ⟨TC, hTC⟩ : ∃ TC : Nat → List Int32, ∀ i, i < ls.length → QLN c q (ls.getD i LN0) (TC i) := ⟨fun i => Classical.epsilon (QLN c q (ls.getD i LN0)), fun i hi => Classical.epsilon_spec (hs i hi)⟩
          rw [ifc_t e, nI_1] at hkv
          have ek : kv1 = kv + 1 := (nI_eq (by omega) (by omega)).mp hkv
          subst ek
          refine ⟨upA VL kv ls, upA VC kv TC, upA DY kv td, fun v hv => ?_, fun v hv => ?_⟩
          · by_cases cv : v = kv
            · subst cv
              rw [upA.e, upA.e, upA.e]
              refine ⟨?_, l9, kl, ?_, ?_, by omega, fun i hi => ?_⟩
              · rw [ev, upd_ne (by omega), upd_ne (by omega), upd_eq (by omega)]
              · rw [ev, upd_ne (by omega), upd_eq rfl]
              · rw [ev, upd_eq rfl]
              · obtain ⟨b1, b2, b3, b4, b5, b6, b7⟩ := er i hi
                obtain ⟨t1, t2, t3, tr, t4, t5, t6⟩ := hTC i hi
                have t7 : TCO (TC i) := t6.elim (fun h9 => by rw [h9.1]; exact TCO.nil) (fun h9 => h9.tco)
                have t8 := t2.1
                refine ⟨t1, t7, b1, b2, b3, b4, _, b6, b7.trans (congrArg nI (by omega)), by omega, fun k hk9 => ?_⟩
                have t9 := d2 ((ls.getD i LN0).2.2.2.2.2.1 + k) (by omega)
                rw [show (ls.getD i LN0).2.2.2.2.2.1 + ks + k = ks + ((ls.getD i LN0).2.2.2.2.2.1 + k) by omega]
                exact t9.trans (t2.2 k hk9)
            · rw [upA.n cv, upA.n cv, upA.n cv]
              exact (h3.ext (gv := gv) (gl := gl) (gs := gs) (fun j hj => by rw [ev, upd_ne (by omega), upd_ne (by omega), upd_ne (by omega)]) el d1 (by omega) (by omega)) v (by omega)
          · by_cases cv : v = kv
            · subst cv
              rw [upA.e, upA.e, upA.e]
              refine ⟨n1.trans htd, l9, m1, fun i hi => ?_⟩
              have b9 := (m2 i hi).ab
              obtain ⟨b1, b2, b3, b4, b5, b6, -⟩ := m2 i hi
              obtain ⟨t1, t2, t3, tr, t4, t5, t6⟩ := hTC i hi
              have t8 := t4.1
              refine ⟨t1, b1, b2, b3, b4, _, _, b5, b6, b9.2, ?_⟩
              rcases t6 with ⟨t6, t7⟩ | t6
              · rw [t7] at t5
                exact Or.inl ⟨t6, t5⟩
              · refine Or.inr ⟨tr, t6, t5, fun k hk9 => ?_⟩
                exact (n2 _ (by omega)).trans (t4.2 k hk9)
            · rw [upA.n cv, upA.n cv, upA.n cv]
              exact (h4.ext (g := g) (fun j q1 q2 => m3 j q1 q2)) v (by omega)
        · exact absurd e e2
      · exact absurd e e2
    · exact absurd e e2
  · rcases hd with ⟨e2, -⟩ | ⟨-, rfl⟩
    · exact absurd e2 e
    · rcases hm with ⟨e2, -⟩ | ⟨-, rfl⟩
      · exact absurd e2 e
      · rw [ifc_f e] at hkv
        have ek : kv1 = kv := (nI_eq (by omega) (by omega)).mp hkv
        subst ek
        exact ⟨VL, VC, DY, h3, h4⟩
section WR
variable {p : Program} {l : Launch} {e : Env} {R : Room} {s : State} {m : MethodId} {args : Array Value} {below : List Frame} {meth : Method} {c : Code} {H : Heap} {locs : List Loc} {cells slots : Nat} {Q : State → Prop}
variable {pc : Nat} {ls : Array Slot} {rest : List Value} {G : GG} {K : OO} {ws : va_W} {A : Nat → Prop} {y0 : MethodName} {b0 : ByteArray} {mL0 : Nat} {rt0 : Option FieldType} {a : Nat} {H0 : Heap}
theorem gX12_read_0 : (decode cX12_read 0 = .ok (.aload_n 0, 1)) ∧ (decode cX12_read 1 = .ok (.iconst 0, 1)) ∧ (decode cX12_read 2 = .ok (.putfield 211, 3)) ∧ (decode cX12_read 5 = .ok (.aload_n 0, 1)) ∧ (decode cX12_read 6 = .ok (.iconst 0, 1)) ∧ (decode cX12_read 7 = .ok (.putfield 222, 3)) ∧ (decode cX12_read 10 = .ok (.aload_n 0, 1)) ∧ (decode cX12_read 11 = .ok (.iconst 0, 1)) ∧ (decode cX12_read 12 = .ok (.putfield 265, 3)) ∧ (decode cX12_read 15 = .ok (.aload_n 0, 1)) := by decide +kernel
theorem gX12_read_1 : (decode cX12_read 16 = .ok (.iconst 0, 1)) ∧ (decode cX12_read 17 = .ok (.putfield 240, 3)) ∧ (decode cX12_read 20 = .ok (.aload_n 0, 1)) ∧ (decode cX12_read 21 = .ok (.iconst 0, 1)) ∧ (decode cX12_read 22 = .ok (.putfield 289, 3)) ∧ (decode cX12_read 25 = .ok (.aload_n 0, 1)) ∧ (decode cX12_read 26 = .ok (.invokevirtual 233, 3)) ∧ (decode cX12_read 29 = .ok (.aload_n 0, 1)) ∧ (decode cX12_read 30 = .ok (.getfield 222, 3)) ∧ (decode cX12_read 33 = .ok (.ifCond .ne 59, 3)) := by decide +kernel
theorem m_1050 : Cond.fieldLink RX12 289 "InquiryBenchModel" "lines" "I" ∈ BW := iB_BW55 _ (List.mem_of_getElem? (i := 19) rfl)
theorem pf_X12_289 (hC : CX p s m meth c y0 b0 mL0 rt0 args) (hy0 : y0.cls = RX12) (hK : KK G s) (hP : va_P G.1 vwCl ws H) (hD : va_D A ws) (hS : va_S A H0 H locs) (q0 : Nat) {fs : List Value} {v : Value} {ws' : va_W} (he : ws[q0]? = some (a, .inr (12, fs))) (hl : 20 < fs.length) (hws : ws.set q0 (a, .inr (12, fs.set 20 v)) = ws') (hn : narrow .int v = v) (hfit : fits .int v = true) (hdg : decode b0 pc = .ok (.putfield 289, 3)) (kk : ∀ (H1 : Heap) (locs1 : List Loc), va_P G.1 vwCl ws' H1 → va_D A ws' → va_S A H0 H1 locs1 → W p l e R s m args below meth c H1 locs1 cells slots Q (F0 m (pc + 3) ls rest)) : W p l e R s m args below meth c H locs cells slots Q (F0 m pc ls (v :: .ref a :: rest)) := by
  obtain ⟨hx, hb, hr, hml, hB, hown, hlocks, hnm⟩ := hC
  rw [hy0] at hown
  subst hws
  exact va_put (ci := 12) (ty := .int) (C := RX12) (T := TX12) (N := 41) hx hb hB in_X12 tyX12 tyX12_ok nmX12 hown hK.1 hP hD hS q0 he rfl 20 (by decide) (hB _ m_1050) (fun _ h => h) rfl (by decide +kernel) hn hfit hl hdg kk
theorem gX12_read_4 : (decode cX12_read 76 = .ok (.invokevirtual 292, 3)) ∧ (decode cX12_read 79 = .ok (.aload_n 0, 1)) ∧ (decode cX12_read 80 = .ok (.dup, 1)) ∧ (decode cX12_read 81 = .ok (.getfield 289, 3)) ∧ (decode cX12_read 84 = .ok (.iconst 1, 1)) ∧ (decode cX12_read 85 = .ok (.iadd, 1)) ∧ (decode cX12_read 86 = .ok (.putfield 289, 3)) ∧ (decode cX12_read 89 = .ok (.goto (-60), 3)) ∧ (decode cX12_read 92 = .ok (.aload_n 0, 1)) ∧ (decode cX12_read 93 = .ok (.getfield 214, 3)) := by decide +kernel
theorem gX12_read_5 : (decode cX12_read 96 = .ok (.istore_n 1, 1)) ∧ (decode cX12_read 97 = .ok (.aload_n 0, 1)) ∧ (decode cX12_read 98 = .ok (.iconst 0, 1)) ∧ (decode cX12_read 99 = .ok (.putfield 206, 3)) ∧ (decode cX12_read 102 = .ok (.aload_n 0, 1)) ∧ (decode cX12_read 103 = .ok (.getfield 222, 3)) ∧ (decode cX12_read 106 = .ok (.ifCond .eq 8, 3)) ∧ (decode cX12_read 109 = .ok (.bipush (-100), 2)) ∧ (decode cX12_read 111 = .ok (.iload_n 1, 1)) ∧ (decode cX12_read 112 = .ok (.isub, 1)) := by decide +kernel
theorem gX12_read_6 : (decode cX12_read 113 = .ok (.ireturn, 1)) ∧ (decode cX12_read 114 = .ok (.aload_n 0, 1)) ∧ (decode cX12_read 115 = .ok (.getfield 9, 3)) ∧ (decode cX12_read 118 = .ok (.bipush 7, 2)) ∧ (decode cX12_read 120 = .ok (.iaload, 1)) ∧ (decode cX12_read 121 = .ok (.istore_n 2, 1)) ∧ (decode cX12_read 122 = .ok (.iload_n 2, 1)) ∧ (decode cX12_read 123 = .ok (.bipush 8, 2)) ∧ (decode cX12_read 125 = .ok (.if_icmp .ne 6, 3)) ∧ (decode cX12_read 128 = .ok (.bipush (-2), 2)) := by decide +kernel
theorem gX12_read_2 : (decode cX12_read 36 = .ok (.aload_n 0, 1)) ∧ (decode cX12_read 37 = .ok (.getfield 217, 3)) ∧ (decode cX12_read 40 = .ok (.ifCond .eq 52, 3)) ∧ (decode cX12_read 43 = .ok (.aload_n 0, 1)) ∧ (decode cX12_read 44 = .ok (.aload_n 0, 1)) ∧ (decode cX12_read 45 = .ok (.getfield 289, 3)) ∧ (decode cX12_read 48 = .ok (.bipush 9, 2)) ∧ (decode cX12_read 50 = .ok (.if_icmp .ne 7, 3)) ∧ (decode cX12_read 53 = .ok (.iconst 1, 1)) ∧ (decode cX12_read 54 = .ok (.goto 4, 3)) := by decide +kernel
theorem gX12_read_7 : (decode cX12_read 130 = .ok (.ireturn, 1)) ∧ (decode cX12_read 131 = .ok (.sipush 176, 3)) ∧ (decode cX12_read 134 = .ok (.sipush 156, 3)) ∧ (decode cX12_read 137 = .ok (.iload_n 2, 1)) ∧ (decode cX12_read 138 = .ok (.imul, 1)) ∧ (decode cX12_read 139 = .ok (.iadd, 1)) ∧ (decode cX12_read 140 = .ok (.istore_n 3, 1)) ∧ (decode cX12_read 141 = .ok (.aload_n 0, 1)) ∧ (decode cX12_read 142 = .ok (.getfield 9, 3)) ∧ (decode cX12_read 145 = .ok (.iload_n 3, 1)) := by decide +kernel
theorem gX12_read_8 : (decode cX12_read 146 = .ok (.iconst 0, 1)) ∧ (decode cX12_read 147 = .ok (.iadd, 1)) ∧ (decode cX12_read 148 = .ok (.aload_n 0, 1)) ∧ (decode cX12_read 149 = .ok (.getfield 9, 3)) ∧ (decode cX12_read 152 = .ok (.iconst 0, 1)) ∧ (decode cX12_read 153 = .ok (.iaload, 1)) ∧ (decode cX12_read 154 = .ok (.iastore, 1)) ∧ (decode cX12_read 155 = .ok (.aload_n 0, 1)) ∧ (decode cX12_read 156 = .ok (.getfield 9, 3)) ∧ (decode cX12_read 159 = .ok (.iload_n 3, 1)) := by decide +kernel
theorem gX12_read_9 : (decode cX12_read 160 = .ok (.iconst 1, 1)) ∧ (decode cX12_read 161 = .ok (.iadd, 1)) ∧ (decode cX12_read 162 = .ok (.aload_n 0, 1)) ∧ (decode cX12_read 163 = .ok (.getfield 289, 3)) ∧ (decode cX12_read 166 = .ok (.iastore, 1)) ∧ (decode cX12_read 167 = .ok (.iconst 0, 1)) ∧ (decode cX12_read 168 = .ok (.istore 4, 2)) ∧ (decode cX12_read 170 = .ok (.iload 4, 2)) ∧ (decode cX12_read 172 = .ok (.bipush 54, 2)) ∧ (decode cX12_read 174 = .ok (.if_icmp .ge 27, 3)) := by decide +kernel
theorem gf_X12_289 (hC : CX p s m meth c y0 b0 mL0 rt0 args) (hy0 : y0.cls = RX12) (hK : KK G s) (hP : va_P G.1 vwCl ws H) (q0 : Nat) {fs : List Value} {v : Value} (he : ws[q0]? = some (a, .inr (12, fs))) (hv : fs[20]? = some v) (hdg : decode b0 pc = .ok (.getfield 289, 3)) (kk : W p l e R s m args below meth c H locs cells slots Q (F0 m (pc + 3) ls (v :: rest))) : W p l e R s m args below meth c H locs cells slots Q (F0 m pc ls (.ref a :: rest)) := by
  obtain ⟨hx, hb, hr, hml, hB, hown, hlocks, hnm⟩ := hC
  rw [hy0] at hown
  exact va_get (ci := 12) (C := RX12) (T := TX12) (N := 41) hx hb hB in_X12 hown hK.1 hP q0 he rfl 20 (by decide) (hB _ m_1050) (fun _ h => h) hv hdg kk
theorem gX12_read_11 : (decode cX12_read 193 = .ok (.iaload, 1)) ∧ (decode cX12_read 194 = .ok (.iastore, 1)) ∧ (decode cX12_read 195 = .ok (.iinc 4 1, 3)) ∧ (decode cX12_read 198 = .ok (.goto (-28), 3)) ∧ (decode cX12_read 201 = .ok (.iconst 0, 1)) ∧ (decode cX12_read 202 = .ok (.istore 4, 2)) ∧ (decode cX12_read 204 = .ok (.iload 4, 2)) ∧ (decode cX12_read 206 = .ok (.aload_n 0, 1)) ∧ (decode cX12_read 207 = .ok (.getfield 240, 3)) ∧ (decode cX12_read 210 = .ok (.if_icmp .ge 28, 3)) := by decide +kernel
theorem gX12_read_13 : (decode cX12_read 230 = .ok (.iaload, 1)) ∧ (decode cX12_read 231 = .ok (.iastore, 1)) ∧ (decode cX12_read 232 = .ok (.iinc 4 1, 3)) ∧ (decode cX12_read 235 = .ok (.goto (-31), 3)) ∧ (decode cX12_read 238 = .ok (.aload_n 0, 1)) ∧ (decode cX12_read 239 = .ok (.getfield 9, 3)) ∧ (decode cX12_read 242 = .ok (.bipush 7, 2)) ∧ (decode cX12_read 244 = .ok (.dup2, 1)) ∧ (decode cX12_read 245 = .ok (.iaload, 1)) ∧ (decode cX12_read 246 = .ok (.iconst 1, 1)) := by decide +kernel
theorem gX12_read_14 : (decode cX12_read 247 = .ok (.iadd, 1)) ∧ (decode cX12_read 248 = .ok (.iastore, 1)) ∧ (decode cX12_read 249 = .ok (.iload_n 2, 1)) ∧ (decode cX12_read 250 = .ok (.ireturn, 1)) := by decide +kernel
theorem gX12_read_12 : (decode cX12_read 213 = .ok (.aload_n 0, 1)) ∧ (decode cX12_read 214 = .ok (.getfield 9, 3)) ∧ (decode cX12_read 217 = .ok (.iload_n 3, 1)) ∧ (decode cX12_read 218 = .ok (.bipush 56, 2)) ∧ (decode cX12_read 220 = .ok (.iadd, 1)) ∧ (decode cX12_read 221 = .ok (.iload 4, 2)) ∧ (decode cX12_read 223 = .ok (.iadd, 1)) ∧ (decode cX12_read 224 = .ok (.aload_n 0, 1)) ∧ (decode cX12_read 225 = .ok (.getfield 35, 3)) ∧ (decode cX12_read 228 = .ok (.iload 4, 2)) := by decide +kernel
theorem gX12_read_10 : (decode cX12_read 177 = .ok (.aload_n 0, 1)) ∧ (decode cX12_read 178 = .ok (.getfield 9, 3)) ∧ (decode cX12_read 181 = .ok (.iload_n 3, 1)) ∧ (decode cX12_read 182 = .ok (.iconst 2, 1)) ∧ (decode cX12_read 183 = .ok (.iadd, 1)) ∧ (decode cX12_read 184 = .ok (.iload 4, 2)) ∧ (decode cX12_read 186 = .ok (.iadd, 1)) ∧ (decode cX12_read 187 = .ok (.aload_n 0, 1)) ∧ (decode cX12_read 188 = .ok (.getfield 32, 3)) ∧ (decode cX12_read 191 = .ok (.iload 4, 2)) := by decide +kernel
theorem gX12_read_3 : (decode cX12_read 57 = .ok (.iconst 0, 1)) ∧ (decode cX12_read 58 = .ok (.putfield 222, 3)) ∧ (decode cX12_read 61 = .ok (.aload_n 0, 1)) ∧ (decode cX12_read 62 = .ok (.getfield 222, 3)) ∧ (decode cX12_read 65 = .ok (.ifCond .ne (-36), 3)) ∧ (decode cX12_read 68 = .ok (.aload_n 0, 1)) ∧ (decode cX12_read 69 = .ok (.bipush 6, 2)) ∧ (decode cX12_read 71 = .ok (.aload_n 0, 1)) ∧ (decode cX12_read 72 = .ok (.getfield 289, 3)) ∧ (decode cX12_read 75 = .ok (.imul, 1)) := by decide +kernel
theorem m_1250 : Cond.code yX12_lineAt cX12_lineAt 3 none ∈ BW := iB_BW66 _ (List.mem_of_getElem? (i := 18) rfl)
theorem m_1248 : Cond.methodLink RX12 292 yX12_lineAt ∈ BW := iB_BW66 _ (List.mem_of_getElem? (i := 16) rfl)
theorem m_1249 : Cond.instanceMethod yX12_lineAt ∈ BW := iB_BW66 _ (List.mem_of_getElem? (i := 17) rfl)
theorem m_79 : Cond.selects RX12 yX12_lineAt yX12_lineAt ∈ BW := iB_BW3 _ (List.mem_of_getElem? (i := 19) rfl)
theorem si_X12_292 : SV RX12 RX12 292 yX12_lineAt cX12_lineAt 3 none 1 := ⟨⟨m_1248, m_1249, m_79, m_115, m_1250⟩, rfl, nK_RX12.1, nK_RX12.2, pd_18⟩
theorem gX12_line_0 : (decode cX12_line 0 = .ok (.aload_n 0, 1)) ∧ (decode cX12_line 1 = .ok (.iload_n 1, 1)) ∧ (decode cX12_line 2 = .ok (.bipush 7, 2)) ∧ (decode cX12_line 4 = .ok (.invokevirtual 120, 3)) ∧ (decode cX12_line 7 = .ok (.ifCond .eq 27, 3)) ∧ (decode cX12_line 10 = .ok (.iload_n 2, 1)) ∧ (decode cX12_line 11 = .ok (.iconst 0, 1)) ∧ (decode cX12_line 12 = .ok (.aload_n 0, 1)) ∧ (decode cX12_line 13 = .ok (.iload_n 1, 1)) ∧ (decode cX12_line 14 = .ok (.invokevirtual 183, 3)) := by decide +kernel
theorem gX12_line_1 : (decode cX12_line 17 = .ok (.iconst 1, 1)) ∧ (decode cX12_line 18 = .ok (.isub, 1)) ∧ (decode cX12_line 19 = .ok (.invokestatic 84, 3)) ∧ (decode cX12_line 22 = .ok (.ifCond .eq 12, 3)) ∧ (decode cX12_line 25 = .ok (.iload_n 3, 1)) ∧ (decode cX12_line 26 = .ok (.iconst 0, 1)) ∧ (decode cX12_line 27 = .ok (.iconst 4, 1)) ∧ (decode cX12_line 28 = .ok (.invokestatic 84, 3)) ∧ (decode cX12_line 31 = .ok (.ifCond .ne 6, 3)) ∧ (decode cX12_line 34 = .ok (.bipush (-9), 2)) := by decide +kernel
theorem gX12_line_2 : (decode cX12_line 36 = .ok (.ireturn, 1)) ∧ (decode cX12_line 37 = .ok (.iload_n 3, 1)) ∧ (decode cX12_line 38 = .ok (.iconst 4, 1)) ∧ (decode cX12_line 39 = .ok (.if_icmp .ge 13, 3)) ∧ (decode cX12_line 42 = .ok (.aload_n 0, 1)) ∧ (decode cX12_line 43 = .ok (.iload_n 1, 1)) ∧ (decode cX12_line 44 = .ok (.iload_n 2, 1)) ∧ (decode cX12_line 45 = .ok (.iload_n 3, 1)) ∧ (decode cX12_line 46 = .ok (.invokevirtual 193, 3)) ∧ (decode cX12_line 49 = .ok (.goto 25, 3)) := by decide +kernel
theorem gX12_line_3 : (decode cX12_line 52 = .ok (.aload_n 0, 1)) ∧ (decode cX12_line 53 = .ok (.iload_n 1, 1)) ∧ (decode cX12_line 54 = .ok (.iload_n 2, 1)) ∧ (decode cX12_line 55 = .ok (.iconst 5, 1)) ∧ (decode cX12_line 56 = .ok (.invokevirtual 193, 3)) ∧ (decode cX12_line 59 = .ok (.aload_n 0, 1)) ∧ (decode cX12_line 60 = .ok (.iload_n 1, 1)) ∧ (decode cX12_line 61 = .ok (.iload_n 2, 1)) ∧ (decode cX12_line 62 = .ok (.iconst 4, 1)) ∧ (decode cX12_line 63 = .ok (.invokevirtual 193, 3)) := by decide +kernel
theorem gX12_line_4 : (decode cX12_line 66 = .ok (.if_icmp .le 7, 3)) ∧ (decode cX12_line 69 = .ok (.iconst 1, 1)) ∧ (decode cX12_line 70 = .ok (.goto 4, 3)) ∧ (decode cX12_line 73 = .ok (.iconst 0, 1)) ∧ (decode cX12_line 74 = .ok (.ireturn, 1)) := by decide +kernel
end WR
theorem rm_7_4_2 {mc ms : Nat} : 4 + 1 ≤ (RM 7 mc ms).frames ∧ 8 + (2 + 11) + 40 * 4 ≤ (RM 7 mc ms).locals := ⟨by show 4 + 1 ≤ 7; decide, by show 8 + (2 + 11) + 40 * 4 ≤ 40 * 7; decide⟩
theorem dj_1__0 : ∀ i ∈ ([0] : List Nat), i ∉ ([1] : List Nat) := by decide
theorem rm_9_8_1 {mc ms : Nat} : 8 + 1 ≤ (RM 9 mc ms).frames ∧ 8 + (1 + 11) + 40 * 8 ≤ (RM 9 mc ms).locals := ⟨by show 8 + 1 ≤ 9; decide, by show 8 + (1 + 11) + 40 * 8 ≤ 40 * 9; decide⟩
theorem rm_9_5_4 {mc ms : Nat} : 5 + 1 ≤ (RM 9 mc ms).frames ∧ 8 + (4 + 11) + 40 * 5 ≤ (RM 9 mc ms).locals := ⟨by show 5 + 1 ≤ 9; decide, by show 8 + (4 + 11) + 40 * 5 ≤ 40 * 9; decide⟩
theorem dj_3__0_1_2 : ∀ i ∈ ([0, 1, 2] : List Nat), i ∉ ([3] : List Nat) := by decide
theorem sm_2_0 {a0 a1 a2 : Nat × va_E} {l : va_W} : ([2, 0] : List Nat).map (fun i => (a0 :: a1 :: a2 :: l : va_W)[i]?) = ([a2, a0] : va_W).map some := rfl
theorem fm_2_0 {a0 a1 a2 : Nat × va_E} {l : va_W} : ([2, 0] : List Nat).filterMap (fun i => (a0 :: a1 :: a2 :: l : va_W)[i]?) = ([a2, a0] : va_W) := rfl
theorem nd_2_0 : va_nd [2, 0] = true := by decide
theorem dj_2_0__1_3 : ∀ i ∈ ([1, 3] : List Nat), i ∉ ([2, 0] : List Nat) := by decide
theorem fm_3_0_2_1 {a0 a1 a2 a3 : Nat × va_E} {l : va_W} : ([3, 0, 2, 1] : List Nat).filterMap (fun i => (a0 :: a1 :: a2 :: a3 :: l : va_W)[i]?) = ([a3, a0, a2, a1] : va_W) := rfl
theorem nd_3_0_2_1 : va_nd [3, 0, 2, 1] = true := by decide
theorem sm_3_0_2_1 {a0 a1 a2 a3 : Nat × va_E} {l : va_W} : ([3, 0, 2, 1] : List Nat).map (fun i => (a0 :: a1 :: a2 :: a3 :: l : va_W)[i]?) = ([a3, a0, a2, a1] : va_W).map some := rfl
theorem dj_0_2__1_3 : ∀ i ∈ ([1, 3] : List Nat), i ∉ ([0, 2] : List Nat) := by decide
theorem fm_2_0_3_1 {a0 a1 a2 a3 : Nat × va_E} {l : va_W} : ([2, 0, 3, 1] : List Nat).filterMap (fun i => (a0 :: a1 :: a2 :: a3 :: l : va_W)[i]?) = ([a2, a0, a3, a1] : va_W) := rfl
theorem nd_2_0_3_1 : va_nd [2, 0, 3, 1] = true := by decide
theorem sm_2_0_3_1 {a0 a1 a2 a3 : Nat × va_E} {l : va_W} : ([2, 0, 3, 1] : List Nat).map (fun i => (a0 :: a1 :: a2 :: a3 :: l : va_W)[i]?) = ([a2, a0, a3, a1] : va_W).map some := rfl
theorem rm_32_5_4 {mc ms : Nat} : 5 + 1 ≤ (RM 32 mc ms).frames ∧ 8 + (4 + 11) + 40 * 5 ≤ (RM 32 mc ms).locals := ⟨by show 5 + 1 ≤ 32; decide, by show 8 + (4 + 11) + 40 * 5 ≤ 40 * 32; decide⟩
theorem rm_32_4_2 {mc ms : Nat} : 4 + 1 ≤ (RM 32 mc ms).frames ∧ 8 + (2 + 11) + 40 * 4 ≤ (RM 32 mc ms).locals := ⟨by show 4 + 1 ≤ 32; decide, by show 8 + (2 + 11) + 40 * 4 ≤ 40 * 32; decide⟩
theorem rm_32_5_5 {mc ms : Nat} : 5 + 1 ≤ (RM 32 mc ms).frames ∧ 8 + (5 + 11) + 40 * 5 ≤ (RM 32 mc ms).locals := ⟨by show 5 + 1 ≤ 32; decide, by show 8 + (5 + 11) + 40 * 5 ≤ 40 * 32; decide⟩
theorem rm_32_3_1 {mc ms : Nat} : 3 + 1 ≤ (RM 32 mc ms).frames ∧ 8 + (1 + 11) + 40 * 3 ≤ (RM 32 mc ms).locals := ⟨by show 3 + 1 ≤ 32; decide, by show 8 + (1 + 11) + 40 * 3 ≤ 40 * 32; decide⟩
theorem sm_3_4_0_2 {a0 a1 a2 a3 a4 : Nat × va_E} {l : va_W} : ([3, 4, 0, 2] : List Nat).map (fun i => (a0 :: a1 :: a2 :: a3 :: a4 :: l : va_W)[i]?) = ([a3, a4, a0, a2] : va_W).map some := rfl
theorem fm_3_4_0_2 {a0 a1 a2 a3 a4 : Nat × va_E} {l : va_W} : ([3, 4, 0, 2] : List Nat).filterMap (fun i => (a0 :: a1 :: a2 :: a3 :: a4 :: l : va_W)[i]?) = ([a3, a4, a0, a2] : va_W) := rfl
theorem nd_3_4_0_2 : va_nd [3, 4, 0, 2] = true := by decide
theorem dj_3_4_0_2__1 : ∀ i ∈ ([1] : List Nat), i ∉ ([3, 4, 0, 2] : List Nat) := by decide
theorem sm_0_3_4 {a0 a1 a2 a3 a4 : Nat × va_E} {l : va_W} : ([0, 3, 4] : List Nat).map (fun i => (a0 :: a1 :: a2 :: a3 :: a4 :: l : va_W)[i]?) = ([a0, a3, a4] : va_W).map some := rfl
theorem nd_0_3_4 : va_nd [0, 3, 4] = true := by decide
theorem dj_1_2__0_3_4 : ∀ i ∈ ([0, 3, 4] : List Nat), i ∉ ([1, 2] : List Nat) := by decide
theorem dj_1__0_2_3_4 : ∀ i ∈ ([0, 2, 3, 4] : List Nat), i ∉ ([1] : List Nat) := by decide
theorem sm_0_1_2_4 {a0 a1 a2 a3 a4 : Nat × va_E} {l : va_W} : ([0, 1, 2, 4] : List Nat).map (fun i => (a0 :: a1 :: a2 :: a3 :: a4 :: l : va_W)[i]?) = ([a0, a1, a2, a4] : va_W).map some := rfl
theorem nd_0_1_2_4 : va_nd [0, 1, 2, 4] = true := by decide
theorem dj_3__0_1_2_4 : ∀ i ∈ ([0, 1, 2, 4] : List Nat), i ∉ ([3] : List Nat) := by decide
theorem dj_4__0_1_2_3 : ∀ i ∈ ([0, 1, 2, 3] : List Nat), i ∉ ([4] : List Nat) := by decide
theorem dj_0__1_2_3_4 : ∀ i ∈ ([1, 2, 3, 4] : List Nat), i ∉ ([0] : List Nat) := by decide
theorem rm_33_3_1 {mc ms : Nat} : 3 + 1 ≤ (RM 33 mc ms).frames ∧ 8 + (1 + 11) + 40 * 3 ≤ (RM 33 mc ms).locals := ⟨by show 3 + 1 ≤ 33; decide, by show 8 + (1 + 11) + 40 * 3 ≤ 40 * 33; decide⟩
theorem sm_1_3_4_5 {a0 a1 a2 a3 a4 a5 : Nat × va_E} {l : va_W} : ([1, 3, 4, 5] : List Nat).map (fun i => (a0 :: a1 :: a2 :: a3 :: a4 :: a5 :: l : va_W)[i]?) = ([a1, a3, a4, a5] : va_W).map some := rfl
theorem nd_1_3_4_5 : va_nd [1, 3, 4, 5] = true := by decide
theorem dj_0_2__1_3_4_5 : ∀ i ∈ ([1, 3, 4, 5] : List Nat), i ∉ ([0, 2] : List Nat) := by decide
theorem rm_33_32_3 {mc ms : Nat} : 32 + 1 ≤ (RM 33 mc ms).frames ∧ 8 + (3 + 11) + 40 * 32 ≤ (RM 33 mc ms).locals := ⟨by show 32 + 1 ≤ 33; decide, by show 8 + (3 + 11) + 40 * 32 ≤ 40 * 33; decide⟩
theorem sm_4_5_1_2_3 {a0 a1 a2 a3 a4 a5 : Nat × va_E} {l : va_W} : ([4, 5, 1, 2, 3] : List Nat).map (fun i => (a0 :: a1 :: a2 :: a3 :: a4 :: a5 :: l : va_W)[i]?) = ([a4, a5, a1, a2, a3] : va_W).map some := rfl
theorem fm_4_5_1_2_3 {a0 a1 a2 a3 a4 a5 : Nat × va_E} {l : va_W} : ([4, 5, 1, 2, 3] : List Nat).filterMap (fun i => (a0 :: a1 :: a2 :: a3 :: a4 :: a5 :: l : va_W)[i]?) = ([a4, a5, a1, a2, a3] : va_W) := rfl
theorem nd_4_5_1_2_3 : va_nd [4, 5, 1, 2, 3] = true := by decide
theorem dj_4_5_1_2_3__0 : ∀ i ∈ ([0] : List Nat), i ∉ ([4, 5, 1, 2, 3] : List Nat) := by decide
theorem fm_0_3_4_5_1_2 {a0 a1 a2 a3 a4 a5 : Nat × va_E} {l : va_W} : ([0, 3, 4, 5, 1, 2] : List Nat).filterMap (fun i => (a0 :: a1 :: a2 :: a3 :: a4 :: a5 :: l : va_W)[i]?) = ([a0, a3, a4, a5, a1, a2] : va_W) := rfl
theorem nd_0_3_4_5_1_2 : va_nd [0, 3, 4, 5, 1, 2] = true := by decide
theorem sm_0_3_4_5_1_2 {a0 a1 a2 a3 a4 a5 : Nat × va_E} {l : va_W} : ([0, 3, 4, 5, 1, 2] : List Nat).map (fun i => (a0 :: a1 :: a2 :: a3 :: a4 :: a5 :: l : va_W)[i]?) = ([a0, a3, a4, a5, a1, a2] : va_W).map some := rfl
def K_w_feed (l : Launch) (G : GG) (h0 : Nat) (ee : Int64) (x2 : Int32) (nw : Nat) (nk : Nat) (mhasKept : Int32) (nt : Nat) (ktp : Nat) (nr : Nat) (mrowMany : Int32) (mroundOf : Int32) (mroundFrom : Int32) (mouts : Int32) (nm : Nat) (mfromHour : Int32) (mtoHour : Int32) (ns : Nat) (mfrom : Int32) (mto : Int32) (msort : Int32) (misFault : Int32) (mdeep : Int32) (mcoded : Int32) (mlines : Int32) (nl : Nat) (nc : Nat) (nF : Nat) (np : Nat) (ntr : Nat) (nb : Nat) (mbestCost : Int32) (nso : Nat) (nsi : Nat) (nit : Nat) (nsh : Nat) (nsf : Nat) (nss : Nat) (nrc : Nat) (mtraced : Int32) (mdealer : Int32) (mnumber : Int32) (mwhose : Int32) (msize : Int32) (misParted : Int32) (fnt : Nat → Int32) : Prop := MI l G yX12_feed cX12_feed 5 (some .int) 2 0 0 [.ref h0, .long ee, .int x2] [(h0, oX12 nw nk mhasKept nt (nI ktp) nr mrowMany mroundOf mroundFrom mouts nm mfromHour mtoHour ns mfrom mto msort misFault mdeep mcoded mlines nl nc nF np ntr nb mbestCost nso nsi nit nsh nsf nss nrc mtraced mdealer mnumber mwhose msize misParted), (nt, iA G 240 fnt)] (fun (r : Int32) (u : Nat × (Nat → Int32)) => (r = ifc (Wi x2 1 8) (ifc (nI ktp + x2 ≤ 240) (nI ktp + x2) (-2)) (-1)) ∧ (u.1 ≤ 240 ∧ nI u.1 = ifc (Wi x2 1 8) (ifc (nI ktp + x2 ≤ 240) (nI ktp + x2) (nI ktp)) (nI ktp) ∧ FDB (BYM ee) ktp u.1 fnt u.2)) (fun u : Nat × (Nat → Int32) => [(h0, oX12 nw nk mhasKept nt (nI u.1) nr mrowMany mroundOf mroundFrom mouts nm mfromHour mtoHour ns mfrom mto msort misFault mdeep mcoded mlines nl nc nF np ntr nb mbestCost nso nsi nit nsh nsf nss nrc mtraced mdealer mnumber mwhose msize misParted), (nt, iA G 240 u.2)])
set_option maxHeartbeats 4000000 in
set_option maxRecDepth 100000 in
theorem w_feed (l : Launch) (G : GG) (h0 : Nat) (ee : Int64) (x2 : Int32) (nw : Nat) (nk : Nat) (mhasKept : Int32) (nt : Nat) (ktp : Nat) (nr : Nat) (mrowMany : Int32) (mroundOf : Int32) (mroundFrom : Int32) (mouts : Int32) (nm : Nat) (mfromHour : Int32) (mtoHour : Int32) (ns : Nat) (mfrom : Int32) (mto : Int32) (msort : Int32) (misFault : Int32) (mdeep : Int32) (mcoded : Int32) (mlines : Int32) (nl : Nat) (nc : Nat) (nF : Nat) (np : Nat) (ntr : Nat) (nb : Nat) (mbestCost : Int32) (nso : Nat) (nsi : Nat) (nit : Nat) (nsh : Nat) (nsf : Nat) (nss : Nat) (nrc : Nat) (mtraced : Int32) (mdealer : Int32) (mnumber : Int32) (mwhose : Int32) (msize : Int32) (misParted : Int32) (fnt : Nat → Int32) (htp : ktp ≤ 240) : K_w_feed l G h0 ee x2 nw nk mhasKept nt ktp nr mrowMany mroundOf mroundFrom mouts nm mfromHour mtoHour ns mfrom mto msort misFault mdeep mcoded mlines nl nc nF np ntr nb mbestCost nso nsi nit nsh nsf nss nrc mtraced mdealer mnumber mwhose msize misParted fnt := by
  refine MI.start (by decide +kernel) (Nat.le_of_ble_eq_true rfl) ?_
  intro p e s m below meth c A ls hC hK hP hD hS hA hl
  refine absQ (fun Q0 hQ0 => ?_)
  have hl : lv_has ls 5 [(0, .ref h0), (1, .long ee), (3, .int x2)] := hl
  refine Kan8 hC (fun hx hb hr hml hB hown hlocks hnm => ?_)
  refine lv_iload_n hx hb gX12_feed_0.1 rfl (lv_at2 hl) ?_
  refine lv_iconst (v := 1) hx hb gX12_feed_0.2.1 (by decide) ?_
  refine lv_bipush (v := 8) hx hb gX12_feed_0.2.2.1 (by decide) ?_
  refine pS hC hK hl (m_within l G x2 1 8) si_X12_84 rfl rfl (Nat.le_of_ble_eq_true rfl) rm_2_1_3 ⟨by first | exact Nat.le_of_ble_eq_true rfl | exact Nat.zero_le _, by first | exact Nat.le_of_ble_eq_true rfl | exact Nat.zero_le _⟩ gX12_feed_0.2.2.2.1 (Kors (Keqa fun a8944 => ?_) (Keqa fun a8944 => ?_))
  · refine lv_if_ne (tgt := 12) hx hb gX12_feed_0.2.2.2.2.1 (by decide) (fun _ => ?_) (fun c9 => absurd c9 (by decide))
    obtain ⟨jn, hjn, rfl⟩ := Wi1_nat (N := 8) (by decide) a8944
    refine lv_aload_n hx hb gX12_feed_0.2.2.2.2.2.2.2.1 rfl (lv_at0 hl) ?_
    refine gf_X12_206 hC rfl hK hP 0 rfl rfl gX12_feed_0.2.2.2.2.2.2.2.2.1 ?_
    refine lv_iload_n hx hb gX12_feed_0.2.2.2.2.2.2.2.2.2 rfl (lv_at2 hl) ?_
    refine lv_iadd hx hb gX12_feed_1.1 ?_
    refine eqi (x1 := nI (ktp + jn)) (nI_add ktp jn) ?_
    refine lv_sipush (v := 240) hx hb gX12_feed_1.2.1 (by decide) ?_
    refine lv_icmp_le (tgt := 27) hx hb gX12_feed_1.2.2.1 (by decide) (fun c_21_8945 => ?_) (fun c_21_8945 => ?_)
    · have hfit9 := (nI_leI (a := ktp + jn) (b := 240) (by omega) (by decide)).mp c_21_8945
      refine lv_iconst (v := 0) hx hb gX12_feed_1.2.2.2.2.2.1 (by decide) ?_
      refine lv_istore (lv' := [(4, .int 0), (0, .ref h0), (1, .long ee), (3, .int (nI jn))]) hx hb gX12_feed_1.2.2.2.2.2.2.1 hl (by decide) rfl (fun ls hl => ?_)
      have keyP : ∀ (nP kP : Nat) (vT : Nat → Int32) (H : Heap) (locs : List Loc) (ls : Array Slot), kP + nP = jn → (FDB (BYM ee) ktp (ktp + kP) fnt vT) → va_PD G A [(h0, oX12 nw nk mhasKept nt (nI (ktp + kP)) nr mrowMany mroundOf mroundFrom mouts nm mfromHour mtoHour ns mfrom mto msort misFault mdeep mcoded mlines nl nc nF np ntr nb mbestCost nso nsi nit nsh nsf nss nrc mtraced mdealer mnumber mwhose msize misParted), (nt, iA G 240 vT)] H → va_S A s.heap H locs → lv_has ls 5 [(4, .int (nI kP)), (0, .ref h0), (1, .long ee), (3, .int (nI jn))] → W p l e (RM 2 0 0) s m ([.ref h0, .long ee, .int (nI jn)] : List Value).toArray below meth c H locs 0 0 Q0 (F0 m 30 ls []) := by
        intro nP
        induction nP with
        | zero =>
          intro kP vT H locs ls hkP hfd hPD hS hl
          refine Kan2 hPD (fun hP hD => ?_)
          obtain rfl : jn = kP := by omega
          refine Kpdr (ws := [(h0, oX12 nw nk mhasKept nt (nI (ktp + jn)) nr mrowMany mroundOf mroundFrom mouts nm mfromHour mtoHour ns mfrom mto msort misFault mdeep mcoded mlines nl nc nF np ntr nb mbestCost nso nsi nit nsh nsf nss nrc mtraced mdealer mnumber mwhose msize misParted), (nt, iA G 240 vT)]) hP hD (fun hP hD => ?_)
          have hl : lv_has ls 5 [(4, .int (nI jn)), (0, .ref h0), (1, .long ee), (3, .int (nI jn))] := hl
          refine lv_iload hx hb gX12_feed_1.2.2.2.2.2.2.2.1 (lv_at0 hl) ?_
          refine lv_iload_n hx hb gX12_feed_1.2.2.2.2.2.2.2.2.1 rfl (lv_at3 hl) ?_
          refine lv_icmp_ge (tgt := 73) hx hb gX12_feed_1.2.2.2.2.2.2.2.2.2 (by decide) (fun _ => ?_) (fun c9 => absurd (Int32.le_refl _) c9)
          refine lv_aload_n hx hb gX12_feed_4.2.1 rfl (lv_at1 hl) ?_
          refine gf_X12_206 hC rfl hK hP 0 rfl rfl gX12_feed_4.2.2.1 ?_
          refine toQ hQ0 ?_
          exact RI (v := nI (ktp + jn)) hC hP hD hS [0, 1] ((ktp + jn), vT) rfl rfl (by decide) (⟨(by first | rfl | (simp only [ifc_t htp, ifc_t a8944, ifc_t (q := nI ktp + nI jn ≤ 240) (nI_add ktp jn ▸ c_21_8945)]; done) | (simp only [ifc_t htp, ifc_t a8944, ifc_t (q := nI ktp + nI jn ≤ 240) (nI_add ktp jn ▸ c_21_8945)]; exact (nI_add _ _).symm) | (dsimp only; simp only [ifc_t htp, ifc_t a8944, ifc_t (q := nI ktp + nI jn ≤ 240) (nI_add ktp jn ▸ c_21_8945)]; done) | (dsimp only; simp only [ifc_t htp, ifc_t a8944, ifc_t (q := nI ktp + nI jn ≤ 240) (nI_add ktp jn ▸ c_21_8945)]; exact (nI_add _ _).symm)), ⟨by omega, (by first | rfl | (simp only [ifc_t htp, ifc_t a8944, ifc_t (q := nI ktp + nI jn ≤ 240) (nI_add ktp jn ▸ c_21_8945)]; done) | (simp only [ifc_t htp, ifc_t a8944, ifc_t (q := nI ktp + nI jn ≤ 240) (nI_add ktp jn ▸ c_21_8945)]; exact (nI_add _ _).symm) | (dsimp only; simp only [ifc_t htp, ifc_t a8944, ifc_t (q := nI ktp + nI jn ≤ 240) (nI_add ktp jn ▸ c_21_8945)]; done) | (dsimp only; simp only [ifc_t htp, ifc_t a8944, ifc_t (q := nI ktp + nI jn ≤ 240) (nI_add ktp jn ▸ c_21_8945)]; exact (nI_add _ _).symm)), hfd⟩⟩) rfl gX12_feed_4.2.2.2
        | succ nP ihP =>
          intro kP vT H locs ls hkP hfd hPD hS hl
          refine Kan2 hPD (fun hP hD => ?_)
          refine lv_iload hx hb gX12_feed_1.2.2.2.2.2.2.2.1 (lv_at0 hl) ?_
          refine lv_iload_n hx hb gX12_feed_1.2.2.2.2.2.2.2.2.1 rfl (lv_at3 hl) ?_
          refine lv_icmp_ge (tgt := 73) hx hb gX12_feed_1.2.2.2.2.2.2.2.2.2 (by decide) (fun c9 => absurd c9 (nI_ge (a := kP) (b := jn) (by omega) (by omega))) (fun _ => ?_)
          refine lv_aload_n hx hb gX12_feed_2.1 rfl (lv_at1 hl) ?_
          refine gf_X12_16 hC rfl hK hP 0 rfl rfl gX12_feed_2.2.1 ?_
          refine lv_aload_n hx hb gX12_feed_2.2.2.1 rfl (lv_at1 hl) ?_
          refine gf_X12_206 hC rfl hK hP 0 rfl rfl gX12_feed_2.2.2.2.1 ?_
          refine lv_lload_n hx hb gX12_feed_2.2.2.2.2.1 rfl (lv_at2 hl) ?_
          refine lv_bipush (v := 8) hx hb gX12_feed_2.2.2.2.2.2.1 (by decide) ?_
          refine lv_iload hx hb gX12_feed_2.2.2.2.2.2.2.1 (lv_at0 hl) ?_
          refine lv_imul hx hb gX12_feed_2.2.2.2.2.2.2.2.1 ?_
          refine eqi (x1 := nI (8 * kP)) (nI_mul 8 kP) ?_
          refine lv_lshr hx hb gX12_feed_2.2.2.2.2.2.2.2.2.1 rfl ?_
          refine lv_ldc2 hx hb hown (hB _ m_1237) gX12_feed_2.2.2.2.2.2.2.2.2.2 ?_
          refine lv_land hx hb gX12_feed_3.1 ?_
          refine lv_l2i hx hb gX12_feed_3.2.1 rfl ?_
          refine astN hC hK hP hD hS 1 (ws' := [(h0, oX12 nw nk mhasKept nt (nI (ktp + kP)) nr mrowMany mroundOf mroundFrom mouts nm mfromHour mtoHour ns mfrom mto msort misFault mdeep mcoded mlines nl nc nF np ntr nb mbestCost nso nsi nit nsh nsf nss nrc mtraced mdealer mnumber mwhose msize misParted), (nt, iA G 240 (upd vT (ktp + kP) (((ee >>> ((nI (8 * kP)).toInt64 &&& 63)) &&& 255).toInt32)))]) rfl (k := (ktp + kP)) (by omega) (Nat.le_of_ble_eq_true rfl) (rfl) gX12_feed_3.2.2.1 (fun H locs hP hD hS => ?_)
          refine lv_aload_n hx hb gX12_feed_3.2.2.2.1 rfl (lv_at1 hl) ?_
          refine lv_dup hx hb gX12_feed_3.2.2.2.2.1 rfl ?_
          refine gf_X12_206 hC rfl hK hP 0 rfl rfl gX12_feed_3.2.2.2.2.2.1 ?_
          refine lv_iconst (v := 1) hx hb gX12_feed_3.2.2.2.2.2.2.1 (by decide) ?_
          refine lv_iadd hx hb gX12_feed_3.2.2.2.2.2.2.2.1 ?_
          refine eqi (x1 := nI (ktp + kP + 1)) (nI_add (ktp + kP) 1) ?_
          refine pf_X12_206 hC rfl hK hP hD hS 0 (ws' := [(h0, oX12 nw nk mhasKept nt (nI (ktp + kP + 1)) nr mrowMany mroundOf mroundFrom mouts nm mfromHour mtoHour ns mfrom mto msort misFault mdeep mcoded mlines nl nc nF np ntr nb mbestCost nso nsi nit nsh nsf nss nrc mtraced mdealer mnumber mwhose msize misParted), (nt, iA G 240 (upd vT (ktp + kP) (((ee >>> ((nI (8 * kP)).toInt64 &&& 63)) &&& 255).toInt32)))]) rfl (Nat.le_of_ble_eq_true rfl) rfl rfl rfl gX12_feed_3.2.2.2.2.2.2.2.2.1 (fun H locs hP hD hS => ?_)
          refine lv_iinc (v := nI (kP + 1)) (lv' := [(4, .int (nI (kP + 1))), (0, .ref h0), (1, .long ee), (3, .int (nI jn))]) hx hb gX12_feed_3.2.2.2.2.2.2.2.2.2 hl (k := 0) rfl (nI_1 _) (by decide) rfl (fun ls hl => ?_)
          refine lv_goto (tgt := 30) hx hb gX12_feed_4.1 (by decide) ?_
          exact ihP (kP + 1) (upd vT (ktp + kP) (((ee >>> ((nI (8 * kP)).toInt64 &&& 63)) &&& 255).toInt32)) _ _ _ (by omega) (by first | assumption | exact Or.inl rfl | exact Or.inr rfl | exact FDB.zero | exact FDB.next hfd (by omega)) (And.intro hP hD) hS (lv_sub hl [0, 1, 2, 3] rfl)
      exact keyP jn 0 fnt _ _ _ (by omega) (by first | assumption | exact Or.inl rfl | exact Or.inr rfl | exact FDB.zero | exact FDB.next hfd (by omega)) (And.intro hP hD) hS (lv_sub hl [0, 1, 2, 3] rfl)
    · refine lv_bipush (v := (-2)) hx hb gX12_feed_1.2.2.2.1 (by decide) ?_
      refine toQ hQ0 ?_
      exact RI (v := (-2)) hC hP hD hS [0, 1] (ktp, fnt) rfl rfl (by decide) (⟨(by first | rfl | (simp only [ifc_t htp, ifc_t a8944, ifc_f (q := nI ktp + nI jn ≤ 240) (fun h9 => c_21_8945 (nI_add ktp jn ▸ h9))]; done) | (simp only [ifc_t htp, ifc_t a8944, ifc_f (q := nI ktp + nI jn ≤ 240) (fun h9 => c_21_8945 (nI_add ktp jn ▸ h9))]; exact (nI_add _ _).symm) | (dsimp only; simp only [ifc_t htp, ifc_t a8944, ifc_f (q := nI ktp + nI jn ≤ 240) (fun h9 => c_21_8945 (nI_add ktp jn ▸ h9))]; done) | (dsimp only; simp only [ifc_t htp, ifc_t a8944, ifc_f (q := nI ktp + nI jn ≤ 240) (fun h9 => c_21_8945 (nI_add ktp jn ▸ h9))]; exact (nI_add _ _).symm)), ⟨by omega, (by first | rfl | (simp only [ifc_t htp, ifc_t a8944, ifc_f (q := nI ktp + nI jn ≤ 240) (fun h9 => c_21_8945 (nI_add ktp jn ▸ h9))]; done) | (simp only [ifc_t htp, ifc_t a8944, ifc_f (q := nI ktp + nI jn ≤ 240) (fun h9 => c_21_8945 (nI_add ktp jn ▸ h9))]; exact (nI_add _ _).symm) | (dsimp only; simp only [ifc_t htp, ifc_t a8944, ifc_f (q := nI ktp + nI jn ≤ 240) (fun h9 => c_21_8945 (nI_add ktp jn ▸ h9))]; done) | (dsimp only; simp only [ifc_t htp, ifc_t a8944, ifc_f (q := nI ktp + nI jn ≤ 240) (fun h9 => c_21_8945 (nI_add ktp jn ▸ h9))]; exact (nI_add _ _).symm)), FDB.same⟩⟩) rfl gX12_feed_1.2.2.2.2.1
  · refine lv_if_ne (tgt := 12) hx hb gX12_feed_0.2.2.2.2.1 (by decide) (fun c9 => absurd (by decide) c9) (fun _ => ?_)
    refine lv_iconst (v := (-1)) hx hb gX12_feed_0.2.2.2.2.2.1 (by decide) ?_
    refine toQ hQ0 ?_
    exact RI (v := (-1)) hC hP hD hS [0, 1] (ktp, fnt) rfl rfl (by decide) (⟨(by first | rfl | (simp only [ifc_t htp, ifc_f a8944]; done) | (simp only [ifc_t htp, ifc_f a8944]; exact (nI_add _ _).symm) | (dsimp only; simp only [ifc_t htp, ifc_f a8944]; done) | (dsimp only; simp only [ifc_t htp, ifc_f a8944]; exact (nI_add _ _).symm)), ⟨by omega, (by first | rfl | (simp only [ifc_t htp, ifc_f a8944]; done) | (simp only [ifc_t htp, ifc_f a8944]; exact (nI_add _ _).symm) | (dsimp only; simp only [ifc_t htp, ifc_f a8944]; done) | (dsimp only; simp only [ifc_t htp, ifc_f a8944]; exact (nI_add _ _).symm)), FDB.same⟩⟩) rfl gX12_feed_0.2.2.2.2.2.2.1
def K_m_isInT (l : Launch) (G : GG) (h0 : Nat) (ja : Nat) (lo : Int32) (hi : Int32) (nw : Nat) (nk : Nat) (mhasKept : Int32) (nt : Nat) (ktp : Nat) (nr : Nat) (mrowMany : Int32) (mroundOf : Int32) (mroundFrom : Int32) (mouts : Int32) (nm : Nat) (mfromHour : Int32) (mtoHour : Int32) (ns : Nat) (mfrom : Int32) (mto : Int32) (msort : Int32) (misFault : Int32) (mdeep : Int32) (mcoded : Int32) (mlines : Int32) (nl : Nat) (nc : Nat) (nF : Nat) (np : Nat) (ntr : Nat) (nb : Nat) (mbestCost : Int32) (nso : Nat) (nsi : Nat) (nit : Nat) (nsh : Nat) (nsf : Nat) (nss : Nat) (nrc : Nat) (mtraced : Int32) (mdealer : Int32) (mnumber : Int32) (mwhose : Int32) (msize : Int32) (misParted : Int32) (fnt : Nat → Int32) : Prop := MP l G yX12_isIn_ cX12_isIn_ 4 (some .boolean) 2 [.ref h0, .int (nI ja), .int lo, .int hi] [(h0, oX12 nw nk mhasKept nt (nI ktp) nr mrowMany mroundOf mroundFrom mouts nm mfromHour mtoHour ns mfrom mto msort misFault mdeep mcoded mlines nl nc nF np ntr nb mbestCost nso nsi nit nsh nsf nss nrc mtraced mdealer mnumber mwhose msize misParted), (nt, iA G 240 fnt)] (fun r : Int32 => (r = 1 ∧ ja < ktp ∧ Wi (fnt ja) lo hi) ∨ r = 0)
set_option maxHeartbeats 4000000 in
set_option maxRecDepth 100000 in
theorem m_isInT (l : Launch) (G : GG) (h0 : Nat) (ja : Nat) (lo : Int32) (hi : Int32) (nw : Nat) (nk : Nat) (mhasKept : Int32) (nt : Nat) (ktp : Nat) (nr : Nat) (mrowMany : Int32) (mroundOf : Int32) (mroundFrom : Int32) (mouts : Int32) (nm : Nat) (mfromHour : Int32) (mtoHour : Int32) (ns : Nat) (mfrom : Int32) (mto : Int32) (msort : Int32) (misFault : Int32) (mdeep : Int32) (mcoded : Int32) (mlines : Int32) (nl : Nat) (nc : Nat) (nF : Nat) (np : Nat) (ntr : Nat) (nb : Nat) (mbestCost : Int32) (nso : Nat) (nsi : Nat) (nit : Nat) (nsh : Nat) (nsf : Nat) (nss : Nat) (nrc : Nat) (mtraced : Int32) (mdealer : Int32) (mnumber : Int32) (mwhose : Int32) (msize : Int32) (misParted : Int32) (fnt : Nat → Int32) (hja : ja < 2 ^ 31) (htp : ktp ≤ 240) : K_m_isInT l G h0 ja lo hi nw nk mhasKept nt ktp nr mrowMany mroundOf mroundFrom mouts nm mfromHour mtoHour ns mfrom mto msort misFault mdeep mcoded mlines nl nc nF np ntr nb mbestCost nso nsi nit nsh nsf nss nrc mtraced mdealer mnumber mwhose msize misParted fnt := by
  refine MP.start (by decide +kernel) (Nat.le_of_ble_eq_true rfl) ?_
  intro p e s m below meth c ls hC hK hP hD hl
  refine absQ (fun Q0 hQ0 => ?_)
  have hl : lv_has ls 4 [(0, .ref h0), (1, .int (nI ja)), (2, .int lo), (3, .int hi)] := hl
  refine Kan8 hC (fun hx hb hr hml hB hown hlocks hnm => ?_)
  refine lv_iload_n hx hb gX12_isIn__0.1 rfl (lv_at1 hl) ?_
  refine lv_aload_n hx hb gX12_isIn__0.2.1 rfl (lv_at0 hl) ?_
  refine gf_X12_206 hC rfl hK hP 0 rfl rfl gX12_isIn__0.2.2.1 ?_
  refine lv_icmp_ge (tgt := 26) hx hb gX12_isIn__0.2.2.2.1 (by decide) (fun c_5_8947 => ?_) (fun c_5_8947 => ?_)
  · refine lv_iconst (v := 0) hx hb gX12_isIn__1.2.2.2.2.1 (by decide) ?_
    refine toQ hQ0 ?_
    exact RP (v := 0) hC (Or.inr rfl) (by decide +kernel) gX12_isIn__1.2.2.2.2.2
  · have hja9 := nge_nat (R := ktp) (k := ja) (by omega) (by omega) c_5_8947
    refine lv_aload_n hx hb gX12_isIn__0.2.2.2.2.1 rfl (lv_at0 hl) ?_
    refine gf_X12_16 hC rfl hK hP 0 rfl rfl gX12_isIn__0.2.2.2.2.2.1 ?_
    refine lv_iload_n hx hb gX12_isIn__0.2.2.2.2.2.2.1 rfl (lv_at1 hl) ?_
    refine aldN hC hK hP 1 rfl (k := ja) (by omega) (Nat.le_of_ble_eq_true rfl) (v := fnt ja) rfl gX12_isIn__0.2.2.2.2.2.2.2.1 ?_
    refine lv_topi (fun x8948 ex8948 => ?_)
    refine lv_iload_n hx hb gX12_isIn__0.2.2.2.2.2.2.2.2.1 rfl (lv_at2 hl) ?_
    refine lv_iload_n hx hb gX12_isIn__0.2.2.2.2.2.2.2.2.2 rfl (lv_at3 hl) ?_
    refine pS hC hK hl (m_within l G x8948 lo hi) si_X12_84 rfl rfl (Nat.le_of_ble_eq_true rfl) rm_2_1_3 ⟨by first | exact Nat.le_of_ble_eq_true rfl | exact Nat.zero_le _, by first | exact Nat.le_of_ble_eq_true rfl | exact Nat.zero_le _⟩ gX12_isIn__1.1 (Kors (Keqa fun a8950 => ?_) (Keqa fun a8950 => ?_))
    · refine lv_if_eq (tgt := 26) hx hb gX12_isIn__1.2.1 (by decide) (fun c9 => absurd c9 (by decide)) (fun _ => ?_)
      refine lv_iconst (v := 1) hx hb gX12_isIn__1.2.2.1 (by decide) ?_
      refine lv_goto (tgt := 27) hx hb gX12_isIn__1.2.2.2.1 (by decide) ?_
      refine toQ hQ0 ?_
      exact RP (v := 1) hC (Or.inl ⟨rfl, hja9, by rw [← ex8948]; exact a8950⟩) (by decide +kernel) gX12_isIn__1.2.2.2.2.2
    · refine lv_if_eq (tgt := 26) hx hb gX12_isIn__1.2.1 (by decide) (fun _ => ?_) (fun c9 => absurd (by decide) c9)
      refine lv_iconst (v := 0) hx hb gX12_isIn__1.2.2.2.2.1 (by decide) ?_
      refine toQ hQ0 ?_
      exact RP (v := 0) hC (Or.inr rfl) (by decide +kernel) gX12_isIn__1.2.2.2.2.2
def K_m_next (l : Launch) (G : GG) (h0 : Nat) (nw : Nat) (nk : Nat) (mhasKept : Int32) (nt : Nat) (ktp : Nat) (nr : Nat) (mrowMany : Int32) (mroundOf : Int32) (mroundFrom : Int32) (mouts : Int32) (nm : Nat) (mfromHour : Int32) (mtoHour : Int32) (ns : Nat) (mfrom : Int32) (kt : Nat) (msort : Int32) (misFault : Int32) (mdeep : Int32) (mcoded : Int32) (mlines : Int32) (nl : Nat) (nc : Nat) (nF : Nat) (np : Nat) (ntr : Nat) (nb : Nat) (mbestCost : Int32) (nso : Nat) (nsi : Nat) (nit : Nat) (nsh : Nat) (nsf : Nat) (nss : Nat) (nrc : Nat) (mtraced : Int32) (mdealer : Int32) (mnumber : Int32) (mwhose : Int32) (msize : Int32) (misParted : Int32) (fnt : Nat → Int32) : Prop := MV l G yX12_next cX12_next 1 3 0 0 [.ref h0] [(h0, oX12 nw nk mhasKept nt (nI ktp) nr mrowMany mroundOf mroundFrom mouts nm mfromHour mtoHour ns mfrom (nI kt) msort misFault mdeep mcoded mlines nl nc nF np ntr nb mbestCost nso nsi nit nsh nsf nss nrc mtraced mdealer mnumber mwhose msize misParted), (nt, iA G 240 fnt)] (fun u : Nat × Nat × Int32 => kt ≤ u.1 ∧ TOK fnt u.2.2 u.1 u.2.1 ktp) (fun u : Nat × Nat × Int32 => [(h0, oX12 nw nk mhasKept nt (nI ktp) nr mrowMany mroundOf mroundFrom mouts nm mfromHour mtoHour ns (nI u.1) (nI u.2.1) u.2.2 misFault mdeep mcoded mlines nl nc nF np ntr nb mbestCost nso nsi nit nsh nsf nss nrc mtraced mdealer mnumber mwhose msize misParted), (nt, iA G 240 fnt)])
set_option maxHeartbeats 4000000 in
set_option maxRecDepth 100000 in
theorem m_next (l : Launch) (G : GG) (h0 : Nat) (nw : Nat) (nk : Nat) (mhasKept : Int32) (nt : Nat) (ktp : Nat) (nr : Nat) (mrowMany : Int32) (mroundOf : Int32) (mroundFrom : Int32) (mouts : Int32) (nm : Nat) (mfromHour : Int32) (mtoHour : Int32) (ns : Nat) (mfrom : Int32) (kt : Nat) (msort : Int32) (misFault : Int32) (mdeep : Int32) (mcoded : Int32) (mlines : Int32) (nl : Nat) (nc : Nat) (nF : Nat) (np : Nat) (ntr : Nat) (nb : Nat) (mbestCost : Int32) (nso : Nat) (nsi : Nat) (nit : Nat) (nsh : Nat) (nsf : Nat) (nss : Nat) (nrc : Nat) (mtraced : Int32) (mdealer : Int32) (mnumber : Int32) (mwhose : Int32) (msize : Int32) (misParted : Int32) (fnt : Nat → Int32) (hkt : kt ≤ ktp) (htp : ktp ≤ 240) : K_m_next l G h0 nw nk mhasKept nt ktp nr mrowMany mroundOf mroundFrom mouts nm mfromHour mtoHour ns mfrom kt msort misFault mdeep mcoded mlines nl nc nF np ntr nb mbestCost nso nsi nit nsh nsf nss nrc mtraced mdealer mnumber mwhose msize misParted fnt := by
  refine MV.start (by decide +kernel) (Nat.le_of_ble_eq_true rfl) ?_
  intro p e s m below meth c A ls hC hK hP hD hS hA hl
  refine absQ (fun Q0 hQ0 => ?_)
  have hl : lv_has ls 1 [(0, .ref h0)] := hl
  refine Kan8 hC (fun hx hb hr hml hB hown hlocks hnm => ?_)
  refine lv_aload_n hx hb gX12_next_0.1 rfl (lv_at0 hl) ?_
  refine lv_aload_n hx hb gX12_next_0.2.1 rfl (lv_at0 hl) ?_
  refine gf_X12_211 hC rfl hK hP 0 rfl rfl gX12_next_0.2.2.1 ?_
  refine pf_X12_214 hC rfl hK hP hD hS 0 (ws' := [(h0, oX12 nw nk mhasKept nt (nI ktp) nr mrowMany mroundOf mroundFrom mouts nm mfromHour mtoHour ns (nI kt) (nI kt) msort misFault mdeep mcoded mlines nl nc nF np ntr nb mbestCost nso nsi nit nsh nsf nss nrc mtraced mdealer mnumber mwhose msize misParted), (nt, iA G 240 fnt)]) rfl (Nat.le_of_ble_eq_true rfl) rfl rfl rfl gX12_next_0.2.2.2.1 (fun H locs hP hD hS => ?_)
  have keyA : ∀ (nA : Nat) (vf : Nat) (H : Heap) (locs : List Loc) (ls : Array Slot), (kt ≤ vf ∧ vf ≤ ktp ∧ ktp < vf + nA) → va_PD G A [(h0, oX12 nw nk mhasKept nt (nI ktp) nr mrowMany mroundOf mroundFrom mouts nm mfromHour mtoHour ns (nI vf) (nI kt) msort misFault mdeep mcoded mlines nl nc nF np ntr nb mbestCost nso nsi nit nsh nsf nss nrc mtraced mdealer mnumber mwhose msize misParted), (nt, iA G 240 fnt)] H → va_S A s.heap H locs → lv_has ls 1 [(0, .ref h0)] → W p l e (RM 3 0 0) s m ([.ref h0] : List Value).toArray below meth c H locs 0 0 Q0 (F0 m 8 ls []) := by
    intro nA
    induction nA with
    | zero =>
      intro vf H locs ls hiA hPD hS hl
      refine Kan2 hPD (fun hP hD => ?_)
      exact (show False by omega).elim
    | succ nA ihA =>
      intro vf H locs ls hiA hPD hS hl
      refine Kan2 hPD (fun hP hD => ?_)
      refine lv_aload_n hx hb gX12_next_0.2.2.2.2.1 rfl (lv_at0 hl) ?_
      refine gf_X12_214 hC rfl hK hP 0 rfl rfl gX12_next_0.2.2.2.2.2.1 ?_
      refine lv_aload_n hx hb gX12_next_0.2.2.2.2.2.2.1 rfl (lv_at0 hl) ?_
      refine gf_X12_206 hC rfl hK hP 0 rfl rfl gX12_next_0.2.2.2.2.2.2.2.1 ?_
      refine lv_icmp_ge (tgt := 46) hx hb gX12_next_0.2.2.2.2.2.2.2.2.1 (by decide) (fun c_16_8951 => ?_) (fun c_16_8951 => ?_)
      · refine lv_aload_n hx hb gX12_next_2.2.2.2.1 rfl (lv_at0 hl) ?_
        refine lv_aload_n hx hb gX12_next_2.2.2.2.2.1 rfl (lv_at0 hl) ?_
        refine gf_X12_214 hC rfl hK hP 0 rfl rfl gX12_next_2.2.2.2.2.2.1 ?_
        refine pf_X12_211 hC rfl hK hP hD hS 0 (ws' := [(h0, oX12 nw nk mhasKept nt (nI ktp) nr mrowMany mroundOf mroundFrom mouts nm mfromHour mtoHour ns (nI vf) (nI vf) msort misFault mdeep mcoded mlines nl nc nF np ntr nb mbestCost nso nsi nit nsh nsf nss nrc mtraced mdealer mnumber mwhose msize misParted), (nt, iA G 240 fnt)]) rfl (Nat.le_of_ble_eq_true rfl) rfl rfl rfl gX12_next_2.2.2.2.2.2.2.1 (fun H locs hP hD hS => ?_)
        refine lv_aload_n hx hb gX12_next_2.2.2.2.2.2.2.2.1 rfl (lv_at0 hl) ?_
        refine gf_X12_214 hC rfl hK hP 0 rfl rfl gX12_next_2.2.2.2.2.2.2.2.2.1 ?_
        refine lv_aload_n hx hb gX12_next_2.2.2.2.2.2.2.2.2.2 rfl (lv_at0 hl) ?_
        refine gf_X12_206 hC rfl hK hP 0 rfl rfl gX12_next_3.1 ?_
        refine lv_icmp_ne (tgt := 71) hx hb gX12_next_3.2.1 (by decide) (fun c_62_8952 => ?_) (fun c_62_8952 => ?_)
        · have hvf8 := nI_neq (a := vf) (b := ktp) (by omega) (by omega) c_62_8952
          refine lv_aload_n hx hb gX12_next_3.2.2.2.2.2.2.1 rfl (lv_at0 hl) ?_
          refine lv_aload_n hx hb gX12_next_3.2.2.2.2.2.2.2.1 rfl (lv_at0 hl) ?_
          refine lv_aload_n hx hb gX12_next_3.2.2.2.2.2.2.2.2.1 rfl (lv_at0 hl) ?_
          refine gf_X12_214 hC rfl hK hP 0 rfl rfl gX12_next_3.2.2.2.2.2.2.2.2.2 ?_
          refine lv_bipush (v := 97) hx hb gX12_next_4.1 (by decide) ?_
          refine lv_bipush (v := 122) hx hb gX12_next_4.2.1 (by decide) ?_
          refine pV hC hK hl hP hD (m_isInT l G h0 vf 97 122 nw nk mhasKept nt ktp nr mrowMany mroundOf mroundFrom mouts nm mfromHour mtoHour ns (nI vf) (nI vf) msort misFault mdeep mcoded mlines nl nc nF np ntr nb mbestCost nso nsi nit nsh nsf nss nrc mtraced mdealer mnumber mwhose msize misParted fnt (by omega) (htp)) si_X12_220 [0, 1] sm_0_1 fm_0_1 nd_0_1 rfl rfl rfl rfl rfl (Nat.le_of_ble_eq_true rfl) rm_3_2_4 ⟨by first | exact Nat.le_of_ble_eq_true rfl | exact Nat.zero_le _, by first | exact Nat.le_of_ble_eq_true rfl | exact Nat.zero_le _⟩ gX12_next_4.2.2.1 (Kors (Keqa fun a8954 => ?_) (Keqr ?_))
          · refine lv_if_eq (tgt := 91) hx hb gX12_next_4.2.2.2.1 (by decide) (fun c9 => absurd c9 (by decide)) (fun _ => ?_)
            refine lv_iconst (v := 1) hx hb gX12_next_4.2.2.2.2.1 (by decide) ?_
            refine lv_goto (tgt := 111) hx hb gX12_next_4.2.2.2.2.2.1 (by decide) ?_
            refine pf_X12_217 hC rfl hK hP hD hS 0 (ws' := [(h0, oX12 nw nk mhasKept nt (nI ktp) nr mrowMany mroundOf mroundFrom mouts nm mfromHour mtoHour ns (nI vf) (nI vf) 1 misFault mdeep mcoded mlines nl nc nF np ntr nb mbestCost nso nsi nit nsh nsf nss nrc mtraced mdealer mnumber mwhose msize misParted), (nt, iA G 240 fnt)]) rfl (Nat.le_of_ble_eq_true rfl) rfl rfl rfl gX12_next_5.2.2.2.2.2.2.1 (fun H locs hP hD hS => ?_)
            refine lv_aload_n hx hb gX12_next_5.2.2.2.2.2.2.2.1 rfl (lv_at0 hl) ?_
            refine lv_dup hx hb gX12_next_5.2.2.2.2.2.2.2.2.1 rfl ?_
            refine gf_X12_211 hC rfl hK hP 0 rfl rfl gX12_next_5.2.2.2.2.2.2.2.2.2 ?_
            refine lv_iconst (v := 1) hx hb gX12_next_6.1 (by decide) ?_
            refine lv_iadd hx hb gX12_next_6.2.1 ?_
            refine eqi (x1 := nI (vf + 1)) (nI_add vf 1) ?_
            refine pf_X12_211 hC rfl hK hP hD hS 0 (ws' := [(h0, oX12 nw nk mhasKept nt (nI ktp) nr mrowMany mroundOf mroundFrom mouts nm mfromHour mtoHour ns (nI vf) (nI (vf + 1)) 1 misFault mdeep mcoded mlines nl nc nF np ntr nb mbestCost nso nsi nit nsh nsf nss nrc mtraced mdealer mnumber mwhose msize misParted), (nt, iA G 240 fnt)]) rfl (Nat.le_of_ble_eq_true rfl) rfl rfl rfl gX12_next_6.2.2.1 (fun H locs hP hD hS => ?_)
            have keyB : ∀ (nB : Nat) (vt : Nat) (H : Heap) (locs : List Loc) (ls : Array Slot), (vf < vt ∧ vt ≤ ktp ∧ ktp < vt + nB) → va_PD G A [(h0, oX12 nw nk mhasKept nt (nI ktp) nr mrowMany mroundOf mroundFrom mouts nm mfromHour mtoHour ns (nI vf) (nI vt) 1 misFault mdeep mcoded mlines nl nc nF np ntr nb mbestCost nso nsi nit nsh nsf nss nrc mtraced mdealer mnumber mwhose msize misParted), (nt, iA G 240 fnt)] H → va_S A s.heap H locs → lv_has ls 1 [(0, .ref h0)] → W p l e (RM 3 0 0) s m ([.ref h0] : List Value).toArray below meth c H locs 0 0 Q0 (F0 m 124 ls []) := by
              intro nB
              induction nB with
              | zero =>
                intro vt H locs ls hiB hPD hS hl
                refine Kan2 hPD (fun hP hD => ?_)
                exact (show False by omega).elim
              | succ nB ihB =>
                intro vt H locs ls hiB hPD hS hl
                refine Kan2 hPD (fun hP hD => ?_)
                refine lv_aload_n hx hb gX12_next_6.2.2.2.1 rfl (lv_at0 hl) ?_
                refine gf_X12_217 hC rfl hK hP 0 rfl rfl gX12_next_6.2.2.2.2.1 ?_
                refine lv_iconst (v := 1) hx hb gX12_next_6.2.2.2.2.2.1 (by decide) ?_
                refine lv_icmp_ne (tgt := 147) hx hb gX12_next_6.2.2.2.2.2.2.1 (by decide) (fun c9 => absurd (by decide) c9) (fun _ => ?_)
                refine lv_aload_n hx hb gX12_next_6.2.2.2.2.2.2.2.1 rfl (lv_at0 hl) ?_
                refine lv_aload_n hx hb gX12_next_6.2.2.2.2.2.2.2.2.1 rfl (lv_at0 hl) ?_
                refine gf_X12_211 hC rfl hK hP 0 rfl rfl gX12_next_6.2.2.2.2.2.2.2.2.2 ?_
                refine lv_bipush (v := 97) hx hb gX12_next_7.1 (by decide) ?_
                refine lv_bipush (v := 122) hx hb gX12_next_7.2.1 (by decide) ?_
                refine pV hC hK hl hP hD (m_isInT l G h0 vt 97 122 nw nk mhasKept nt ktp nr mrowMany mroundOf mroundFrom mouts nm mfromHour mtoHour ns (nI vf) (nI vt) 1 misFault mdeep mcoded mlines nl nc nF np ntr nb mbestCost nso nsi nit nsh nsf nss nrc mtraced mdealer mnumber mwhose msize misParted fnt (by omega) (htp)) si_X12_220 [0, 1] sm_0_1 fm_0_1 nd_0_1 rfl rfl rfl rfl rfl (Nat.le_of_ble_eq_true rfl) rm_3_2_4 ⟨by first | exact Nat.le_of_ble_eq_true rfl | exact Nat.zero_le _, by first | exact Nat.le_of_ble_eq_true rfl | exact Nat.zero_le _⟩ gX12_next_7.2.2.1 (Kors (Keqa fun a8956 => ?_) (Keqr ?_))
                · refine lv_if_ne (tgt := 170) hx hb gX12_next_7.2.2.2.1 (by decide) (fun _ => ?_) (fun c9 => absurd c9 (by decide))
                  refine lv_aload_n hx hb gX12_next_8.2.2.2.2.2.1 rfl (lv_at0 hl) ?_
                  refine lv_dup hx hb gX12_next_8.2.2.2.2.2.2.1 rfl ?_
                  refine gf_X12_211 hC rfl hK hP 0 rfl rfl gX12_next_8.2.2.2.2.2.2.2.1 ?_
                  refine lv_iconst (v := 1) hx hb gX12_next_8.2.2.2.2.2.2.2.2.1 (by decide) ?_
                  refine lv_iadd hx hb gX12_next_8.2.2.2.2.2.2.2.2.2 ?_
                  refine eqi (x1 := nI (vt + 1)) (nI_add vt 1) ?_
                  refine pf_X12_211 hC rfl hK hP hD hS 0 (ws' := [(h0, oX12 nw nk mhasKept nt (nI ktp) nr mrowMany mroundOf mroundFrom mouts nm mfromHour mtoHour ns (nI vf) (nI (vt + 1)) 1 misFault mdeep mcoded mlines nl nc nF np ntr nb mbestCost nso nsi nit nsh nsf nss nrc mtraced mdealer mnumber mwhose msize misParted), (nt, iA G 240 fnt)]) rfl (Nat.le_of_ble_eq_true rfl) rfl rfl rfl gX12_next_9.1 (fun H locs hP hD hS => ?_)
                  refine lv_goto (tgt := 124) hx hb gX12_next_9.2.1 (by decide) ?_
                  exact ihB (vt + 1) _ _ _ (by omega) (And.intro hP hD) hS (lv_sub hl [0] rfl)
                · refine lv_if_ne (tgt := 170) hx hb gX12_next_7.2.2.2.1 (by decide) (fun c9 => absurd (by decide) c9) (fun _ => ?_)
                  refine lv_aload_n hx hb gX12_next_7.2.2.2.2.1 rfl (lv_at0 hl) ?_
                  refine gf_X12_217 hC rfl hK hP 0 rfl rfl gX12_next_7.2.2.2.2.2.1 ?_
                  refine lv_iconst (v := 2) hx hb gX12_next_7.2.2.2.2.2.2.1 (by decide) ?_
                  refine lv_icmp_ne (tgt := 183) hx hb gX12_next_7.2.2.2.2.2.2.2.1 (by decide) (fun _ => ?_) (fun c9 => absurd c9 (by decide))
                  refine toQ hQ0 ?_
                  exact RV hC hP hD hS [0, 1] (vf, vt, 1) rfl rfl (by decide) (⟨by (try dsimp only); omega, TOK.n1 (by (try dsimp only); omega) (by (try dsimp only); omega)⟩) gX12_next_9.2.2
            exact keyB (ktp + 1) (vf + 1) _ _ _ (by omega) (And.intro hP hD) hS (lv_sub hl [0] rfl)
          · refine lv_if_eq (tgt := 91) hx hb gX12_next_4.2.2.2.1 (by decide) (fun _ => ?_) (fun c9 => absurd (by decide) c9)
            refine lv_aload_n hx hb gX12_next_4.2.2.2.2.2.2.1 rfl (lv_at0 hl) ?_
            refine lv_aload_n hx hb gX12_next_4.2.2.2.2.2.2.2.1 rfl (lv_at0 hl) ?_
            refine gf_X12_214 hC rfl hK hP 0 rfl rfl gX12_next_4.2.2.2.2.2.2.2.2.1 ?_
            refine lv_bipush (v := 48) hx hb gX12_next_4.2.2.2.2.2.2.2.2.2 (by decide) ?_
            refine lv_bipush (v := 57) hx hb gX12_next_5.1 (by decide) ?_
            refine pV hC hK hl hP hD (m_isInT l G h0 vf 48 57 nw nk mhasKept nt ktp nr mrowMany mroundOf mroundFrom mouts nm mfromHour mtoHour ns (nI vf) (nI vf) msort misFault mdeep mcoded mlines nl nc nF np ntr nb mbestCost nso nsi nit nsh nsf nss nrc mtraced mdealer mnumber mwhose msize misParted fnt (by omega) (htp)) si_X12_220 [0, 1] sm_0_1 fm_0_1 nd_0_1 rfl rfl rfl rfl rfl (Nat.le_of_ble_eq_true rfl) rm_3_2_4 ⟨by first | exact Nat.le_of_ble_eq_true rfl | exact Nat.zero_le _, by first | exact Nat.le_of_ble_eq_true rfl | exact Nat.zero_le _⟩ gX12_next_5.2.1 (Kors (Keqa fun a8958 => ?_) (Keqr ?_))
            · refine lv_if_eq (tgt := 110) hx hb gX12_next_5.2.2.1 (by decide) (fun c9 => absurd c9 (by decide)) (fun _ => ?_)
              refine lv_iconst (v := 2) hx hb gX12_next_5.2.2.2.1 (by decide) ?_
              refine lv_goto (tgt := 111) hx hb gX12_next_5.2.2.2.2.1 (by decide) ?_
              refine pf_X12_217 hC rfl hK hP hD hS 0 (ws' := [(h0, oX12 nw nk mhasKept nt (nI ktp) nr mrowMany mroundOf mroundFrom mouts nm mfromHour mtoHour ns (nI vf) (nI vf) 2 misFault mdeep mcoded mlines nl nc nF np ntr nb mbestCost nso nsi nit nsh nsf nss nrc mtraced mdealer mnumber mwhose msize misParted), (nt, iA G 240 fnt)]) rfl (Nat.le_of_ble_eq_true rfl) rfl rfl rfl gX12_next_5.2.2.2.2.2.2.1 (fun H locs hP hD hS => ?_)
              refine lv_aload_n hx hb gX12_next_5.2.2.2.2.2.2.2.1 rfl (lv_at0 hl) ?_
              refine lv_dup hx hb gX12_next_5.2.2.2.2.2.2.2.2.1 rfl ?_
              refine gf_X12_211 hC rfl hK hP 0 rfl rfl gX12_next_5.2.2.2.2.2.2.2.2.2 ?_
              refine lv_iconst (v := 1) hx hb gX12_next_6.1 (by decide) ?_
              refine lv_iadd hx hb gX12_next_6.2.1 ?_
              refine eqi (x1 := nI (vf + 1)) (nI_add vf 1) ?_
              refine pf_X12_211 hC rfl hK hP hD hS 0 (ws' := [(h0, oX12 nw nk mhasKept nt (nI ktp) nr mrowMany mroundOf mroundFrom mouts nm mfromHour mtoHour ns (nI vf) (nI (vf + 1)) 2 misFault mdeep mcoded mlines nl nc nF np ntr nb mbestCost nso nsi nit nsh nsf nss nrc mtraced mdealer mnumber mwhose msize misParted), (nt, iA G 240 fnt)]) rfl (Nat.le_of_ble_eq_true rfl) rfl rfl rfl gX12_next_6.2.2.1 (fun H locs hP hD hS => ?_)
              have keyB : ∀ (nB : Nat) (vt : Nat) (H : Heap) (locs : List Loc) (ls : Array Slot), (vf < vt ∧ vt ≤ ktp ∧ ktp < vt + nB) → (DG fnt vf vt) → va_PD G A [(h0, oX12 nw nk mhasKept nt (nI ktp) nr mrowMany mroundOf mroundFrom mouts nm mfromHour mtoHour ns (nI vf) (nI vt) 2 misFault mdeep mcoded mlines nl nc nF np ntr nb mbestCost nso nsi nit nsh nsf nss nrc mtraced mdealer mnumber mwhose msize misParted), (nt, iA G 240 fnt)] H → va_S A s.heap H locs → lv_has ls 1 [(0, .ref h0)] → W p l e (RM 3 0 0) s m ([.ref h0] : List Value).toArray below meth c H locs 0 0 Q0 (F0 m 124 ls []) := by
                intro nB
                induction nB with
                | zero =>
                  intro vt H locs ls hiB hdB hPD hS hl
                  refine Kan2 hPD (fun hP hD => ?_)
                  exact (show False by omega).elim
                | succ nB ihB =>
                  intro vt H locs ls hiB hdB hPD hS hl
                  refine Kan2 hPD (fun hP hD => ?_)
                  refine lv_aload_n hx hb gX12_next_6.2.2.2.1 rfl (lv_at0 hl) ?_
                  refine gf_X12_217 hC rfl hK hP 0 rfl rfl gX12_next_6.2.2.2.2.1 ?_
                  refine lv_iconst (v := 1) hx hb gX12_next_6.2.2.2.2.2.1 (by decide) ?_
                  refine lv_icmp_ne (tgt := 147) hx hb gX12_next_6.2.2.2.2.2.2.1 (by decide) (fun _ => ?_) (fun c9 => absurd c9 (by decide))
                  refine lv_aload_n hx hb gX12_next_7.2.2.2.2.1 rfl (lv_at0 hl) ?_
                  refine gf_X12_217 hC rfl hK hP 0 rfl rfl gX12_next_7.2.2.2.2.2.1 ?_
                  refine lv_iconst (v := 2) hx hb gX12_next_7.2.2.2.2.2.2.1 (by decide) ?_
                  refine lv_icmp_ne (tgt := 183) hx hb gX12_next_7.2.2.2.2.2.2.2.1 (by decide) (fun c9 => absurd (by decide) c9) (fun _ => ?_)
                  refine lv_aload_n hx hb gX12_next_7.2.2.2.2.2.2.2.2.1 rfl (lv_at0 hl) ?_
                  refine lv_aload_n hx hb gX12_next_7.2.2.2.2.2.2.2.2.2 rfl (lv_at0 hl) ?_
                  refine gf_X12_211 hC rfl hK hP 0 rfl rfl gX12_next_8.1 ?_
                  refine lv_bipush (v := 48) hx hb gX12_next_8.2.1 (by decide) ?_
                  refine lv_bipush (v := 57) hx hb gX12_next_8.2.2.1 (by decide) ?_
                  refine pV hC hK hl hP hD (m_isInT l G h0 vt 48 57 nw nk mhasKept nt ktp nr mrowMany mroundOf mroundFrom mouts nm mfromHour mtoHour ns (nI vf) (nI vt) 2 misFault mdeep mcoded mlines nl nc nF np ntr nb mbestCost nso nsi nit nsh nsf nss nrc mtraced mdealer mnumber mwhose msize misParted fnt (by omega) (htp)) si_X12_220 [0, 1] sm_0_1 fm_0_1 nd_0_1 rfl rfl rfl rfl rfl (Nat.le_of_ble_eq_true rfl) rm_3_2_4 ⟨by first | exact Nat.le_of_ble_eq_true rfl | exact Nat.zero_le _, by first | exact Nat.le_of_ble_eq_true rfl | exact Nat.zero_le _⟩ gX12_next_8.2.2.2.1 (Kors (Keqa fun a8962 => ?_) (Keqr ?_))
                  · refine lv_if_eq (tgt := 183) hx hb gX12_next_8.2.2.2.2.1 (by decide) (fun c9 => absurd c9 (by decide)) (fun _ => ?_)
                    refine lv_aload_n hx hb gX12_next_8.2.2.2.2.2.1 rfl (lv_at0 hl) ?_
                    refine lv_dup hx hb gX12_next_8.2.2.2.2.2.2.1 rfl ?_
                    refine gf_X12_211 hC rfl hK hP 0 rfl rfl gX12_next_8.2.2.2.2.2.2.2.1 ?_
                    refine lv_iconst (v := 1) hx hb gX12_next_8.2.2.2.2.2.2.2.2.1 (by decide) ?_
                    refine lv_iadd hx hb gX12_next_8.2.2.2.2.2.2.2.2.2 ?_
                    refine eqi (x1 := nI (vt + 1)) (nI_add vt 1) ?_
                    refine pf_X12_211 hC rfl hK hP hD hS 0 (ws' := [(h0, oX12 nw nk mhasKept nt (nI ktp) nr mrowMany mroundOf mroundFrom mouts nm mfromHour mtoHour ns (nI vf) (nI (vt + 1)) 2 misFault mdeep mcoded mlines nl nc nF np ntr nb mbestCost nso nsi nit nsh nsf nss nrc mtraced mdealer mnumber mwhose msize misParted), (nt, iA G 240 fnt)]) rfl (Nat.le_of_ble_eq_true rfl) rfl rfl rfl gX12_next_9.1 (fun H locs hP hD hS => ?_)
                    refine lv_goto (tgt := 124) hx hb gX12_next_9.2.1 (by decide) ?_
                    exact ihB (vt + 1) _ _ _ (by omega) (hdB.next a8962.2) (And.intro hP hD) hS (lv_sub hl [0] rfl)
                  · refine lv_if_eq (tgt := 183) hx hb gX12_next_8.2.2.2.2.1 (by decide) (fun _ => ?_) (fun c9 => absurd (by decide) c9)
                    refine toQ hQ0 ?_
                    exact RV hC hP hD hS [0, 1] (vf, vt, 2) rfl rfl (by decide) (⟨by (try dsimp only); omega, TOK.n2 (by (try dsimp only); omega) (by (try dsimp only); omega) (by first | assumption)⟩) gX12_next_9.2.2
              exact keyB (ktp + 1) (vf + 1) _ _ _ (by omega) (DG.zero.next a8958.2) (And.intro hP hD) hS (lv_sub hl [0] rfl)
            · refine lv_if_eq (tgt := 110) hx hb gX12_next_5.2.2.1 (by decide) (fun _ => ?_) (fun c9 => absurd (by decide) c9)
              refine lv_iconst (v := 3) hx hb gX12_next_5.2.2.2.2.2.1 (by decide) ?_
              refine pf_X12_217 hC rfl hK hP hD hS 0 (ws' := [(h0, oX12 nw nk mhasKept nt (nI ktp) nr mrowMany mroundOf mroundFrom mouts nm mfromHour mtoHour ns (nI vf) (nI vf) 3 misFault mdeep mcoded mlines nl nc nF np ntr nb mbestCost nso nsi nit nsh nsf nss nrc mtraced mdealer mnumber mwhose msize misParted), (nt, iA G 240 fnt)]) rfl (Nat.le_of_ble_eq_true rfl) rfl rfl rfl gX12_next_5.2.2.2.2.2.2.1 (fun H locs hP hD hS => ?_)
              refine lv_aload_n hx hb gX12_next_5.2.2.2.2.2.2.2.1 rfl (lv_at0 hl) ?_
              refine lv_dup hx hb gX12_next_5.2.2.2.2.2.2.2.2.1 rfl ?_
              refine gf_X12_211 hC rfl hK hP 0 rfl rfl gX12_next_5.2.2.2.2.2.2.2.2.2 ?_
              refine lv_iconst (v := 1) hx hb gX12_next_6.1 (by decide) ?_
              refine lv_iadd hx hb gX12_next_6.2.1 ?_
              refine eqi (x1 := nI (vf + 1)) (nI_add vf 1) ?_
              refine pf_X12_211 hC rfl hK hP hD hS 0 (ws' := [(h0, oX12 nw nk mhasKept nt (nI ktp) nr mrowMany mroundOf mroundFrom mouts nm mfromHour mtoHour ns (nI vf) (nI (vf + 1)) 3 misFault mdeep mcoded mlines nl nc nF np ntr nb mbestCost nso nsi nit nsh nsf nss nrc mtraced mdealer mnumber mwhose msize misParted), (nt, iA G 240 fnt)]) rfl (Nat.le_of_ble_eq_true rfl) rfl rfl rfl gX12_next_6.2.2.1 (fun H locs hP hD hS => ?_)
              refine lv_aload_n hx hb gX12_next_6.2.2.2.1 rfl (lv_at0 hl) ?_
              refine gf_X12_217 hC rfl hK hP 0 rfl rfl gX12_next_6.2.2.2.2.1 ?_
              refine lv_iconst (v := 1) hx hb gX12_next_6.2.2.2.2.2.1 (by decide) ?_
              refine lv_icmp_ne (tgt := 147) hx hb gX12_next_6.2.2.2.2.2.2.1 (by decide) (fun _ => ?_) (fun c9 => absurd c9 (by decide))
              refine lv_aload_n hx hb gX12_next_7.2.2.2.2.1 rfl (lv_at0 hl) ?_
              refine gf_X12_217 hC rfl hK hP 0 rfl rfl gX12_next_7.2.2.2.2.2.1 ?_
              refine lv_iconst (v := 2) hx hb gX12_next_7.2.2.2.2.2.2.1 (by decide) ?_
              refine lv_icmp_ne (tgt := 183) hx hb gX12_next_7.2.2.2.2.2.2.2.1 (by decide) (fun _ => ?_) (fun c9 => absurd c9 (by decide))
              refine toQ hQ0 ?_
              exact RV hC hP hD hS [0, 1] (vf, (vf + 1), 3) rfl rfl (by decide) (⟨by (try dsimp only); omega, TOK.n3 (by (try dsimp only); omega) (by (try dsimp only); omega)⟩) gX12_next_9.2.2
        · refine lv_aload_n hx hb gX12_next_3.2.2.1 rfl (lv_at0 hl) ?_
          refine lv_iconst (v := 0) hx hb gX12_next_3.2.2.2.1 (by decide) ?_
          refine pf_X12_217 hC rfl hK hP hD hS 0 (ws' := [(h0, oX12 nw nk mhasKept nt (nI ktp) nr mrowMany mroundOf mroundFrom mouts nm mfromHour mtoHour ns (nI vf) (nI vf) 0 misFault mdeep mcoded mlines nl nc nF np ntr nb mbestCost nso nsi nit nsh nsf nss nrc mtraced mdealer mnumber mwhose msize misParted), (nt, iA G 240 fnt)]) rfl (Nat.le_of_ble_eq_true rfl) rfl rfl rfl gX12_next_3.2.2.2.2.1 (fun H locs hP hD hS => ?_)
          refine toQ hQ0 ?_
          exact RV hC hP hD hS [0, 1] (vf, vf, 0) rfl rfl (by decide) (⟨by (try dsimp only); omega, TOK.n0 (by (try dsimp only); omega)⟩) gX12_next_3.2.2.2.2.2.1
      · have hvf9 := nge_nat (R := ktp) (k := vf) (by omega) (by omega) c_16_8951
        refine lv_aload_n hx hb gX12_next_0.2.2.2.2.2.2.2.2.2 rfl (lv_at0 hl) ?_
        refine gf_X12_16 hC rfl hK hP 0 rfl rfl gX12_next_1.1 ?_
        refine lv_aload_n hx hb gX12_next_1.2.1 rfl (lv_at0 hl) ?_
        refine gf_X12_214 hC rfl hK hP 0 rfl rfl gX12_next_1.2.2.1 ?_
        refine aldN hC hK hP 1 rfl (k := vf) (by omega) (Nat.le_of_ble_eq_true rfl) (v := fnt vf) rfl gX12_next_1.2.2.2.1 ?_
        refine lv_topi (fun x8963 ex8963 => ?_)
        refine lv_bipush (v := 32) hx hb gX12_next_1.2.2.2.2.1 (by decide) ?_
        refine lv_icmp_ne (tgt := 46) hx hb gX12_next_1.2.2.2.2.2.1 (by decide) (fun c_30_8964 => ?_) (fun c_30_8964 => ?_)
        · refine lv_aload_n hx hb gX12_next_2.2.2.2.1 rfl (lv_at0 hl) ?_
          refine lv_aload_n hx hb gX12_next_2.2.2.2.2.1 rfl (lv_at0 hl) ?_
          refine gf_X12_214 hC rfl hK hP 0 rfl rfl gX12_next_2.2.2.2.2.2.1 ?_
          refine pf_X12_211 hC rfl hK hP hD hS 0 (ws' := [(h0, oX12 nw nk mhasKept nt (nI ktp) nr mrowMany mroundOf mroundFrom mouts nm mfromHour mtoHour ns (nI vf) (nI vf) msort misFault mdeep mcoded mlines nl nc nF np ntr nb mbestCost nso nsi nit nsh nsf nss nrc mtraced mdealer mnumber mwhose msize misParted), (nt, iA G 240 fnt)]) rfl (Nat.le_of_ble_eq_true rfl) rfl rfl rfl gX12_next_2.2.2.2.2.2.2.1 (fun H locs hP hD hS => ?_)
          refine lv_aload_n hx hb gX12_next_2.2.2.2.2.2.2.2.1 rfl (lv_at0 hl) ?_
          refine gf_X12_214 hC rfl hK hP 0 rfl rfl gX12_next_2.2.2.2.2.2.2.2.2.1 ?_
          refine lv_aload_n hx hb gX12_next_2.2.2.2.2.2.2.2.2.2 rfl (lv_at0 hl) ?_
          refine gf_X12_206 hC rfl hK hP 0 rfl rfl gX12_next_3.1 ?_
          refine lv_icmp_ne (tgt := 71) hx hb gX12_next_3.2.1 (by decide) (fun c_62_8965 => ?_) (fun c_62_8965 => ?_)
          · have hvf8 := nI_neq (a := vf) (b := ktp) (by omega) (by omega) c_62_8965
            refine lv_aload_n hx hb gX12_next_3.2.2.2.2.2.2.1 rfl (lv_at0 hl) ?_
            refine lv_aload_n hx hb gX12_next_3.2.2.2.2.2.2.2.1 rfl (lv_at0 hl) ?_
            refine lv_aload_n hx hb gX12_next_3.2.2.2.2.2.2.2.2.1 rfl (lv_at0 hl) ?_
            refine gf_X12_214 hC rfl hK hP 0 rfl rfl gX12_next_3.2.2.2.2.2.2.2.2.2 ?_
            refine lv_bipush (v := 97) hx hb gX12_next_4.1 (by decide) ?_
            refine lv_bipush (v := 122) hx hb gX12_next_4.2.1 (by decide) ?_
            refine pV hC hK hl hP hD (m_isInT l G h0 vf 97 122 nw nk mhasKept nt ktp nr mrowMany mroundOf mroundFrom mouts nm mfromHour mtoHour ns (nI vf) (nI vf) msort misFault mdeep mcoded mlines nl nc nF np ntr nb mbestCost nso nsi nit nsh nsf nss nrc mtraced mdealer mnumber mwhose msize misParted fnt (by omega) (htp)) si_X12_220 [0, 1] sm_0_1 fm_0_1 nd_0_1 rfl rfl rfl rfl rfl (Nat.le_of_ble_eq_true rfl) rm_3_2_4 ⟨by first | exact Nat.le_of_ble_eq_true rfl | exact Nat.zero_le _, by first | exact Nat.le_of_ble_eq_true rfl | exact Nat.zero_le _⟩ gX12_next_4.2.2.1 (Kors (Keqa fun a8967 => ?_) (Keqr ?_))
            · refine lv_if_eq (tgt := 91) hx hb gX12_next_4.2.2.2.1 (by decide) (fun c9 => absurd c9 (by decide)) (fun _ => ?_)
              refine lv_iconst (v := 1) hx hb gX12_next_4.2.2.2.2.1 (by decide) ?_
              refine lv_goto (tgt := 111) hx hb gX12_next_4.2.2.2.2.2.1 (by decide) ?_
              refine pf_X12_217 hC rfl hK hP hD hS 0 (ws' := [(h0, oX12 nw nk mhasKept nt (nI ktp) nr mrowMany mroundOf mroundFrom mouts nm mfromHour mtoHour ns (nI vf) (nI vf) 1 misFault mdeep mcoded mlines nl nc nF np ntr nb mbestCost nso nsi nit nsh nsf nss nrc mtraced mdealer mnumber mwhose msize misParted), (nt, iA G 240 fnt)]) rfl (Nat.le_of_ble_eq_true rfl) rfl rfl rfl gX12_next_5.2.2.2.2.2.2.1 (fun H locs hP hD hS => ?_)
              refine lv_aload_n hx hb gX12_next_5.2.2.2.2.2.2.2.1 rfl (lv_at0 hl) ?_
              refine lv_dup hx hb gX12_next_5.2.2.2.2.2.2.2.2.1 rfl ?_
              refine gf_X12_211 hC rfl hK hP 0 rfl rfl gX12_next_5.2.2.2.2.2.2.2.2.2 ?_
              refine lv_iconst (v := 1) hx hb gX12_next_6.1 (by decide) ?_
              refine lv_iadd hx hb gX12_next_6.2.1 ?_
              refine eqi (x1 := nI (vf + 1)) (nI_add vf 1) ?_
              refine pf_X12_211 hC rfl hK hP hD hS 0 (ws' := [(h0, oX12 nw nk mhasKept nt (nI ktp) nr mrowMany mroundOf mroundFrom mouts nm mfromHour mtoHour ns (nI vf) (nI (vf + 1)) 1 misFault mdeep mcoded mlines nl nc nF np ntr nb mbestCost nso nsi nit nsh nsf nss nrc mtraced mdealer mnumber mwhose msize misParted), (nt, iA G 240 fnt)]) rfl (Nat.le_of_ble_eq_true rfl) rfl rfl rfl gX12_next_6.2.2.1 (fun H locs hP hD hS => ?_)
              have keyB : ∀ (nB : Nat) (vt : Nat) (H : Heap) (locs : List Loc) (ls : Array Slot), (vf < vt ∧ vt ≤ ktp ∧ ktp < vt + nB) → va_PD G A [(h0, oX12 nw nk mhasKept nt (nI ktp) nr mrowMany mroundOf mroundFrom mouts nm mfromHour mtoHour ns (nI vf) (nI vt) 1 misFault mdeep mcoded mlines nl nc nF np ntr nb mbestCost nso nsi nit nsh nsf nss nrc mtraced mdealer mnumber mwhose msize misParted), (nt, iA G 240 fnt)] H → va_S A s.heap H locs → lv_has ls 1 [(0, .ref h0)] → W p l e (RM 3 0 0) s m ([.ref h0] : List Value).toArray below meth c H locs 0 0 Q0 (F0 m 124 ls []) := by
                intro nB
                induction nB with
                | zero =>
                  intro vt H locs ls hiB hPD hS hl
                  refine Kan2 hPD (fun hP hD => ?_)
                  exact (show False by omega).elim
                | succ nB ihB =>
                  intro vt H locs ls hiB hPD hS hl
                  refine Kan2 hPD (fun hP hD => ?_)
                  refine lv_aload_n hx hb gX12_next_6.2.2.2.1 rfl (lv_at0 hl) ?_
                  refine gf_X12_217 hC rfl hK hP 0 rfl rfl gX12_next_6.2.2.2.2.1 ?_
                  refine lv_iconst (v := 1) hx hb gX12_next_6.2.2.2.2.2.1 (by decide) ?_
                  refine lv_icmp_ne (tgt := 147) hx hb gX12_next_6.2.2.2.2.2.2.1 (by decide) (fun c9 => absurd (by decide) c9) (fun _ => ?_)
                  refine lv_aload_n hx hb gX12_next_6.2.2.2.2.2.2.2.1 rfl (lv_at0 hl) ?_
                  refine lv_aload_n hx hb gX12_next_6.2.2.2.2.2.2.2.2.1 rfl (lv_at0 hl) ?_
                  refine gf_X12_211 hC rfl hK hP 0 rfl rfl gX12_next_6.2.2.2.2.2.2.2.2.2 ?_
                  refine lv_bipush (v := 97) hx hb gX12_next_7.1 (by decide) ?_
                  refine lv_bipush (v := 122) hx hb gX12_next_7.2.1 (by decide) ?_
                  refine pV hC hK hl hP hD (m_isInT l G h0 vt 97 122 nw nk mhasKept nt ktp nr mrowMany mroundOf mroundFrom mouts nm mfromHour mtoHour ns (nI vf) (nI vt) 1 misFault mdeep mcoded mlines nl nc nF np ntr nb mbestCost nso nsi nit nsh nsf nss nrc mtraced mdealer mnumber mwhose msize misParted fnt (by omega) (htp)) si_X12_220 [0, 1] sm_0_1 fm_0_1 nd_0_1 rfl rfl rfl rfl rfl (Nat.le_of_ble_eq_true rfl) rm_3_2_4 ⟨by first | exact Nat.le_of_ble_eq_true rfl | exact Nat.zero_le _, by first | exact Nat.le_of_ble_eq_true rfl | exact Nat.zero_le _⟩ gX12_next_7.2.2.1 (Kors (Keqa fun a8969 => ?_) (Keqr ?_))
                  · refine lv_if_ne (tgt := 170) hx hb gX12_next_7.2.2.2.1 (by decide) (fun _ => ?_) (fun c9 => absurd c9 (by decide))
                    refine lv_aload_n hx hb gX12_next_8.2.2.2.2.2.1 rfl (lv_at0 hl) ?_
                    refine lv_dup hx hb gX12_next_8.2.2.2.2.2.2.1 rfl ?_
                    refine gf_X12_211 hC rfl hK hP 0 rfl rfl gX12_next_8.2.2.2.2.2.2.2.1 ?_
                    refine lv_iconst (v := 1) hx hb gX12_next_8.2.2.2.2.2.2.2.2.1 (by decide) ?_
                    refine lv_iadd hx hb gX12_next_8.2.2.2.2.2.2.2.2.2 ?_
                    refine eqi (x1 := nI (vt + 1)) (nI_add vt 1) ?_
                    refine pf_X12_211 hC rfl hK hP hD hS 0 (ws' := [(h0, oX12 nw nk mhasKept nt (nI ktp) nr mrowMany mroundOf mroundFrom mouts nm mfromHour mtoHour ns (nI vf) (nI (vt + 1)) 1 misFault mdeep mcoded mlines nl nc nF np ntr nb mbestCost nso nsi nit nsh nsf nss nrc mtraced mdealer mnumber mwhose msize misParted), (nt, iA G 240 fnt)]) rfl (Nat.le_of_ble_eq_true rfl) rfl rfl rfl gX12_next_9.1 (fun H locs hP hD hS => ?_)
                    refine lv_goto (tgt := 124) hx hb gX12_next_9.2.1 (by decide) ?_
                    exact ihB (vt + 1) _ _ _ (by omega) (And.intro hP hD) hS (lv_sub hl [0] rfl)
                  · refine lv_if_ne (tgt := 170) hx hb gX12_next_7.2.2.2.1 (by decide) (fun c9 => absurd (by decide) c9) (fun _ => ?_)
                    refine lv_aload_n hx hb gX12_next_7.2.2.2.2.1 rfl (lv_at0 hl) ?_
                    refine gf_X12_217 hC rfl hK hP 0 rfl rfl gX12_next_7.2.2.2.2.2.1 ?_
                    refine lv_iconst (v := 2) hx hb gX12_next_7.2.2.2.2.2.2.1 (by decide) ?_
                    refine lv_icmp_ne (tgt := 183) hx hb gX12_next_7.2.2.2.2.2.2.2.1 (by decide) (fun _ => ?_) (fun c9 => absurd c9 (by decide))
                    refine toQ hQ0 ?_
                    exact RV hC hP hD hS [0, 1] (vf, vt, 1) rfl rfl (by decide) (⟨by (try dsimp only); omega, TOK.n1 (by (try dsimp only); omega) (by (try dsimp only); omega)⟩) gX12_next_9.2.2
              exact keyB (ktp + 1) (vf + 1) _ _ _ (by omega) (And.intro hP hD) hS (lv_sub hl [0] rfl)
            · refine lv_if_eq (tgt := 91) hx hb gX12_next_4.2.2.2.1 (by decide) (fun _ => ?_) (fun c9 => absurd (by decide) c9)
              refine lv_aload_n hx hb gX12_next_4.2.2.2.2.2.2.1 rfl (lv_at0 hl) ?_
              refine lv_aload_n hx hb gX12_next_4.2.2.2.2.2.2.2.1 rfl (lv_at0 hl) ?_
              refine gf_X12_214 hC rfl hK hP 0 rfl rfl gX12_next_4.2.2.2.2.2.2.2.2.1 ?_
              refine lv_bipush (v := 48) hx hb gX12_next_4.2.2.2.2.2.2.2.2.2 (by decide) ?_
              refine lv_bipush (v := 57) hx hb gX12_next_5.1 (by decide) ?_
              refine pV hC hK hl hP hD (m_isInT l G h0 vf 48 57 nw nk mhasKept nt ktp nr mrowMany mroundOf mroundFrom mouts nm mfromHour mtoHour ns (nI vf) (nI vf) msort misFault mdeep mcoded mlines nl nc nF np ntr nb mbestCost nso nsi nit nsh nsf nss nrc mtraced mdealer mnumber mwhose msize misParted fnt (by omega) (htp)) si_X12_220 [0, 1] sm_0_1 fm_0_1 nd_0_1 rfl rfl rfl rfl rfl (Nat.le_of_ble_eq_true rfl) rm_3_2_4 ⟨by first | exact Nat.le_of_ble_eq_true rfl | exact Nat.zero_le _, by first | exact Nat.le_of_ble_eq_true rfl | exact Nat.zero_le _⟩ gX12_next_5.2.1 (Kors (Keqa fun a8971 => ?_) (Keqr ?_))
              · refine lv_if_eq (tgt := 110) hx hb gX12_next_5.2.2.1 (by decide) (fun c9 => absurd c9 (by decide)) (fun _ => ?_)
                refine lv_iconst (v := 2) hx hb gX12_next_5.2.2.2.1 (by decide) ?_
                refine lv_goto (tgt := 111) hx hb gX12_next_5.2.2.2.2.1 (by decide) ?_
                refine pf_X12_217 hC rfl hK hP hD hS 0 (ws' := [(h0, oX12 nw nk mhasKept nt (nI ktp) nr mrowMany mroundOf mroundFrom mouts nm mfromHour mtoHour ns (nI vf) (nI vf) 2 misFault mdeep mcoded mlines nl nc nF np ntr nb mbestCost nso nsi nit nsh nsf nss nrc mtraced mdealer mnumber mwhose msize misParted), (nt, iA G 240 fnt)]) rfl (Nat.le_of_ble_eq_true rfl) rfl rfl rfl gX12_next_5.2.2.2.2.2.2.1 (fun H locs hP hD hS => ?_)
                refine lv_aload_n hx hb gX12_next_5.2.2.2.2.2.2.2.1 rfl (lv_at0 hl) ?_
                refine lv_dup hx hb gX12_next_5.2.2.2.2.2.2.2.2.1 rfl ?_
                refine gf_X12_211 hC rfl hK hP 0 rfl rfl gX12_next_5.2.2.2.2.2.2.2.2.2 ?_
                refine lv_iconst (v := 1) hx hb gX12_next_6.1 (by decide) ?_
                refine lv_iadd hx hb gX12_next_6.2.1 ?_
                refine eqi (x1 := nI (vf + 1)) (nI_add vf 1) ?_
                refine pf_X12_211 hC rfl hK hP hD hS 0 (ws' := [(h0, oX12 nw nk mhasKept nt (nI ktp) nr mrowMany mroundOf mroundFrom mouts nm mfromHour mtoHour ns (nI vf) (nI (vf + 1)) 2 misFault mdeep mcoded mlines nl nc nF np ntr nb mbestCost nso nsi nit nsh nsf nss nrc mtraced mdealer mnumber mwhose msize misParted), (nt, iA G 240 fnt)]) rfl (Nat.le_of_ble_eq_true rfl) rfl rfl rfl gX12_next_6.2.2.1 (fun H locs hP hD hS => ?_)
                have keyB : ∀ (nB : Nat) (vt : Nat) (H : Heap) (locs : List Loc) (ls : Array Slot), (vf < vt ∧ vt ≤ ktp ∧ ktp < vt + nB) → (DG fnt vf vt) → va_PD G A [(h0, oX12 nw nk mhasKept nt (nI ktp) nr mrowMany mroundOf mroundFrom mouts nm mfromHour mtoHour ns (nI vf) (nI vt) 2 misFault mdeep mcoded mlines nl nc nF np ntr nb mbestCost nso nsi nit nsh nsf nss nrc mtraced mdealer mnumber mwhose msize misParted), (nt, iA G 240 fnt)] H → va_S A s.heap H locs → lv_has ls 1 [(0, .ref h0)] → W p l e (RM 3 0 0) s m ([.ref h0] : List Value).toArray below meth c H locs 0 0 Q0 (F0 m 124 ls []) := by
                  intro nB
                  induction nB with
                  | zero =>
                    intro vt H locs ls hiB hdB hPD hS hl
                    refine Kan2 hPD (fun hP hD => ?_)
                    exact (show False by omega).elim
                  | succ nB ihB =>
                    intro vt H locs ls hiB hdB hPD hS hl
                    refine Kan2 hPD (fun hP hD => ?_)
                    refine lv_aload_n hx hb gX12_next_6.2.2.2.1 rfl (lv_at0 hl) ?_
                    refine gf_X12_217 hC rfl hK hP 0 rfl rfl gX12_next_6.2.2.2.2.1 ?_
                    refine lv_iconst (v := 1) hx hb gX12_next_6.2.2.2.2.2.1 (by decide) ?_
                    refine lv_icmp_ne (tgt := 147) hx hb gX12_next_6.2.2.2.2.2.2.1 (by decide) (fun _ => ?_) (fun c9 => absurd c9 (by decide))
                    refine lv_aload_n hx hb gX12_next_7.2.2.2.2.1 rfl (lv_at0 hl) ?_
                    refine gf_X12_217 hC rfl hK hP 0 rfl rfl gX12_next_7.2.2.2.2.2.1 ?_
                    refine lv_iconst (v := 2) hx hb gX12_next_7.2.2.2.2.2.2.1 (by decide) ?_
                    refine lv_icmp_ne (tgt := 183) hx hb gX12_next_7.2.2.2.2.2.2.2.1 (by decide) (fun c9 => absurd (by decide) c9) (fun _ => ?_)
                    refine lv_aload_n hx hb gX12_next_7.2.2.2.2.2.2.2.2.1 rfl (lv_at0 hl) ?_
                    refine lv_aload_n hx hb gX12_next_7.2.2.2.2.2.2.2.2.2 rfl (lv_at0 hl) ?_
                    refine gf_X12_211 hC rfl hK hP 0 rfl rfl gX12_next_8.1 ?_
                    refine lv_bipush (v := 48) hx hb gX12_next_8.2.1 (by decide) ?_
                    refine lv_bipush (v := 57) hx hb gX12_next_8.2.2.1 (by decide) ?_
                    refine pV hC hK hl hP hD (m_isInT l G h0 vt 48 57 nw nk mhasKept nt ktp nr mrowMany mroundOf mroundFrom mouts nm mfromHour mtoHour ns (nI vf) (nI vt) 2 misFault mdeep mcoded mlines nl nc nF np ntr nb mbestCost nso nsi nit nsh nsf nss nrc mtraced mdealer mnumber mwhose msize misParted fnt (by omega) (htp)) si_X12_220 [0, 1] sm_0_1 fm_0_1 nd_0_1 rfl rfl rfl rfl rfl (Nat.le_of_ble_eq_true rfl) rm_3_2_4 ⟨by first | exact Nat.le_of_ble_eq_true rfl | exact Nat.zero_le _, by first | exact Nat.le_of_ble_eq_true rfl | exact Nat.zero_le _⟩ gX12_next_8.2.2.2.1 (Kors (Keqa fun a8975 => ?_) (Keqr ?_))
                    · refine lv_if_eq (tgt := 183) hx hb gX12_next_8.2.2.2.2.1 (by decide) (fun c9 => absurd c9 (by decide)) (fun _ => ?_)
                      refine lv_aload_n hx hb gX12_next_8.2.2.2.2.2.1 rfl (lv_at0 hl) ?_
                      refine lv_dup hx hb gX12_next_8.2.2.2.2.2.2.1 rfl ?_
                      refine gf_X12_211 hC rfl hK hP 0 rfl rfl gX12_next_8.2.2.2.2.2.2.2.1 ?_
                      refine lv_iconst (v := 1) hx hb gX12_next_8.2.2.2.2.2.2.2.2.1 (by decide) ?_
                      refine lv_iadd hx hb gX12_next_8.2.2.2.2.2.2.2.2.2 ?_
                      refine eqi (x1 := nI (vt + 1)) (nI_add vt 1) ?_
                      refine pf_X12_211 hC rfl hK hP hD hS 0 (ws' := [(h0, oX12 nw nk mhasKept nt (nI ktp) nr mrowMany mroundOf mroundFrom mouts nm mfromHour mtoHour ns (nI vf) (nI (vt + 1)) 2 misFault mdeep mcoded mlines nl nc nF np ntr nb mbestCost nso nsi nit nsh nsf nss nrc mtraced mdealer mnumber mwhose msize misParted), (nt, iA G 240 fnt)]) rfl (Nat.le_of_ble_eq_true rfl) rfl rfl rfl gX12_next_9.1 (fun H locs hP hD hS => ?_)
                      refine lv_goto (tgt := 124) hx hb gX12_next_9.2.1 (by decide) ?_
                      exact ihB (vt + 1) _ _ _ (by omega) (hdB.next a8975.2) (And.intro hP hD) hS (lv_sub hl [0] rfl)
                    · refine lv_if_eq (tgt := 183) hx hb gX12_next_8.2.2.2.2.1 (by decide) (fun _ => ?_) (fun c9 => absurd (by decide) c9)
                      refine toQ hQ0 ?_
                      exact RV hC hP hD hS [0, 1] (vf, vt, 2) rfl rfl (by decide) (⟨by (try dsimp only); omega, TOK.n2 (by (try dsimp only); omega) (by (try dsimp only); omega) (by first | assumption)⟩) gX12_next_9.2.2
                exact keyB (ktp + 1) (vf + 1) _ _ _ (by omega) (DG.zero.next a8971.2) (And.intro hP hD) hS (lv_sub hl [0] rfl)
              · refine lv_if_eq (tgt := 110) hx hb gX12_next_5.2.2.1 (by decide) (fun _ => ?_) (fun c9 => absurd (by decide) c9)
                refine lv_iconst (v := 3) hx hb gX12_next_5.2.2.2.2.2.1 (by decide) ?_
                refine pf_X12_217 hC rfl hK hP hD hS 0 (ws' := [(h0, oX12 nw nk mhasKept nt (nI ktp) nr mrowMany mroundOf mroundFrom mouts nm mfromHour mtoHour ns (nI vf) (nI vf) 3 misFault mdeep mcoded mlines nl nc nF np ntr nb mbestCost nso nsi nit nsh nsf nss nrc mtraced mdealer mnumber mwhose msize misParted), (nt, iA G 240 fnt)]) rfl (Nat.le_of_ble_eq_true rfl) rfl rfl rfl gX12_next_5.2.2.2.2.2.2.1 (fun H locs hP hD hS => ?_)
                refine lv_aload_n hx hb gX12_next_5.2.2.2.2.2.2.2.1 rfl (lv_at0 hl) ?_
                refine lv_dup hx hb gX12_next_5.2.2.2.2.2.2.2.2.1 rfl ?_
                refine gf_X12_211 hC rfl hK hP 0 rfl rfl gX12_next_5.2.2.2.2.2.2.2.2.2 ?_
                refine lv_iconst (v := 1) hx hb gX12_next_6.1 (by decide) ?_
                refine lv_iadd hx hb gX12_next_6.2.1 ?_
                refine eqi (x1 := nI (vf + 1)) (nI_add vf 1) ?_
                refine pf_X12_211 hC rfl hK hP hD hS 0 (ws' := [(h0, oX12 nw nk mhasKept nt (nI ktp) nr mrowMany mroundOf mroundFrom mouts nm mfromHour mtoHour ns (nI vf) (nI (vf + 1)) 3 misFault mdeep mcoded mlines nl nc nF np ntr nb mbestCost nso nsi nit nsh nsf nss nrc mtraced mdealer mnumber mwhose msize misParted), (nt, iA G 240 fnt)]) rfl (Nat.le_of_ble_eq_true rfl) rfl rfl rfl gX12_next_6.2.2.1 (fun H locs hP hD hS => ?_)
                refine lv_aload_n hx hb gX12_next_6.2.2.2.1 rfl (lv_at0 hl) ?_
                refine gf_X12_217 hC rfl hK hP 0 rfl rfl gX12_next_6.2.2.2.2.1 ?_
                refine lv_iconst (v := 1) hx hb gX12_next_6.2.2.2.2.2.1 (by decide) ?_
                refine lv_icmp_ne (tgt := 147) hx hb gX12_next_6.2.2.2.2.2.2.1 (by decide) (fun _ => ?_) (fun c9 => absurd c9 (by decide))
                refine lv_aload_n hx hb gX12_next_7.2.2.2.2.1 rfl (lv_at0 hl) ?_
                refine gf_X12_217 hC rfl hK hP 0 rfl rfl gX12_next_7.2.2.2.2.2.1 ?_
                refine lv_iconst (v := 2) hx hb gX12_next_7.2.2.2.2.2.2.1 (by decide) ?_
                refine lv_icmp_ne (tgt := 183) hx hb gX12_next_7.2.2.2.2.2.2.2.1 (by decide) (fun _ => ?_) (fun c9 => absurd c9 (by decide))
                refine toQ hQ0 ?_
                exact RV hC hP hD hS [0, 1] (vf, (vf + 1), 3) rfl rfl (by decide) (⟨by (try dsimp only); omega, TOK.n3 (by (try dsimp only); omega) (by (try dsimp only); omega)⟩) gX12_next_9.2.2
          · refine lv_aload_n hx hb gX12_next_3.2.2.1 rfl (lv_at0 hl) ?_
            refine lv_iconst (v := 0) hx hb gX12_next_3.2.2.2.1 (by decide) ?_
            refine pf_X12_217 hC rfl hK hP hD hS 0 (ws' := [(h0, oX12 nw nk mhasKept nt (nI ktp) nr mrowMany mroundOf mroundFrom mouts nm mfromHour mtoHour ns (nI vf) (nI vf) 0 misFault mdeep mcoded mlines nl nc nF np ntr nb mbestCost nso nsi nit nsh nsf nss nrc mtraced mdealer mnumber mwhose msize misParted), (nt, iA G 240 fnt)]) rfl (Nat.le_of_ble_eq_true rfl) rfl rfl rfl gX12_next_3.2.2.2.2.1 (fun H locs hP hD hS => ?_)
            refine toQ hQ0 ?_
            exact RV hC hP hD hS [0, 1] (vf, vf, 0) rfl rfl (by decide) (⟨by (try dsimp only); omega, TOK.n0 (by (try dsimp only); omega)⟩) gX12_next_3.2.2.2.2.2.1
        · refine lv_aload_n hx hb gX12_next_1.2.2.2.2.2.2.1 rfl (lv_at0 hl) ?_
          refine lv_dup hx hb gX12_next_1.2.2.2.2.2.2.2.1 rfl ?_
          refine gf_X12_214 hC rfl hK hP 0 rfl rfl gX12_next_1.2.2.2.2.2.2.2.2.1 ?_
          refine lv_iconst (v := 1) hx hb gX12_next_1.2.2.2.2.2.2.2.2.2 (by decide) ?_
          refine lv_iadd hx hb gX12_next_2.1 ?_
          refine eqi (x1 := nI (vf + 1)) (nI_add vf 1) ?_
          refine pf_X12_214 hC rfl hK hP hD hS 0 (ws' := [(h0, oX12 nw nk mhasKept nt (nI ktp) nr mrowMany mroundOf mroundFrom mouts nm mfromHour mtoHour ns (nI (vf + 1)) (nI kt) msort misFault mdeep mcoded mlines nl nc nF np ntr nb mbestCost nso nsi nit nsh nsf nss nrc mtraced mdealer mnumber mwhose msize misParted), (nt, iA G 240 fnt)]) rfl (Nat.le_of_ble_eq_true rfl) rfl rfl rfl gX12_next_2.2.1 (fun H locs hP hD hS => ?_)
          refine lv_goto (tgt := 8) hx hb gX12_next_2.2.2.1 (by decide) ?_
          exact ihA (vf + 1) _ _ _ (by omega) (And.intro hP hD) hS (lv_sub hl [0] rfl)
  exact keyA (ktp + 1) kt _ _ _ (by omega) (And.intro hP hD) hS (lv_sub hl [0] rfl)
def K_m_isInB (l : Launch) (G : GG) (h0 : Nat) (ja : Nat) (lo : Int32) (hi : Int32) (nw : Nat) (nk : Nat) (mhasKept : Int32) (nt : Nat) (ktp : Nat) (nr : Nat) (mrowMany : Int32) (mroundOf : Int32) (mroundFrom : Int32) (mouts : Int32) (nm : Nat) (mfromHour : Int32) (mtoHour : Int32) (ns : Nat) (mfrom : Int32) (mto : Int32) (msort : Int32) (misFault : Int32) (mdeep : Int32) (mcoded : Int32) (mlines : Int32) (nl : Nat) (nc : Nat) (nF : Nat) (np : Nat) (ntr : Nat) (nb : Nat) (mbestCost : Int32) (nso : Nat) (nsi : Nat) (nit : Nat) (nsh : Nat) (nsf : Nat) (nss : Nat) (nrc : Nat) (mtraced : Int32) (mdealer : Int32) (mnumber : Int32) (mwhose : Int32) (msize : Int32) (misParted : Int32) (fnt : Nat → Int32) (bt : Nat → Int32) : Prop := MP l G yX12_isIn_ cX12_isIn_ 4 (some .boolean) 2 [.ref h0, .int (nI ja), .int lo, .int hi] [(h0, oX12 nw nk mhasKept nt (nI ktp) nr mrowMany mroundOf mroundFrom mouts nm mfromHour mtoHour ns mfrom mto msort misFault mdeep mcoded mlines nl nc nF np ntr nb mbestCost nso nsi nit nsh nsf nss nrc mtraced mdealer mnumber mwhose msize misParted), (nt, iA G 240 fnt)] (fun r : Int32 => (r = 1 ∧ ja < ktp ∧ Wi (bt ja) lo hi) ∨ (r = 0 ∧ ¬ (ja < ktp ∧ Wi (bt ja) lo hi)))
set_option maxHeartbeats 4000000 in
set_option maxRecDepth 100000 in
theorem m_isInB (l : Launch) (G : GG) (h0 : Nat) (ja : Nat) (lo : Int32) (hi : Int32) (nw : Nat) (nk : Nat) (mhasKept : Int32) (nt : Nat) (ktp : Nat) (nr : Nat) (mrowMany : Int32) (mroundOf : Int32) (mroundFrom : Int32) (mouts : Int32) (nm : Nat) (mfromHour : Int32) (mtoHour : Int32) (ns : Nat) (mfrom : Int32) (mto : Int32) (msort : Int32) (misFault : Int32) (mdeep : Int32) (mcoded : Int32) (mlines : Int32) (nl : Nat) (nc : Nat) (nF : Nat) (np : Nat) (ntr : Nat) (nb : Nat) (mbestCost : Int32) (nso : Nat) (nsi : Nat) (nit : Nat) (nsh : Nat) (nsf : Nat) (nss : Nat) (nrc : Nat) (mtraced : Int32) (mdealer : Int32) (mnumber : Int32) (mwhose : Int32) (msize : Int32) (misParted : Int32) (fnt : Nat → Int32) (bt : Nat → Int32) (hja : ja < 2 ^ 31) (htp : ktp ≤ 240) (hFB : FBT fnt bt ktp) : K_m_isInB l G h0 ja lo hi nw nk mhasKept nt ktp nr mrowMany mroundOf mroundFrom mouts nm mfromHour mtoHour ns mfrom mto msort misFault mdeep mcoded mlines nl nc nF np ntr nb mbestCost nso nsi nit nsh nsf nss nrc mtraced mdealer mnumber mwhose msize misParted fnt bt := by
  refine MP.start (by decide +kernel) (Nat.le_of_ble_eq_true rfl) ?_
  intro p e s m below meth c ls hC hK hP hD hl
  refine absQ (fun Q0 hQ0 => ?_)
  have hl : lv_has ls 4 [(0, .ref h0), (1, .int (nI ja)), (2, .int lo), (3, .int hi)] := hl
  refine Kan8 hC (fun hx hb hr hml hB hown hlocks hnm => ?_)
  refine lv_iload_n hx hb gX12_isIn__0.1 rfl (lv_at1 hl) ?_
  refine lv_aload_n hx hb gX12_isIn__0.2.1 rfl (lv_at0 hl) ?_
  refine gf_X12_206 hC rfl hK hP 0 rfl rfl gX12_isIn__0.2.2.1 ?_
  refine lv_icmp_ge (tgt := 26) hx hb gX12_isIn__0.2.2.2.1 (by decide) (fun c_5_8976 => ?_) (fun c_5_8976 => ?_)
  · have nb8977 : ktp ≤ ja := (nI_leI (a := ktp) (b := ja) (by omega) (by omega)).mp c_5_8976
    refine lv_iconst (v := 0) hx hb gX12_isIn__1.2.2.2.2.1 (by decide) ?_
    refine toQ hQ0 ?_
    exact RP (v := 0) hC (Or.inr ⟨rfl, fun h9 => absurd h9.1 (by omega)⟩) (by decide +kernel) gX12_isIn__1.2.2.2.2.2
  · have nb8978 : ¬ ktp ≤ ja := fun h9 => c_5_8976 ((nI_leI (a := ktp) (b := ja) (by omega) (by omega)).mpr h9)
    refine lv_aload_n hx hb gX12_isIn__0.2.2.2.2.1 rfl (lv_at0 hl) ?_
    refine gf_X12_16 hC rfl hK hP 0 rfl rfl gX12_isIn__0.2.2.2.2.2.1 ?_
    refine lv_iload_n hx hb gX12_isIn__0.2.2.2.2.2.2.1 rfl (lv_at1 hl) ?_
    refine aldN hC hK hP 1 rfl (k := ja) (by omega) (Nat.le_of_ble_eq_true rfl) (v := fnt ja) rfl gX12_isIn__0.2.2.2.2.2.2.2.1 ?_
    refine eqi (x1 := bt ja) (hFB _ (by omega)) ?_
    refine lv_iload_n hx hb gX12_isIn__0.2.2.2.2.2.2.2.2.1 rfl (lv_at2 hl) ?_
    refine lv_iload_n hx hb gX12_isIn__0.2.2.2.2.2.2.2.2.2 rfl (lv_at3 hl) ?_
    refine pS hC hK hl (m_within l G (bt ja) lo hi) si_X12_84 rfl rfl (Nat.le_of_ble_eq_true rfl) rm_2_1_3 ⟨by first | exact Nat.le_of_ble_eq_true rfl | exact Nat.zero_le _, by first | exact Nat.le_of_ble_eq_true rfl | exact Nat.zero_le _⟩ gX12_isIn__1.1 (Kors (Keqa fun a8980 => ?_) (Keqa fun a8980 => ?_))
    · refine lv_if_eq (tgt := 26) hx hb gX12_isIn__1.2.1 (by decide) (fun c9 => absurd c9 (by decide)) (fun _ => ?_)
      refine lv_iconst (v := 1) hx hb gX12_isIn__1.2.2.1 (by decide) ?_
      refine lv_goto (tgt := 27) hx hb gX12_isIn__1.2.2.2.1 (by decide) ?_
      refine toQ hQ0 ?_
      exact RP (v := 1) hC (Or.inl ⟨rfl, by omega, a8980⟩) (by decide +kernel) gX12_isIn__1.2.2.2.2.2
    · refine lv_if_eq (tgt := 26) hx hb gX12_isIn__1.2.1 (by decide) (fun _ => ?_) (fun c9 => absurd (by decide) c9)
      refine lv_iconst (v := 0) hx hb gX12_isIn__1.2.2.2.2.1 (by decide) ?_
      refine toQ hQ0 ?_
      exact RP (v := 0) hC (Or.inr ⟨rfl, fun h9 => a8980 h9.2⟩) (by decide +kernel) gX12_isIn__1.2.2.2.2.2
def K_m_nextX (l : Launch) (G : GG) (h0 : Nat) (nw : Nat) (nk : Nat) (mhasKept : Int32) (nt : Nat) (ktp : Nat) (nr : Nat) (mrowMany : Int32) (mroundOf : Int32) (mroundFrom : Int32) (mouts : Int32) (nm : Nat) (mfromHour : Int32) (mtoHour : Int32) (ns : Nat) (mfrom : Int32) (kt : Nat) (msort : Int32) (misFault : Int32) (mdeep : Int32) (mcoded : Int32) (mlines : Int32) (nl : Nat) (nc : Nat) (nF : Nat) (np : Nat) (ntr : Nat) (nb : Nat) (mbestCost : Int32) (nso : Nat) (nsi : Nat) (nit : Nat) (nsh : Nat) (nsf : Nat) (nss : Nat) (nrc : Nat) (mtraced : Int32) (mdealer : Int32) (mnumber : Int32) (mwhose : Int32) (msize : Int32) (misParted : Int32) (fnt : Nat → Int32) (bt : Nat → Int32) : Prop := MV l G yX12_next cX12_next 1 3 0 0 [.ref h0] [(h0, oX12 nw nk mhasKept nt (nI ktp) nr mrowMany mroundOf mroundFrom mouts nm mfromHour mtoHour ns mfrom (nI kt) msort misFault mdeep mcoded mlines nl nc nF np ntr nb mbestCost nso nsi nit nsh nsf nss nrc mtraced mdealer mnumber mwhose msize misParted), (nt, iA G 240 fnt)] (fun u : Unit => True) (fun u : Unit => [(h0, oX12 nw nk mhasKept nt (nI ktp) nr mrowMany mroundOf mroundFrom mouts nm mfromHour mtoHour ns (nI (SK bt ktp kt)) (nI (TKE bt ktp (SK bt ktp kt))) (nI (TKN bt ktp (SK bt ktp kt))) misFault mdeep mcoded mlines nl nc nF np ntr nb mbestCost nso nsi nit nsh nsf nss nrc mtraced mdealer mnumber mwhose msize misParted), (nt, iA G 240 fnt)])
set_option maxHeartbeats 4000000 in
set_option maxRecDepth 100000 in
theorem m_nextX (l : Launch) (G : GG) (h0 : Nat) (nw : Nat) (nk : Nat) (mhasKept : Int32) (nt : Nat) (ktp : Nat) (nr : Nat) (mrowMany : Int32) (mroundOf : Int32) (mroundFrom : Int32) (mouts : Int32) (nm : Nat) (mfromHour : Int32) (mtoHour : Int32) (ns : Nat) (mfrom : Int32) (kt : Nat) (msort : Int32) (misFault : Int32) (mdeep : Int32) (mcoded : Int32) (mlines : Int32) (nl : Nat) (nc : Nat) (nF : Nat) (np : Nat) (ntr : Nat) (nb : Nat) (mbestCost : Int32) (nso : Nat) (nsi : Nat) (nit : Nat) (nsh : Nat) (nsf : Nat) (nss : Nat) (nrc : Nat) (mtraced : Int32) (mdealer : Int32) (mnumber : Int32) (mwhose : Int32) (msize : Int32) (misParted : Int32) (fnt : Nat → Int32) (bt : Nat → Int32) (hkt : kt ≤ ktp) (htp : ktp ≤ 240) (hFB : FBT fnt bt ktp) : K_m_nextX l G h0 nw nk mhasKept nt ktp nr mrowMany mroundOf mroundFrom mouts nm mfromHour mtoHour ns mfrom kt msort misFault mdeep mcoded mlines nl nc nF np ntr nb mbestCost nso nsi nit nsh nsf nss nrc mtraced mdealer mnumber mwhose msize misParted fnt bt := by
  refine MV.start (by decide +kernel) (Nat.le_of_ble_eq_true rfl) ?_
  intro p e s m below meth c A ls hC hK hP hD hS hA hl
  refine absQ (fun Q0 hQ0 => ?_)
  have hl : lv_has ls 1 [(0, .ref h0)] := hl
  refine Kan8 hC (fun hx hb hr hml hB hown hlocks hnm => ?_)
  refine lv_aload_n hx hb gX12_next_0.1 rfl (lv_at0 hl) ?_
  refine lv_aload_n hx hb gX12_next_0.2.1 rfl (lv_at0 hl) ?_
  refine gf_X12_211 hC rfl hK hP 0 rfl rfl gX12_next_0.2.2.1 ?_
  refine pf_X12_214 hC rfl hK hP hD hS 0 (ws' := [(h0, oX12 nw nk mhasKept nt (nI ktp) nr mrowMany mroundOf mroundFrom mouts nm mfromHour mtoHour ns (nI kt) (nI kt) msort misFault mdeep mcoded mlines nl nc nF np ntr nb mbestCost nso nsi nit nsh nsf nss nrc mtraced mdealer mnumber mwhose msize misParted), (nt, iA G 240 fnt)]) rfl (Nat.le_of_ble_eq_true rfl) rfl rfl rfl gX12_next_0.2.2.2.1 (fun H locs hP hD hS => ?_)
  have keyA : ∀ (nA : Nat) (vf : Nat) (H : Heap) (locs : List Loc) (ls : Array Slot), (kt ≤ vf ∧ vf ≤ ktp ∧ ktp < vf + nA) → (RUN bt BLN kt vf) → va_PD G A [(h0, oX12 nw nk mhasKept nt (nI ktp) nr mrowMany mroundOf mroundFrom mouts nm mfromHour mtoHour ns (nI vf) (nI kt) msort misFault mdeep mcoded mlines nl nc nF np ntr nb mbestCost nso nsi nit nsh nsf nss nrc mtraced mdealer mnumber mwhose msize misParted), (nt, iA G 240 fnt)] H → va_S A s.heap H locs → lv_has ls 1 [(0, .ref h0)] → W p l e (RM 3 0 0) s m ([.ref h0] : List Value).toArray below meth c H locs 0 0 Q0 (F0 m 8 ls []) := by
    intro nA
    induction nA with
    | zero =>
      intro vf H locs ls hiA hbA hPD hS hl
      refine Kan2 hPD (fun hP hD => ?_)
      exact (show False by omega).elim
    | succ nA ihA =>
      intro vf H locs ls hiA hbA hPD hS hl
      refine Kan2 hPD (fun hP hD => ?_)
      refine lv_aload_n hx hb gX12_next_0.2.2.2.2.1 rfl (lv_at0 hl) ?_
      refine gf_X12_214 hC rfl hK hP 0 rfl rfl gX12_next_0.2.2.2.2.2.1 ?_
      refine lv_aload_n hx hb gX12_next_0.2.2.2.2.2.2.1 rfl (lv_at0 hl) ?_
      refine gf_X12_206 hC rfl hK hP 0 rfl rfl gX12_next_0.2.2.2.2.2.2.2.1 ?_
      refine lv_icmp_ge (tgt := 46) hx hb gX12_next_0.2.2.2.2.2.2.2.2.1 (by decide) (fun c_16_8981 => ?_) (fun c_16_8981 => ?_)
      · have nb8982 : ktp ≤ vf := (nI_leI (a := ktp) (b := vf) (by omega) (by omega)).mp c_16_8981
        have hsk : SK bt ktp kt = vf := SK.of (by omega) (by omega) hbA (fun h9 => absurd h9 (by omega))
        refine lv_aload_n hx hb gX12_next_2.2.2.2.1 rfl (lv_at0 hl) ?_
        refine lv_aload_n hx hb gX12_next_2.2.2.2.2.1 rfl (lv_at0 hl) ?_
        refine gf_X12_214 hC rfl hK hP 0 rfl rfl gX12_next_2.2.2.2.2.2.1 ?_
        refine pf_X12_211 hC rfl hK hP hD hS 0 (ws' := [(h0, oX12 nw nk mhasKept nt (nI ktp) nr mrowMany mroundOf mroundFrom mouts nm mfromHour mtoHour ns (nI vf) (nI vf) msort misFault mdeep mcoded mlines nl nc nF np ntr nb mbestCost nso nsi nit nsh nsf nss nrc mtraced mdealer mnumber mwhose msize misParted), (nt, iA G 240 fnt)]) rfl (Nat.le_of_ble_eq_true rfl) rfl rfl rfl gX12_next_2.2.2.2.2.2.2.1 (fun H locs hP hD hS => ?_)
        refine lv_aload_n hx hb gX12_next_2.2.2.2.2.2.2.2.1 rfl (lv_at0 hl) ?_
        refine gf_X12_214 hC rfl hK hP 0 rfl rfl gX12_next_2.2.2.2.2.2.2.2.2.1 ?_
        refine lv_aload_n hx hb gX12_next_2.2.2.2.2.2.2.2.2.2 rfl (lv_at0 hl) ?_
        refine gf_X12_206 hC rfl hK hP 0 rfl rfl gX12_next_3.1 ?_
        refine lv_icmp_ne (tgt := 71) hx hb gX12_next_3.2.1 (by decide) (fun c9 => absurd (congrArg nI (by omega)) c9) (fun _ => ?_)
        refine lv_aload_n hx hb gX12_next_3.2.2.1 rfl (lv_at0 hl) ?_
        refine lv_iconst (v := 0) hx hb gX12_next_3.2.2.2.1 (by decide) ?_
        refine pf_X12_217 hC rfl hK hP hD hS 0 (ws' := [(h0, oX12 nw nk mhasKept nt (nI ktp) nr mrowMany mroundOf mroundFrom mouts nm mfromHour mtoHour ns (nI vf) (nI vf) 0 misFault mdeep mcoded mlines nl nc nF np ntr nb mbestCost nso nsi nit nsh nsf nss nrc mtraced mdealer mnumber mwhose msize misParted), (nt, iA G 240 fnt)]) rfl (Nat.le_of_ble_eq_true rfl) rfl rfl rfl gX12_next_3.2.2.2.2.1 (fun H locs hP hD hS => ?_)
        obtain ⟨e2, e3⟩ := (MNX.en (by omega) : TKN bt ktp vf = 0 ∧ TKE bt ktp vf = vf)
        have hP : va_P G.1 vwCl [(h0, oX12 nw nk mhasKept nt (nI ktp) nr mrowMany mroundOf mroundFrom mouts nm mfromHour mtoHour ns (nI (SK bt ktp kt)) (nI (TKE bt ktp (SK bt ktp kt))) (nI (TKN bt ktp (SK bt ktp kt))) misFault mdeep mcoded mlines nl nc nF np ntr nb mbestCost nso nsi nit nsh nsf nss nrc mtraced mdealer mnumber mwhose msize misParted), (nt, iA G 240 fnt)] H := by rw [hsk, e2, e3]; exact hP
        have hD : va_D A [(h0, oX12 nw nk mhasKept nt (nI ktp) nr mrowMany mroundOf mroundFrom mouts nm mfromHour mtoHour ns (nI (SK bt ktp kt)) (nI (TKE bt ktp (SK bt ktp kt))) (nI (TKN bt ktp (SK bt ktp kt))) misFault mdeep mcoded mlines nl nc nF np ntr nb mbestCost nso nsi nit nsh nsf nss nrc mtraced mdealer mnumber mwhose msize misParted), (nt, iA G 240 fnt)] := by rw [hsk, e2, e3]; exact hD
        refine toQ hQ0 ?_
        exact RV hC hP hD hS [0, 1] () rfl rfl (by decide) (trivial) gX12_next_3.2.2.2.2.2.1
      · have nb8983 : ¬ ktp ≤ vf := fun h9 => c_16_8981 ((nI_leI (a := ktp) (b := vf) (by omega) (by omega)).mpr h9)
        refine lv_aload_n hx hb gX12_next_0.2.2.2.2.2.2.2.2.2 rfl (lv_at0 hl) ?_
        refine gf_X12_16 hC rfl hK hP 0 rfl rfl gX12_next_1.1 ?_
        refine lv_aload_n hx hb gX12_next_1.2.1 rfl (lv_at0 hl) ?_
        refine gf_X12_214 hC rfl hK hP 0 rfl rfl gX12_next_1.2.2.1 ?_
        refine aldN hC hK hP 1 rfl (k := vf) (by omega) (Nat.le_of_ble_eq_true rfl) (v := fnt vf) rfl gX12_next_1.2.2.2.1 ?_
        refine eqi (x1 := bt vf) (hFB _ (by omega)) ?_
        refine lv_bipush (v := 32) hx hb gX12_next_1.2.2.2.2.1 (by decide) ?_
        refine lv_icmp_ne (tgt := 46) hx hb gX12_next_1.2.2.2.2.2.1 (by decide) (fun c_30_8984 => ?_) (fun c_30_8984 => ?_)
        · have hsk : SK bt ktp kt = vf := SK.of (by omega) (by omega) hbA (fun _ => c_30_8984)
          refine lv_aload_n hx hb gX12_next_2.2.2.2.1 rfl (lv_at0 hl) ?_
          refine lv_aload_n hx hb gX12_next_2.2.2.2.2.1 rfl (lv_at0 hl) ?_
          refine gf_X12_214 hC rfl hK hP 0 rfl rfl gX12_next_2.2.2.2.2.2.1 ?_
          refine pf_X12_211 hC rfl hK hP hD hS 0 (ws' := [(h0, oX12 nw nk mhasKept nt (nI ktp) nr mrowMany mroundOf mroundFrom mouts nm mfromHour mtoHour ns (nI vf) (nI vf) msort misFault mdeep mcoded mlines nl nc nF np ntr nb mbestCost nso nsi nit nsh nsf nss nrc mtraced mdealer mnumber mwhose msize misParted), (nt, iA G 240 fnt)]) rfl (Nat.le_of_ble_eq_true rfl) rfl rfl rfl gX12_next_2.2.2.2.2.2.2.1 (fun H locs hP hD hS => ?_)
          refine lv_aload_n hx hb gX12_next_2.2.2.2.2.2.2.2.1 rfl (lv_at0 hl) ?_
          refine gf_X12_214 hC rfl hK hP 0 rfl rfl gX12_next_2.2.2.2.2.2.2.2.2.1 ?_
          refine lv_aload_n hx hb gX12_next_2.2.2.2.2.2.2.2.2.2 rfl (lv_at0 hl) ?_
          refine gf_X12_206 hC rfl hK hP 0 rfl rfl gX12_next_3.1 ?_
          refine lv_icmp_ne (tgt := 71) hx hb gX12_next_3.2.1 (by decide) (fun _ => ?_) (fun c9 => absurd c9 (fun h9 => absurd ((nI_eq (a := vf) (b := ktp) (by omega) (by omega)).mp h9) (by omega)))
          refine lv_aload_n hx hb gX12_next_3.2.2.2.2.2.2.1 rfl (lv_at0 hl) ?_
          refine lv_aload_n hx hb gX12_next_3.2.2.2.2.2.2.2.1 rfl (lv_at0 hl) ?_
          refine lv_aload_n hx hb gX12_next_3.2.2.2.2.2.2.2.2.1 rfl (lv_at0 hl) ?_
          refine gf_X12_214 hC rfl hK hP 0 rfl rfl gX12_next_3.2.2.2.2.2.2.2.2.2 ?_
          refine lv_bipush (v := 97) hx hb gX12_next_4.1 (by decide) ?_
          refine lv_bipush (v := 122) hx hb gX12_next_4.2.1 (by decide) ?_
          refine pV hC hK hl hP hD (m_isInB l G h0 vf 97 122 nw nk mhasKept nt ktp nr mrowMany mroundOf mroundFrom mouts nm mfromHour mtoHour ns (nI vf) (nI vf) msort misFault mdeep mcoded mlines nl nc nF np ntr nb mbestCost nso nsi nit nsh nsf nss nrc mtraced mdealer mnumber mwhose msize misParted fnt bt (by omega) (htp) (hFB)) si_X12_220 [0, 1] sm_0_1 fm_0_1 nd_0_1 rfl rfl rfl rfl rfl (Nat.le_of_ble_eq_true rfl) rm_3_2_4 ⟨by first | exact Nat.le_of_ble_eq_true rfl | exact Nat.zero_le _, by first | exact Nat.le_of_ble_eq_true rfl | exact Nat.zero_le _⟩ gX12_next_4.2.2.1 (Kors (Keqa fun a8986 => ?_) (Keqa fun a8986 => ?_))
          · refine lv_if_eq (tgt := 91) hx hb gX12_next_4.2.2.2.1 (by decide) (fun c9 => absurd c9 (by decide)) (fun _ => ?_)
            refine lv_iconst (v := 1) hx hb gX12_next_4.2.2.2.2.1 (by decide) ?_
            refine lv_goto (tgt := 111) hx hb gX12_next_4.2.2.2.2.2.1 (by decide) ?_
            refine pf_X12_217 hC rfl hK hP hD hS 0 (ws' := [(h0, oX12 nw nk mhasKept nt (nI ktp) nr mrowMany mroundOf mroundFrom mouts nm mfromHour mtoHour ns (nI vf) (nI vf) 1 misFault mdeep mcoded mlines nl nc nF np ntr nb mbestCost nso nsi nit nsh nsf nss nrc mtraced mdealer mnumber mwhose msize misParted), (nt, iA G 240 fnt)]) rfl (Nat.le_of_ble_eq_true rfl) rfl rfl rfl gX12_next_5.2.2.2.2.2.2.1 (fun H locs hP hD hS => ?_)
            refine lv_aload_n hx hb gX12_next_5.2.2.2.2.2.2.2.1 rfl (lv_at0 hl) ?_
            refine lv_dup hx hb gX12_next_5.2.2.2.2.2.2.2.2.1 rfl ?_
            refine gf_X12_211 hC rfl hK hP 0 rfl rfl gX12_next_5.2.2.2.2.2.2.2.2.2 ?_
            refine lv_iconst (v := 1) hx hb gX12_next_6.1 (by decide) ?_
            refine lv_iadd hx hb gX12_next_6.2.1 ?_
            refine eqi (x1 := nI (vf + 1)) (nI_add vf 1) ?_
            refine pf_X12_211 hC rfl hK hP hD hS 0 (ws' := [(h0, oX12 nw nk mhasKept nt (nI ktp) nr mrowMany mroundOf mroundFrom mouts nm mfromHour mtoHour ns (nI vf) (nI (vf + 1)) 1 misFault mdeep mcoded mlines nl nc nF np ntr nb mbestCost nso nsi nit nsh nsf nss nrc mtraced mdealer mnumber mwhose msize misParted), (nt, iA G 240 fnt)]) rfl (Nat.le_of_ble_eq_true rfl) rfl rfl rfl gX12_next_6.2.2.1 (fun H locs hP hD hS => ?_)
            have keyB : ∀ (nB : Nat) (vt : Nat) (H : Heap) (locs : List Loc) (ls : Array Slot), (vf < vt ∧ vt ≤ ktp ∧ ktp < vt + nB) → (RUN bt LTR vf vt) → va_PD G A [(h0, oX12 nw nk mhasKept nt (nI ktp) nr mrowMany mroundOf mroundFrom mouts nm mfromHour mtoHour ns (nI vf) (nI vt) 1 misFault mdeep mcoded mlines nl nc nF np ntr nb mbestCost nso nsi nit nsh nsf nss nrc mtraced mdealer mnumber mwhose msize misParted), (nt, iA G 240 fnt)] H → va_S A s.heap H locs → lv_has ls 1 [(0, .ref h0)] → W p l e (RM 3 0 0) s m ([.ref h0] : List Value).toArray below meth c H locs 0 0 Q0 (F0 m 124 ls []) := by
              intro nB
              induction nB with
              | zero =>
                intro vt H locs ls hiB hbB hPD hS hl
                refine Kan2 hPD (fun hP hD => ?_)
                exact (show False by omega).elim
              | succ nB ihB =>
                intro vt H locs ls hiB hbB hPD hS hl
                refine Kan2 hPD (fun hP hD => ?_)
                refine lv_aload_n hx hb gX12_next_6.2.2.2.1 rfl (lv_at0 hl) ?_
                refine gf_X12_217 hC rfl hK hP 0 rfl rfl gX12_next_6.2.2.2.2.1 ?_
                refine lv_iconst (v := 1) hx hb gX12_next_6.2.2.2.2.2.1 (by decide) ?_
                refine lv_icmp_ne (tgt := 147) hx hb gX12_next_6.2.2.2.2.2.2.1 (by decide) (fun c9 => absurd (by decide) c9) (fun _ => ?_)
                refine lv_aload_n hx hb gX12_next_6.2.2.2.2.2.2.2.1 rfl (lv_at0 hl) ?_
                refine lv_aload_n hx hb gX12_next_6.2.2.2.2.2.2.2.2.1 rfl (lv_at0 hl) ?_
                refine gf_X12_211 hC rfl hK hP 0 rfl rfl gX12_next_6.2.2.2.2.2.2.2.2.2 ?_
                refine lv_bipush (v := 97) hx hb gX12_next_7.1 (by decide) ?_
                refine lv_bipush (v := 122) hx hb gX12_next_7.2.1 (by decide) ?_
                refine pV hC hK hl hP hD (m_isInB l G h0 vt 97 122 nw nk mhasKept nt ktp nr mrowMany mroundOf mroundFrom mouts nm mfromHour mtoHour ns (nI vf) (nI vt) 1 misFault mdeep mcoded mlines nl nc nF np ntr nb mbestCost nso nsi nit nsh nsf nss nrc mtraced mdealer mnumber mwhose msize misParted fnt bt (by omega) (htp) (hFB)) si_X12_220 [0, 1] sm_0_1 fm_0_1 nd_0_1 rfl rfl rfl rfl rfl (Nat.le_of_ble_eq_true rfl) rm_3_2_4 ⟨by first | exact Nat.le_of_ble_eq_true rfl | exact Nat.zero_le _, by first | exact Nat.le_of_ble_eq_true rfl | exact Nat.zero_le _⟩ gX12_next_7.2.2.1 (Kors (Keqa fun a8988 => ?_) (Keqa fun a8988 => ?_))
                · refine lv_if_ne (tgt := 170) hx hb gX12_next_7.2.2.2.1 (by decide) (fun _ => ?_) (fun c9 => absurd c9 (by decide))
                  refine lv_aload_n hx hb gX12_next_8.2.2.2.2.2.1 rfl (lv_at0 hl) ?_
                  refine lv_dup hx hb gX12_next_8.2.2.2.2.2.2.1 rfl ?_
                  refine gf_X12_211 hC rfl hK hP 0 rfl rfl gX12_next_8.2.2.2.2.2.2.2.1 ?_
                  refine lv_iconst (v := 1) hx hb gX12_next_8.2.2.2.2.2.2.2.2.1 (by decide) ?_
                  refine lv_iadd hx hb gX12_next_8.2.2.2.2.2.2.2.2.2 ?_
                  refine eqi (x1 := nI (vt + 1)) (nI_add vt 1) ?_
                  refine pf_X12_211 hC rfl hK hP hD hS 0 (ws' := [(h0, oX12 nw nk mhasKept nt (nI ktp) nr mrowMany mroundOf mroundFrom mouts nm mfromHour mtoHour ns (nI vf) (nI (vt + 1)) 1 misFault mdeep mcoded mlines nl nc nF np ntr nb mbestCost nso nsi nit nsh nsf nss nrc mtraced mdealer mnumber mwhose msize misParted), (nt, iA G 240 fnt)]) rfl (Nat.le_of_ble_eq_true rfl) rfl rfl rfl gX12_next_9.1 (fun H locs hP hD hS => ?_)
                  refine lv_goto (tgt := 124) hx hb gX12_next_9.2.1 (by decide) ?_
                  exact ihB (vt + 1) _ _ _ (by omega) (hbB.next a8988.2) (And.intro hP hD) hS (lv_sub hl [0] rfl)
                · refine lv_if_ne (tgt := 170) hx hb gX12_next_7.2.2.2.1 (by decide) (fun c9 => absurd (by decide) c9) (fun _ => ?_)
                  refine lv_aload_n hx hb gX12_next_7.2.2.2.2.1 rfl (lv_at0 hl) ?_
                  refine gf_X12_217 hC rfl hK hP 0 rfl rfl gX12_next_7.2.2.2.2.2.1 ?_
                  refine lv_iconst (v := 2) hx hb gX12_next_7.2.2.2.2.2.2.1 (by decide) ?_
                  refine lv_icmp_ne (tgt := 183) hx hb gX12_next_7.2.2.2.2.2.2.2.1 (by decide) (fun _ => ?_) (fun c9 => absurd c9 (by decide))
                  obtain ⟨e2, e3⟩ := (MNX.nm (by omega) a8986.2 (by omega) (by omega) hbB (fun h8 h9 => a8988 ⟨h8, h9⟩) : TKN bt ktp vf = 1 ∧ TKE bt ktp vf = vt)
                  have hP : va_P G.1 vwCl [(h0, oX12 nw nk mhasKept nt (nI ktp) nr mrowMany mroundOf mroundFrom mouts nm mfromHour mtoHour ns (nI (SK bt ktp kt)) (nI (TKE bt ktp (SK bt ktp kt))) (nI (TKN bt ktp (SK bt ktp kt))) misFault mdeep mcoded mlines nl nc nF np ntr nb mbestCost nso nsi nit nsh nsf nss nrc mtraced mdealer mnumber mwhose msize misParted), (nt, iA G 240 fnt)] H := by rw [hsk, e2, e3]; exact hP
                  have hD : va_D A [(h0, oX12 nw nk mhasKept nt (nI ktp) nr mrowMany mroundOf mroundFrom mouts nm mfromHour mtoHour ns (nI (SK bt ktp kt)) (nI (TKE bt ktp (SK bt ktp kt))) (nI (TKN bt ktp (SK bt ktp kt))) misFault mdeep mcoded mlines nl nc nF np ntr nb mbestCost nso nsi nit nsh nsf nss nrc mtraced mdealer mnumber mwhose msize misParted), (nt, iA G 240 fnt)] := by rw [hsk, e2, e3]; exact hD
                  refine toQ hQ0 ?_
                  exact RV hC hP hD hS [0, 1] () rfl rfl (by decide) (trivial) gX12_next_9.2.2
            exact keyB (ktp + 1) (vf + 1) _ _ _ (by omega) (RUN.zero.next a8986.2) (And.intro hP hD) hS (lv_sub hl [0] rfl)
          · refine lv_if_eq (tgt := 91) hx hb gX12_next_4.2.2.2.1 (by decide) (fun _ => ?_) (fun c9 => absurd (by decide) c9)
            refine lv_aload_n hx hb gX12_next_4.2.2.2.2.2.2.1 rfl (lv_at0 hl) ?_
            refine lv_aload_n hx hb gX12_next_4.2.2.2.2.2.2.2.1 rfl (lv_at0 hl) ?_
            refine gf_X12_214 hC rfl hK hP 0 rfl rfl gX12_next_4.2.2.2.2.2.2.2.2.1 ?_
            refine lv_bipush (v := 48) hx hb gX12_next_4.2.2.2.2.2.2.2.2.2 (by decide) ?_
            refine lv_bipush (v := 57) hx hb gX12_next_5.1 (by decide) ?_
            refine pV hC hK hl hP hD (m_isInB l G h0 vf 48 57 nw nk mhasKept nt ktp nr mrowMany mroundOf mroundFrom mouts nm mfromHour mtoHour ns (nI vf) (nI vf) msort misFault mdeep mcoded mlines nl nc nF np ntr nb mbestCost nso nsi nit nsh nsf nss nrc mtraced mdealer mnumber mwhose msize misParted fnt bt (by omega) (htp) (hFB)) si_X12_220 [0, 1] sm_0_1 fm_0_1 nd_0_1 rfl rfl rfl rfl rfl (Nat.le_of_ble_eq_true rfl) rm_3_2_4 ⟨by first | exact Nat.le_of_ble_eq_true rfl | exact Nat.zero_le _, by first | exact Nat.le_of_ble_eq_true rfl | exact Nat.zero_le _⟩ gX12_next_5.2.1 (Kors (Keqa fun a8990 => ?_) (Keqa fun a8990 => ?_))
            · refine lv_if_eq (tgt := 110) hx hb gX12_next_5.2.2.1 (by decide) (fun c9 => absurd c9 (by decide)) (fun _ => ?_)
              refine lv_iconst (v := 2) hx hb gX12_next_5.2.2.2.1 (by decide) ?_
              refine lv_goto (tgt := 111) hx hb gX12_next_5.2.2.2.2.1 (by decide) ?_
              refine pf_X12_217 hC rfl hK hP hD hS 0 (ws' := [(h0, oX12 nw nk mhasKept nt (nI ktp) nr mrowMany mroundOf mroundFrom mouts nm mfromHour mtoHour ns (nI vf) (nI vf) 2 misFault mdeep mcoded mlines nl nc nF np ntr nb mbestCost nso nsi nit nsh nsf nss nrc mtraced mdealer mnumber mwhose msize misParted), (nt, iA G 240 fnt)]) rfl (Nat.le_of_ble_eq_true rfl) rfl rfl rfl gX12_next_5.2.2.2.2.2.2.1 (fun H locs hP hD hS => ?_)
              refine lv_aload_n hx hb gX12_next_5.2.2.2.2.2.2.2.1 rfl (lv_at0 hl) ?_
              refine lv_dup hx hb gX12_next_5.2.2.2.2.2.2.2.2.1 rfl ?_
              refine gf_X12_211 hC rfl hK hP 0 rfl rfl gX12_next_5.2.2.2.2.2.2.2.2.2 ?_
              refine lv_iconst (v := 1) hx hb gX12_next_6.1 (by decide) ?_
              refine lv_iadd hx hb gX12_next_6.2.1 ?_
              refine eqi (x1 := nI (vf + 1)) (nI_add vf 1) ?_
              refine pf_X12_211 hC rfl hK hP hD hS 0 (ws' := [(h0, oX12 nw nk mhasKept nt (nI ktp) nr mrowMany mroundOf mroundFrom mouts nm mfromHour mtoHour ns (nI vf) (nI (vf + 1)) 2 misFault mdeep mcoded mlines nl nc nF np ntr nb mbestCost nso nsi nit nsh nsf nss nrc mtraced mdealer mnumber mwhose msize misParted), (nt, iA G 240 fnt)]) rfl (Nat.le_of_ble_eq_true rfl) rfl rfl rfl gX12_next_6.2.2.1 (fun H locs hP hD hS => ?_)
              have keyB : ∀ (nB : Nat) (vt : Nat) (H : Heap) (locs : List Loc) (ls : Array Slot), (vf < vt ∧ vt ≤ ktp ∧ ktp < vt + nB) → (RUN bt DGT vf vt) → va_PD G A [(h0, oX12 nw nk mhasKept nt (nI ktp) nr mrowMany mroundOf mroundFrom mouts nm mfromHour mtoHour ns (nI vf) (nI vt) 2 misFault mdeep mcoded mlines nl nc nF np ntr nb mbestCost nso nsi nit nsh nsf nss nrc mtraced mdealer mnumber mwhose msize misParted), (nt, iA G 240 fnt)] H → va_S A s.heap H locs → lv_has ls 1 [(0, .ref h0)] → W p l e (RM 3 0 0) s m ([.ref h0] : List Value).toArray below meth c H locs 0 0 Q0 (F0 m 124 ls []) := by
                intro nB
                induction nB with
                | zero =>
                  intro vt H locs ls hiB hbB hPD hS hl
                  refine Kan2 hPD (fun hP hD => ?_)
                  exact (show False by omega).elim
                | succ nB ihB =>
                  intro vt H locs ls hiB hbB hPD hS hl
                  refine Kan2 hPD (fun hP hD => ?_)
                  refine lv_aload_n hx hb gX12_next_6.2.2.2.1 rfl (lv_at0 hl) ?_
                  refine gf_X12_217 hC rfl hK hP 0 rfl rfl gX12_next_6.2.2.2.2.1 ?_
                  refine lv_iconst (v := 1) hx hb gX12_next_6.2.2.2.2.2.1 (by decide) ?_
                  refine lv_icmp_ne (tgt := 147) hx hb gX12_next_6.2.2.2.2.2.2.1 (by decide) (fun _ => ?_) (fun c9 => absurd c9 (by decide))
                  refine lv_aload_n hx hb gX12_next_7.2.2.2.2.1 rfl (lv_at0 hl) ?_
                  refine gf_X12_217 hC rfl hK hP 0 rfl rfl gX12_next_7.2.2.2.2.2.1 ?_
                  refine lv_iconst (v := 2) hx hb gX12_next_7.2.2.2.2.2.2.1 (by decide) ?_
                  refine lv_icmp_ne (tgt := 183) hx hb gX12_next_7.2.2.2.2.2.2.2.1 (by decide) (fun c9 => absurd (by decide) c9) (fun _ => ?_)
                  refine lv_aload_n hx hb gX12_next_7.2.2.2.2.2.2.2.2.1 rfl (lv_at0 hl) ?_
                  refine lv_aload_n hx hb gX12_next_7.2.2.2.2.2.2.2.2.2 rfl (lv_at0 hl) ?_
                  refine gf_X12_211 hC rfl hK hP 0 rfl rfl gX12_next_8.1 ?_
                  refine lv_bipush (v := 48) hx hb gX12_next_8.2.1 (by decide) ?_
                  refine lv_bipush (v := 57) hx hb gX12_next_8.2.2.1 (by decide) ?_
                  refine pV hC hK hl hP hD (m_isInB l G h0 vt 48 57 nw nk mhasKept nt ktp nr mrowMany mroundOf mroundFrom mouts nm mfromHour mtoHour ns (nI vf) (nI vt) 2 misFault mdeep mcoded mlines nl nc nF np ntr nb mbestCost nso nsi nit nsh nsf nss nrc mtraced mdealer mnumber mwhose msize misParted fnt bt (by omega) (htp) (hFB)) si_X12_220 [0, 1] sm_0_1 fm_0_1 nd_0_1 rfl rfl rfl rfl rfl (Nat.le_of_ble_eq_true rfl) rm_3_2_4 ⟨by first | exact Nat.le_of_ble_eq_true rfl | exact Nat.zero_le _, by first | exact Nat.le_of_ble_eq_true rfl | exact Nat.zero_le _⟩ gX12_next_8.2.2.2.1 (Kors (Keqa fun a8992 => ?_) (Keqa fun a8992 => ?_))
                  · refine lv_if_eq (tgt := 183) hx hb gX12_next_8.2.2.2.2.1 (by decide) (fun c9 => absurd c9 (by decide)) (fun _ => ?_)
                    refine lv_aload_n hx hb gX12_next_8.2.2.2.2.2.1 rfl (lv_at0 hl) ?_
                    refine lv_dup hx hb gX12_next_8.2.2.2.2.2.2.1 rfl ?_
                    refine gf_X12_211 hC rfl hK hP 0 rfl rfl gX12_next_8.2.2.2.2.2.2.2.1 ?_
                    refine lv_iconst (v := 1) hx hb gX12_next_8.2.2.2.2.2.2.2.2.1 (by decide) ?_
                    refine lv_iadd hx hb gX12_next_8.2.2.2.2.2.2.2.2.2 ?_
                    refine eqi (x1 := nI (vt + 1)) (nI_add vt 1) ?_
                    refine pf_X12_211 hC rfl hK hP hD hS 0 (ws' := [(h0, oX12 nw nk mhasKept nt (nI ktp) nr mrowMany mroundOf mroundFrom mouts nm mfromHour mtoHour ns (nI vf) (nI (vt + 1)) 2 misFault mdeep mcoded mlines nl nc nF np ntr nb mbestCost nso nsi nit nsh nsf nss nrc mtraced mdealer mnumber mwhose msize misParted), (nt, iA G 240 fnt)]) rfl (Nat.le_of_ble_eq_true rfl) rfl rfl rfl gX12_next_9.1 (fun H locs hP hD hS => ?_)
                    refine lv_goto (tgt := 124) hx hb gX12_next_9.2.1 (by decide) ?_
                    exact ihB (vt + 1) _ _ _ (by omega) (hbB.next a8992.2) (And.intro hP hD) hS (lv_sub hl [0] rfl)
                  · refine lv_if_eq (tgt := 183) hx hb gX12_next_8.2.2.2.2.1 (by decide) (fun _ => ?_) (fun c9 => absurd (by decide) c9)
                    obtain ⟨e2, e3⟩ := (MNX.nu (by omega) (fun h9 => a8986 ⟨by omega, h9⟩) a8990.2 (by omega) (by omega) hbB (fun h8 h9 => a8992 ⟨h8, h9⟩) : TKN bt ktp vf = 2 ∧ TKE bt ktp vf = vt)
                    have hP : va_P G.1 vwCl [(h0, oX12 nw nk mhasKept nt (nI ktp) nr mrowMany mroundOf mroundFrom mouts nm mfromHour mtoHour ns (nI (SK bt ktp kt)) (nI (TKE bt ktp (SK bt ktp kt))) (nI (TKN bt ktp (SK bt ktp kt))) misFault mdeep mcoded mlines nl nc nF np ntr nb mbestCost nso nsi nit nsh nsf nss nrc mtraced mdealer mnumber mwhose msize misParted), (nt, iA G 240 fnt)] H := by rw [hsk, e2, e3]; exact hP
                    have hD : va_D A [(h0, oX12 nw nk mhasKept nt (nI ktp) nr mrowMany mroundOf mroundFrom mouts nm mfromHour mtoHour ns (nI (SK bt ktp kt)) (nI (TKE bt ktp (SK bt ktp kt))) (nI (TKN bt ktp (SK bt ktp kt))) misFault mdeep mcoded mlines nl nc nF np ntr nb mbestCost nso nsi nit nsh nsf nss nrc mtraced mdealer mnumber mwhose msize misParted), (nt, iA G 240 fnt)] := by rw [hsk, e2, e3]; exact hD
                    refine toQ hQ0 ?_
                    exact RV hC hP hD hS [0, 1] () rfl rfl (by decide) (trivial) gX12_next_9.2.2
              exact keyB (ktp + 1) (vf + 1) _ _ _ (by omega) (RUN.zero.next a8990.2) (And.intro hP hD) hS (lv_sub hl [0] rfl)
            · refine lv_if_eq (tgt := 110) hx hb gX12_next_5.2.2.1 (by decide) (fun _ => ?_) (fun c9 => absurd (by decide) c9)
              refine lv_iconst (v := 3) hx hb gX12_next_5.2.2.2.2.2.1 (by decide) ?_
              refine pf_X12_217 hC rfl hK hP hD hS 0 (ws' := [(h0, oX12 nw nk mhasKept nt (nI ktp) nr mrowMany mroundOf mroundFrom mouts nm mfromHour mtoHour ns (nI vf) (nI vf) 3 misFault mdeep mcoded mlines nl nc nF np ntr nb mbestCost nso nsi nit nsh nsf nss nrc mtraced mdealer mnumber mwhose msize misParted), (nt, iA G 240 fnt)]) rfl (Nat.le_of_ble_eq_true rfl) rfl rfl rfl gX12_next_5.2.2.2.2.2.2.1 (fun H locs hP hD hS => ?_)
              refine lv_aload_n hx hb gX12_next_5.2.2.2.2.2.2.2.1 rfl (lv_at0 hl) ?_
              refine lv_dup hx hb gX12_next_5.2.2.2.2.2.2.2.2.1 rfl ?_
              refine gf_X12_211 hC rfl hK hP 0 rfl rfl gX12_next_5.2.2.2.2.2.2.2.2.2 ?_
              refine lv_iconst (v := 1) hx hb gX12_next_6.1 (by decide) ?_
              refine lv_iadd hx hb gX12_next_6.2.1 ?_
              refine eqi (x1 := nI (vf + 1)) (nI_add vf 1) ?_
              refine pf_X12_211 hC rfl hK hP hD hS 0 (ws' := [(h0, oX12 nw nk mhasKept nt (nI ktp) nr mrowMany mroundOf mroundFrom mouts nm mfromHour mtoHour ns (nI vf) (nI (vf + 1)) 3 misFault mdeep mcoded mlines nl nc nF np ntr nb mbestCost nso nsi nit nsh nsf nss nrc mtraced mdealer mnumber mwhose msize misParted), (nt, iA G 240 fnt)]) rfl (Nat.le_of_ble_eq_true rfl) rfl rfl rfl gX12_next_6.2.2.1 (fun H locs hP hD hS => ?_)
              refine lv_aload_n hx hb gX12_next_6.2.2.2.1 rfl (lv_at0 hl) ?_
              refine gf_X12_217 hC rfl hK hP 0 rfl rfl gX12_next_6.2.2.2.2.1 ?_
              refine lv_iconst (v := 1) hx hb gX12_next_6.2.2.2.2.2.1 (by decide) ?_
              refine lv_icmp_ne (tgt := 147) hx hb gX12_next_6.2.2.2.2.2.2.1 (by decide) (fun _ => ?_) (fun c9 => absurd c9 (by decide))
              refine lv_aload_n hx hb gX12_next_7.2.2.2.2.1 rfl (lv_at0 hl) ?_
              refine gf_X12_217 hC rfl hK hP 0 rfl rfl gX12_next_7.2.2.2.2.2.1 ?_
              refine lv_iconst (v := 2) hx hb gX12_next_7.2.2.2.2.2.2.1 (by decide) ?_
              refine lv_icmp_ne (tgt := 183) hx hb gX12_next_7.2.2.2.2.2.2.2.1 (by decide) (fun _ => ?_) (fun c9 => absurd c9 (by decide))
              obtain ⟨e2, e3⟩ := (MNX.by9 (by omega) (fun h9 => a8986 ⟨by omega, h9⟩) (fun h9 => a8990 ⟨by omega, h9⟩) : TKN bt ktp vf = 3 ∧ TKE bt ktp vf = (vf + 1))
              have hP : va_P G.1 vwCl [(h0, oX12 nw nk mhasKept nt (nI ktp) nr mrowMany mroundOf mroundFrom mouts nm mfromHour mtoHour ns (nI (SK bt ktp kt)) (nI (TKE bt ktp (SK bt ktp kt))) (nI (TKN bt ktp (SK bt ktp kt))) misFault mdeep mcoded mlines nl nc nF np ntr nb mbestCost nso nsi nit nsh nsf nss nrc mtraced mdealer mnumber mwhose msize misParted), (nt, iA G 240 fnt)] H := by rw [hsk, e2, e3]; exact hP
              have hD : va_D A [(h0, oX12 nw nk mhasKept nt (nI ktp) nr mrowMany mroundOf mroundFrom mouts nm mfromHour mtoHour ns (nI (SK bt ktp kt)) (nI (TKE bt ktp (SK bt ktp kt))) (nI (TKN bt ktp (SK bt ktp kt))) misFault mdeep mcoded mlines nl nc nF np ntr nb mbestCost nso nsi nit nsh nsf nss nrc mtraced mdealer mnumber mwhose msize misParted), (nt, iA G 240 fnt)] := by rw [hsk, e2, e3]; exact hD
              refine toQ hQ0 ?_
              exact RV hC hP hD hS [0, 1] () rfl rfl (by decide) (trivial) gX12_next_9.2.2
        · refine lv_aload_n hx hb gX12_next_1.2.2.2.2.2.2.1 rfl (lv_at0 hl) ?_
          refine lv_dup hx hb gX12_next_1.2.2.2.2.2.2.2.1 rfl ?_
          refine gf_X12_214 hC rfl hK hP 0 rfl rfl gX12_next_1.2.2.2.2.2.2.2.2.1 ?_
          refine lv_iconst (v := 1) hx hb gX12_next_1.2.2.2.2.2.2.2.2.2 (by decide) ?_
          refine lv_iadd hx hb gX12_next_2.1 ?_
          refine eqi (x1 := nI (vf + 1)) (nI_add vf 1) ?_
          refine pf_X12_214 hC rfl hK hP hD hS 0 (ws' := [(h0, oX12 nw nk mhasKept nt (nI ktp) nr mrowMany mroundOf mroundFrom mouts nm mfromHour mtoHour ns (nI (vf + 1)) (nI kt) msort misFault mdeep mcoded mlines nl nc nF np ntr nb mbestCost nso nsi nit nsh nsf nss nrc mtraced mdealer mnumber mwhose msize misParted), (nt, iA G 240 fnt)]) rfl (Nat.le_of_ble_eq_true rfl) rfl rfl rfl gX12_next_2.2.1 (fun H locs hP hD hS => ?_)
          refine lv_goto (tgt := 8) hx hb gX12_next_2.2.2.1 (by decide) ?_
          exact ihA (vf + 1) _ _ _ (by omega) (hbA.next c_30_8984) (And.intro hP hD) hS (lv_sub hl [0] rfl)
  exact keyA (ktp + 1) kt _ _ _ (by omega) (RUN.zero) (And.intro hP hD) hS (lv_sub hl [0] rfl)
theorem m_nextT (l : Launch) (G : GG) (h0 : Nat) (nw : Nat) (nk : Nat) (mhasKept : Int32) (nt : Nat) (ktp : Nat) (nr : Nat) (mrowMany : Int32) (mroundOf : Int32) (mroundFrom : Int32) (mouts : Int32) (nm : Nat) (mfromHour : Int32) (mtoHour : Int32) (ns : Nat) (ks : Nat) (misFault : Int32) (mdeep : Int32) (mcoded : Int32) (mlines : Int32) (nl : Nat) (nc : Nat) (nF : Nat) (np : Nat) (ntr : Nat) (nb : Nat) (mbestCost : Int32) (nso : Nat) (nsi : Nat) (nit : Nat) (nsh : Nat) (nsf : Nat) (nss : Nat) (nrc : Nat) (mtraced : Int32) (mdealer : Int32) (mnumber : Int32) (mwhose : Int32) (msize : Int32) (misParted : Int32) (fnt : Nat → Int32) (bt : Nat → Int32) (htp : ktp ≤ 240) (hks : ks ≤ ktp) (hFB : FBT fnt bt ktp) : MV l G yX12_next cX12_next 1 3 0 0 [.ref h0] [(h0, oX12 nw nk mhasKept nt (nI ktp) nr mrowMany mroundOf mroundFrom mouts nm mfromHour mtoHour ns (nI ks) (nI (TKE bt ktp ks)) (nI (TKN bt ktp ks)) misFault mdeep mcoded mlines nl nc nF np ntr nb mbestCost nso nsi nit nsh nsf nss nrc mtraced mdealer mnumber mwhose msize misParted), (nt, iA G 240 fnt)] (fun u : Unit => True) (fun u : Unit => [(h0, oX12 nw nk mhasKept nt (nI ktp) nr mrowMany mroundOf mroundFrom mouts nm mfromHour mtoHour ns (nI (NXT bt ktp ks)) (nI (TKE bt ktp (NXT bt ktp ks))) (nI (TKN bt ktp (NXT bt ktp ks))) misFault mdeep mcoded mlines nl nc nF np ntr nb mbestCost nso nsi nit nsh nsf nss nrc mtraced mdealer mnumber mwhose msize misParted), (nt, iA G 240 fnt)]) := m_nextX l G h0 nw nk mhasKept nt ktp nr mrowMany mroundOf mroundFrom mouts nm mfromHour mtoHour ns (nI ks) (TKE bt ktp ks) (nI (TKN bt ktp ks)) misFault mdeep mcoded mlines nl nc nF np ntr nb mbestCost nso nsi nit nsh nsf nss nrc mtraced mdealer mnumber mwhose msize misParted fnt bt (TKE.ge hks).2.1 htp hFB
def K_m_isNameF (l : Launch) (G : GG) (K : OO) (i9 : Nat) (h0 : Nat) (nw : Nat) (nk : Nat) (mhasKept : Int32) (nt : Nat) (mtaped : Int32) (nr : Nat) (mrowMany : Int32) (mroundOf : Int32) (mroundFrom : Int32) (mouts : Int32) (nm : Nat) (mfromHour : Int32) (mtoHour : Int32) (ns : Nat) (mfrom : Int32) (mto : Int32) (msort : Int32) (mdeep : Int32) (mcoded : Int32) (mlines : Int32) (nl : Nat) (nc : Nat) (nF : Nat) (np : Nat) (ntr : Nat) (nb : Nat) (mbestCost : Int32) (nso : Nat) (nsi : Nat) (nit : Nat) (nsh : Nat) (nsf : Nat) (nss : Nat) (nrc : Nat) (mtraced : Int32) (mdealer : Int32) (mnumber : Int32) (mwhose : Int32) (msize : Int32) (misParted : Int32) : Prop := MPo l G K yX12_isName cX12_isName 4 (some .boolean) 5 [.ref h0, .ref (K.1 i9)] [(h0, oX12 nw nk mhasKept nt mtaped nr mrowMany mroundOf mroundFrom mouts nm mfromHour mtoHour ns mfrom mto msort 1 mdeep mcoded mlines nl nc nF np ntr nb mbestCost nso nsi nit nsh nsf nss nrc mtraced mdealer mnumber mwhose msize misParted)] (fun r : Int32 => r = 0)
set_option maxHeartbeats 4000000 in
set_option maxRecDepth 100000 in
theorem m_isNameF (l : Launch) (G : GG) (K : OO) (i9 : Nat) (h0 : Nat) (nw : Nat) (nk : Nat) (mhasKept : Int32) (nt : Nat) (mtaped : Int32) (nr : Nat) (mrowMany : Int32) (mroundOf : Int32) (mroundFrom : Int32) (mouts : Int32) (nm : Nat) (mfromHour : Int32) (mtoHour : Int32) (ns : Nat) (mfrom : Int32) (mto : Int32) (msort : Int32) (mdeep : Int32) (mcoded : Int32) (mlines : Int32) (nl : Nat) (nc : Nat) (nF : Nat) (np : Nat) (ntr : Nat) (nb : Nat) (mbestCost : Int32) (nso : Nat) (nsi : Nat) (nit : Nat) (nsh : Nat) (nsf : Nat) (nss : Nat) (nrc : Nat) (mtraced : Int32) (mdealer : Int32) (mnumber : Int32) (mwhose : Int32) (msize : Int32) (misParted : Int32) (hi9 : i9 < 16) : K_m_isNameF l G K i9 h0 nw nk mhasKept nt mtaped nr mrowMany mroundOf mroundFrom mouts nm mfromHour mtoHour ns mfrom mto msort mdeep mcoded mlines nl nc nF np ntr nb mbestCost nso nsi nit nsh nsf nss nrc mtraced mdealer mnumber mwhose msize misParted := by
  refine MPo.start (by decide +kernel) (Nat.le_of_ble_eq_true rfl) ?_
  intro p e s m below meth c ls hC hK hP hD hl hO hS
  refine absQ (fun Q0 hQ0 => ?_)
  have hl : lv_has ls 4 [(0, .ref h0), (1, .ref (K.1 i9))] := hl
  refine Kan8 hC (fun hx hb hr hml hB hown hlocks hnm => ?_)
  refine lv_aload_n hx hb gX12_isName_0.1 rfl (lv_at0 hl) ?_
  refine gf_X12_222 hC rfl hK hP 0 rfl rfl gX12_isName_0.2.1 ?_
  refine lv_if_ne (tgt := 35) hx hb gX12_isName_0.2.2.1 (by decide) (fun _ => ?_) (fun c9 => absurd c9 (by decide))
  refine lv_iconst (v := 0) hx hb gX12_isName_1.2.2.2.2.2.2.2.1 (by decide) ?_
  refine lv_istore_n (lv' := [(2, .int 0), (0, .ref h0), (1, .ref (K.1 i9))]) hx hb gX12_isName_1.2.2.2.2.2.2.2.2.1 rfl hl (by decide) rfl (fun ls hl => ?_)
  refine lv_iconst (v := 0) hx hb gX12_isName_1.2.2.2.2.2.2.2.2.2 (by decide) ?_
  refine lv_istore_n (lv' := [(3, .int 0), (2, .int 0), (0, .ref h0), (1, .ref (K.1 i9))]) hx hb gX12_isName_2.1 rfl hl (by decide) rfl (fun ls hl => ?_)
  refine lv_iload_n hx hb gX12_isName_2.2.1 rfl (lv_at1 hl) ?_
  refine lv_if_eq (tgt := 82) hx hb gX12_isName_2.2.2.1 (by decide) (fun _ => ?_) (fun c9 => absurd (by decide) c9)
  refine lv_iload_n hx hb gX12_isName_4.2.2.2.2.1 rfl (lv_at1 hl) ?_
  refine toQ hQ0 ?_
  exact RP (v := 0) hC (rfl) (by decide +kernel) gX12_isName_4.2.2.2.2.2
def K_m_isNameX (l : Launch) (G : GG) (K : OO) (i9 : Nat) (h0 : Nat) (nw : Nat) (nk : Nat) (mhasKept : Int32) (nt : Nat) (ktp : Nat) (nr : Nat) (mrowMany : Int32) (mroundOf : Int32) (mroundFrom : Int32) (mouts : Int32) (nm : Nat) (mfromHour : Int32) (mtoHour : Int32) (ns : Nat) (ks : Nat) (mdeep : Int32) (mcoded : Int32) (mlines : Int32) (nl : Nat) (nc : Nat) (nF : Nat) (np : Nat) (ntr : Nat) (nb : Nat) (mbestCost : Int32) (nso : Nat) (nsi : Nat) (nit : Nat) (nsh : Nat) (nsf : Nat) (nss : Nat) (nrc : Nat) (mtraced : Int32) (mdealer : Int32) (mnumber : Int32) (mwhose : Int32) (msize : Int32) (misParted : Int32) (fnt : Nat → Int32) (bt : Nat → Int32) : Prop := MPo l G K yX12_isName cX12_isName 4 (some .boolean) 5 [.ref h0, .ref (K.1 i9)] [(h0, oX12 nw nk mhasKept nt (nI ktp) nr mrowMany mroundOf mroundFrom mouts nm mfromHour mtoHour ns (nI ks) (nI (TKE bt ktp ks)) (nI (TKN bt ktp ks)) 0 mdeep mcoded mlines nl nc nF np ntr nb mbestCost nso nsi nit nsh nsf nss nrc mtraced mdealer mnumber mwhose msize misParted), (nt, iA G 240 fnt)] (fun r : Int32 => (r = 1 ∧ WRD bt ktp ks i9) ∨ (r = 0 ∧ ¬ WRD bt ktp ks i9))
set_option maxHeartbeats 4000000 in
set_option maxRecDepth 100000 in
theorem m_isNameX (l : Launch) (G : GG) (K : OO) (i9 : Nat) (h0 : Nat) (nw : Nat) (nk : Nat) (mhasKept : Int32) (nt : Nat) (ktp : Nat) (nr : Nat) (mrowMany : Int32) (mroundOf : Int32) (mroundFrom : Int32) (mouts : Int32) (nm : Nat) (mfromHour : Int32) (mtoHour : Int32) (ns : Nat) (ks : Nat) (mdeep : Int32) (mcoded : Int32) (mlines : Int32) (nl : Nat) (nc : Nat) (nF : Nat) (np : Nat) (ntr : Nat) (nb : Nat) (mbestCost : Int32) (nso : Nat) (nsi : Nat) (nit : Nat) (nsh : Nat) (nsf : Nat) (nss : Nat) (nrc : Nat) (mtraced : Int32) (mdealer : Int32) (mnumber : Int32) (mwhose : Int32) (msize : Int32) (misParted : Int32) (fnt : Nat → Int32) (bt : Nat → Int32) (htp : ktp ≤ 240) (hks : ks ≤ ktp) (hFB : FBT fnt bt ktp) (hi9 : i9 < 16) : K_m_isNameX l G K i9 h0 nw nk mhasKept nt ktp nr mrowMany mroundOf mroundFrom mouts nm mfromHour mtoHour ns ks mdeep mcoded mlines nl nc nF np ntr nb mbestCost nso nsi nit nsh nsf nss nrc mtraced mdealer mnumber mwhose msize misParted fnt bt := by
  refine MPo.start (by decide +kernel) (Nat.le_of_ble_eq_true rfl) ?_
  intro p e s m below meth c ls hC hK hP hD hl hO hS
  refine absQ (fun Q0 hQ0 => ?_)
  have hl : lv_has ls 4 [(0, .ref h0), (1, .ref (K.1 i9))] := hl
  refine Kan8 hC (fun hx hb hr hml hB hown hlocks hnm => ?_)
  have tk0 := TKE.ge (bt := bt) (n := ktp) (s := ks) hks
  have tk3 := TKN.le3 bt ktp ks
  have hs6 := slen6 i9 hi9
  refine lv_aload_n hx hb gX12_isName_0.1 rfl (lv_at0 hl) ?_
  refine gf_X12_222 hC rfl hK hP 0 rfl rfl gX12_isName_0.2.1 ?_
  refine lv_if_ne (tgt := 35) hx hb gX12_isName_0.2.2.1 (by decide) (fun c9 => absurd (by decide) c9) (fun _ => ?_)
  refine lv_aload_n hx hb gX12_isName_0.2.2.2.1 rfl (lv_at0 hl) ?_
  refine gf_X12_217 hC rfl hK hP 0 rfl rfl gX12_isName_0.2.2.2.2.1 ?_
  refine lv_iconst (v := 1) hx hb gX12_isName_0.2.2.2.2.2.1 (by decide) ?_
  refine lv_icmp_ne (tgt := 35) hx hb gX12_isName_0.2.2.2.2.2.2.1 (by decide) (fun c_12_8993 => ?_) (fun c_12_8993 => ?_)
  · have nb8994 : ¬ (TKN bt ktp ks) = 1 := fun h9 => c_12_8993 ((nI_eq (a := (TKN bt ktp ks)) (b := 1) (by omega) (by omega)).mpr h9)
    refine lv_iconst (v := 0) hx hb gX12_isName_1.2.2.2.2.2.2.2.1 (by decide) ?_
    refine lv_istore_n (lv' := [(2, .int 0), (0, .ref h0), (1, .ref (K.1 i9))]) hx hb gX12_isName_1.2.2.2.2.2.2.2.2.1 rfl hl (by decide) rfl (fun ls hl => ?_)
    refine lv_iconst (v := 0) hx hb gX12_isName_1.2.2.2.2.2.2.2.2.2 (by decide) ?_
    refine lv_istore_n (lv' := [(3, .int 0), (2, .int 0), (0, .ref h0), (1, .ref (K.1 i9))]) hx hb gX12_isName_2.1 rfl hl (by decide) rfl (fun ls hl => ?_)
    refine lv_iload_n hx hb gX12_isName_2.2.1 rfl (lv_at1 hl) ?_
    refine lv_if_eq (tgt := 82) hx hb gX12_isName_2.2.2.1 (by decide) (fun _ => ?_) (fun c9 => absurd (by decide) c9)
    refine lv_iload_n hx hb gX12_isName_4.2.2.2.2.1 rfl (lv_at1 hl) ?_
    refine toQ hQ0 ?_
    exact RP (v := 0) hC (Or.inr ⟨rfl, fun h9 => absurd h9.1 (by omega)⟩) (by decide +kernel) gX12_isName_4.2.2.2.2.2
  · have nb8995 : (TKN bt ktp ks) = 1 := (nI_eq (a := (TKN bt ktp ks)) (b := 1) (by omega) (by omega)).mp c_12_8993
    refine lv_aload_n hx hb gX12_isName_0.2.2.2.2.2.2.2.1 rfl (lv_at0 hl) ?_
    refine gf_X12_211 hC rfl hK hP 0 rfl rfl gX12_isName_0.2.2.2.2.2.2.2.2.1 ?_
    refine lv_aload_n hx hb gX12_isName_0.2.2.2.2.2.2.2.2.2 rfl (lv_at0 hl) ?_
    refine gf_X12_214 hC rfl hK hP 0 rfl rfl gX12_isName_1.1 ?_
    refine lv_isub hx hb gX12_isName_1.2.1 ?_
    refine eqi (x1 := nI (TKE bt ktp ks - ks)) (nI_subT (by omega)) ?_
    refine lv_aload_n hx hb gX12_isName_1.2.2.1 rfl (lv_at1 hl) ?_
    refine pTo (i := i9) (hi9) hO hS hC hK hl (j_len l G K i9 ((hi9))) si_X12_226 rfl rfl (Nat.le_of_ble_eq_true rfl) rm_5_2_1 ⟨by first | exact Nat.le_of_ble_eq_true rfl | exact Nat.zero_le _, by first | exact Nat.le_of_ble_eq_true rfl | exact Nat.zero_le _⟩ gX12_isName_1.2.2.2.1 (fun r8996 hr8996 => ?_)
    obtain rfl := hr8996
    refine lv_icmp_ne (tgt := 35) hx hb gX12_isName_1.2.2.2.2.1 (by decide) (fun c_28_8998 => ?_) (fun c_28_8998 => ?_)
    · have nb8999 : ¬ (TKE bt ktp ks - ks) = (SLEN.getD i9 0) := fun h9 => c_28_8998 ((nI_eq (a := (TKE bt ktp ks - ks)) (b := (SLEN.getD i9 0)) (by omega) (by omega)).mpr h9)
      refine lv_iconst (v := 0) hx hb gX12_isName_1.2.2.2.2.2.2.2.1 (by decide) ?_
      refine lv_istore_n (lv' := [(2, .int 0), (0, .ref h0), (1, .ref (K.1 i9))]) hx hb gX12_isName_1.2.2.2.2.2.2.2.2.1 rfl hl (by decide) rfl (fun ls hl => ?_)
      refine lv_iconst (v := 0) hx hb gX12_isName_1.2.2.2.2.2.2.2.2.2 (by decide) ?_
      refine lv_istore_n (lv' := [(3, .int 0), (2, .int 0), (0, .ref h0), (1, .ref (K.1 i9))]) hx hb gX12_isName_2.1 rfl hl (by decide) rfl (fun ls hl => ?_)
      refine lv_iload_n hx hb gX12_isName_2.2.1 rfl (lv_at1 hl) ?_
      refine lv_if_eq (tgt := 82) hx hb gX12_isName_2.2.2.1 (by decide) (fun _ => ?_) (fun c9 => absurd (by decide) c9)
      refine lv_iload_n hx hb gX12_isName_4.2.2.2.2.1 rfl (lv_at1 hl) ?_
      refine toQ hQ0 ?_
      exact RP (v := 0) hC (Or.inr ⟨rfl, fun h9 => absurd h9.2.1 (by omega)⟩) (by decide +kernel) gX12_isName_4.2.2.2.2.2
    · have nb9000 : (TKE bt ktp ks - ks) = (SLEN.getD i9 0) := (nI_eq (a := (TKE bt ktp ks - ks)) (b := (SLEN.getD i9 0)) (by omega) (by omega)).mp c_28_8998
      refine lv_iconst (v := 1) hx hb gX12_isName_1.2.2.2.2.2.1 (by decide) ?_
      refine lv_goto (tgt := 36) hx hb gX12_isName_1.2.2.2.2.2.2.1 (by decide) ?_
      refine lv_istore_n (lv' := [(2, .int 1), (0, .ref h0), (1, .ref (K.1 i9))]) hx hb gX12_isName_1.2.2.2.2.2.2.2.2.1 rfl hl (by decide) rfl (fun ls hl => ?_)
      refine lv_iconst (v := 0) hx hb gX12_isName_1.2.2.2.2.2.2.2.2.2 (by decide) ?_
      refine lv_istore_n (lv' := [(3, .int 0), (2, .int 1), (0, .ref h0), (1, .ref (K.1 i9))]) hx hb gX12_isName_2.1 rfl hl (by decide) rfl (fun ls hl => ?_)
      have keyP : ∀ (nP kP : Nat) (is9 : Int32) (ls : Array Slot), kP + nP = (SLEN.getD i9 0) → (ISW bt ks i9 is9 kP) → lv_has ls 4 [(3, .int (nI kP)), (2, .int is9), (0, .ref h0), (1, .ref (K.1 i9))] → W p l e (RM 5 0 0) s m ([.ref h0, .ref (K.1 i9)] : List Value).toArray below meth c s.heap [] 0 0 Q0 (F0 m 39 ls []) := by
        intro nP
        induction nP with
        | zero =>
          intro kP is9 ls hkP his hl
          obtain rfl : (SLEN.getD i9 0) = kP := by omega
          have hl : lv_has ls 4 [(3, .int (nI (SLEN.getD i9 0))), (2, .int is9), (0, .ref h0), (1, .ref (K.1 i9))] := hl
          refine lv_iload_n hx hb gX12_isName_2.2.1 rfl (lv_at1 hl) ?_
          rcases his with ⟨rfl, hwp⟩ | ⟨rfl, hnw⟩
          · refine lv_if_eq (tgt := 82) hx hb gX12_isName_2.2.2.1 (by decide) (fun c9 => absurd c9 (by decide)) (fun _ => ?_)
            refine lv_iload_n hx hb gX12_isName_2.2.2.2.1 rfl (lv_at0 hl) ?_
            refine lv_aload_n hx hb gX12_isName_2.2.2.2.2.1 rfl (lv_at3 hl) ?_
            refine pTo (i := i9) (hi9) hO hS hC hK hl (j_len l G K i9 ((hi9))) si_X12_226 rfl rfl (Nat.le_of_ble_eq_true rfl) rm_5_2_1 ⟨by first | exact Nat.le_of_ble_eq_true rfl | exact Nat.zero_le _, by first | exact Nat.le_of_ble_eq_true rfl | exact Nat.zero_le _⟩ gX12_isName_2.2.2.2.2.2.1 (fun r9001 hr9001 => ?_)
            obtain rfl := hr9001
            refine lv_icmp_ge (tgt := 82) hx hb gX12_isName_2.2.2.2.2.2.2.1 (by decide) (fun _ => ?_) (fun c9 => absurd (Int32.le_refl _) c9)
            refine lv_iload_n hx hb gX12_isName_4.2.2.2.2.1 rfl (lv_at1 hl) ?_
            refine toQ hQ0 ?_
            exact RP (v := 1) hC (Or.inl ⟨rfl, WRD.of (by omega) (by omega) (by omega) hwp⟩) (by decide +kernel) gX12_isName_4.2.2.2.2.2
          · refine lv_if_eq (tgt := 82) hx hb gX12_isName_2.2.2.1 (by decide) (fun _ => ?_) (fun c9 => absurd (by decide) c9)
            refine lv_iload_n hx hb gX12_isName_4.2.2.2.2.1 rfl (lv_at1 hl) ?_
            refine toQ hQ0 ?_
            exact RP (v := 0) hC (Or.inr ⟨rfl, fun h9 => hnw (WDP.le h9.2.2 (by omega))⟩) (by decide +kernel) gX12_isName_4.2.2.2.2.2
        | succ nP ihP =>
          intro kP is9 ls hkP his hl
          refine lv_iload_n hx hb gX12_isName_2.2.1 rfl (lv_at1 hl) ?_
          rcases his with ⟨rfl, hwp⟩ | ⟨rfl, hnw⟩
          · refine lv_if_eq (tgt := 82) hx hb gX12_isName_2.2.2.1 (by decide) (fun c9 => absurd c9 (by decide)) (fun _ => ?_)
            refine lv_iload_n hx hb gX12_isName_2.2.2.2.1 rfl (lv_at0 hl) ?_
            refine lv_aload_n hx hb gX12_isName_2.2.2.2.2.1 rfl (lv_at3 hl) ?_
            refine pTo (i := i9) (hi9) hO hS hC hK hl (j_len l G K i9 ((hi9))) si_X12_226 rfl rfl (Nat.le_of_ble_eq_true rfl) rm_5_2_1 ⟨by first | exact Nat.le_of_ble_eq_true rfl | exact Nat.zero_le _, by first | exact Nat.le_of_ble_eq_true rfl | exact Nat.zero_le _⟩ gX12_isName_2.2.2.2.2.2.1 (fun r9003 hr9003 => ?_)
            obtain rfl := hr9003
            refine lv_icmp_ge (tgt := 82) hx hb gX12_isName_2.2.2.2.2.2.2.1 (by decide) (fun c9 => absurd c9 (nI_ge (a := kP) (b := (SLEN.getD i9 0)) (by omega) (by omega))) (fun _ => ?_)
            refine lv_aload_n hx hb gX12_isName_2.2.2.2.2.2.2.2.1 rfl (lv_at2 hl) ?_
            refine gf_X12_16 hC rfl hK hP 0 rfl rfl gX12_isName_2.2.2.2.2.2.2.2.2.1 ?_
            refine lv_aload_n hx hb gX12_isName_2.2.2.2.2.2.2.2.2.2 rfl (lv_at2 hl) ?_
            refine gf_X12_214 hC rfl hK hP 0 rfl rfl gX12_isName_3.1 ?_
            refine lv_iload_n hx hb gX12_isName_3.2.1 rfl (lv_at0 hl) ?_
            refine lv_iadd hx hb gX12_isName_3.2.2.1 ?_
            refine eqi (x1 := nI (ks + kP)) (nI_add ks kP) ?_
            refine aldN hC hK hP 1 rfl (k := (ks + kP)) (by omega) (Nat.le_of_ble_eq_true rfl) (v := fnt (ks + kP)) rfl gX12_isName_3.2.2.2.1 ?_
            refine eqi (x1 := bt (ks + kP)) (hFB _ (by omega)) ?_
            refine lv_aload_n hx hb gX12_isName_3.2.2.2.2.1 rfl (lv_at3 hl) ?_
            refine lv_iload_n hx hb gX12_isName_3.2.2.2.2.2.1 rfl (lv_at0 hl) ?_
            refine pTo (i := i9) (hi9) hO hS hC hK hl (j_chr l G K i9 kP ((hi9)) (by omega)) si_X12_229 rfl rfl (Nat.le_of_ble_eq_true rfl) rm_5_4_2 ⟨by first | exact Nat.le_of_ble_eq_true rfl | exact Nat.zero_le _, by first | exact Nat.le_of_ble_eq_true rfl | exact Nat.zero_le _⟩ gX12_isName_3.2.2.2.2.2.2.1 (fun r9005 hr9005 => ?_)
            obtain rfl := hr9005
            refine lv_icmp_ne (tgt := 74) hx hb gX12_isName_3.2.2.2.2.2.2.2.1 (by decide) (fun c_67_9007 => ?_) (fun c_67_9007 => ?_)
            · refine lv_iconst (v := 0) hx hb gX12_isName_4.1 (by decide) ?_
              refine lv_istore_n (lv' := [(2, .int 0), (3, .int (nI kP)), (0, .ref h0), (1, .ref (K.1 i9))]) hx hb gX12_isName_4.2.1 rfl hl (by decide) rfl (fun ls hl => ?_)
              refine lv_iinc (v := nI (kP + 1)) (lv' := [(3, .int (nI (kP + 1))), (2, .int 0), (0, .ref h0), (1, .ref (K.1 i9))]) hx hb gX12_isName_4.2.2.1 hl (k := 1) rfl (nI_1 _) (by decide) rfl (fun ls hl => ?_)
              refine lv_goto (tgt := 39) hx hb gX12_isName_4.2.2.2.1 (by decide) ?_
              exact ihP (kP + 1) 0 _ (by omega) (by first | assumption | exact Or.inl rfl | exact Or.inr rfl | exact Or.inl ⟨rfl, WDP.zero⟩ | exact Or.inl ⟨rfl, hwp.next (by assumption)⟩ | exact Or.inr ⟨rfl, WDP.nn (by assumption)⟩) (lv_sub hl [0, 1, 2, 3] rfl)
            · refine lv_iconst (v := 1) hx hb gX12_isName_3.2.2.2.2.2.2.2.2.1 (by decide) ?_
              refine lv_goto (tgt := 75) hx hb gX12_isName_3.2.2.2.2.2.2.2.2.2 (by decide) ?_
              refine lv_istore_n (lv' := [(2, .int 1), (3, .int (nI kP)), (0, .ref h0), (1, .ref (K.1 i9))]) hx hb gX12_isName_4.2.1 rfl hl (by decide) rfl (fun ls hl => ?_)
              refine lv_iinc (v := nI (kP + 1)) (lv' := [(3, .int (nI (kP + 1))), (2, .int 1), (0, .ref h0), (1, .ref (K.1 i9))]) hx hb gX12_isName_4.2.2.1 hl (k := 1) rfl (nI_1 _) (by decide) rfl (fun ls hl => ?_)
              refine lv_goto (tgt := 39) hx hb gX12_isName_4.2.2.2.1 (by decide) ?_
              exact ihP (kP + 1) 1 _ (by omega) (by first | assumption | exact Or.inl rfl | exact Or.inr rfl | exact Or.inl ⟨rfl, WDP.zero⟩ | exact Or.inl ⟨rfl, hwp.next (by assumption)⟩ | exact Or.inr ⟨rfl, WDP.nn (by assumption)⟩) (lv_sub hl [0, 1, 2, 3] rfl)
          · refine lv_if_eq (tgt := 82) hx hb gX12_isName_2.2.2.1 (by decide) (fun _ => ?_) (fun c9 => absurd (by decide) c9)
            refine lv_iload_n hx hb gX12_isName_4.2.2.2.2.1 rfl (lv_at1 hl) ?_
            refine toQ hQ0 ?_
            exact RP (v := 0) hC (Or.inr ⟨rfl, fun h9 => hnw (WDP.le h9.2.2 (by omega))⟩) (by decide +kernel) gX12_isName_4.2.2.2.2.2
      exact keyP (SLEN.getD i9 0) 0 1 _ (by omega) (by first | assumption | exact Or.inl rfl | exact Or.inr rfl | exact Or.inl ⟨rfl, WDP.zero⟩ | exact Or.inl ⟨rfl, hwp.next (by assumption)⟩ | exact Or.inr ⟨rfl, WDP.nn (by assumption)⟩) (lv_sub hl [0, 1, 2, 3] rfl)
def K_m_isSignF (l : Launch) (G : GG) (h0 : Nat) (cc : Int32) (nw : Nat) (nk : Nat) (mhasKept : Int32) (nt : Nat) (mtaped : Int32) (nr : Nat) (mrowMany : Int32) (mroundOf : Int32) (mroundFrom : Int32) (mouts : Int32) (nm : Nat) (mfromHour : Int32) (mtoHour : Int32) (ns : Nat) (mfrom : Int32) (mto : Int32) (msort : Int32) (mdeep : Int32) (mcoded : Int32) (mlines : Int32) (nl : Nat) (nc : Nat) (nF : Nat) (np : Nat) (ntr : Nat) (nb : Nat) (mbestCost : Int32) (nso : Nat) (nsi : Nat) (nit : Nat) (nsh : Nat) (nsf : Nat) (nss : Nat) (nrc : Nat) (mtraced : Int32) (mdealer : Int32) (mnumber : Int32) (mwhose : Int32) (msize : Int32) (misParted : Int32) : Prop := MP l G yX12_isSign cX12_isSign 2 (some .boolean) 1 [.ref h0, .int cc] [(h0, oX12 nw nk mhasKept nt mtaped nr mrowMany mroundOf mroundFrom mouts nm mfromHour mtoHour ns mfrom mto msort 1 mdeep mcoded mlines nl nc nF np ntr nb mbestCost nso nsi nit nsh nsf nss nrc mtraced mdealer mnumber mwhose msize misParted)] (fun r : Int32 => r = 0)
set_option maxHeartbeats 4000000 in
set_option maxRecDepth 100000 in
theorem m_isSignF (l : Launch) (G : GG) (h0 : Nat) (cc : Int32) (nw : Nat) (nk : Nat) (mhasKept : Int32) (nt : Nat) (mtaped : Int32) (nr : Nat) (mrowMany : Int32) (mroundOf : Int32) (mroundFrom : Int32) (mouts : Int32) (nm : Nat) (mfromHour : Int32) (mtoHour : Int32) (ns : Nat) (mfrom : Int32) (mto : Int32) (msort : Int32) (mdeep : Int32) (mcoded : Int32) (mlines : Int32) (nl : Nat) (nc : Nat) (nF : Nat) (np : Nat) (ntr : Nat) (nb : Nat) (mbestCost : Int32) (nso : Nat) (nsi : Nat) (nit : Nat) (nsh : Nat) (nsf : Nat) (nss : Nat) (nrc : Nat) (mtraced : Int32) (mdealer : Int32) (mnumber : Int32) (mwhose : Int32) (msize : Int32) (misParted : Int32) : K_m_isSignF l G h0 cc nw nk mhasKept nt mtaped nr mrowMany mroundOf mroundFrom mouts nm mfromHour mtoHour ns mfrom mto msort mdeep mcoded mlines nl nc nF np ntr nb mbestCost nso nsi nit nsh nsf nss nrc mtraced mdealer mnumber mwhose msize misParted := by
  refine MP.start (by decide +kernel) (Nat.le_of_ble_eq_true rfl) ?_
  intro p e s m below meth c ls hC hK hP hD hl
  refine absQ (fun Q0 hQ0 => ?_)
  have hl : lv_has ls 2 [(0, .ref h0), (1, .int cc)] := hl
  refine Kan8 hC (fun hx hb hr hml hB hown hlocks hnm => ?_)
  refine lv_aload_n hx hb gX12_isSign_0.1 rfl (lv_at0 hl) ?_
  refine gf_X12_222 hC rfl hK hP 0 rfl rfl gX12_isSign_0.2.1 ?_
  refine lv_if_ne (tgt := 32) hx hb gX12_isSign_0.2.2.1 (by decide) (fun _ => ?_) (fun c9 => absurd c9 (by decide))
  refine lv_iconst (v := 0) hx hb gX12_isSign_1.2.2.2.2.2.2.1 (by decide) ?_
  refine toQ hQ0 ?_
  exact RP (v := 0) hC (rfl) (by decide +kernel) gX12_isSign_1.2.2.2.2.2.2.2
def K_m_isSignX (l : Launch) (G : GG) (h0 : Nat) (cc : Int32) (nw : Nat) (nk : Nat) (mhasKept : Int32) (nt : Nat) (ktp : Nat) (nr : Nat) (mrowMany : Int32) (mroundOf : Int32) (mroundFrom : Int32) (mouts : Int32) (nm : Nat) (mfromHour : Int32) (mtoHour : Int32) (ns : Nat) (ks : Nat) (mdeep : Int32) (mcoded : Int32) (mlines : Int32) (nl : Nat) (nc : Nat) (nF : Nat) (np : Nat) (ntr : Nat) (nb : Nat) (mbestCost : Int32) (nso : Nat) (nsi : Nat) (nit : Nat) (nsh : Nat) (nsf : Nat) (nss : Nat) (nrc : Nat) (mtraced : Int32) (mdealer : Int32) (mnumber : Int32) (mwhose : Int32) (msize : Int32) (misParted : Int32) (fnt : Nat → Int32) (bt : Nat → Int32) : Prop := MP l G yX12_isSign cX12_isSign 2 (some .boolean) 1 [.ref h0, .int cc] [(h0, oX12 nw nk mhasKept nt (nI ktp) nr mrowMany mroundOf mroundFrom mouts nm mfromHour mtoHour ns (nI ks) (nI (TKE bt ktp ks)) (nI (TKN bt ktp ks)) 0 mdeep mcoded mlines nl nc nF np ntr nb mbestCost nso nsi nit nsh nsf nss nrc mtraced mdealer mnumber mwhose msize misParted), (nt, iA G 240 fnt)] (fun r : Int32 => (r = 1 ∧ SGN bt ktp ks cc) ∨ (r = 0 ∧ ¬ SGN bt ktp ks cc))
set_option maxHeartbeats 4000000 in
set_option maxRecDepth 100000 in
theorem m_isSignX (l : Launch) (G : GG) (h0 : Nat) (cc : Int32) (nw : Nat) (nk : Nat) (mhasKept : Int32) (nt : Nat) (ktp : Nat) (nr : Nat) (mrowMany : Int32) (mroundOf : Int32) (mroundFrom : Int32) (mouts : Int32) (nm : Nat) (mfromHour : Int32) (mtoHour : Int32) (ns : Nat) (ks : Nat) (mdeep : Int32) (mcoded : Int32) (mlines : Int32) (nl : Nat) (nc : Nat) (nF : Nat) (np : Nat) (ntr : Nat) (nb : Nat) (mbestCost : Int32) (nso : Nat) (nsi : Nat) (nit : Nat) (nsh : Nat) (nsf : Nat) (nss : Nat) (nrc : Nat) (mtraced : Int32) (mdealer : Int32) (mnumber : Int32) (mwhose : Int32) (msize : Int32) (misParted : Int32) (fnt : Nat → Int32) (bt : Nat → Int32) (htp : ktp ≤ 240) (hks : ks ≤ ktp) (hFB : FBT fnt bt ktp) : K_m_isSignX l G h0 cc nw nk mhasKept nt ktp nr mrowMany mroundOf mroundFrom mouts nm mfromHour mtoHour ns ks mdeep mcoded mlines nl nc nF np ntr nb mbestCost nso nsi nit nsh nsf nss nrc mtraced mdealer mnumber mwhose msize misParted fnt bt := by
  refine MP.start (by decide +kernel) (Nat.le_of_ble_eq_true rfl) ?_
  intro p e s m below meth c ls hC hK hP hD hl
  refine absQ (fun Q0 hQ0 => ?_)
  have hl : lv_has ls 2 [(0, .ref h0), (1, .int cc)] := hl
  refine Kan8 hC (fun hx hb hr hml hB hown hlocks hnm => ?_)
  have tk3 := TKN.le3 bt ktp ks
  refine lv_aload_n hx hb gX12_isSign_0.1 rfl (lv_at0 hl) ?_
  refine gf_X12_222 hC rfl hK hP 0 rfl rfl gX12_isSign_0.2.1 ?_
  refine lv_if_ne (tgt := 32) hx hb gX12_isSign_0.2.2.1 (by decide) (fun c9 => absurd (by decide) c9) (fun _ => ?_)
  refine lv_aload_n hx hb gX12_isSign_0.2.2.2.1 rfl (lv_at0 hl) ?_
  refine gf_X12_217 hC rfl hK hP 0 rfl rfl gX12_isSign_0.2.2.2.2.1 ?_
  refine lv_iconst (v := 3) hx hb gX12_isSign_0.2.2.2.2.2.1 (by decide) ?_
  refine lv_icmp_ne (tgt := 32) hx hb gX12_isSign_0.2.2.2.2.2.2.1 (by decide) (fun c_12_9008 => ?_) (fun c_12_9008 => ?_)
  · have nb9009 : ¬ (TKN bt ktp ks) = 3 := fun h9 => c_12_9008 ((nI_eq (a := (TKN bt ktp ks)) (b := 3) (by omega) (by omega)).mpr h9)
    refine lv_iconst (v := 0) hx hb gX12_isSign_1.2.2.2.2.2.2.1 (by decide) ?_
    refine toQ hQ0 ?_
    exact RP (v := 0) hC (Or.inr ⟨rfl, fun h9 => absurd h9.1 (by omega)⟩) (by decide +kernel) gX12_isSign_1.2.2.2.2.2.2.2
  · have nb9010 : (TKN bt ktp ks) = 3 := (nI_eq (a := (TKN bt ktp ks)) (b := 3) (by omega) (by omega)).mp c_12_9008
    have hlt9 : ks < ktp := TKN.lt (bt := bt) (n := ktp) (s := ks) (by omega)
    refine lv_aload_n hx hb gX12_isSign_0.2.2.2.2.2.2.2.1 rfl (lv_at0 hl) ?_
    refine gf_X12_16 hC rfl hK hP 0 rfl rfl gX12_isSign_0.2.2.2.2.2.2.2.2.1 ?_
    refine lv_aload_n hx hb gX12_isSign_0.2.2.2.2.2.2.2.2.2 rfl (lv_at0 hl) ?_
    refine gf_X12_214 hC rfl hK hP 0 rfl rfl gX12_isSign_1.1 ?_
    refine aldN hC hK hP 1 rfl (k := ks) (by omega) (Nat.le_of_ble_eq_true rfl) (v := fnt ks) rfl gX12_isSign_1.2.1 ?_
    refine eqi (x1 := bt ks) (hFB _ (by omega)) ?_
    refine lv_iload_n hx hb gX12_isSign_1.2.2.1 rfl (lv_at1 hl) ?_
    refine lv_icmp_ne (tgt := 32) hx hb gX12_isSign_1.2.2.2.1 (by decide) (fun c_25_9011 => ?_) (fun c_25_9011 => ?_)
    · refine lv_iconst (v := 0) hx hb gX12_isSign_1.2.2.2.2.2.2.1 (by decide) ?_
      refine toQ hQ0 ?_
      exact RP (v := 0) hC (Or.inr ⟨rfl, fun h9 => c_25_9011 h9.2⟩) (by decide +kernel) gX12_isSign_1.2.2.2.2.2.2.2
    · refine lv_iconst (v := 1) hx hb gX12_isSign_1.2.2.2.2.1 (by decide) ?_
      refine lv_goto (tgt := 33) hx hb gX12_isSign_1.2.2.2.2.2.1 (by decide) ?_
      refine toQ hQ0 ?_
      exact RP (v := 1) hC (Or.inl ⟨rfl, by omega, c_25_9011⟩) (by decide +kernel) gX12_isSign_1.2.2.2.2.2.2.2
def K_m_needF (l : Launch) (G : GG) (h0 : Nat) (is9 : Int32) (nw : Nat) (nk : Nat) (mhasKept : Int32) (nt : Nat) (mtaped : Int32) (nr : Nat) (mrowMany : Int32) (mroundOf : Int32) (mroundFrom : Int32) (mouts : Int32) (nm : Nat) (mfromHour : Int32) (mtoHour : Int32) (ns : Nat) (mfrom : Int32) (mto : Int32) (msort : Int32) (mdeep : Int32) (mcoded : Int32) (mlines : Int32) (nl : Nat) (nc : Nat) (nF : Nat) (np : Nat) (ntr : Nat) (nb : Nat) (mbestCost : Int32) (nso : Nat) (nsi : Nat) (nit : Nat) (nsh : Nat) (nsf : Nat) (nss : Nat) (nrc : Nat) (mtraced : Int32) (mdealer : Int32) (mnumber : Int32) (mwhose : Int32) (msize : Int32) (misParted : Int32) : Prop := MV l G yX12_need cX12_need 2 4 0 0 [.ref h0, .int is9] [(h0, oX12 nw nk mhasKept nt mtaped nr mrowMany mroundOf mroundFrom mouts nm mfromHour mtoHour ns mfrom mto msort 1 mdeep mcoded mlines nl nc nF np ntr nb mbestCost nso nsi nit nsh nsf nss nrc mtraced mdealer mnumber mwhose msize misParted)] (fun u : Unit => True) (fun u : Unit => [(h0, oX12 nw nk mhasKept nt mtaped nr mrowMany mroundOf mroundFrom mouts nm mfromHour mtoHour ns mfrom mto msort 1 mdeep mcoded mlines nl nc nF np ntr nb mbestCost nso nsi nit nsh nsf nss nrc mtraced mdealer mnumber mwhose msize misParted)])
set_option maxHeartbeats 4000000 in
set_option maxRecDepth 100000 in
theorem m_needF (l : Launch) (G : GG) (h0 : Nat) (is9 : Int32) (nw : Nat) (nk : Nat) (mhasKept : Int32) (nt : Nat) (mtaped : Int32) (nr : Nat) (mrowMany : Int32) (mroundOf : Int32) (mroundFrom : Int32) (mouts : Int32) (nm : Nat) (mfromHour : Int32) (mtoHour : Int32) (ns : Nat) (mfrom : Int32) (mto : Int32) (msort : Int32) (mdeep : Int32) (mcoded : Int32) (mlines : Int32) (nl : Nat) (nc : Nat) (nF : Nat) (np : Nat) (ntr : Nat) (nb : Nat) (mbestCost : Int32) (nso : Nat) (nsi : Nat) (nit : Nat) (nsh : Nat) (nsf : Nat) (nss : Nat) (nrc : Nat) (mtraced : Int32) (mdealer : Int32) (mnumber : Int32) (mwhose : Int32) (msize : Int32) (misParted : Int32) : K_m_needF l G h0 is9 nw nk mhasKept nt mtaped nr mrowMany mroundOf mroundFrom mouts nm mfromHour mtoHour ns mfrom mto msort mdeep mcoded mlines nl nc nF np ntr nb mbestCost nso nsi nit nsh nsf nss nrc mtraced mdealer mnumber mwhose msize misParted := by
  refine MV.start (by decide +kernel) (Nat.le_of_ble_eq_true rfl) ?_
  intro p e s m below meth c A ls hC hK hP hD hS hA hl
  refine absQ (fun Q0 hQ0 => ?_)
  have hl : lv_has ls 2 [(0, .ref h0), (1, .int is9)] := hl
  refine Kan8 hC (fun hx hb hr hml hB hown hlocks hnm => ?_)
  refine lv_aload_n hx hb gX12_need_0.1 rfl (lv_at0 hl) ?_
  refine lv_aload_n hx hb gX12_need_0.2.1 rfl (lv_at0 hl) ?_
  refine gf_X12_222 hC rfl hK hP 0 rfl rfl gX12_need_0.2.2.1 ?_
  refine lv_if_ne (tgt := 12) hx hb gX12_need_0.2.2.2.1 (by decide) (fun _ => ?_) (fun c9 => absurd c9 (by decide))
  refine lv_iconst (v := 1) hx hb gX12_need_0.2.2.2.2.2.2.1 (by decide) ?_
  refine lv_goto (tgt := 17) hx hb gX12_need_0.2.2.2.2.2.2.2.1 (by decide) ?_
  refine pf_X12_222 hC rfl hK hP hD hS 0 (ws' := [(h0, oX12 nw nk mhasKept nt mtaped nr mrowMany mroundOf mroundFrom mouts nm mfromHour mtoHour ns mfrom mto msort 1 mdeep mcoded mlines nl nc nF np ntr nb mbestCost nso nsi nit nsh nsf nss nrc mtraced mdealer mnumber mwhose msize misParted)]) rfl (Nat.le_of_ble_eq_true rfl) rfl (by decide +kernel) (by decide +kernel) gX12_need_0.2.2.2.2.2.2.2.2.2 (fun H locs hP hD hS => ?_)
  refine lv_aload_n hx hb gX12_need_1.1 rfl (lv_at0 hl) ?_
  refine gf_X12_222 hC rfl hK hP 0 rfl rfl gX12_need_1.2.1 ?_
  refine lv_if_ne (tgt := 31) hx hb gX12_need_1.2.2.1 (by decide) (fun _ => ?_) (fun c9 => absurd c9 (by decide))
  refine toQ hQ0 ?_
  exact RV hC hP hD hS [0] () rfl rfl (by decide) (trivial) gX12_need_1.2.2.2.2.2
def K_m_need0 (l : Launch) (G : GG) (h0 : Nat) (nw : Nat) (nk : Nat) (mhasKept : Int32) (nt : Nat) (mtaped : Int32) (nr : Nat) (mrowMany : Int32) (mroundOf : Int32) (mroundFrom : Int32) (mouts : Int32) (nm : Nat) (mfromHour : Int32) (mtoHour : Int32) (ns : Nat) (mfrom : Int32) (mto : Int32) (msort : Int32) (mdeep : Int32) (mcoded : Int32) (mlines : Int32) (nl : Nat) (nc : Nat) (nF : Nat) (np : Nat) (ntr : Nat) (nb : Nat) (mbestCost : Int32) (nso : Nat) (nsi : Nat) (nit : Nat) (nsh : Nat) (nsf : Nat) (nss : Nat) (nrc : Nat) (mtraced : Int32) (mdealer : Int32) (mnumber : Int32) (mwhose : Int32) (msize : Int32) (misParted : Int32) : Prop := MV l G yX12_need cX12_need 2 4 0 0 [.ref h0, .int 0] [(h0, oX12 nw nk mhasKept nt mtaped nr mrowMany mroundOf mroundFrom mouts nm mfromHour mtoHour ns mfrom mto msort 0 mdeep mcoded mlines nl nc nF np ntr nb mbestCost nso nsi nit nsh nsf nss nrc mtraced mdealer mnumber mwhose msize misParted)] (fun u : Unit => True) (fun u : Unit => [(h0, oX12 nw nk mhasKept nt mtaped nr mrowMany mroundOf mroundFrom mouts nm mfromHour mtoHour ns mfrom mto msort 1 mdeep mcoded mlines nl nc nF np ntr nb mbestCost nso nsi nit nsh nsf nss nrc mtraced mdealer mnumber mwhose msize misParted)])
set_option maxHeartbeats 4000000 in
set_option maxRecDepth 100000 in
theorem m_need0 (l : Launch) (G : GG) (h0 : Nat) (nw : Nat) (nk : Nat) (mhasKept : Int32) (nt : Nat) (mtaped : Int32) (nr : Nat) (mrowMany : Int32) (mroundOf : Int32) (mroundFrom : Int32) (mouts : Int32) (nm : Nat) (mfromHour : Int32) (mtoHour : Int32) (ns : Nat) (mfrom : Int32) (mto : Int32) (msort : Int32) (mdeep : Int32) (mcoded : Int32) (mlines : Int32) (nl : Nat) (nc : Nat) (nF : Nat) (np : Nat) (ntr : Nat) (nb : Nat) (mbestCost : Int32) (nso : Nat) (nsi : Nat) (nit : Nat) (nsh : Nat) (nsf : Nat) (nss : Nat) (nrc : Nat) (mtraced : Int32) (mdealer : Int32) (mnumber : Int32) (mwhose : Int32) (msize : Int32) (misParted : Int32) : K_m_need0 l G h0 nw nk mhasKept nt mtaped nr mrowMany mroundOf mroundFrom mouts nm mfromHour mtoHour ns mfrom mto msort mdeep mcoded mlines nl nc nF np ntr nb mbestCost nso nsi nit nsh nsf nss nrc mtraced mdealer mnumber mwhose msize misParted := by
  refine MV.start (by decide +kernel) (Nat.le_of_ble_eq_true rfl) ?_
  intro p e s m below meth c A ls hC hK hP hD hS hA hl
  refine absQ (fun Q0 hQ0 => ?_)
  have hl : lv_has ls 2 [(0, .ref h0), (1, .int 0)] := hl
  refine Kan8 hC (fun hx hb hr hml hB hown hlocks hnm => ?_)
  refine lv_aload_n hx hb gX12_need_0.1 rfl (lv_at0 hl) ?_
  refine lv_aload_n hx hb gX12_need_0.2.1 rfl (lv_at0 hl) ?_
  refine gf_X12_222 hC rfl hK hP 0 rfl rfl gX12_need_0.2.2.1 ?_
  refine lv_if_ne (tgt := 12) hx hb gX12_need_0.2.2.2.1 (by decide) (fun c9 => absurd (by decide) c9) (fun _ => ?_)
  refine lv_iload_n hx hb gX12_need_0.2.2.2.2.1 rfl (lv_at1 hl) ?_
  refine lv_if_ne (tgt := 16) hx hb gX12_need_0.2.2.2.2.2.1 (by decide) (fun c9 => absurd (by decide) c9) (fun _ => ?_)
  refine lv_iconst (v := 1) hx hb gX12_need_0.2.2.2.2.2.2.1 (by decide) ?_
  refine lv_goto (tgt := 17) hx hb gX12_need_0.2.2.2.2.2.2.2.1 (by decide) ?_
  refine pf_X12_222 hC rfl hK hP hD hS 0 (ws' := [(h0, oX12 nw nk mhasKept nt mtaped nr mrowMany mroundOf mroundFrom mouts nm mfromHour mtoHour ns mfrom mto msort 1 mdeep mcoded mlines nl nc nF np ntr nb mbestCost nso nsi nit nsh nsf nss nrc mtraced mdealer mnumber mwhose msize misParted)]) rfl (Nat.le_of_ble_eq_true rfl) rfl (by decide +kernel) (by decide +kernel) gX12_need_0.2.2.2.2.2.2.2.2.2 (fun H locs hP hD hS => ?_)
  refine lv_aload_n hx hb gX12_need_1.1 rfl (lv_at0 hl) ?_
  refine gf_X12_222 hC rfl hK hP 0 rfl rfl gX12_need_1.2.1 ?_
  refine lv_if_ne (tgt := 31) hx hb gX12_need_1.2.2.1 (by decide) (fun _ => ?_) (fun c9 => absurd c9 (by decide))
  refine toQ hQ0 ?_
  exact RV hC hP hD hS [0] () rfl rfl (by decide) (trivial) gX12_need_1.2.2.2.2.2
def K_m_need1X (l : Launch) (G : GG) (h0 : Nat) (nw : Nat) (nk : Nat) (mhasKept : Int32) (nt : Nat) (ktp : Nat) (nr : Nat) (mrowMany : Int32) (mroundOf : Int32) (mroundFrom : Int32) (mouts : Int32) (nm : Nat) (mfromHour : Int32) (mtoHour : Int32) (ns : Nat) (ks : Nat) (mdeep : Int32) (mcoded : Int32) (mlines : Int32) (nl : Nat) (nc : Nat) (nF : Nat) (np : Nat) (ntr : Nat) (nb : Nat) (mbestCost : Int32) (nso : Nat) (nsi : Nat) (nit : Nat) (nsh : Nat) (nsf : Nat) (nss : Nat) (nrc : Nat) (mtraced : Int32) (mdealer : Int32) (mnumber : Int32) (mwhose : Int32) (msize : Int32) (misParted : Int32) (fnt : Nat → Int32) (bt : Nat → Int32) : Prop := MV l G yX12_need cX12_need 2 4 0 0 [.ref h0, .int 1] [(h0, oX12 nw nk mhasKept nt (nI ktp) nr mrowMany mroundOf mroundFrom mouts nm mfromHour mtoHour ns (nI ks) (nI (TKE bt ktp ks)) (nI (TKN bt ktp ks)) 0 mdeep mcoded mlines nl nc nF np ntr nb mbestCost nso nsi nit nsh nsf nss nrc mtraced mdealer mnumber mwhose msize misParted), (nt, iA G 240 fnt)] (fun u : Unit => True) (fun u : Unit => [(h0, oX12 nw nk mhasKept nt (nI ktp) nr mrowMany mroundOf mroundFrom mouts nm mfromHour mtoHour ns (nI (NXT bt ktp ks)) (nI (TKE bt ktp (NXT bt ktp ks))) (nI (TKN bt ktp (NXT bt ktp ks))) 0 mdeep mcoded mlines nl nc nF np ntr nb mbestCost nso nsi nit nsh nsf nss nrc mtraced mdealer mnumber mwhose msize misParted), (nt, iA G 240 fnt)])
set_option maxHeartbeats 4000000 in
set_option maxRecDepth 100000 in
theorem m_need1X (l : Launch) (G : GG) (h0 : Nat) (nw : Nat) (nk : Nat) (mhasKept : Int32) (nt : Nat) (ktp : Nat) (nr : Nat) (mrowMany : Int32) (mroundOf : Int32) (mroundFrom : Int32) (mouts : Int32) (nm : Nat) (mfromHour : Int32) (mtoHour : Int32) (ns : Nat) (ks : Nat) (mdeep : Int32) (mcoded : Int32) (mlines : Int32) (nl : Nat) (nc : Nat) (nF : Nat) (np : Nat) (ntr : Nat) (nb : Nat) (mbestCost : Int32) (nso : Nat) (nsi : Nat) (nit : Nat) (nsh : Nat) (nsf : Nat) (nss : Nat) (nrc : Nat) (mtraced : Int32) (mdealer : Int32) (mnumber : Int32) (mwhose : Int32) (msize : Int32) (misParted : Int32) (fnt : Nat → Int32) (bt : Nat → Int32) (htp : ktp ≤ 240) (hks : ks ≤ ktp) (hFB : FBT fnt bt ktp) : K_m_need1X l G h0 nw nk mhasKept nt ktp nr mrowMany mroundOf mroundFrom mouts nm mfromHour mtoHour ns ks mdeep mcoded mlines nl nc nF np ntr nb mbestCost nso nsi nit nsh nsf nss nrc mtraced mdealer mnumber mwhose msize misParted fnt bt := by
  refine MV.start (by decide +kernel) (Nat.le_of_ble_eq_true rfl) ?_
  intro p e s m below meth c A ls hC hK hP hD hS hA hl
  refine absQ (fun Q0 hQ0 => ?_)
  have hl : lv_has ls 2 [(0, .ref h0), (1, .int 1)] := hl
  refine Kan8 hC (fun hx hb hr hml hB hown hlocks hnm => ?_)
  refine lv_aload_n hx hb gX12_need_0.1 rfl (lv_at0 hl) ?_
  refine lv_aload_n hx hb gX12_need_0.2.1 rfl (lv_at0 hl) ?_
  refine gf_X12_222 hC rfl hK hP 0 rfl rfl gX12_need_0.2.2.1 ?_
  refine lv_if_ne (tgt := 12) hx hb gX12_need_0.2.2.2.1 (by decide) (fun c9 => absurd (by decide) c9) (fun _ => ?_)
  refine lv_iload_n hx hb gX12_need_0.2.2.2.2.1 rfl (lv_at1 hl) ?_
  refine lv_if_ne (tgt := 16) hx hb gX12_need_0.2.2.2.2.2.1 (by decide) (fun _ => ?_) (fun c9 => absurd c9 (by decide))
  refine lv_iconst (v := 0) hx hb gX12_need_0.2.2.2.2.2.2.2.2.1 (by decide) ?_
  refine pf_X12_222 hC rfl hK hP hD hS 0 (ws' := [(h0, oX12 nw nk mhasKept nt (nI ktp) nr mrowMany mroundOf mroundFrom mouts nm mfromHour mtoHour ns (nI ks) (nI (TKE bt ktp ks)) (nI (TKN bt ktp ks)) 0 mdeep mcoded mlines nl nc nF np ntr nb mbestCost nso nsi nit nsh nsf nss nrc mtraced mdealer mnumber mwhose msize misParted), (nt, iA G 240 fnt)]) rfl (Nat.le_of_ble_eq_true rfl) rfl (by decide +kernel) (by decide +kernel) gX12_need_0.2.2.2.2.2.2.2.2.2 (fun H locs hP hD hS => ?_)
  refine lv_aload_n hx hb gX12_need_1.1 rfl (lv_at0 hl) ?_
  refine gf_X12_222 hC rfl hK hP 0 rfl rfl gX12_need_1.2.1 ?_
  refine lv_if_ne (tgt := 31) hx hb gX12_need_1.2.2.1 (by decide) (fun c9 => absurd (by decide) c9) (fun _ => ?_)
  refine lv_aload_n hx hb gX12_need_1.2.2.2.1 rfl (lv_at0 hl) ?_
  refine vV (wr := []) hC hK hl hP hD hS hA (m_nextT l G h0 nw nk mhasKept nt ktp nr mrowMany mroundOf mroundFrom mouts nm mfromHour mtoHour ns ks 0 mdeep mcoded mlines nl nc nF np ntr nb mbestCost nso nsi nit nsh nsf nss nrc mtraced mdealer mnumber mwhose msize misParted fnt bt (htp) (hks) (hFB)) si_X12_233 [0, 1] [] sm_0_1 fm_0_1 nd_0_1 rfl rfl (by decide) rfl rfl rfl rfl rfl (Nat.le_of_ble_eq_true rfl) rm_4_3_1 ⟨Nat.le_of_ble_eq_true rfl, Nat.le_of_ble_eq_true rfl⟩ gX12_need_1.2.2.2.2.1 (fun u9013 H locs hr9012 hP hD hS => ?_)
  refine Kpdr (ws := [(h0, oX12 nw nk mhasKept nt (nI ktp) nr mrowMany mroundOf mroundFrom mouts nm mfromHour mtoHour ns (nI (NXT bt ktp ks)) (nI (TKE bt ktp (NXT bt ktp ks))) (nI (TKN bt ktp (NXT bt ktp ks))) 0 mdeep mcoded mlines nl nc nF np ntr nb mbestCost nso nsi nit nsh nsf nss nrc mtraced mdealer mnumber mwhose msize misParted), (nt, iA G 240 fnt)]) hP hD (fun hP hD => ?_)
  have xn9014 := NXT.ge (bt := bt) (n := ktp) (s := ks) (by omega)
  refine toQ hQ0 ?_
  exact RV hC hP hD hS [0, 1] () rfl rfl (by decide) (trivial) gX12_need_1.2.2.2.2.2
def K_m_numberF (l : Launch) (G : GG) (h0 : Nat) (mo9 : Int32) (nw : Nat) (nk : Nat) (mhasKept : Int32) (nt : Nat) (mtaped : Int32) (nr : Nat) (mrowMany : Int32) (mroundOf : Int32) (mroundFrom : Int32) (mouts : Int32) (nm : Nat) (mfromHour : Int32) (mtoHour : Int32) (ns : Nat) (mfrom : Int32) (mto : Int32) (msort : Int32) (mdeep : Int32) (mcoded : Int32) (mlines : Int32) (nl : Nat) (nc : Nat) (nF : Nat) (np : Nat) (ntr : Nat) (nb : Nat) (mbestCost : Int32) (nso : Nat) (nsi : Nat) (nit : Nat) (nsh : Nat) (nsf : Nat) (nss : Nat) (nrc : Nat) (mtraced : Int32) (mdealer : Int32) (mnumber : Int32) (mwhose : Int32) (msize : Int32) (misParted : Int32) : Prop := MI l G yX12_number cX12_number 5 (some .int) 5 0 0 [.ref h0, .int mo9] [(h0, oX12 nw nk mhasKept nt mtaped nr mrowMany mroundOf mroundFrom mouts nm mfromHour mtoHour ns mfrom mto msort 1 mdeep mcoded mlines nl nc nF np ntr nb mbestCost nso nsi nit nsh nsf nss nrc mtraced mdealer mnumber mwhose msize misParted)] (fun (r : Int32) (u : Unit) => (r = 0)) (fun u : Unit => [(h0, oX12 nw nk mhasKept nt mtaped nr mrowMany mroundOf mroundFrom mouts nm mfromHour mtoHour ns mfrom mto msort 1 mdeep mcoded mlines nl nc nF np ntr nb mbestCost nso nsi nit nsh nsf nss nrc mtraced mdealer mnumber mwhose msize misParted)])
set_option maxHeartbeats 4000000 in
set_option maxRecDepth 100000 in
theorem m_numberF (l : Launch) (G : GG) (h0 : Nat) (mo9 : Int32) (nw : Nat) (nk : Nat) (mhasKept : Int32) (nt : Nat) (mtaped : Int32) (nr : Nat) (mrowMany : Int32) (mroundOf : Int32) (mroundFrom : Int32) (mouts : Int32) (nm : Nat) (mfromHour : Int32) (mtoHour : Int32) (ns : Nat) (mfrom : Int32) (mto : Int32) (msort : Int32) (mdeep : Int32) (mcoded : Int32) (mlines : Int32) (nl : Nat) (nc : Nat) (nF : Nat) (np : Nat) (ntr : Nat) (nb : Nat) (mbestCost : Int32) (nso : Nat) (nsi : Nat) (nit : Nat) (nsh : Nat) (nsf : Nat) (nss : Nat) (nrc : Nat) (mtraced : Int32) (mdealer : Int32) (mnumber : Int32) (mwhose : Int32) (msize : Int32) (misParted : Int32) : K_m_numberF l G h0 mo9 nw nk mhasKept nt mtaped nr mrowMany mroundOf mroundFrom mouts nm mfromHour mtoHour ns mfrom mto msort mdeep mcoded mlines nl nc nF np ntr nb mbestCost nso nsi nit nsh nsf nss nrc mtraced mdealer mnumber mwhose msize misParted := by
  refine MI.start (by decide +kernel) (Nat.le_of_ble_eq_true rfl) ?_
  intro p e s m below meth c A ls hC hK hP hD hS hA hl
  refine absQ (fun Q0 hQ0 => ?_)
  have hl : lv_has ls 5 [(0, .ref h0), (1, .int mo9)] := hl
  refine Kan8 hC (fun hx hb hr hml hB hown hlocks hnm => ?_)
  refine lv_iconst (v := 0) hx hb gX12_number_0.1 (by decide) ?_
  refine lv_istore_n (lv' := [(2, .int 0), (0, .ref h0), (1, .int mo9)]) hx hb gX12_number_0.2.1 rfl hl (by decide) rfl (fun ls hl => ?_)
  refine lv_aload_n hx hb gX12_number_0.2.2.1 rfl (lv_at1 hl) ?_
  refine gf_X12_222 hC rfl hK hP 0 rfl rfl gX12_number_0.2.2.2.1 ?_
  refine lv_if_ne (tgt := 34) hx hb gX12_number_0.2.2.2.2.1 (by decide) (fun _ => ?_) (fun c9 => absurd c9 (by decide))
  refine lv_iconst (v := 0) hx hb gX12_number_1.2.2.2.2.2.2.2.2.1 (by decide) ?_
  refine lv_istore_n (lv' := [(3, .int 0), (2, .int 0), (0, .ref h0), (1, .int mo9)]) hx hb gX12_number_1.2.2.2.2.2.2.2.2.2 rfl hl (by decide) rfl (fun ls hl => ?_)
  refine lv_aload_n hx hb gX12_number_2.1 rfl (lv_at2 hl) ?_
  refine gf_X12_214 hC rfl hK hP 0 rfl rfl gX12_number_2.2.1 ?_
  refine lv_istore (lv' := [(4, .int mfrom), (3, .int 0), (2, .int 0), (0, .ref h0), (1, .int mo9)]) hx hb gX12_number_2.2.2.1 hl (by decide) rfl (fun ls hl => ?_)
  refine lv_iload_n hx hb gX12_number_2.2.2.2.1 rfl (lv_at1 hl) ?_
  refine lv_if_eq (tgt := 77) hx hb gX12_number_2.2.2.2.2.1 (by decide) (fun _ => ?_) (fun c9 => absurd (by decide) c9)
  refine lv_aload_n hx hb gX12_number_4.2.2.1 rfl (lv_at3 hl) ?_
  refine lv_iload_n hx hb gX12_number_4.2.2.2.1 rfl (lv_at1 hl) ?_
  refine lv_if_eq (tgt := 91) hx hb gX12_number_4.2.2.2.2.1 (by decide) (fun _ => ?_) (fun c9 => absurd (by decide) c9)
  refine lv_iconst (v := 0) hx hb gX12_number_5.1 (by decide) ?_
  refine vV (wr := []) hC hK hl hP hD hS hA (m_needF l G h0 0 nw nk mhasKept nt mtaped nr mrowMany mroundOf mroundFrom mouts nm mfromHour mtoHour ns mfrom mto msort mdeep mcoded mlines nl nc nF np ntr nb mbestCost nso nsi nit nsh nsf nss nrc mtraced mdealer mnumber mwhose msize misParted) si_X12_236 [0] [] sm_0 fm_0 nd_0 rfl rfl (by decide) rfl rfl rfl rfl rfl (Nat.le_of_ble_eq_true rfl) rm_5_4_2 ⟨Nat.le_of_ble_eq_true rfl, Nat.le_of_ble_eq_true rfl⟩ gX12_number_5.2.1 (fun u9016 H locs hr9015 hP hD hS => ?_)
  refine Kpdr (ws := [(h0, oX12 nw nk mhasKept nt mtaped nr mrowMany mroundOf mroundFrom mouts nm mfromHour mtoHour ns mfrom mto msort 1 mdeep mcoded mlines nl nc nF np ntr nb mbestCost nso nsi nit nsh nsf nss nrc mtraced mdealer mnumber mwhose msize misParted)]) hP hD (fun hP hD => ?_)
  refine lv_iload_n hx hb gX12_number_5.2.2.1 rfl (lv_at2 hl) ?_
  refine toQ hQ0 ?_
  exact RI (v := 0) hC hP hD hS [0] () rfl rfl (by decide) (rfl) rfl gX12_number_5.2.2.2
def K_m_numberX (l : Launch) (G : GG) (h0 : Nat) (mq : Nat) (nw : Nat) (nk : Nat) (mhasKept : Int32) (nt : Nat) (ktp : Nat) (nr : Nat) (mrowMany : Int32) (mroundOf : Int32) (mroundFrom : Int32) (mouts : Int32) (nm : Nat) (mfromHour : Int32) (mtoHour : Int32) (ns : Nat) (ks : Nat) (mdeep : Int32) (mcoded : Int32) (mlines : Int32) (nl : Nat) (nc : Nat) (nF : Nat) (np : Nat) (ntr : Nat) (nb : Nat) (mbestCost : Int32) (nso : Nat) (nsi : Nat) (nit : Nat) (nsh : Nat) (nsf : Nat) (nss : Nat) (nrc : Nat) (mtraced : Int32) (mdealer : Int32) (mnumber : Int32) (mwhose : Int32) (msize : Int32) (misParted : Int32) (fnt : Nat → Int32) (bt : Nat → Int32) : Prop := MI l G yX12_number cX12_number 5 (some .int) 5 0 0 [.ref h0, .int (nI mq)] [(h0, oX12 nw nk mhasKept nt (nI ktp) nr mrowMany mroundOf mroundFrom mouts nm mfromHour mtoHour ns (nI ks) (nI (TKE bt ktp ks)) (nI (TKN bt ktp ks)) 0 mdeep mcoded mlines nl nc nF np ntr nb mbestCost nso nsi nit nsh nsf nss nrc mtraced mdealer mnumber mwhose msize misParted), (nt, iA G 240 fnt)] (fun (r : Int32) (u : Int32 × Nat) => (True) ∧ ((0 = u.1 ∧ NXT bt ktp ks = u.2 ∧ nI (NVL bt ktp ks) = r ∧ NML bt ktp mq ks = some (NVL bt ktp ks)) ∨ (1 = u.1 ∧ ks = u.2 ∧ NML bt ktp mq ks = none))) (fun u : Int32 × Nat => [(h0, oX12 nw nk mhasKept nt (nI ktp) nr mrowMany mroundOf mroundFrom mouts nm mfromHour mtoHour ns (nI u.2) (nI (TKE bt ktp u.2)) (nI (TKN bt ktp u.2)) u.1 mdeep mcoded mlines nl nc nF np ntr nb mbestCost nso nsi nit nsh nsf nss nrc mtraced mdealer mnumber mwhose msize misParted), (nt, iA G 240 fnt)])
set_option maxHeartbeats 4000000 in
set_option maxRecDepth 100000 in
theorem m_numberX (l : Launch) (G : GG) (h0 : Nat) (mq : Nat) (nw : Nat) (nk : Nat) (mhasKept : Int32) (nt : Nat) (ktp : Nat) (nr : Nat) (mrowMany : Int32) (mroundOf : Int32) (mroundFrom : Int32) (mouts : Int32) (nm : Nat) (mfromHour : Int32) (mtoHour : Int32) (ns : Nat) (ks : Nat) (mdeep : Int32) (mcoded : Int32) (mlines : Int32) (nl : Nat) (nc : Nat) (nF : Nat) (np : Nat) (ntr : Nat) (nb : Nat) (mbestCost : Int32) (nso : Nat) (nsi : Nat) (nit : Nat) (nsh : Nat) (nsf : Nat) (nss : Nat) (nrc : Nat) (mtraced : Int32) (mdealer : Int32) (mnumber : Int32) (mwhose : Int32) (msize : Int32) (misParted : Int32) (fnt : Nat → Int32) (bt : Nat → Int32) (htp : ktp ≤ 240) (hks : ks ≤ ktp) (hFB : FBT fnt bt ktp) (hmq : mq ≤ 999) : K_m_numberX l G h0 mq nw nk mhasKept nt ktp nr mrowMany mroundOf mroundFrom mouts nm mfromHour mtoHour ns ks mdeep mcoded mlines nl nc nF np ntr nb mbestCost nso nsi nit nsh nsf nss nrc mtraced mdealer mnumber mwhose msize misParted fnt bt := by
  refine MI.start (by decide +kernel) (Nat.le_of_ble_eq_true rfl) ?_
  intro p e s m below meth c A ls hC hK hP hD hS hA hl
  refine absQ (fun Q0 hQ0 => ?_)
  have hl : lv_has ls 5 [(0, .ref h0), (1, .int (nI mq))] := hl
  refine Kan8 hC (fun hx hb hr hml hB hown hlocks hnm => ?_)
  have tk0 := TKE.ge (bt := bt) (n := ktp) (s := ks) hks
  have tk3 := TKN.le3 bt ktp ks
  refine lv_iconst (v := 0) hx hb gX12_number_0.1 (by decide) ?_
  refine lv_istore_n (lv' := [(2, .int 0), (0, .ref h0), (1, .int (nI mq))]) hx hb gX12_number_0.2.1 rfl hl (by decide) rfl (fun ls hl => ?_)
  refine lv_aload_n hx hb gX12_number_0.2.2.1 rfl (lv_at1 hl) ?_
  refine gf_X12_222 hC rfl hK hP 0 rfl rfl gX12_number_0.2.2.2.1 ?_
  refine lv_if_ne (tgt := 34) hx hb gX12_number_0.2.2.2.2.1 (by decide) (fun c9 => absurd (by decide) c9) (fun _ => ?_)
  refine lv_aload_n hx hb gX12_number_0.2.2.2.2.2.1 rfl (lv_at1 hl) ?_
  refine gf_X12_217 hC rfl hK hP 0 rfl rfl gX12_number_0.2.2.2.2.2.2.1 ?_
  refine lv_iconst (v := 2) hx hb gX12_number_0.2.2.2.2.2.2.2.1 (by decide) ?_
  refine lv_icmp_ne (tgt := 34) hx hb gX12_number_0.2.2.2.2.2.2.2.2.1 (by decide) (fun c_14_9017 => ?_) (fun c_14_9017 => ?_)
  · have nb9018 : ¬ (TKN bt ktp ks) = 2 := fun h9 => c_14_9017 ((nI_eq (a := (TKN bt ktp ks)) (b := 2) (by omega) (by omega)).mpr h9)
    refine lv_iconst (v := 0) hx hb gX12_number_1.2.2.2.2.2.2.2.2.1 (by decide) ?_
    refine lv_istore_n (lv' := [(3, .int 0), (2, .int 0), (0, .ref h0), (1, .int (nI mq))]) hx hb gX12_number_1.2.2.2.2.2.2.2.2.2 rfl hl (by decide) rfl (fun ls hl => ?_)
    refine lv_aload_n hx hb gX12_number_2.1 rfl (lv_at2 hl) ?_
    refine gf_X12_214 hC rfl hK hP 0 rfl rfl gX12_number_2.2.1 ?_
    refine lv_istore (lv' := [(4, .int (nI ks)), (3, .int 0), (2, .int 0), (0, .ref h0), (1, .int (nI mq))]) hx hb gX12_number_2.2.2.1 hl (by decide) rfl (fun ls hl => ?_)
    refine lv_iload_n hx hb gX12_number_2.2.2.2.1 rfl (lv_at1 hl) ?_
    refine lv_if_eq (tgt := 77) hx hb gX12_number_2.2.2.2.2.1 (by decide) (fun _ => ?_) (fun c9 => absurd (by decide) c9)
    refine lv_aload_n hx hb gX12_number_4.2.2.1 rfl (lv_at3 hl) ?_
    refine lv_iload_n hx hb gX12_number_4.2.2.2.1 rfl (lv_at1 hl) ?_
    refine lv_if_eq (tgt := 91) hx hb gX12_number_4.2.2.2.2.1 (by decide) (fun _ => ?_) (fun c9 => absurd (by decide) c9)
    refine lv_iconst (v := 0) hx hb gX12_number_5.1 (by decide) ?_
    refine vV (wr := [(nt, iA G 240 fnt)]) hC hK hl hP hD hS hA (m_need0 l G h0 nw nk mhasKept nt (nI ktp) nr mrowMany mroundOf mroundFrom mouts nm mfromHour mtoHour ns (nI ks) (nI (TKE bt ktp ks)) (nI (TKN bt ktp ks)) mdeep mcoded mlines nl nc nF np ntr nb mbestCost nso nsi nit nsh nsf nss nrc mtraced mdealer mnumber mwhose msize misParted) si_X12_236 [0] [1] sm_0 fm_0 nd_0 sm_1 nd_1 dj_0__1 rfl rfl rfl rfl rfl (Nat.le_of_ble_eq_true rfl) rm_5_4_2 ⟨Nat.le_of_ble_eq_true rfl, Nat.le_of_ble_eq_true rfl⟩ gX12_number_5.2.1 (fun u9021 H locs hr9020 hP hD hS => ?_)
    refine Kpdr (ws := [(nt, iA G 240 fnt), (h0, oX12 nw nk mhasKept nt (nI ktp) nr mrowMany mroundOf mroundFrom mouts nm mfromHour mtoHour ns (nI ks) (nI (TKE bt ktp ks)) (nI (TKN bt ktp ks)) 1 mdeep mcoded mlines nl nc nF np ntr nb mbestCost nso nsi nit nsh nsf nss nrc mtraced mdealer mnumber mwhose msize misParted)]) hP hD (fun hP hD => ?_)
    refine lv_iload_n hx hb gX12_number_5.2.2.1 rfl (lv_at2 hl) ?_
    refine toQ hQ0 ?_
    exact RI (v := 0) hC hP hD hS [1, 0] (1, ks) rfl rfl (by decide) (⟨trivial, Or.inr ⟨rfl, rfl, NML.n (NMO.n (fun h9 => absurd h9 (by omega)))⟩⟩) rfl gX12_number_5.2.2.2
  · have nb9019 : (TKN bt ktp ks) = 2 := (nI_eq (a := (TKN bt ktp ks)) (b := 2) (by omega) (by omega)).mp c_14_9017
    refine lv_aload_n hx hb gX12_number_0.2.2.2.2.2.2.2.2.2 rfl (lv_at1 hl) ?_
    refine gf_X12_211 hC rfl hK hP 0 rfl rfl gX12_number_1.1 ?_
    refine lv_aload_n hx hb gX12_number_1.2.1 rfl (lv_at1 hl) ?_
    refine gf_X12_214 hC rfl hK hP 0 rfl rfl gX12_number_1.2.2.1 ?_
    refine lv_isub hx hb gX12_number_1.2.2.2.1 ?_
    refine eqi (x1 := nI (TKE bt ktp ks - ks)) (nI_subT (by omega)) ?_
    refine lv_iconst (v := 3) hx hb gX12_number_1.2.2.2.2.1 (by decide) ?_
    refine lv_icmp_gt (tgt := 34) hx hb gX12_number_1.2.2.2.2.2.1 (by decide) (fun c_27_9022 => ?_) (fun c_27_9022 => ?_)
    · have nb9023 : 3 < (TKE bt ktp ks - ks) := (nI_ltI (a := 3) (b := (TKE bt ktp ks - ks)) (by omega) (by omega)).mp c_27_9022
      refine lv_iconst (v := 0) hx hb gX12_number_1.2.2.2.2.2.2.2.2.1 (by decide) ?_
      refine lv_istore_n (lv' := [(3, .int 0), (2, .int 0), (0, .ref h0), (1, .int (nI mq))]) hx hb gX12_number_1.2.2.2.2.2.2.2.2.2 rfl hl (by decide) rfl (fun ls hl => ?_)
      refine lv_aload_n hx hb gX12_number_2.1 rfl (lv_at2 hl) ?_
      refine gf_X12_214 hC rfl hK hP 0 rfl rfl gX12_number_2.2.1 ?_
      refine lv_istore (lv' := [(4, .int (nI ks)), (3, .int 0), (2, .int 0), (0, .ref h0), (1, .int (nI mq))]) hx hb gX12_number_2.2.2.1 hl (by decide) rfl (fun ls hl => ?_)
      refine lv_iload_n hx hb gX12_number_2.2.2.2.1 rfl (lv_at1 hl) ?_
      refine lv_if_eq (tgt := 77) hx hb gX12_number_2.2.2.2.2.1 (by decide) (fun _ => ?_) (fun c9 => absurd (by decide) c9)
      refine lv_aload_n hx hb gX12_number_4.2.2.1 rfl (lv_at3 hl) ?_
      refine lv_iload_n hx hb gX12_number_4.2.2.2.1 rfl (lv_at1 hl) ?_
      refine lv_if_eq (tgt := 91) hx hb gX12_number_4.2.2.2.2.1 (by decide) (fun _ => ?_) (fun c9 => absurd (by decide) c9)
      refine lv_iconst (v := 0) hx hb gX12_number_5.1 (by decide) ?_
      refine vV (wr := [(nt, iA G 240 fnt)]) hC hK hl hP hD hS hA (m_need0 l G h0 nw nk mhasKept nt (nI ktp) nr mrowMany mroundOf mroundFrom mouts nm mfromHour mtoHour ns (nI ks) (nI (TKE bt ktp ks)) (nI (TKN bt ktp ks)) mdeep mcoded mlines nl nc nF np ntr nb mbestCost nso nsi nit nsh nsf nss nrc mtraced mdealer mnumber mwhose msize misParted) si_X12_236 [0] [1] sm_0 fm_0 nd_0 sm_1 nd_1 dj_0__1 rfl rfl rfl rfl rfl (Nat.le_of_ble_eq_true rfl) rm_5_4_2 ⟨Nat.le_of_ble_eq_true rfl, Nat.le_of_ble_eq_true rfl⟩ gX12_number_5.2.1 (fun u9026 H locs hr9025 hP hD hS => ?_)
      refine Kpdr (ws := [(nt, iA G 240 fnt), (h0, oX12 nw nk mhasKept nt (nI ktp) nr mrowMany mroundOf mroundFrom mouts nm mfromHour mtoHour ns (nI ks) (nI (TKE bt ktp ks)) (nI (TKN bt ktp ks)) 1 mdeep mcoded mlines nl nc nF np ntr nb mbestCost nso nsi nit nsh nsf nss nrc mtraced mdealer mnumber mwhose msize misParted)]) hP hD (fun hP hD => ?_)
      refine lv_iload_n hx hb gX12_number_5.2.2.1 rfl (lv_at2 hl) ?_
      refine toQ hQ0 ?_
      exact RI (v := 0) hC hP hD hS [1, 0] (1, ks) rfl rfl (by decide) (⟨trivial, Or.inr ⟨rfl, rfl, NML.n (NMO.n (fun h9 => absurd h9 (by omega)))⟩⟩) rfl gX12_number_5.2.2.2
    · have nb9024 : ¬ 3 < (TKE bt ktp ks - ks) := fun h9 => c_27_9022 ((nI_ltI (a := 3) (b := (TKE bt ktp ks - ks)) (by omega) (by omega)).mpr h9)
      refine lv_iconst (v := 1) hx hb gX12_number_1.2.2.2.2.2.2.1 (by decide) ?_
      refine lv_goto (tgt := 35) hx hb gX12_number_1.2.2.2.2.2.2.2.1 (by decide) ?_
      refine lv_istore_n (lv' := [(3, .int 1), (2, .int 0), (0, .ref h0), (1, .int (nI mq))]) hx hb gX12_number_1.2.2.2.2.2.2.2.2.2 rfl hl (by decide) rfl (fun ls hl => ?_)
      refine lv_aload_n hx hb gX12_number_2.1 rfl (lv_at2 hl) ?_
      refine gf_X12_214 hC rfl hK hP 0 rfl rfl gX12_number_2.2.1 ?_
      refine lv_istore (lv' := [(4, .int (nI ks)), (3, .int 1), (2, .int 0), (0, .ref h0), (1, .int (nI mq))]) hx hb gX12_number_2.2.2.1 hl (by decide) rfl (fun ls hl => ?_)
      have hT2 : TKN bt ktp ks = 2 := by omega
      have keyP : ∀ (nP kP : Nat) (vv : Nat) (H : Heap) (locs : List Loc) (ls : Array Slot), kP + nP = (TKE bt ktp ks) → (VLF bt ks (kP - ks) = vv) → ((kP = ks ∧ vv = 0) ∨ (kP = ks + 1 ∧ vv ≤ 9) ∨ (kP = ks + 2 ∧ vv ≤ 99) ∨ (kP = ks + 3 ∧ vv ≤ 999)) → va_PD G A [(h0, oX12 nw nk mhasKept nt (nI ktp) nr mrowMany mroundOf mroundFrom mouts nm mfromHour mtoHour ns (nI ks) (nI (TKE bt ktp ks)) (nI (TKN bt ktp ks)) 0 mdeep mcoded mlines nl nc nF np ntr nb mbestCost nso nsi nit nsh nsf nss nrc mtraced mdealer mnumber mwhose msize misParted), (nt, iA G 240 fnt)] H → va_S A s.heap H locs → lv_has ls 5 [(4, .int (nI kP)), (3, .int 1), (2, .int (nI vv)), (0, .ref h0), (1, .int (nI mq))] → W p l e (RM 5 0 0) s m ([.ref h0, .int (nI mq)] : List Value).toArray below meth c H locs 0 0 Q0 (F0 m 42 ls []) := by
        intro nP
        induction nP with
        | zero =>
          intro kP vv H locs ls hkP hvv hvb hPD hS hl
          refine Kan2 hPD (fun hP hD => ?_)
          obtain rfl : (TKE bt ktp ks) = kP := by omega
          have hl : lv_has ls 5 [(4, .int (nI (TKE bt ktp ks))), (3, .int 1), (2, .int (nI vv)), (0, .ref h0), (1, .int (nI mq))] := hl
          refine lv_iload_n hx hb gX12_number_2.2.2.2.1 rfl (lv_at1 hl) ?_
          refine lv_if_eq (tgt := 77) hx hb gX12_number_2.2.2.2.2.1 (by decide) (fun c9 => absurd c9 (by decide)) (fun _ => ?_)
          refine lv_iload hx hb gX12_number_2.2.2.2.2.2.1 (lv_at0 hl) ?_
          refine lv_aload_n hx hb gX12_number_2.2.2.2.2.2.2.1 rfl (lv_at3 hl) ?_
          refine gf_X12_211 hC rfl hK hP 0 rfl rfl gX12_number_2.2.2.2.2.2.2.2.1 ?_
          refine lv_icmp_ge (tgt := 77) hx hb gX12_number_2.2.2.2.2.2.2.2.2.1 (by decide) (fun _ => ?_) (fun c9 => absurd (Int32.le_refl _) c9)
          refine lv_aload_n hx hb gX12_number_4.2.2.1 rfl (lv_at3 hl) ?_
          refine lv_iload_n hx hb gX12_number_4.2.2.2.1 rfl (lv_at1 hl) ?_
          refine lv_if_eq (tgt := 91) hx hb gX12_number_4.2.2.2.2.1 (by decide) (fun c9 => absurd c9 (by decide)) (fun _ => ?_)
          refine lv_iload_n hx hb gX12_number_4.2.2.2.2.2.1 rfl (lv_at2 hl) ?_
          refine lv_iload_n hx hb gX12_number_4.2.2.2.2.2.2.1 rfl (lv_at4 hl) ?_
          refine lv_icmp_gt (tgt := 91) hx hb gX12_number_4.2.2.2.2.2.2.2.1 (by decide) (fun c_84_9027 => ?_) (fun c_84_9027 => ?_)
          · have nb9028 : mq < vv := (nI_ltI (a := mq) (b := vv) (by omega) (by omega)).mp c_84_9027
            refine lv_iconst (v := 0) hx hb gX12_number_5.1 (by decide) ?_
            refine vV (wr := [(nt, iA G 240 fnt)]) hC hK hl hP hD hS hA (m_need0 l G h0 nw nk mhasKept nt (nI ktp) nr mrowMany mroundOf mroundFrom mouts nm mfromHour mtoHour ns (nI ks) (nI (TKE bt ktp ks)) (nI (TKN bt ktp ks)) mdeep mcoded mlines nl nc nF np ntr nb mbestCost nso nsi nit nsh nsf nss nrc mtraced mdealer mnumber mwhose msize misParted) si_X12_236 [0] [1] sm_0 fm_0 nd_0 sm_1 nd_1 dj_0__1 rfl rfl rfl rfl rfl (Nat.le_of_ble_eq_true rfl) rm_5_4_2 ⟨Nat.le_of_ble_eq_true rfl, Nat.le_of_ble_eq_true rfl⟩ gX12_number_5.2.1 (fun u9031 H locs hr9030 hP hD hS => ?_)
            refine Kpdr (ws := [(nt, iA G 240 fnt), (h0, oX12 nw nk mhasKept nt (nI ktp) nr mrowMany mroundOf mroundFrom mouts nm mfromHour mtoHour ns (nI ks) (nI (TKE bt ktp ks)) (nI (TKN bt ktp ks)) 1 mdeep mcoded mlines nl nc nF np ntr nb mbestCost nso nsi nit nsh nsf nss nrc mtraced mdealer mnumber mwhose msize misParted)]) hP hD (fun hP hD => ?_)
            refine lv_iload_n hx hb gX12_number_5.2.2.1 rfl (lv_at2 hl) ?_
            refine toQ hQ0 ?_
            exact RI (v := nI vv) hC hP hD hS [1, 0] (1, ks) rfl rfl (by decide) (⟨trivial, Or.inr ⟨rfl, rfl, NML.b (NMO.y hT2 (by omega)) (show ¬ VLF bt ks (TKE bt ktp ks - ks) ≤ mq from by rw [hvv]; omega)⟩⟩) rfl gX12_number_5.2.2.2
          · have nb9029 : ¬ mq < vv := fun h9 => c_84_9027 ((nI_ltI (a := mq) (b := vv) (by omega) (by omega)).mpr h9)
            refine lv_iconst (v := 1) hx hb gX12_number_4.2.2.2.2.2.2.2.2.1 (by decide) ?_
            refine lv_goto (tgt := 92) hx hb gX12_number_4.2.2.2.2.2.2.2.2.2 (by decide) ?_
            refine vV (wr := []) hC hK hl hP hD hS hA (m_need1X l G h0 nw nk mhasKept nt ktp nr mrowMany mroundOf mroundFrom mouts nm mfromHour mtoHour ns ks mdeep mcoded mlines nl nc nF np ntr nb mbestCost nso nsi nit nsh nsf nss nrc mtraced mdealer mnumber mwhose msize misParted fnt bt (htp) (hks) (hFB)) si_X12_236 [0, 1] [] sm_0_1 fm_0_1 nd_0_1 rfl rfl (by decide) rfl rfl rfl rfl rfl (Nat.le_of_ble_eq_true rfl) rm_5_4_2 ⟨Nat.le_of_ble_eq_true rfl, Nat.le_of_ble_eq_true rfl⟩ gX12_number_5.2.1 (fun u9033 H locs hr9032 hP hD hS => ?_)
            refine Kpdr (ws := [(h0, oX12 nw nk mhasKept nt (nI ktp) nr mrowMany mroundOf mroundFrom mouts nm mfromHour mtoHour ns (nI (NXT bt ktp ks)) (nI (TKE bt ktp (NXT bt ktp ks))) (nI (TKN bt ktp (NXT bt ktp ks))) 0 mdeep mcoded mlines nl nc nF np ntr nb mbestCost nso nsi nit nsh nsf nss nrc mtraced mdealer mnumber mwhose msize misParted), (nt, iA G 240 fnt)]) hP hD (fun hP hD => ?_)
            have xn9034 := NXT.ge (bt := bt) (n := ktp) (s := ks) (by omega)
            refine lv_iload_n hx hb gX12_number_5.2.2.1 rfl (lv_at2 hl) ?_
            refine toQ hQ0 ?_
            exact RI (v := nI vv) hC hP hD hS [0, 1] (0, (NXT bt ktp ks)) rfl rfl (by decide) (⟨trivial, Or.inl ⟨rfl, rfl, congrArg nI hvv, NML.y (NMO.y hT2 (by omega)) (show VLF bt ks (TKE bt ktp ks - ks) ≤ mq from by rw [hvv]; omega)⟩⟩) rfl gX12_number_5.2.2.2
        | succ nP ihP =>
          intro kP vv H locs ls hkP hvv hvb hPD hS hl
          refine Kan2 hPD (fun hP hD => ?_)
          refine lv_iload_n hx hb gX12_number_2.2.2.2.1 rfl (lv_at1 hl) ?_
          refine lv_if_eq (tgt := 77) hx hb gX12_number_2.2.2.2.2.1 (by decide) (fun c9 => absurd c9 (by decide)) (fun _ => ?_)
          refine lv_iload hx hb gX12_number_2.2.2.2.2.2.1 (lv_at0 hl) ?_
          refine lv_aload_n hx hb gX12_number_2.2.2.2.2.2.2.1 rfl (lv_at3 hl) ?_
          refine gf_X12_211 hC rfl hK hP 0 rfl rfl gX12_number_2.2.2.2.2.2.2.2.1 ?_
          refine lv_icmp_ge (tgt := 77) hx hb gX12_number_2.2.2.2.2.2.2.2.2.1 (by decide) (fun c9 => absurd c9 (nI_ge (a := kP) (b := (TKE bt ktp ks)) (by omega) (by omega))) (fun _ => ?_)
          refine lv_bipush (v := 10) hx hb gX12_number_2.2.2.2.2.2.2.2.2.2 (by decide) ?_
          refine lv_iload_n hx hb gX12_number_3.1 rfl (lv_at2 hl) ?_
          refine lv_imul hx hb gX12_number_3.2.1 ?_
          refine eqi (x1 := nI (10 * vv)) (nI_mul 10 vv) ?_
          refine lv_aload_n hx hb gX12_number_3.2.2.1 rfl (lv_at3 hl) ?_
          refine gf_X12_16 hC rfl hK hP 0 rfl rfl gX12_number_3.2.2.2.1 ?_
          refine lv_iload hx hb gX12_number_3.2.2.2.2.1 (lv_at0 hl) ?_
          refine aldN hC hK hP 1 rfl (k := kP) (by omega) (Nat.le_of_ble_eq_true rfl) (v := fnt kP) rfl gX12_number_3.2.2.2.2.2.1 ?_
          obtain ⟨dd, hdd, edd⟩ := DGS.at hks hT2 (k := kP) (by omega) (by omega)
          refine eqi (x1 := nI (48 + dd)) ((hFB _ (by omega)).trans edd) ?_
          refine lv_iadd hx hb gX12_number_3.2.2.2.2.2.2.1 ?_
          refine eqi (x1 := nI (10 * vv + (48 + dd))) (nI_add (10 * vv) (48 + dd)) ?_
          refine lv_bipush (v := 48) hx hb gX12_number_3.2.2.2.2.2.2.2.1 (by decide) ?_
          refine lv_isub hx hb gX12_number_3.2.2.2.2.2.2.2.2.1 ?_
          refine eqi (x1 := nI (10 * vv + dd)) ((nI_subT (b := 48) (by omega)).trans (congrArg nI (by omega))) ?_
          refine lv_istore_n (lv' := [(2, .int (nI (10 * vv + dd))), (4, .int (nI kP)), (3, .int 1), (0, .ref h0), (1, .int (nI mq))]) hx hb gX12_number_3.2.2.2.2.2.2.2.2.2 rfl hl (by decide) rfl (fun ls hl => ?_)
          refine lv_iinc (v := nI (kP + 1)) (lv' := [(4, .int (nI (kP + 1))), (2, .int (nI (10 * vv + dd))), (3, .int 1), (0, .ref h0), (1, .int (nI mq))]) hx hb gX12_number_4.1 hl (k := 1) rfl (nI_1 _) (by decide) rfl (fun ls hl => ?_)
          refine lv_goto (tgt := 42) hx hb gX12_number_4.2.1 (by decide) ?_
          exact ihP (kP + 1) (10 * vv + dd) _ _ _ (by omega) (by first | assumption | exact Or.inl rfl | exact Or.inr rfl | omega | exact VLF.zz | exact VLF.nx2 hvv (by omega) hdd edd) (by first | assumption | exact Or.inl rfl | exact Or.inr rfl | omega | exact VLF.zz | exact VLF.nx2 hvv (by omega) hdd edd) (And.intro hP hD) hS (lv_sub hl [0, 2, 1, 3, 4] rfl)
      exact keyP ((TKE bt ktp ks) - ks) ks 0 _ _ _ (by omega) (by first | assumption | exact Or.inl rfl | exact Or.inr rfl | omega | exact VLF.zz | exact VLF.nx2 hvv (by omega) hdd edd) (by first | assumption | exact Or.inl rfl | exact Or.inr rfl | omega | exact VLF.zz | exact VLF.nx2 hvv (by omega) hdd edd) (And.intro hP hD) hS (lv_sub hl [0, 1, 2, 3, 4] rfl)
def K_m_codesF (l : Launch) (G : GG) (h0 : Nat) (vv : Int32) (nw : Nat) (nk : Nat) (mhasKept : Int32) (nt : Nat) (mtaped : Int32) (nr : Nat) (mrowMany : Int32) (mroundOf : Int32) (mroundFrom : Int32) (mouts : Int32) (nm : Nat) (mfromHour : Int32) (mtoHour : Int32) (ns : Nat) (mfrom : Int32) (mto : Int32) (msort : Int32) (mdeep : Int32) (mcoded : Int32) (mlines : Int32) (nl : Nat) (nc : Nat) (nF : Nat) (np : Nat) (ntr : Nat) (nb : Nat) (mbestCost : Int32) (nso : Nat) (nsi : Nat) (nit : Nat) (nsh : Nat) (nsf : Nat) (nss : Nat) (nrc : Nat) (mtraced : Int32) (mdealer : Int32) (mnumber : Int32) (mwhose : Int32) (msize : Int32) (misParted : Int32) : Prop := MV l G yX12_codes cX12_codes 2 1 0 0 [.ref h0, .int vv] [(h0, oX12 nw nk mhasKept nt mtaped nr mrowMany mroundOf mroundFrom mouts nm mfromHour mtoHour ns mfrom mto msort 1 mdeep mcoded mlines nl nc nF np ntr nb mbestCost nso nsi nit nsh nsf nss nrc mtraced mdealer mnumber mwhose msize misParted)] (fun u : Unit => True) (fun u : Unit => [(h0, oX12 nw nk mhasKept nt mtaped nr mrowMany mroundOf mroundFrom mouts nm mfromHour mtoHour ns mfrom mto msort 1 mdeep mcoded mlines nl nc nF np ntr nb mbestCost nso nsi nit nsh nsf nss nrc mtraced mdealer mnumber mwhose msize misParted)])
set_option maxHeartbeats 4000000 in
set_option maxRecDepth 100000 in
theorem m_codesF (l : Launch) (G : GG) (h0 : Nat) (vv : Int32) (nw : Nat) (nk : Nat) (mhasKept : Int32) (nt : Nat) (mtaped : Int32) (nr : Nat) (mrowMany : Int32) (mroundOf : Int32) (mroundFrom : Int32) (mouts : Int32) (nm : Nat) (mfromHour : Int32) (mtoHour : Int32) (ns : Nat) (mfrom : Int32) (mto : Int32) (msort : Int32) (mdeep : Int32) (mcoded : Int32) (mlines : Int32) (nl : Nat) (nc : Nat) (nF : Nat) (np : Nat) (ntr : Nat) (nb : Nat) (mbestCost : Int32) (nso : Nat) (nsi : Nat) (nit : Nat) (nsh : Nat) (nsf : Nat) (nss : Nat) (nrc : Nat) (mtraced : Int32) (mdealer : Int32) (mnumber : Int32) (mwhose : Int32) (msize : Int32) (misParted : Int32) : K_m_codesF l G h0 vv nw nk mhasKept nt mtaped nr mrowMany mroundOf mroundFrom mouts nm mfromHour mtoHour ns mfrom mto msort mdeep mcoded mlines nl nc nF np ntr nb mbestCost nso nsi nit nsh nsf nss nrc mtraced mdealer mnumber mwhose msize misParted := by
  refine MV.start (by decide +kernel) (Nat.le_of_ble_eq_true rfl) ?_
  intro p e s m below meth c A ls hC hK hP hD hS hA hl
  refine absQ (fun Q0 hQ0 => ?_)
  have hl : lv_has ls 2 [(0, .ref h0), (1, .int vv)] := hl
  refine Kan8 hC (fun hx hb hr hml hB hown hlocks hnm => ?_)
  refine lv_aload_n hx hb gX12_codes_0.1 rfl (lv_at0 hl) ?_
  refine gf_X12_222 hC rfl hK hP 0 rfl rfl gX12_codes_0.2.1 ?_
  refine lv_if_ne (tgt := 27) hx hb gX12_codes_0.2.2.1 (by decide) (fun _ => ?_) (fun c9 => absurd c9 (by decide))
  refine toQ hQ0 ?_
  exact RV hC hP hD hS [0] () rfl rfl (by decide) (trivial) gX12_codes_1.2.2.2.2.2
def K_m_codes0 (l : Launch) (G : GG) (h0 : Nat) (vv : Int32) (nw : Nat) (nk : Nat) (mhasKept : Int32) (nt : Nat) (mtaped : Int32) (nr : Nat) (mrowMany : Int32) (mroundOf : Int32) (mroundFrom : Int32) (mouts : Int32) (nm : Nat) (mfromHour : Int32) (mtoHour : Int32) (ns : Nat) (mfrom : Int32) (mto : Int32) (msort : Int32) (mdeep : Int32) (kc : Nat) (mlines : Int32) (nl : Nat) (nc : Nat) (nF : Nat) (np : Nat) (ntr : Nat) (nb : Nat) (mbestCost : Int32) (nso : Nat) (nsi : Nat) (nit : Nat) (nsh : Nat) (nsf : Nat) (nss : Nat) (nrc : Nat) (mtraced : Int32) (mdealer : Int32) (mnumber : Int32) (mwhose : Int32) (msize : Int32) (misParted : Int32) (fnc : Nat → Int32) : Prop := MV l G yX12_codes cX12_codes 2 1 0 0 [.ref h0, .int vv] [(h0, oX12 nw nk mhasKept nt mtaped nr mrowMany mroundOf mroundFrom mouts nm mfromHour mtoHour ns mfrom mto msort 0 mdeep (nI kc) mlines nl nc nF np ntr nb mbestCost nso nsi nit nsh nsf nss nrc mtraced mdealer mnumber mwhose msize misParted), (nc, iA G 100 fnc)] (fun u : Unit => True) (fun u : Unit => [(h0, oX12 nw nk mhasKept nt mtaped nr mrowMany mroundOf mroundFrom mouts nm mfromHour mtoHour ns mfrom mto msort 0 mdeep (nI (kc + 1)) mlines nl nc nF np ntr nb mbestCost nso nsi nit nsh nsf nss nrc mtraced mdealer mnumber mwhose msize misParted), (nc, iA G 100 (upd fnc kc vv))])
set_option maxHeartbeats 4000000 in
set_option maxRecDepth 100000 in
theorem m_codes0 (l : Launch) (G : GG) (h0 : Nat) (vv : Int32) (nw : Nat) (nk : Nat) (mhasKept : Int32) (nt : Nat) (mtaped : Int32) (nr : Nat) (mrowMany : Int32) (mroundOf : Int32) (mroundFrom : Int32) (mouts : Int32) (nm : Nat) (mfromHour : Int32) (mtoHour : Int32) (ns : Nat) (mfrom : Int32) (mto : Int32) (msort : Int32) (mdeep : Int32) (kc : Nat) (mlines : Int32) (nl : Nat) (nc : Nat) (nF : Nat) (np : Nat) (ntr : Nat) (nb : Nat) (mbestCost : Int32) (nso : Nat) (nsi : Nat) (nit : Nat) (nsh : Nat) (nsf : Nat) (nss : Nat) (nrc : Nat) (mtraced : Int32) (mdealer : Int32) (mnumber : Int32) (mwhose : Int32) (msize : Int32) (misParted : Int32) (fnc : Nat → Int32) (hkc : kc < 100) : K_m_codes0 l G h0 vv nw nk mhasKept nt mtaped nr mrowMany mroundOf mroundFrom mouts nm mfromHour mtoHour ns mfrom mto msort mdeep kc mlines nl nc nF np ntr nb mbestCost nso nsi nit nsh nsf nss nrc mtraced mdealer mnumber mwhose msize misParted fnc := by
  refine MV.start (by decide +kernel) (Nat.le_of_ble_eq_true rfl) ?_
  intro p e s m below meth c A ls hC hK hP hD hS hA hl
  refine absQ (fun Q0 hQ0 => ?_)
  have hl : lv_has ls 2 [(0, .ref h0), (1, .int vv)] := hl
  refine Kan8 hC (fun hx hb hr hml hB hown hlocks hnm => ?_)
  refine lv_aload_n hx hb gX12_codes_0.1 rfl (lv_at0 hl) ?_
  refine gf_X12_222 hC rfl hK hP 0 rfl rfl gX12_codes_0.2.1 ?_
  refine lv_if_ne (tgt := 27) hx hb gX12_codes_0.2.2.1 (by decide) (fun c9 => absurd (by decide) c9) (fun _ => ?_)
  refine lv_aload_n hx hb gX12_codes_0.2.2.2.1 rfl (lv_at0 hl) ?_
  refine gf_X12_35 hC rfl hK hP 0 rfl rfl gX12_codes_0.2.2.2.2.1 ?_
  refine lv_aload_n hx hb gX12_codes_0.2.2.2.2.2.1 rfl (lv_at0 hl) ?_
  refine gf_X12_240 hC rfl hK hP 0 rfl rfl gX12_codes_0.2.2.2.2.2.2.1 ?_
  refine lv_iload_n hx hb gX12_codes_0.2.2.2.2.2.2.2.1 rfl (lv_at1 hl) ?_
  refine astN hC hK hP hD hS 1 (ws' := [(h0, oX12 nw nk mhasKept nt mtaped nr mrowMany mroundOf mroundFrom mouts nm mfromHour mtoHour ns mfrom mto msort 0 mdeep (nI kc) mlines nl nc nF np ntr nb mbestCost nso nsi nit nsh nsf nss nrc mtraced mdealer mnumber mwhose msize misParted), (nc, iA G 100 (upd fnc kc vv))]) rfl (k := kc) (by omega) (Nat.le_of_ble_eq_true rfl) (rfl) gX12_codes_0.2.2.2.2.2.2.2.2.1 (fun H locs hP hD hS => ?_)
  refine lv_aload_n hx hb gX12_codes_0.2.2.2.2.2.2.2.2.2 rfl (lv_at0 hl) ?_
  refine lv_dup hx hb gX12_codes_1.1 rfl ?_
  refine gf_X12_240 hC rfl hK hP 0 rfl rfl gX12_codes_1.2.1 ?_
  refine lv_iconst (v := 1) hx hb gX12_codes_1.2.2.1 (by decide) ?_
  refine lv_iadd hx hb gX12_codes_1.2.2.2.1 ?_
  refine eqi (x1 := nI (kc + 1)) (nI_add kc 1) ?_
  refine pf_X12_240 hC rfl hK hP hD hS 0 (ws' := [(h0, oX12 nw nk mhasKept nt mtaped nr mrowMany mroundOf mroundFrom mouts nm mfromHour mtoHour ns mfrom mto msort 0 mdeep (nI (kc + 1)) mlines nl nc nF np ntr nb mbestCost nso nsi nit nsh nsf nss nrc mtraced mdealer mnumber mwhose msize misParted), (nc, iA G 100 (upd fnc kc vv))]) rfl (Nat.le_of_ble_eq_true rfl) rfl rfl rfl gX12_codes_1.2.2.2.2.1 (fun H locs hP hD hS => ?_)
  refine toQ hQ0 ?_
  exact RV hC hP hD hS [0, 1] () rfl rfl (by decide) (trivial) gX12_codes_1.2.2.2.2.2
def K_m_oneF (l : Launch) (G : GG) (K : OO) (h0 : Nat) (nw : Nat) (nk : Nat) (mhasKept : Int32) (nt : Nat) (mtaped : Int32) (nr : Nat) (mrowMany : Int32) (mroundOf : Int32) (mroundFrom : Int32) (mouts : Int32) (nm : Nat) (mfromHour : Int32) (mtoHour : Int32) (ns : Nat) (mfrom : Int32) (mto : Int32) (msort : Int32) (mdeep : Int32) (mcoded : Int32) (mlines : Int32) (nl : Nat) (nc : Nat) (nF : Nat) (np : Nat) (ntr : Nat) (nb : Nat) (mbestCost : Int32) (nso : Nat) (nsi : Nat) (nit : Nat) (nsh : Nat) (nsf : Nat) (nss : Nat) (nrc : Nat) (mtraced : Int32) (mdealer : Int32) (mnumber : Int32) (mwhose : Int32) (msize : Int32) (misParted : Int32) : Prop := MVo l G K yX12_one cX12_one 5 7 0 0 [.ref h0] [(h0, oX12 nw nk mhasKept nt mtaped nr mrowMany mroundOf mroundFrom mouts nm mfromHour mtoHour ns mfrom mto msort 1 mdeep mcoded mlines nl nc nF np ntr nb mbestCost nso nsi nit nsh nsf nss nrc mtraced mdealer mnumber mwhose msize misParted), (nF, sA G 5 (FCT K))] (fun u : Unit => True) (fun u : Unit => [(h0, oX12 nw nk mhasKept nt mtaped nr mrowMany mroundOf mroundFrom mouts nm mfromHour mtoHour ns mfrom mto msort 1 mdeep mcoded mlines nl nc nF np ntr nb mbestCost nso nsi nit nsh nsf nss nrc mtraced mdealer mnumber mwhose msize misParted), (nF, sA G 5 (FCT K))])
set_option maxHeartbeats 4000000 in
set_option maxRecDepth 100000 in
theorem m_oneF (l : Launch) (G : GG) (K : OO) (h0 : Nat) (nw : Nat) (nk : Nat) (mhasKept : Int32) (nt : Nat) (mtaped : Int32) (nr : Nat) (mrowMany : Int32) (mroundOf : Int32) (mroundFrom : Int32) (mouts : Int32) (nm : Nat) (mfromHour : Int32) (mtoHour : Int32) (ns : Nat) (mfrom : Int32) (mto : Int32) (msort : Int32) (mdeep : Int32) (mcoded : Int32) (mlines : Int32) (nl : Nat) (nc : Nat) (nF : Nat) (np : Nat) (ntr : Nat) (nb : Nat) (mbestCost : Int32) (nso : Nat) (nsi : Nat) (nit : Nat) (nsh : Nat) (nsf : Nat) (nss : Nat) (nrc : Nat) (mtraced : Int32) (mdealer : Int32) (mnumber : Int32) (mwhose : Int32) (msize : Int32) (misParted : Int32) : K_m_oneF l G K h0 nw nk mhasKept nt mtaped nr mrowMany mroundOf mroundFrom mouts nm mfromHour mtoHour ns mfrom mto msort mdeep mcoded mlines nl nc nF np ntr nb mbestCost nso nsi nit nsh nsf nss nrc mtraced mdealer mnumber mwhose msize misParted := by
  refine MVo.start (by decide +kernel) (Nat.le_of_ble_eq_true rfl) ?_
  intro p e s m below meth c A ls hC hK hP hD hS hA hl hO
  refine absQ (fun Q0 hQ0 => ?_)
  have hl : lv_has ls 5 [(0, .ref h0)] := hl
  refine Kan8 hC (fun hx hb hr hml hB hown hlocks hnm => ?_)
  refine lv_iconst (v := 0) hx hb gX12_one_0.1 (by decide) ?_
  refine lv_istore_n (lv' := [(1, .int 0), (0, .ref h0)]) hx hb gX12_one_0.2.1 rfl hl (by decide) rfl (fun ls hl => ?_)
  refine lv_aload_n hx hb gX12_one_0.2.2.1 rfl (lv_at1 hl) ?_
  refine va_ldcSw (index := 260) (tx := "not") hx hb hown (hO.2.2 10 (by decide)) gX12_one_0.2.2.2.1 ?_
  refine pVo hO hS hC hK hl hP hD (m_isNameF l G K 10 h0 nw nk mhasKept nt mtaped nr mrowMany mroundOf mroundFrom mouts nm mfromHour mtoHour ns mfrom mto msort mdeep mcoded mlines nl nc nF np ntr nb mbestCost nso nsi nit nsh nsf nss nrc mtraced mdealer mnumber mwhose msize misParted ((by decide))) si_X12_248 [0] sm_0 fm_0 nd_0 rfl rfl rfl rfl rfl (Nat.le_of_ble_eq_true rfl) rm_7_5_4 ⟨by first | exact Nat.le_of_ble_eq_true rfl | exact Nat.zero_le _, by first | exact Nat.le_of_ble_eq_true rfl | exact Nat.zero_le _⟩ gX12_one_0.2.2.2.2.1 (Keqr ?_)
  refine lv_if_eq (tgt := 22) hx hb gX12_one_0.2.2.2.2.2.1 (by decide) (fun _ => ?_) (fun c9 => absurd (by decide) c9)
  refine lv_aload_n hx hb gX12_one_1.1 rfl (lv_at1 hl) ?_
  refine lv_bipush (v := 40) hx hb gX12_one_1.2.1 (by decide) ?_
  refine pV hC hK hl hP hD (m_isSignF l G h0 40 nw nk mhasKept nt mtaped nr mrowMany mroundOf mroundFrom mouts nm mfromHour mtoHour ns mfrom mto msort mdeep mcoded mlines nl nc nF np ntr nb mbestCost nso nsi nit nsh nsf nss nrc mtraced mdealer mnumber mwhose msize misParted) si_X12_262 [0] sm_0 fm_0 nd_0 rfl rfl rfl rfl rfl (Nat.le_of_ble_eq_true rfl) rm_7_1_2 ⟨by first | exact Nat.le_of_ble_eq_true rfl | exact Nat.zero_le _, by first | exact Nat.le_of_ble_eq_true rfl | exact Nat.zero_le _⟩ gX12_one_1.2.2.1 (Keqr ?_)
  refine lv_if_eq (tgt := 85) hx hb gX12_one_1.2.2.2.1 (by decide) (fun _ => ?_) (fun c9 => absurd (by decide) c9)
  refine lv_iconst (v := (-1)) hx hb gX12_one_4.2.2.2.1 (by decide) ?_
  refine lv_istore_n (lv' := [(2, .int (-1)), (1, .int 0), (0, .ref h0)]) hx hb gX12_one_4.2.2.2.2.1 rfl hl (by decide) rfl (fun ls hl => ?_)
  refine lv_iconst (v := 0) hx hb gX12_one_4.2.2.2.2.2.1 (by decide) ?_
  refine lv_istore_n (lv' := [(3, .int 0), (2, .int (-1)), (1, .int 0), (0, .ref h0)]) hx hb gX12_one_4.2.2.2.2.2.2.1 rfl hl (by decide) rfl (fun ls hl => ?_)
  refine lv_iload_n hx hb gX12_one_4.2.2.2.2.2.2.2.1 rfl (lv_at0 hl) ?_
  refine lv_iconst (v := 5) hx hb gX12_one_4.2.2.2.2.2.2.2.2.1 (by decide) ?_
  refine lv_icmp_ge (tgt := 119) hx hb gX12_one_4.2.2.2.2.2.2.2.2.2 (by decide) (fun c9 => absurd c9 (by decide)) (fun _ => ?_)
  refine lv_aload_n hx hb gX12_one_5.1 rfl (lv_at3 hl) ?_
  refine lv_aload_n hx hb gX12_one_5.2.1 rfl (lv_at3 hl) ?_
  refine gf_X12_50 hC rfl hK hP 0 rfl rfl gX12_one_5.2.2.1 ?_
  refine lv_iload_n hx hb gX12_one_5.2.2.2.1 rfl (lv_at0 hl) ?_
  refine aldS hC hK hP 1 rfl (vin (by decide +kernel)) (k := 0) (by decide +kernel) (v := (K.1 11)) (rfl) gX12_one_5.2.2.2.2.1 ?_
  refine pVo hO hS hC hK hl hP hD (m_isNameF l G K 11 h0 nw nk mhasKept nt mtaped nr mrowMany mroundOf mroundFrom mouts nm mfromHour mtoHour ns mfrom mto msort mdeep mcoded mlines nl nc nF np ntr nb mbestCost nso nsi nit nsh nsf nss nrc mtraced mdealer mnumber mwhose msize misParted ((by decide))) si_X12_248 [0] sm_0 fm_0 nd_0 rfl rfl rfl rfl rfl (Nat.le_of_ble_eq_true rfl) rm_7_5_4 ⟨by first | exact Nat.le_of_ble_eq_true rfl | exact Nat.zero_le _, by first | exact Nat.le_of_ble_eq_true rfl | exact Nat.zero_le _⟩ gX12_one_5.2.2.2.2.2.1 (Keqr ?_)
  refine lv_if_eq (tgt := 111) hx hb gX12_one_5.2.2.2.2.2.2.1 (by decide) (fun _ => ?_) (fun c9 => absurd (by decide) c9)
  refine lv_iload_n hx hb gX12_one_5.2.2.2.2.2.2.2.2.2 rfl (lv_at1 hl) ?_
  refine lv_istore_n (lv' := [(2, .int (-1)), (3, .int 0), (1, .int 0), (0, .ref h0)]) hx hb gX12_one_6.1 rfl hl (by decide) rfl (fun ls hl => ?_)
  refine lv_iinc (v := 1) (lv' := [(3, .int 1), (2, .int (-1)), (1, .int 0), (0, .ref h0)]) hx hb gX12_one_6.2.1 hl (k := 1) rfl (by decide) (by decide) rfl (fun ls hl => ?_)
  refine lv_goto (tgt := 89) hx hb gX12_one_6.2.2.1 (by decide) ?_
  refine lv_iload_n hx hb gX12_one_4.2.2.2.2.2.2.2.1 rfl (lv_at0 hl) ?_
  refine lv_iconst (v := 5) hx hb gX12_one_4.2.2.2.2.2.2.2.2.1 (by decide) ?_
  refine lv_icmp_ge (tgt := 119) hx hb gX12_one_4.2.2.2.2.2.2.2.2.2 (by decide) (fun c9 => absurd c9 (by decide)) (fun _ => ?_)
  refine lv_aload_n hx hb gX12_one_5.1 rfl (lv_at3 hl) ?_
  refine lv_aload_n hx hb gX12_one_5.2.1 rfl (lv_at3 hl) ?_
  refine gf_X12_50 hC rfl hK hP 0 rfl rfl gX12_one_5.2.2.1 ?_
  refine lv_iload_n hx hb gX12_one_5.2.2.2.1 rfl (lv_at0 hl) ?_
  refine aldS hC hK hP 1 rfl (vin (by decide +kernel)) (k := 1) (by decide +kernel) (v := (K.1 12)) (rfl) gX12_one_5.2.2.2.2.1 ?_
  refine pVo hO hS hC hK hl hP hD (m_isNameF l G K 12 h0 nw nk mhasKept nt mtaped nr mrowMany mroundOf mroundFrom mouts nm mfromHour mtoHour ns mfrom mto msort mdeep mcoded mlines nl nc nF np ntr nb mbestCost nso nsi nit nsh nsf nss nrc mtraced mdealer mnumber mwhose msize misParted ((by decide))) si_X12_248 [0] sm_0 fm_0 nd_0 rfl rfl rfl rfl rfl (Nat.le_of_ble_eq_true rfl) rm_7_5_4 ⟨by first | exact Nat.le_of_ble_eq_true rfl | exact Nat.zero_le _, by first | exact Nat.le_of_ble_eq_true rfl | exact Nat.zero_le _⟩ gX12_one_5.2.2.2.2.2.1 (Keqr ?_)
  refine lv_if_eq (tgt := 111) hx hb gX12_one_5.2.2.2.2.2.2.1 (by decide) (fun _ => ?_) (fun c9 => absurd (by decide) c9)
  refine lv_iload_n hx hb gX12_one_5.2.2.2.2.2.2.2.2.2 rfl (lv_at1 hl) ?_
  refine lv_istore_n (lv' := [(2, .int (-1)), (3, .int 1), (1, .int 0), (0, .ref h0)]) hx hb gX12_one_6.1 rfl hl (by decide) rfl (fun ls hl => ?_)
  refine lv_iinc (v := 2) (lv' := [(3, .int 2), (2, .int (-1)), (1, .int 0), (0, .ref h0)]) hx hb gX12_one_6.2.1 hl (k := 1) rfl (by decide) (by decide) rfl (fun ls hl => ?_)
  refine lv_goto (tgt := 89) hx hb gX12_one_6.2.2.1 (by decide) ?_
  refine lv_iload_n hx hb gX12_one_4.2.2.2.2.2.2.2.1 rfl (lv_at0 hl) ?_
  refine lv_iconst (v := 5) hx hb gX12_one_4.2.2.2.2.2.2.2.2.1 (by decide) ?_
  refine lv_icmp_ge (tgt := 119) hx hb gX12_one_4.2.2.2.2.2.2.2.2.2 (by decide) (fun c9 => absurd c9 (by decide)) (fun _ => ?_)
  refine lv_aload_n hx hb gX12_one_5.1 rfl (lv_at3 hl) ?_
  refine lv_aload_n hx hb gX12_one_5.2.1 rfl (lv_at3 hl) ?_
  refine gf_X12_50 hC rfl hK hP 0 rfl rfl gX12_one_5.2.2.1 ?_
  refine lv_iload_n hx hb gX12_one_5.2.2.2.1 rfl (lv_at0 hl) ?_
  refine aldS hC hK hP 1 rfl (vin (by decide +kernel)) (k := 2) (by decide +kernel) (v := (K.1 13)) (rfl) gX12_one_5.2.2.2.2.1 ?_
  refine pVo hO hS hC hK hl hP hD (m_isNameF l G K 13 h0 nw nk mhasKept nt mtaped nr mrowMany mroundOf mroundFrom mouts nm mfromHour mtoHour ns mfrom mto msort mdeep mcoded mlines nl nc nF np ntr nb mbestCost nso nsi nit nsh nsf nss nrc mtraced mdealer mnumber mwhose msize misParted ((by decide))) si_X12_248 [0] sm_0 fm_0 nd_0 rfl rfl rfl rfl rfl (Nat.le_of_ble_eq_true rfl) rm_7_5_4 ⟨by first | exact Nat.le_of_ble_eq_true rfl | exact Nat.zero_le _, by first | exact Nat.le_of_ble_eq_true rfl | exact Nat.zero_le _⟩ gX12_one_5.2.2.2.2.2.1 (Keqr ?_)
  refine lv_if_eq (tgt := 111) hx hb gX12_one_5.2.2.2.2.2.2.1 (by decide) (fun _ => ?_) (fun c9 => absurd (by decide) c9)
  refine lv_iload_n hx hb gX12_one_5.2.2.2.2.2.2.2.2.2 rfl (lv_at1 hl) ?_
  refine lv_istore_n (lv' := [(2, .int (-1)), (3, .int 2), (1, .int 0), (0, .ref h0)]) hx hb gX12_one_6.1 rfl hl (by decide) rfl (fun ls hl => ?_)
  refine lv_iinc (v := 3) (lv' := [(3, .int 3), (2, .int (-1)), (1, .int 0), (0, .ref h0)]) hx hb gX12_one_6.2.1 hl (k := 1) rfl (by decide) (by decide) rfl (fun ls hl => ?_)
  refine lv_goto (tgt := 89) hx hb gX12_one_6.2.2.1 (by decide) ?_
  refine lv_iload_n hx hb gX12_one_4.2.2.2.2.2.2.2.1 rfl (lv_at0 hl) ?_
  refine lv_iconst (v := 5) hx hb gX12_one_4.2.2.2.2.2.2.2.2.1 (by decide) ?_
  refine lv_icmp_ge (tgt := 119) hx hb gX12_one_4.2.2.2.2.2.2.2.2.2 (by decide) (fun c9 => absurd c9 (by decide)) (fun _ => ?_)
  refine lv_aload_n hx hb gX12_one_5.1 rfl (lv_at3 hl) ?_
  refine lv_aload_n hx hb gX12_one_5.2.1 rfl (lv_at3 hl) ?_
  refine gf_X12_50 hC rfl hK hP 0 rfl rfl gX12_one_5.2.2.1 ?_
  refine lv_iload_n hx hb gX12_one_5.2.2.2.1 rfl (lv_at0 hl) ?_
  refine aldS hC hK hP 1 rfl (vin (by decide +kernel)) (k := 3) (by decide +kernel) (v := (K.1 14)) (rfl) gX12_one_5.2.2.2.2.1 ?_
  refine pVo hO hS hC hK hl hP hD (m_isNameF l G K 14 h0 nw nk mhasKept nt mtaped nr mrowMany mroundOf mroundFrom mouts nm mfromHour mtoHour ns mfrom mto msort mdeep mcoded mlines nl nc nF np ntr nb mbestCost nso nsi nit nsh nsf nss nrc mtraced mdealer mnumber mwhose msize misParted ((by decide))) si_X12_248 [0] sm_0 fm_0 nd_0 rfl rfl rfl rfl rfl (Nat.le_of_ble_eq_true rfl) rm_7_5_4 ⟨by first | exact Nat.le_of_ble_eq_true rfl | exact Nat.zero_le _, by first | exact Nat.le_of_ble_eq_true rfl | exact Nat.zero_le _⟩ gX12_one_5.2.2.2.2.2.1 (Keqr ?_)
  refine lv_if_eq (tgt := 111) hx hb gX12_one_5.2.2.2.2.2.2.1 (by decide) (fun _ => ?_) (fun c9 => absurd (by decide) c9)
  refine lv_iload_n hx hb gX12_one_5.2.2.2.2.2.2.2.2.2 rfl (lv_at1 hl) ?_
  refine lv_istore_n (lv' := [(2, .int (-1)), (3, .int 3), (1, .int 0), (0, .ref h0)]) hx hb gX12_one_6.1 rfl hl (by decide) rfl (fun ls hl => ?_)
  refine lv_iinc (v := 4) (lv' := [(3, .int 4), (2, .int (-1)), (1, .int 0), (0, .ref h0)]) hx hb gX12_one_6.2.1 hl (k := 1) rfl (by decide) (by decide) rfl (fun ls hl => ?_)
  refine lv_goto (tgt := 89) hx hb gX12_one_6.2.2.1 (by decide) ?_
  refine lv_iload_n hx hb gX12_one_4.2.2.2.2.2.2.2.1 rfl (lv_at0 hl) ?_
  refine lv_iconst (v := 5) hx hb gX12_one_4.2.2.2.2.2.2.2.2.1 (by decide) ?_
  refine lv_icmp_ge (tgt := 119) hx hb gX12_one_4.2.2.2.2.2.2.2.2.2 (by decide) (fun c9 => absurd c9 (by decide)) (fun _ => ?_)
  refine lv_aload_n hx hb gX12_one_5.1 rfl (lv_at3 hl) ?_
  refine lv_aload_n hx hb gX12_one_5.2.1 rfl (lv_at3 hl) ?_
  refine gf_X12_50 hC rfl hK hP 0 rfl rfl gX12_one_5.2.2.1 ?_
  refine lv_iload_n hx hb gX12_one_5.2.2.2.1 rfl (lv_at0 hl) ?_
  refine aldS hC hK hP 1 rfl (vin (by decide +kernel)) (k := 4) (by decide +kernel) (v := (K.1 15)) (rfl) gX12_one_5.2.2.2.2.1 ?_
  refine pVo hO hS hC hK hl hP hD (m_isNameF l G K 15 h0 nw nk mhasKept nt mtaped nr mrowMany mroundOf mroundFrom mouts nm mfromHour mtoHour ns mfrom mto msort mdeep mcoded mlines nl nc nF np ntr nb mbestCost nso nsi nit nsh nsf nss nrc mtraced mdealer mnumber mwhose msize misParted ((by decide))) si_X12_248 [0] sm_0 fm_0 nd_0 rfl rfl rfl rfl rfl (Nat.le_of_ble_eq_true rfl) rm_7_5_4 ⟨by first | exact Nat.le_of_ble_eq_true rfl | exact Nat.zero_le _, by first | exact Nat.le_of_ble_eq_true rfl | exact Nat.zero_le _⟩ gX12_one_5.2.2.2.2.2.1 (Keqr ?_)
  refine lv_if_eq (tgt := 111) hx hb gX12_one_5.2.2.2.2.2.2.1 (by decide) (fun _ => ?_) (fun c9 => absurd (by decide) c9)
  refine lv_iload_n hx hb gX12_one_5.2.2.2.2.2.2.2.2.2 rfl (lv_at1 hl) ?_
  refine lv_istore_n (lv' := [(2, .int (-1)), (3, .int 4), (1, .int 0), (0, .ref h0)]) hx hb gX12_one_6.1 rfl hl (by decide) rfl (fun ls hl => ?_)
  refine lv_iinc (v := 5) (lv' := [(3, .int 5), (2, .int (-1)), (1, .int 0), (0, .ref h0)]) hx hb gX12_one_6.2.1 hl (k := 1) rfl (by decide) (by decide) rfl (fun ls hl => ?_)
  refine lv_goto (tgt := 89) hx hb gX12_one_6.2.2.1 (by decide) ?_
  refine lv_iload_n hx hb gX12_one_4.2.2.2.2.2.2.2.1 rfl (lv_at0 hl) ?_
  refine lv_iconst (v := 5) hx hb gX12_one_4.2.2.2.2.2.2.2.2.1 (by decide) ?_
  refine lv_icmp_ge (tgt := 119) hx hb gX12_one_4.2.2.2.2.2.2.2.2.2 (by decide) (fun _ => ?_) (fun c9 => absurd (by decide) c9)
  refine lv_aload_n hx hb gX12_one_6.2.2.2.1 rfl (lv_at3 hl) ?_
  refine lv_iload_n hx hb gX12_one_6.2.2.2.2.1 rfl (lv_at1 hl) ?_
  refine lv_if_lt (tgt := 128) hx hb gX12_one_6.2.2.2.2.2.1 (by decide) (fun _ => ?_) (fun c9 => absurd (by decide) c9)
  refine lv_iconst (v := 0) hx hb gX12_one_6.2.2.2.2.2.2.2.2.1 (by decide) ?_
  refine vV (wr := [(nF, sA G 5 (FCT K))]) hC hK hl hP hD hS hA (m_needF l G h0 0 nw nk mhasKept nt mtaped nr mrowMany mroundOf mroundFrom mouts nm mfromHour mtoHour ns mfrom mto msort mdeep mcoded mlines nl nc nF np ntr nb mbestCost nso nsi nit nsh nsf nss nrc mtraced mdealer mnumber mwhose msize misParted) si_X12_236 [0] [1] sm_0 fm_0 nd_0 sm_1 nd_1 dj_0__1 rfl rfl rfl rfl rfl (Nat.le_of_ble_eq_true rfl) rm_7_4_2 ⟨Nat.le_of_ble_eq_true rfl, Nat.le_of_ble_eq_true rfl⟩ gX12_one_6.2.2.2.2.2.2.2.2.2 (fun u9050 H locs hr9049 hP hD hS => ?_)
  refine Kpdr (ws := [(nF, sA G 5 (FCT K)), (h0, oX12 nw nk mhasKept nt mtaped nr mrowMany mroundOf mroundFrom mouts nm mfromHour mtoHour ns mfrom mto msort 1 mdeep mcoded mlines nl nc nF np ntr nb mbestCost nso nsi nit nsh nsf nss nrc mtraced mdealer mnumber mwhose msize misParted)]) hP hD (fun hP hD => ?_)
  refine lv_aload_n hx hb gX12_one_7.1 rfl (lv_at3 hl) ?_
  refine lv_bipush (v := 60) hx hb gX12_one_7.2.1 (by decide) ?_
  refine pV hC hK hl hP hD (m_isSignF l G h0 60 nw nk mhasKept nt mtaped nr mrowMany mroundOf mroundFrom mouts nm mfromHour mtoHour ns mfrom mto msort mdeep mcoded mlines nl nc nF np ntr nb mbestCost nso nsi nit nsh nsf nss nrc mtraced mdealer mnumber mwhose msize misParted) si_X12_262 [1] sm_1 fm_1 nd_1 rfl rfl rfl rfl rfl (Nat.le_of_ble_eq_true rfl) rm_7_1_2 ⟨by first | exact Nat.le_of_ble_eq_true rfl | exact Nat.zero_le _, by first | exact Nat.le_of_ble_eq_true rfl | exact Nat.zero_le _⟩ gX12_one_7.2.2.1 (Keqr ?_)
  refine lv_if_eq (tgt := 145) hx hb gX12_one_7.2.2.2.1 (by decide) (fun _ => ?_) (fun c9 => absurd (by decide) c9)
  refine lv_aload_n hx hb gX12_one_7.2.2.2.2.2.2.1 rfl (lv_at3 hl) ?_
  refine lv_bipush (v := 61) hx hb gX12_one_7.2.2.2.2.2.2.2.1 (by decide) ?_
  refine pV hC hK hl hP hD (m_isSignF l G h0 61 nw nk mhasKept nt mtaped nr mrowMany mroundOf mroundFrom mouts nm mfromHour mtoHour ns mfrom mto msort mdeep mcoded mlines nl nc nF np ntr nb mbestCost nso nsi nit nsh nsf nss nrc mtraced mdealer mnumber mwhose msize misParted) si_X12_262 [1] sm_1 fm_1 nd_1 rfl rfl rfl rfl rfl (Nat.le_of_ble_eq_true rfl) rm_7_1_2 ⟨by first | exact Nat.le_of_ble_eq_true rfl | exact Nat.zero_le _, by first | exact Nat.le_of_ble_eq_true rfl | exact Nat.zero_le _⟩ gX12_one_7.2.2.2.2.2.2.2.2.1 (Keqr ?_)
  refine lv_if_eq (tgt := 158) hx hb gX12_one_7.2.2.2.2.2.2.2.2.2 (by decide) (fun _ => ?_) (fun c9 => absurd (by decide) c9)
  refine lv_iconst (v := 2) hx hb gX12_one_8.2.2.1 (by decide) ?_
  refine lv_istore_n (lv' := [(3, .int 2), (2, .int (-1)), (1, .int 0), (0, .ref h0)]) hx hb gX12_one_8.2.2.2.1 rfl hl (by decide) rfl (fun ls hl => ?_)
  refine lv_aload_n hx hb gX12_one_8.2.2.2.2.1 rfl (lv_at3 hl) ?_
  refine lv_aload_n hx hb gX12_one_8.2.2.2.2.2.1 rfl (lv_at3 hl) ?_
  refine lv_bipush (v := 60) hx hb gX12_one_8.2.2.2.2.2.2.1 (by decide) ?_
  refine pV hC hK hl hP hD (m_isSignF l G h0 60 nw nk mhasKept nt mtaped nr mrowMany mroundOf mroundFrom mouts nm mfromHour mtoHour ns mfrom mto msort mdeep mcoded mlines nl nc nF np ntr nb mbestCost nso nsi nit nsh nsf nss nrc mtraced mdealer mnumber mwhose msize misParted) si_X12_262 [1] sm_1 fm_1 nd_1 rfl rfl rfl rfl rfl (Nat.le_of_ble_eq_true rfl) rm_7_1_2 ⟨by first | exact Nat.le_of_ble_eq_true rfl | exact Nat.zero_le _, by first | exact Nat.le_of_ble_eq_true rfl | exact Nat.zero_le _⟩ gX12_one_8.2.2.2.2.2.2.2.1 (Keqr ?_)
  refine lv_if_ne (tgt := 188) hx hb gX12_one_8.2.2.2.2.2.2.2.2.1 (by decide) (fun c9 => absurd (by decide) c9) (fun _ => ?_)
  refine lv_aload_n hx hb gX12_one_8.2.2.2.2.2.2.2.2.2 rfl (lv_at3 hl) ?_
  refine lv_bipush (v := 61) hx hb gX12_one_9.1 (by decide) ?_
  refine pV hC hK hl hP hD (m_isSignF l G h0 61 nw nk mhasKept nt mtaped nr mrowMany mroundOf mroundFrom mouts nm mfromHour mtoHour ns mfrom mto msort mdeep mcoded mlines nl nc nF np ntr nb mbestCost nso nsi nit nsh nsf nss nrc mtraced mdealer mnumber mwhose msize misParted) si_X12_262 [1] sm_1 fm_1 nd_1 rfl rfl rfl rfl rfl (Nat.le_of_ble_eq_true rfl) rm_7_1_2 ⟨by first | exact Nat.le_of_ble_eq_true rfl | exact Nat.zero_le _, by first | exact Nat.le_of_ble_eq_true rfl | exact Nat.zero_le _⟩ gX12_one_9.2.1 (Keqr ?_)
  refine lv_if_ne (tgt := 188) hx hb gX12_one_9.2.2.1 (by decide) (fun c9 => absurd (by decide) c9) (fun _ => ?_)
  refine lv_aload_n hx hb gX12_one_9.2.2.2.1 rfl (lv_at3 hl) ?_
  refine lv_bipush (v := 62) hx hb gX12_one_9.2.2.2.2.1 (by decide) ?_
  refine pV hC hK hl hP hD (m_isSignF l G h0 62 nw nk mhasKept nt mtaped nr mrowMany mroundOf mroundFrom mouts nm mfromHour mtoHour ns mfrom mto msort mdeep mcoded mlines nl nc nF np ntr nb mbestCost nso nsi nit nsh nsf nss nrc mtraced mdealer mnumber mwhose msize misParted) si_X12_262 [1] sm_1 fm_1 nd_1 rfl rfl rfl rfl rfl (Nat.le_of_ble_eq_true rfl) rm_7_1_2 ⟨by first | exact Nat.le_of_ble_eq_true rfl | exact Nat.zero_le _, by first | exact Nat.le_of_ble_eq_true rfl | exact Nat.zero_le _⟩ gX12_one_9.2.2.2.2.2.1 (Keqr ?_)
  refine lv_if_eq (tgt := 192) hx hb gX12_one_9.2.2.2.2.2.2.1 (by decide) (fun _ => ?_) (fun c9 => absurd (by decide) c9)
  refine lv_iconst (v := 0) hx hb gX12_one_9.2.2.2.2.2.2.2.2.2 (by decide) ?_
  refine vV (wr := [(nF, sA G 5 (FCT K))]) hC hK hl hP hD hS hA (m_needF l G h0 0 nw nk mhasKept nt mtaped nr mrowMany mroundOf mroundFrom mouts nm mfromHour mtoHour ns mfrom mto msort mdeep mcoded mlines nl nc nF np ntr nb mbestCost nso nsi nit nsh nsf nss nrc mtraced mdealer mnumber mwhose msize misParted) si_X12_236 [1] [0] sm_1 fm_1 nd_1 sm_0 nd_0 dj_1__0 rfl rfl rfl rfl rfl (Nat.le_of_ble_eq_true rfl) rm_7_4_2 ⟨Nat.le_of_ble_eq_true rfl, Nat.le_of_ble_eq_true rfl⟩ gX12_one_10.1 (fun u9062 H locs hr9061 hP hD hS => ?_)
  refine Kpdr (ws := [(nF, sA G 5 (FCT K)), (h0, oX12 nw nk mhasKept nt mtaped nr mrowMany mroundOf mroundFrom mouts nm mfromHour mtoHour ns mfrom mto msort 1 mdeep mcoded mlines nl nc nF np ntr nb mbestCost nso nsi nit nsh nsf nss nrc mtraced mdealer mnumber mwhose msize misParted)]) hP hD (fun hP hD => ?_)
  refine lv_aload_n hx hb gX12_one_10.2.1 rfl (lv_at3 hl) ?_
  refine lv_sipush (v := 999) hx hb gX12_one_10.2.2.1 (by decide) ?_
  refine iV (wr := [(nF, sA G 5 (FCT K))]) hC hK hl hP hD hS hA (m_numberF l G h0 999 nw nk mhasKept nt mtaped nr mrowMany mroundOf mroundFrom mouts nm mfromHour mtoHour ns mfrom mto msort mdeep mcoded mlines nl nc nF np ntr nb mbestCost nso nsi nit nsh nsf nss nrc mtraced mdealer mnumber mwhose msize misParted) si_X12_271 [1] [0] sm_1 fm_1 nd_1 sm_0 nd_0 dj_1__0 rfl rfl rfl rfl rfl (Nat.le_of_ble_eq_true rfl) rm_7_5_5 ⟨Nat.le_of_ble_eq_true rfl, Nat.le_of_ble_eq_true rfl⟩ gX12_one_10.2.2.2.1 (fun r9063 u9064 H locs hr9063 hP hD hS => ?_)
  refine Kpdr (ws := [(nF, sA G 5 (FCT K)), (h0, oX12 nw nk mhasKept nt mtaped nr mrowMany mroundOf mroundFrom mouts nm mfromHour mtoHour ns mfrom mto msort 1 mdeep mcoded mlines nl nc nF np ntr nb mbestCost nso nsi nit nsh nsf nss nrc mtraced mdealer mnumber mwhose msize misParted)]) hP hD (fun hP hD => ?_)
  obtain rfl := hr9063
  refine lv_istore (lv' := [(4, .int 0), (3, .int 2), (2, .int (-1)), (1, .int 0), (0, .ref h0)]) hx hb gX12_one_10.2.2.2.2.1 hl (by decide) rfl (fun ls hl => ?_)
  refine lv_aload_n hx hb gX12_one_10.2.2.2.2.2.1 rfl (lv_at4 hl) ?_
  refine lv_sipush (v := 3000) hx hb gX12_one_10.2.2.2.2.2.2.1 (by decide) ?_
  refine lv_iload_n hx hb gX12_one_10.2.2.2.2.2.2.2.1 rfl (lv_at2 hl) ?_
  refine lv_imul hx hb gX12_one_10.2.2.2.2.2.2.2.2.1 ?_
  refine eqi (x1 := (-3000)) (by decide) ?_
  refine lv_sipush (v := 1000) hx hb gX12_one_10.2.2.2.2.2.2.2.2.2 (by decide) ?_
  refine lv_iload_n hx hb gX12_one_11.1 rfl (lv_at1 hl) ?_
  refine lv_imul hx hb gX12_one_11.2.1 ?_
  refine eqi (x1 := 2000) (by decide) ?_
  refine lv_iadd hx hb gX12_one_11.2.2.1 ?_
  refine eqi (x1 := (-1000)) (by decide) ?_
  refine lv_iload hx hb gX12_one_11.2.2.2.1 (lv_at0 hl) ?_
  refine lv_iadd hx hb gX12_one_11.2.2.2.2.1 ?_
  refine eqi (x1 := (-1000)) (by decide) ?_
  refine vV (wr := [(nF, sA G 5 (FCT K))]) hC hK hl hP hD hS hA (m_codesF l G h0 (-1000) nw nk mhasKept nt mtaped nr mrowMany mroundOf mroundFrom mouts nm mfromHour mtoHour ns mfrom mto msort mdeep mcoded mlines nl nc nF np ntr nb mbestCost nso nsi nit nsh nsf nss nrc mtraced mdealer mnumber mwhose msize misParted) si_X12_252 [1] [0] sm_1 fm_1 nd_1 sm_0 nd_0 dj_1__0 rfl rfl rfl rfl rfl (Nat.le_of_ble_eq_true rfl) rm_7_1_2 ⟨Nat.le_of_ble_eq_true rfl, Nat.le_of_ble_eq_true rfl⟩ gX12_one_11.2.2.2.2.2.1 (fun u9067 H locs hr9066 hP hD hS => ?_)
  refine Kpdr (ws := [(nF, sA G 5 (FCT K)), (h0, oX12 nw nk mhasKept nt mtaped nr mrowMany mroundOf mroundFrom mouts nm mfromHour mtoHour ns mfrom mto msort 1 mdeep mcoded mlines nl nc nF np ntr nb mbestCost nso nsi nit nsh nsf nss nrc mtraced mdealer mnumber mwhose msize misParted)]) hP hD (fun hP hD => ?_)
  refine lv_iconst (v := 0) hx hb gX12_one_11.2.2.2.2.2.2.1 (by decide) ?_
  refine lv_istore_n (lv' := [(2, .int 0), (4, .int 0), (3, .int 2), (1, .int 0), (0, .ref h0)]) hx hb gX12_one_11.2.2.2.2.2.2.2.1 rfl hl (by decide) rfl (fun ls hl => ?_)
  refine lv_iload_n hx hb gX12_one_11.2.2.2.2.2.2.2.2.1 rfl (lv_at0 hl) ?_
  refine lv_iload_n hx hb gX12_one_11.2.2.2.2.2.2.2.2.2 rfl (lv_at3 hl) ?_
  refine lv_icmp_ge (tgt := 243) hx hb gX12_one_12.1 (by decide) (fun _ => ?_) (fun c9 => absurd (by decide) c9)
  refine toQ hQ0 ?_
  exact RV hC hP hD hS [1, 0] () rfl rfl (by decide) (trivial) gX12_one_12.2.2.2.2.2.2
def K_m_allF (l : Launch) (G : GG) (K : OO) (h0 : Nat) (nw : Nat) (nk : Nat) (mhasKept : Int32) (nt : Nat) (mtaped : Int32) (nr : Nat) (mrowMany : Int32) (mroundOf : Int32) (mroundFrom : Int32) (mouts : Int32) (nm : Nat) (mfromHour : Int32) (mtoHour : Int32) (ns : Nat) (mfrom : Int32) (mto : Int32) (msort : Int32) (mdeep : Int32) (mcoded : Int32) (mlines : Int32) (nl : Nat) (nc : Nat) (nF : Nat) (np : Nat) (ntr : Nat) (nb : Nat) (mbestCost : Int32) (nso : Nat) (nsi : Nat) (nit : Nat) (nsh : Nat) (nsf : Nat) (nss : Nat) (nrc : Nat) (mtraced : Int32) (mdealer : Int32) (mnumber : Int32) (mwhose : Int32) (msize : Int32) (misParted : Int32) : Prop := MVo l G K yX12_all cX12_all 1 8 0 0 [.ref h0] [(h0, oX12 nw nk mhasKept nt mtaped nr mrowMany mroundOf mroundFrom mouts nm mfromHour mtoHour ns mfrom mto msort 1 mdeep mcoded mlines nl nc nF np ntr nb mbestCost nso nsi nit nsh nsf nss nrc mtraced mdealer mnumber mwhose msize misParted), (nF, sA G 5 (FCT K))] (fun u : Unit => True) (fun u : Unit => [(h0, oX12 nw nk mhasKept nt mtaped nr mrowMany mroundOf mroundFrom mouts nm mfromHour mtoHour ns mfrom mto msort 1 mdeep mcoded mlines nl nc nF np ntr nb mbestCost nso nsi nit nsh nsf nss nrc mtraced mdealer mnumber mwhose msize misParted), (nF, sA G 5 (FCT K))])
set_option maxHeartbeats 4000000 in
set_option maxRecDepth 100000 in
theorem m_allF (l : Launch) (G : GG) (K : OO) (h0 : Nat) (nw : Nat) (nk : Nat) (mhasKept : Int32) (nt : Nat) (mtaped : Int32) (nr : Nat) (mrowMany : Int32) (mroundOf : Int32) (mroundFrom : Int32) (mouts : Int32) (nm : Nat) (mfromHour : Int32) (mtoHour : Int32) (ns : Nat) (mfrom : Int32) (mto : Int32) (msort : Int32) (mdeep : Int32) (mcoded : Int32) (mlines : Int32) (nl : Nat) (nc : Nat) (nF : Nat) (np : Nat) (ntr : Nat) (nb : Nat) (mbestCost : Int32) (nso : Nat) (nsi : Nat) (nit : Nat) (nsh : Nat) (nsf : Nat) (nss : Nat) (nrc : Nat) (mtraced : Int32) (mdealer : Int32) (mnumber : Int32) (mwhose : Int32) (msize : Int32) (misParted : Int32) : K_m_allF l G K h0 nw nk mhasKept nt mtaped nr mrowMany mroundOf mroundFrom mouts nm mfromHour mtoHour ns mfrom mto msort mdeep mcoded mlines nl nc nF np ntr nb mbestCost nso nsi nit nsh nsf nss nrc mtraced mdealer mnumber mwhose msize misParted := by
  refine MVo.start (by decide +kernel) (Nat.le_of_ble_eq_true rfl) ?_
  intro p e s m below meth c A ls hC hK hP hD hS hA hl hO
  refine absQ (fun Q0 hQ0 => ?_)
  have hl : lv_has ls 1 [(0, .ref h0)] := hl
  refine Kan8 hC (fun hx hb hr hml hB hown hlocks hnm => ?_)
  refine lv_aload_n hx hb gX12_all_0.1 rfl (lv_at0 hl) ?_
  refine vVo (wr := []) hO hC hK hl hP hD hS hA (m_oneF l G K h0 nw nk mhasKept nt mtaped nr mrowMany mroundOf mroundFrom mouts nm mfromHour mtoHour ns mfrom mto msort mdeep mcoded mlines nl nc nF np ntr nb mbestCost nso nsi nit nsh nsf nss nrc mtraced mdealer mnumber mwhose msize misParted) si_X12_255 [0, 1] [] sm_0_1 fm_0_1 nd_0_1 rfl rfl (by decide) rfl rfl rfl rfl rfl (Nat.le_of_ble_eq_true rfl) rm_8_7_5 ⟨Nat.le_of_ble_eq_true rfl, Nat.le_of_ble_eq_true rfl⟩ gX12_all_0.2.1 (fun u9069 H locs hr9068 hP hD hS => ?_)
  refine Kpdr (ws := [(h0, oX12 nw nk mhasKept nt mtaped nr mrowMany mroundOf mroundFrom mouts nm mfromHour mtoHour ns mfrom mto msort 1 mdeep mcoded mlines nl nc nF np ntr nb mbestCost nso nsi nit nsh nsf nss nrc mtraced mdealer mnumber mwhose msize misParted), (nF, sA G 5 (FCT K))]) hP hD (fun hP hD => ?_)
  refine lv_aload_n hx hb gX12_all_0.2.2.1 rfl (lv_at0 hl) ?_
  refine va_ldcSw (index := 258) (tx := "and") hx hb hown (hO.2.2 9 (by decide)) gX12_all_0.2.2.2.1 ?_
  refine pVo hO hS hC hK hl hP hD (m_isNameF l G K 9 h0 nw nk mhasKept nt mtaped nr mrowMany mroundOf mroundFrom mouts nm mfromHour mtoHour ns mfrom mto msort mdeep mcoded mlines nl nc nF np ntr nb mbestCost nso nsi nit nsh nsf nss nrc mtraced mdealer mnumber mwhose msize misParted ((by decide))) si_X12_248 [0] sm_0 fm_0 nd_0 rfl rfl rfl rfl rfl (Nat.le_of_ble_eq_true rfl) rm_8_5_4 ⟨by first | exact Nat.le_of_ble_eq_true rfl | exact Nat.zero_le _, by first | exact Nat.le_of_ble_eq_true rfl | exact Nat.zero_le _⟩ gX12_all_0.2.2.2.2.1 (Keqr ?_)
  refine lv_if_eq (tgt := 32) hx hb gX12_all_0.2.2.2.2.2.1 (by decide) (fun _ => ?_) (fun c9 => absurd (by decide) c9)
  refine toQ hQ0 ?_
  exact RV hC hP hD hS [0, 1] () rfl rfl (by decide) (trivial) gX12_all_1.2.2.2.2
def K_m_eitherF (l : Launch) (G : GG) (K : OO) (h0 : Nat) (nw : Nat) (nk : Nat) (mhasKept : Int32) (nt : Nat) (mtaped : Int32) (nr : Nat) (mrowMany : Int32) (mroundOf : Int32) (mroundFrom : Int32) (mouts : Int32) (nm : Nat) (mfromHour : Int32) (mtoHour : Int32) (ns : Nat) (mfrom : Int32) (mto : Int32) (msort : Int32) (mdeep : Int32) (mcoded : Int32) (mlines : Int32) (nl : Nat) (nc : Nat) (nF : Nat) (np : Nat) (ntr : Nat) (nb : Nat) (mbestCost : Int32) (nso : Nat) (nsi : Nat) (nit : Nat) (nsh : Nat) (nsf : Nat) (nss : Nat) (nrc : Nat) (mtraced : Int32) (mdealer : Int32) (mnumber : Int32) (mwhose : Int32) (msize : Int32) (misParted : Int32) : Prop := MVo l G K yX12_either cX12_either 1 9 0 0 [.ref h0] [(h0, oX12 nw nk mhasKept nt mtaped nr mrowMany mroundOf mroundFrom mouts nm mfromHour mtoHour ns mfrom mto msort 1 mdeep mcoded mlines nl nc nF np ntr nb mbestCost nso nsi nit nsh nsf nss nrc mtraced mdealer mnumber mwhose msize misParted), (nF, sA G 5 (FCT K))] (fun u : Unit => True) (fun u : Unit => [(h0, oX12 nw nk mhasKept nt mtaped nr mrowMany mroundOf mroundFrom mouts nm mfromHour mtoHour ns mfrom mto msort 1 mdeep mcoded mlines nl nc nF np ntr nb mbestCost nso nsi nit nsh nsf nss nrc mtraced mdealer mnumber mwhose msize misParted), (nF, sA G 5 (FCT K))])
set_option maxHeartbeats 4000000 in
set_option maxRecDepth 100000 in
theorem m_eitherF (l : Launch) (G : GG) (K : OO) (h0 : Nat) (nw : Nat) (nk : Nat) (mhasKept : Int32) (nt : Nat) (mtaped : Int32) (nr : Nat) (mrowMany : Int32) (mroundOf : Int32) (mroundFrom : Int32) (mouts : Int32) (nm : Nat) (mfromHour : Int32) (mtoHour : Int32) (ns : Nat) (mfrom : Int32) (mto : Int32) (msort : Int32) (mdeep : Int32) (mcoded : Int32) (mlines : Int32) (nl : Nat) (nc : Nat) (nF : Nat) (np : Nat) (ntr : Nat) (nb : Nat) (mbestCost : Int32) (nso : Nat) (nsi : Nat) (nit : Nat) (nsh : Nat) (nsf : Nat) (nss : Nat) (nrc : Nat) (mtraced : Int32) (mdealer : Int32) (mnumber : Int32) (mwhose : Int32) (msize : Int32) (misParted : Int32) : K_m_eitherF l G K h0 nw nk mhasKept nt mtaped nr mrowMany mroundOf mroundFrom mouts nm mfromHour mtoHour ns mfrom mto msort mdeep mcoded mlines nl nc nF np ntr nb mbestCost nso nsi nit nsh nsf nss nrc mtraced mdealer mnumber mwhose msize misParted := by
  refine MVo.start (by decide +kernel) (Nat.le_of_ble_eq_true rfl) ?_
  intro p e s m below meth c A ls hC hK hP hD hS hA hl hO
  refine absQ (fun Q0 hQ0 => ?_)
  have hl : lv_has ls 1 [(0, .ref h0)] := hl
  refine Kan8 hC (fun hx hb hr hml hB hown hlocks hnm => ?_)
  refine lv_aload_n hx hb gX12_either_0.1 rfl (lv_at0 hl) ?_
  refine vVo (wr := []) hO hC hK hl hP hD hS hA (m_allF l G K h0 nw nk mhasKept nt mtaped nr mrowMany mroundOf mroundFrom mouts nm mfromHour mtoHour ns mfrom mto msort mdeep mcoded mlines nl nc nF np ntr nb mbestCost nso nsi nit nsh nsf nss nrc mtraced mdealer mnumber mwhose msize misParted) si_X12_243 [0, 1] [] sm_0_1 fm_0_1 nd_0_1 rfl rfl (by decide) rfl rfl rfl rfl rfl (Nat.le_of_ble_eq_true rfl) rm_9_8_1 ⟨Nat.le_of_ble_eq_true rfl, Nat.le_of_ble_eq_true rfl⟩ gX12_either_0.2.1 (fun u9073 H locs hr9072 hP hD hS => ?_)
  refine Kpdr (ws := [(h0, oX12 nw nk mhasKept nt mtaped nr mrowMany mroundOf mroundFrom mouts nm mfromHour mtoHour ns mfrom mto msort 1 mdeep mcoded mlines nl nc nF np ntr nb mbestCost nso nsi nit nsh nsf nss nrc mtraced mdealer mnumber mwhose msize misParted), (nF, sA G 5 (FCT K))]) hP hD (fun hP hD => ?_)
  refine lv_aload_n hx hb gX12_either_0.2.2.1 rfl (lv_at0 hl) ?_
  refine va_ldcS (index := 246) (tx := "o\x72") hx hb hown (hO.2.2 8 (by decide)) gX12_either_0.2.2.2.1 ?_
  refine pVo hO hS hC hK hl hP hD (m_isNameF l G K 8 h0 nw nk mhasKept nt mtaped nr mrowMany mroundOf mroundFrom mouts nm mfromHour mtoHour ns mfrom mto msort mdeep mcoded mlines nl nc nF np ntr nb mbestCost nso nsi nit nsh nsf nss nrc mtraced mdealer mnumber mwhose msize misParted ((by decide))) si_X12_248 [0] sm_0 fm_0 nd_0 rfl rfl rfl rfl rfl (Nat.le_of_ble_eq_true rfl) rm_9_5_4 ⟨by first | exact Nat.le_of_ble_eq_true rfl | exact Nat.zero_le _, by first | exact Nat.le_of_ble_eq_true rfl | exact Nat.zero_le _⟩ gX12_either_0.2.2.2.2.1 (Keqr ?_)
  refine lv_if_eq (tgt := 31) hx hb gX12_either_0.2.2.2.2.2.1 (by decide) (fun _ => ?_) (fun c9 => absurd (by decide) c9)
  refine toQ hQ0 ?_
  exact RV hC hP hD hS [0, 1] () rfl rfl (by decide) (trivial) gX12_either_1.2.2.2.2
def K_m_one (l : Launch) (G : GG) (K : OO) (mn : Nat) (h0 : Nat) (nw : Nat) (nk : Nat) (mhasKept : Int32) (nt : Nat) (ktp : Nat) (nr : Nat) (mrowMany : Int32) (mroundOf : Int32) (mroundFrom : Int32) (mouts : Int32) (nm : Nat) (mfromHour : Int32) (mtoHour : Int32) (ns : Nat) (ks : Nat) (jd : Nat) (kc : Nat) (mlines : Int32) (nl : Nat) (nc : Nat) (nF : Nat) (np : Nat) (ntr : Nat) (nb : Nat) (mbestCost : Int32) (nso : Nat) (nsi : Nat) (nit : Nat) (nsh : Nat) (nsf : Nat) (nss : Nat) (nrc : Nat) (mtraced : Int32) (mdealer : Int32) (mnumber : Int32) (mwhose : Int32) (msize : Int32) (misParted : Int32) (fnt : Nat → Int32) (fnc : Nat → Int32) (bt : Nat → Int32) (cs : List Int32) (rs : List Int32) : Prop := MVo l G K yX12_one cX12_one 5 (10 + 4 * mn) 0 0 [.ref h0] [(h0, oX12 nw nk mhasKept nt (nI ktp) nr mrowMany mroundOf mroundFrom mouts nm mfromHour mtoHour ns (nI ks) (nI (TKE bt ktp ks)) (nI (TKN bt ktp ks)) 0 (nI jd) (nI kc) mlines nl nc nF np ntr nb mbestCost nso nsi nit nsh nsf nss nrc mtraced mdealer mnumber mwhose msize misParted), (nt, iA G 240 fnt), (nc, iA G 100 fnc), (nF, sA G 5 (FCT K))] (fun u : Int32 × Nat × Nat × (Nat → Int32) × (List Int32) × (List Int32) => (0 = u.1 ∧ RT bt ktp 0 jd 0 ks cs rs (1, u.2.1, u.2.2.2.2.1, u.2.2.2.2.2) ∧ STP u.2.2.1 u.2.2.2.1 u.2.2.2.2.2) ∨ (1 = u.1 ∧ RT bt ktp 0 jd 0 ks cs rs (0, u.2.1, [], []) ∧ u.2.1 ≤ ktp)) (fun u : Int32 × Nat × Nat × (Nat → Int32) × (List Int32) × (List Int32) => [(h0, oX12 nw nk mhasKept nt (nI ktp) nr mrowMany mroundOf mroundFrom mouts nm mfromHour mtoHour ns (nI u.2.1) (nI (TKE bt ktp u.2.1)) (nI (TKN bt ktp u.2.1)) u.1 (nI jd) (nI u.2.2.1) mlines nl nc nF np ntr nb mbestCost nso nsi nit nsh nsf nss nrc mtraced mdealer mnumber mwhose msize misParted), (nt, iA G 240 fnt), (nc, iA G 100 u.2.2.2.1), (nF, sA G 5 (FCT K))])
set_option maxHeartbeats 4000000 in
set_option maxRecDepth 100000 in
theorem m_one (l : Launch) (G : GG) (K : OO) (mn : Nat) (h0 : Nat) (nw : Nat) (nk : Nat) (mhasKept : Int32) (nt : Nat) (ktp : Nat) (nr : Nat) (mrowMany : Int32) (mroundOf : Int32) (mroundFrom : Int32) (mouts : Int32) (nm : Nat) (mfromHour : Int32) (mtoHour : Int32) (ns : Nat) (ks : Nat) (jd : Nat) (kc : Nat) (mlines : Int32) (nl : Nat) (nc : Nat) (nF : Nat) (np : Nat) (ntr : Nat) (nb : Nat) (mbestCost : Int32) (nso : Nat) (nsi : Nat) (nit : Nat) (nsh : Nat) (nsf : Nat) (nss : Nat) (nrc : Nat) (mtraced : Int32) (mdealer : Int32) (mnumber : Int32) (mwhose : Int32) (msize : Int32) (misParted : Int32) (fnt : Nat → Int32) (fnc : Nat → Int32) (bt : Nat → Int32) (cs : List Int32) (rs : List Int32) (htp : ktp ≤ 240) (hks : ks ≤ ktp) (hFB : FBT fnt bt ktp) (hST : STP kc fnc rs) (h3s : 3 * kc ≤ ks) (hjm : jd + mn = 4) (ihE : ∀ m9, m9 < mn → ∀ (h0 : Nat) (nw : Nat) (nk : Nat) (mhasKept : Int32) (nt : Nat) (ktp : Nat) (nr : Nat) (mrowMany : Int32) (mroundOf : Int32) (mroundFrom : Int32) (mouts : Int32) (nm : Nat) (mfromHour : Int32) (mtoHour : Int32) (ns : Nat) (ks : Nat) (jd : Nat) (kc : Nat) (mlines : Int32) (nl : Nat) (nc : Nat) (nF : Nat) (np : Nat) (ntr : Nat) (nb : Nat) (mbestCost : Int32) (nso : Nat) (nsi : Nat) (nit : Nat) (nsh : Nat) (nsf : Nat) (nss : Nat) (nrc : Nat) (mtraced : Int32) (mdealer : Int32) (mnumber : Int32) (mwhose : Int32) (msize : Int32) (misParted : Int32) (fnt : Nat → Int32) (fnc : Nat → Int32) (bt : Nat → Int32) (cs : List Int32) (rs : List Int32) (htp : ktp ≤ 240) (hks : ks ≤ ktp) (hFB : FBT fnt bt ktp) (hST : STP kc fnc rs) (h3s : 3 * kc ≤ ks) (hjm : jd + m9 = 4), MVo l G K yX12_either cX12_either 1 (12 + 4 * m9) 0 0 [.ref h0] [(h0, oX12 nw nk mhasKept nt (nI ktp) nr mrowMany mroundOf mroundFrom mouts nm mfromHour mtoHour ns (nI ks) (nI (TKE bt ktp ks)) (nI (TKN bt ktp ks)) 0 (nI jd) (nI kc) mlines nl nc nF np ntr nb mbestCost nso nsi nit nsh nsf nss nrc mtraced mdealer mnumber mwhose msize misParted), (nt, iA G 240 fnt), (nc, iA G 100 fnc), (nF, sA G 5 (FCT K))] (fun u : Int32 × Nat × Nat × (Nat → Int32) × (List Int32) × (List Int32) => (0 = u.1 ∧ RT bt ktp 2 jd 0 ks cs rs (1, u.2.1, u.2.2.2.2.1, u.2.2.2.2.2) ∧ STP u.2.2.1 u.2.2.2.1 u.2.2.2.2.2) ∨ (1 = u.1 ∧ RT bt ktp 2 jd 0 ks cs rs (0, u.2.1, [], []) ∧ u.2.1 ≤ ktp)) (fun u : Int32 × Nat × Nat × (Nat → Int32) × (List Int32) × (List Int32) => [(h0, oX12 nw nk mhasKept nt (nI ktp) nr mrowMany mroundOf mroundFrom mouts nm mfromHour mtoHour ns (nI u.2.1) (nI (TKE bt ktp u.2.1)) (nI (TKN bt ktp u.2.1)) u.1 (nI jd) (nI u.2.2.1) mlines nl nc nF np ntr nb mbestCost nso nsi nit nsh nsf nss nrc mtraced mdealer mnumber mwhose msize misParted), (nt, iA G 240 fnt), (nc, iA G 100 u.2.2.2.1), (nF, sA G 5 (FCT K))])) : K_m_one l G K mn h0 nw nk mhasKept nt ktp nr mrowMany mroundOf mroundFrom mouts nm mfromHour mtoHour ns ks jd kc mlines nl nc nF np ntr nb mbestCost nso nsi nit nsh nsf nss nrc mtraced mdealer mnumber mwhose msize misParted fnt fnc bt cs rs := by
  refine MVo.start (by decide +kernel) (Nat.le_of_ble_eq_true rfl) ?_
  intro p e s m below meth c A ls hC hK hP hD hS hA hl hO
  refine absQ (fun Q0 hQ0 => ?_)
  have hl : lv_has ls 5 [(0, .ref h0)] := hl
  refine Kan8 hC (fun hx hb hr hml hB hown hlocks hnm => ?_)
  have tk0 := TKE.ge (bt := bt) (n := ktp) (s := ks) hks
  have hs1 := hST.1
  refine lv_iconst (v := 0) hx hb gX12_one_0.1 (by decide) ?_
  refine lv_istore_n (lv' := [(1, .int 0), (0, .ref h0)]) hx hb gX12_one_0.2.1 rfl hl (by decide) rfl (fun ls hl => ?_)
  have keyT : ∀ (nT : Nat) (vks : Nat) (vn : Nat) (H : Heap) (locs : List Loc) (ls : Array Slot), (ks + 3 * vn ≤ vks ∧ vks ≤ ktp ∧ 241 ≤ vks + nT) → (∀ r, RT bt ktp 0 jd vn vks cs rs r → RT bt ktp 0 jd 0 ks cs rs r) → va_PD G A [(h0, oX12 nw nk mhasKept nt (nI ktp) nr mrowMany mroundOf mroundFrom mouts nm mfromHour mtoHour ns (nI vks) (nI (TKE bt ktp vks)) (nI (TKN bt ktp vks)) 0 (nI jd) (nI kc) mlines nl nc nF np ntr nb mbestCost nso nsi nit nsh nsf nss nrc mtraced mdealer mnumber mwhose msize misParted), (nt, iA G 240 fnt), (nc, iA G 100 fnc), (nF, sA G 5 (FCT K))] H → va_S A s.heap H locs → lv_has ls 5 [(1, .int (nI vn)), (0, .ref h0)] → W p l e (RM (10 + 4 * mn) 0 0) s m ([.ref h0] : List Value).toArray below meth c H locs 0 0 Q0 (F0 m 2 ls []) := by
    intro nT
    induction nT with
    | zero =>
      intro vks vn H locs ls hiT hco hPD hS hl
      refine Kan2 hPD (fun hP hD => ?_)
      exact (show False by omega).elim
    | succ nT ihT =>
      intro vks vn H locs ls hiT hco hPD hS hl
      refine Kan2 hPD (fun hP hD => ?_)
      have tkv := TKE.ge (bt := bt) (n := ktp) (s := vks) (by omega)
      refine lv_aload_n hx hb gX12_one_0.2.2.1 rfl (lv_at1 hl) ?_
      refine va_ldcSw (index := 260) (tx := "not") hx hb hown (hO.2.2 10 (by decide)) gX12_one_0.2.2.2.1 ?_
      refine pVo hO hS hC hK hl hP hD (m_isNameX l G K 10 h0 nw nk mhasKept nt ktp nr mrowMany mroundOf mroundFrom mouts nm mfromHour mtoHour ns vks (nI jd) (nI kc) mlines nl nc nF np ntr nb mbestCost nso nsi nit nsh nsf nss nrc mtraced mdealer mnumber mwhose msize misParted fnt bt (htp) (by omega) (hFB) ((by decide))) si_X12_248 [0, 1] sm_0_1 fm_0_1 nd_0_1 rfl rfl rfl rfl rfl (Nat.le_of_ble_eq_true rfl) (rmT (Nat.le_of_ble_eq_true rfl) (Nat.le_of_ble_eq_true rfl)) ⟨by first | exact Nat.le_of_ble_eq_true rfl | exact Nat.zero_le _, by first | exact Nat.le_of_ble_eq_true rfl | exact Nat.zero_le _⟩ gX12_one_0.2.2.2.2.1 (Kors (Keqa fun a9077 => ?_) (Keqa fun a9077 => ?_))
      · have hq9078 := a9077
        have xl9079 : vks + 3 ≤ NXT bt ktp vks ∧ NXT bt ktp vks ≤ ktp := WRD.len hq9078 (by omega)
        refine lv_if_eq (tgt := 22) hx hb gX12_one_0.2.2.2.2.2.1 (by decide) (fun c9 => absurd c9 (by decide)) (fun _ => ?_)
        refine lv_aload_n hx hb gX12_one_0.2.2.2.2.2.2.1 rfl (lv_at1 hl) ?_
        refine vV (wr := [(nc, iA G 100 fnc), (nF, sA G 5 (FCT K))]) hC hK hl hP hD hS hA (m_nextT l G h0 nw nk mhasKept nt ktp nr mrowMany mroundOf mroundFrom mouts nm mfromHour mtoHour ns vks 0 (nI jd) (nI kc) mlines nl nc nF np ntr nb mbestCost nso nsi nit nsh nsf nss nrc mtraced mdealer mnumber mwhose msize misParted fnt bt (htp) (by omega) (hFB)) si_X12_233 [0, 1] [2, 3] sm_0_1 fm_0_1 nd_0_1 sm_2_3 nd_2_3 dj_0_1__2_3 rfl rfl rfl rfl rfl (Nat.le_of_ble_eq_true rfl) (rmT (Nat.le_of_ble_eq_true rfl) (Nat.le_of_ble_eq_true rfl)) ⟨Nat.le_of_ble_eq_true rfl, Nat.le_of_ble_eq_true rfl⟩ gX12_one_0.2.2.2.2.2.2.2.1 (fun u9081 H locs hr9080 hP hD hS => ?_)
        refine Kpdr (ws := [(nc, iA G 100 fnc), (nF, sA G 5 (FCT K)), (h0, oX12 nw nk mhasKept nt (nI ktp) nr mrowMany mroundOf mroundFrom mouts nm mfromHour mtoHour ns (nI (NXT bt ktp vks)) (nI (TKE bt ktp (NXT bt ktp vks))) (nI (TKN bt ktp (NXT bt ktp vks))) 0 (nI jd) (nI kc) mlines nl nc nF np ntr nb mbestCost nso nsi nit nsh nsf nss nrc mtraced mdealer mnumber mwhose msize misParted), (nt, iA G 240 fnt)]) hP hD (fun hP hD => ?_)
        have xn9082 := NXT.ge (bt := bt) (n := ktp) (s := vks) (by omega)
        refine lv_iinc (v := nI (vn + 1)) (lv' := [(1, .int (nI (vn + 1))), (0, .ref h0)]) hx hb gX12_one_0.2.2.2.2.2.2.2.2.1 hl (k := 0) rfl (nI_1 _) (by decide) rfl (fun ls hl => ?_)
        refine lv_goto (tgt := 2) hx hb gX12_one_0.2.2.2.2.2.2.2.2.2 (by decide) ?_
        refine Kpds (ws' := [(h0, oX12 nw nk mhasKept nt (nI ktp) nr mrowMany mroundOf mroundFrom mouts nm mfromHour mtoHour ns (nI (NXT bt ktp vks)) (nI (TKE bt ktp (NXT bt ktp vks))) (nI (TKN bt ktp (NXT bt ktp vks))) 0 (nI jd) (nI kc) mlines nl nc nF np ntr nb mbestCost nso nsi nit nsh nsf nss nrc mtraced mdealer mnumber mwhose msize misParted), (nt, iA G 240 fnt), (nc, iA G 100 fnc), (nF, sA G 5 (FCT K))]) hP hD [2, 3, 0, 1] fm_2_3_0_1 nd_2_3_0_1 sm_2_3_0_1 (fun hP hD => ?_)
        exact ihT (NXT bt ktp vks) (vn + 1) _ _ _ (by omega) (fun r h9 => hco r (RT.not hq9078 h9)) (And.intro hP hD) hS (lv_sub hl [0, 1] rfl)
      · have hq9083 := a9077
        refine lv_if_eq (tgt := 22) hx hb gX12_one_0.2.2.2.2.2.1 (by decide) (fun _ => ?_) (fun c9 => absurd (by decide) c9)
        refine lv_aload_n hx hb gX12_one_1.1 rfl (lv_at1 hl) ?_
        refine lv_bipush (v := 40) hx hb gX12_one_1.2.1 (by decide) ?_
        refine pV hC hK hl hP hD (m_isSignX l G h0 40 nw nk mhasKept nt ktp nr mrowMany mroundOf mroundFrom mouts nm mfromHour mtoHour ns vks (nI jd) (nI kc) mlines nl nc nF np ntr nb mbestCost nso nsi nit nsh nsf nss nrc mtraced mdealer mnumber mwhose msize misParted fnt bt (htp) (by omega) (hFB)) si_X12_262 [0, 1] sm_0_1 fm_0_1 nd_0_1 rfl rfl rfl rfl rfl (Nat.le_of_ble_eq_true rfl) (rmT (Nat.le_of_ble_eq_true rfl) (Nat.le_of_ble_eq_true rfl)) ⟨by first | exact Nat.le_of_ble_eq_true rfl | exact Nat.zero_le _, by first | exact Nat.le_of_ble_eq_true rfl | exact Nat.zero_le _⟩ gX12_one_1.2.2.1 (Kors (Keqa fun a9085 => ?_) (Keqa fun a9085 => ?_))
        · have hq9086 := a9085
          have xl9087 := SGN.len hq9086 (by omega)
          refine lv_if_eq (tgt := 85) hx hb gX12_one_1.2.2.2.1 (by decide) (fun c9 => absurd c9 (by decide)) (fun _ => ?_)
          refine lv_aload_n hx hb gX12_one_1.2.2.2.2.1 rfl (lv_at1 hl) ?_
          refine lv_dup hx hb gX12_one_1.2.2.2.2.2.1 rfl ?_
          refine gf_X12_265 hC rfl hK hP 0 rfl rfl gX12_one_1.2.2.2.2.2.2.1 ?_
          refine lv_iconst (v := 1) hx hb gX12_one_1.2.2.2.2.2.2.2.1 (by decide) ?_
          refine lv_iadd hx hb gX12_one_1.2.2.2.2.2.2.2.2.1 ?_
          refine eqi (x1 := nI (jd + 1)) (nI_add jd 1) ?_
          refine pf_X12_265 hC rfl hK hP hD hS 0 (ws' := [(h0, oX12 nw nk mhasKept nt (nI ktp) nr mrowMany mroundOf mroundFrom mouts nm mfromHour mtoHour ns (nI vks) (nI (TKE bt ktp vks)) (nI (TKN bt ktp vks)) 0 (nI (jd + 1)) (nI kc) mlines nl nc nF np ntr nb mbestCost nso nsi nit nsh nsf nss nrc mtraced mdealer mnumber mwhose msize misParted), (nt, iA G 240 fnt), (nc, iA G 100 fnc), (nF, sA G 5 (FCT K))]) rfl (Nat.le_of_ble_eq_true rfl) rfl rfl rfl gX12_one_1.2.2.2.2.2.2.2.2.2 (fun H locs hP hD hS => ?_)
          refine lv_aload_n hx hb gX12_one_2.1 rfl (lv_at1 hl) ?_
          refine lv_aload_n hx hb gX12_one_2.2.1 rfl (lv_at1 hl) ?_
          refine gf_X12_265 hC rfl hK hP 0 rfl rfl gX12_one_2.2.2.1 ?_
          refine lv_iconst (v := 4) hx hb gX12_one_2.2.2.2.1 (by decide) ?_
          refine lv_icmp_gt (tgt := 54) hx hb gX12_one_2.2.2.2.2.1 (by decide) (fun c_47_9088 => ?_) (fun c_47_9088 => ?_)
          · have nb9089 : 4 < (jd + 1) := (nI_ltI (a := 4) (b := (jd + 1)) (by omega) (by omega)).mp c_47_9088
            refine lv_iconst (v := 0) hx hb gX12_one_2.2.2.2.2.2.2.2.1 (by decide) ?_
            refine vV (wr := [(nt, iA G 240 fnt), (nc, iA G 100 fnc), (nF, sA G 5 (FCT K))]) hC hK hl hP hD hS hA (m_need0 l G h0 nw nk mhasKept nt (nI ktp) nr mrowMany mroundOf mroundFrom mouts nm mfromHour mtoHour ns (nI vks) (nI (TKE bt ktp vks)) (nI (TKN bt ktp vks)) (nI (jd + 1)) (nI kc) mlines nl nc nF np ntr nb mbestCost nso nsi nit nsh nsf nss nrc mtraced mdealer mnumber mwhose msize misParted) si_X12_236 [0] [1, 2, 3] sm_0 fm_0 nd_0 sm_1_2_3 nd_1_2_3 dj_0__1_2_3 rfl rfl rfl rfl rfl (Nat.le_of_ble_eq_true rfl) (rmT (Nat.le_of_ble_eq_true rfl) (Nat.le_of_ble_eq_true rfl)) ⟨Nat.le_of_ble_eq_true rfl, Nat.le_of_ble_eq_true rfl⟩ gX12_one_2.2.2.2.2.2.2.2.2.1 (fun u9092 H locs hr9091 hP hD hS => ?_)
            refine Kpdr (ws := [(nt, iA G 240 fnt), (nc, iA G 100 fnc), (nF, sA G 5 (FCT K)), (h0, oX12 nw nk mhasKept nt (nI ktp) nr mrowMany mroundOf mroundFrom mouts nm mfromHour mtoHour ns (nI vks) (nI (TKE bt ktp vks)) (nI (TKN bt ktp vks)) 1 (nI (jd + 1)) (nI kc) mlines nl nc nF np ntr nb mbestCost nso nsi nit nsh nsf nss nrc mtraced mdealer mnumber mwhose msize misParted)]) hP hD (fun hP hD => ?_)
            refine lv_aload_n hx hb gX12_one_2.2.2.2.2.2.2.2.2.2 rfl (lv_at1 hl) ?_
            refine vVo (wr := [(nt, iA G 240 fnt), (nc, iA G 100 fnc)]) hO hC hK hl hP hD hS hA (m_eitherF l G K h0 nw nk mhasKept nt (nI ktp) nr mrowMany mroundOf mroundFrom mouts nm mfromHour mtoHour ns (nI vks) (nI (TKE bt ktp vks)) (nI (TKN bt ktp vks)) (nI (jd + 1)) (nI kc) mlines nl nc nF np ntr nb mbestCost nso nsi nit nsh nsf nss nrc mtraced mdealer mnumber mwhose msize misParted) si_X12_268 [3, 2] [0, 1] sm_3_2 fm_3_2 nd_3_2 sm_0_1 nd_0_1 dj_3_2__0_1 rfl rfl rfl rfl rfl (Nat.le_of_ble_eq_true rfl) (rmT (Nat.le_of_ble_eq_true rfl) (Nat.le_of_ble_eq_true rfl)) ⟨Nat.le_of_ble_eq_true rfl, Nat.le_of_ble_eq_true rfl⟩ gX12_one_3.1 (fun u9094 H locs hr9093 hP hD hS => ?_)
            refine Kpdr (ws := [(nt, iA G 240 fnt), (nc, iA G 100 fnc), (h0, oX12 nw nk mhasKept nt (nI ktp) nr mrowMany mroundOf mroundFrom mouts nm mfromHour mtoHour ns (nI vks) (nI (TKE bt ktp vks)) (nI (TKN bt ktp vks)) 1 (nI (jd + 1)) (nI kc) mlines nl nc nF np ntr nb mbestCost nso nsi nit nsh nsf nss nrc mtraced mdealer mnumber mwhose msize misParted), (nF, sA G 5 (FCT K))]) hP hD (fun hP hD => ?_)
            refine lv_aload_n hx hb gX12_one_3.2.1 rfl (lv_at1 hl) ?_
            refine lv_aload_n hx hb gX12_one_3.2.2.1 rfl (lv_at1 hl) ?_
            refine lv_bipush (v := 41) hx hb gX12_one_3.2.2.2.1 (by decide) ?_
            refine pV hC hK hl hP hD (m_isSignF l G h0 41 nw nk mhasKept nt (nI ktp) nr mrowMany mroundOf mroundFrom mouts nm mfromHour mtoHour ns (nI vks) (nI (TKE bt ktp vks)) (nI (TKN bt ktp vks)) (nI (jd + 1)) (nI kc) mlines nl nc nF np ntr nb mbestCost nso nsi nit nsh nsf nss nrc mtraced mdealer mnumber mwhose msize misParted) si_X12_262 [2] sm_2 fm_2 nd_2 rfl rfl rfl rfl rfl (Nat.le_of_ble_eq_true rfl) (rmT (Nat.le_of_ble_eq_true rfl) (Nat.le_of_ble_eq_true rfl)) ⟨by first | exact Nat.le_of_ble_eq_true rfl | exact Nat.zero_le _, by first | exact Nat.le_of_ble_eq_true rfl | exact Nat.zero_le _⟩ gX12_one_3.2.2.2.2.1 (Keqr ?_)
            refine vV (wr := [(nt, iA G 240 fnt), (nc, iA G 100 fnc), (nF, sA G 5 (FCT K))]) hC hK hl hP hD hS hA (m_needF l G h0 0 nw nk mhasKept nt (nI ktp) nr mrowMany mroundOf mroundFrom mouts nm mfromHour mtoHour ns (nI vks) (nI (TKE bt ktp vks)) (nI (TKN bt ktp vks)) (nI (jd + 1)) (nI kc) mlines nl nc nF np ntr nb mbestCost nso nsi nit nsh nsf nss nrc mtraced mdealer mnumber mwhose msize misParted) si_X12_236 [2] [0, 1, 3] sm_2 fm_2 nd_2 sm_0_1_3 nd_0_1_3 dj_2__0_1_3 rfl rfl rfl rfl rfl (Nat.le_of_ble_eq_true rfl) (rmT (Nat.le_of_ble_eq_true rfl) (Nat.le_of_ble_eq_true rfl)) ⟨Nat.le_of_ble_eq_true rfl, Nat.le_of_ble_eq_true rfl⟩ gX12_one_3.2.2.2.2.2.1 (fun u9098 H locs hr9097 hP hD hS => ?_)
            refine Kpdr (ws := [(nt, iA G 240 fnt), (nc, iA G 100 fnc), (nF, sA G 5 (FCT K)), (h0, oX12 nw nk mhasKept nt (nI ktp) nr mrowMany mroundOf mroundFrom mouts nm mfromHour mtoHour ns (nI vks) (nI (TKE bt ktp vks)) (nI (TKN bt ktp vks)) 1 (nI (jd + 1)) (nI kc) mlines nl nc nF np ntr nb mbestCost nso nsi nit nsh nsf nss nrc mtraced mdealer mnumber mwhose msize misParted)]) hP hD (fun hP hD => ?_)
            refine lv_aload_n hx hb gX12_one_3.2.2.2.2.2.2.1 rfl (lv_at1 hl) ?_
            refine lv_dup hx hb gX12_one_3.2.2.2.2.2.2.2.1 rfl ?_
            refine gf_X12_265 hC rfl hK hP 3 rfl rfl gX12_one_3.2.2.2.2.2.2.2.2.1 ?_
            refine lv_iconst (v := 1) hx hb gX12_one_3.2.2.2.2.2.2.2.2.2 (by decide) ?_
            refine lv_isub hx hb gX12_one_4.1 ?_
            refine eqi (x1 := nI jd) (nI_sub1 jd) ?_
            refine pf_X12_265 hC rfl hK hP hD hS 3 (ws' := [(nt, iA G 240 fnt), (nc, iA G 100 fnc), (nF, sA G 5 (FCT K)), (h0, oX12 nw nk mhasKept nt (nI ktp) nr mrowMany mroundOf mroundFrom mouts nm mfromHour mtoHour ns (nI vks) (nI (TKE bt ktp vks)) (nI (TKN bt ktp vks)) 1 (nI jd) (nI kc) mlines nl nc nF np ntr nb mbestCost nso nsi nit nsh nsf nss nrc mtraced mdealer mnumber mwhose msize misParted)]) rfl (Nat.le_of_ble_eq_true rfl) rfl rfl rfl gX12_one_4.2.1 (fun H locs hP hD hS => ?_)
            refine lv_goto (tgt := 223) hx hb gX12_one_4.2.2.1 (by decide) ?_
            refine lv_iconst (v := 0) hx hb gX12_one_11.2.2.2.2.2.2.1 (by decide) ?_
            refine lv_istore_n (lv' := [(2, .int 0), (1, .int (nI vn)), (0, .ref h0)]) hx hb gX12_one_11.2.2.2.2.2.2.2.1 rfl hl (by decide) rfl (fun ls hl => ?_)
            have keyN : ∀ (nN kN : Nat) (H : Heap) (locs : List Loc) (ls : Array Slot), kN + nN = vn → va_PD G A [(nt, iA G 240 fnt), (nc, iA G 100 fnc), (nF, sA G 5 (FCT K)), (h0, oX12 nw nk mhasKept nt (nI ktp) nr mrowMany mroundOf mroundFrom mouts nm mfromHour mtoHour ns (nI vks) (nI (TKE bt ktp vks)) (nI (TKN bt ktp vks)) 1 (nI jd) (nI kc) mlines nl nc nF np ntr nb mbestCost nso nsi nit nsh nsf nss nrc mtraced mdealer mnumber mwhose msize misParted)] H → va_S A s.heap H locs → lv_has ls 5 [(2, .int (nI kN)), (1, .int (nI vn)), (0, .ref h0)] → W p l e (RM (10 + 4 * mn) 0 0) s m ([.ref h0] : List Value).toArray below meth c H locs 0 0 Q0 (F0 m 225 ls []) := by
              intro nN
              induction nN with
              | zero =>
                intro kN H locs ls hkN hPD hS hl
                refine Kan2 hPD (fun hP hD => ?_)
                obtain rfl : vn = kN := by omega
                have hl : lv_has ls 5 [(2, .int (nI vn)), (1, .int (nI vn)), (0, .ref h0)] := hl
                refine lv_iload_n hx hb gX12_one_11.2.2.2.2.2.2.2.2.1 rfl (lv_at0 hl) ?_
                refine lv_iload_n hx hb gX12_one_11.2.2.2.2.2.2.2.2.2 rfl (lv_at1 hl) ?_
                refine lv_icmp_ge (tgt := 243) hx hb gX12_one_12.1 (by decide) (fun _ => ?_) (fun c9 => absurd (Int32.le_refl _) c9)
                refine toQ hQ0 ?_
                exact RV hC hP hD hS [3, 0, 1, 2] (1, vks, kc, fnc, [], []) rfl rfl (by decide) (Or.inr ⟨rfl, hco _ (RT.deep hq9086 (by omega)), by (try dsimp only); omega⟩) gX12_one_12.2.2.2.2.2.2
              | succ nN ihN =>
                intro kN H locs ls hkN hPD hS hl
                refine Kan2 hPD (fun hP hD => ?_)
                refine lv_iload_n hx hb gX12_one_11.2.2.2.2.2.2.2.2.1 rfl (lv_at0 hl) ?_
                refine lv_iload_n hx hb gX12_one_11.2.2.2.2.2.2.2.2.2 rfl (lv_at1 hl) ?_
                refine lv_icmp_ge (tgt := 243) hx hb gX12_one_12.1 (by decide) (fun c9 => absurd c9 (nI_ge (a := kN) (b := vn) (by omega) (by omega))) (fun _ => ?_)
                refine lv_aload_n hx hb gX12_one_12.2.1 rfl (lv_at2 hl) ?_
                refine lv_sipush (v := 30000) hx hb gX12_one_12.2.2.1 (by decide) ?_
                refine vV (wr := [(nt, iA G 240 fnt), (nc, iA G 100 fnc), (nF, sA G 5 (FCT K))]) hC hK hl hP hD hS hA (m_codesF l G h0 30000 nw nk mhasKept nt (nI ktp) nr mrowMany mroundOf mroundFrom mouts nm mfromHour mtoHour ns (nI vks) (nI (TKE bt ktp vks)) (nI (TKN bt ktp vks)) (nI jd) (nI kc) mlines nl nc nF np ntr nb mbestCost nso nsi nit nsh nsf nss nrc mtraced mdealer mnumber mwhose msize misParted) si_X12_252 [3] [0, 1, 2] sm_3 fm_3 nd_3 sm_0_1_2 nd_0_1_2 dj_3__0_1_2 rfl rfl rfl rfl rfl (Nat.le_of_ble_eq_true rfl) (rmT (Nat.le_of_ble_eq_true rfl) (Nat.le_of_ble_eq_true rfl)) ⟨Nat.le_of_ble_eq_true rfl, Nat.le_of_ble_eq_true rfl⟩ gX12_one_12.2.2.2.1 (fun u9100 H locs hr9099 hP hD hS => ?_)
                refine Kpdr (ws := [(nt, iA G 240 fnt), (nc, iA G 100 fnc), (nF, sA G 5 (FCT K)), (h0, oX12 nw nk mhasKept nt (nI ktp) nr mrowMany mroundOf mroundFrom mouts nm mfromHour mtoHour ns (nI vks) (nI (TKE bt ktp vks)) (nI (TKN bt ktp vks)) 1 (nI jd) (nI kc) mlines nl nc nF np ntr nb mbestCost nso nsi nit nsh nsf nss nrc mtraced mdealer mnumber mwhose msize misParted)]) hP hD (fun hP hD => ?_)
                refine lv_iinc (v := nI (kN + 1)) (lv' := [(2, .int (nI (kN + 1))), (1, .int (nI vn)), (0, .ref h0)]) hx hb gX12_one_12.2.2.2.2.1 hl (k := 0) rfl (nI_1 _) (by decide) rfl (fun ls hl => ?_)
                refine lv_goto (tgt := 225) hx hb gX12_one_12.2.2.2.2.2.1 (by decide) ?_
                exact ihN (kN + 1) _ _ _ (by omega) (And.intro hP hD) hS (lv_sub hl [0, 1, 2] rfl)
            exact keyN vn 0 _ _ _ (by omega) (And.intro hP hD) hS (lv_sub hl [0, 1, 2] rfl)
          · have nb9090 : ¬ 4 < (jd + 1) := fun h9 => c_47_9088 ((nI_ltI (a := 4) (b := (jd + 1)) (by omega) (by omega)).mpr h9)
            refine lv_iconst (v := 1) hx hb gX12_one_2.2.2.2.2.2.1 (by decide) ?_
            refine lv_goto (tgt := 55) hx hb gX12_one_2.2.2.2.2.2.2.1 (by decide) ?_
            refine vV (wr := [(nc, iA G 100 fnc), (nF, sA G 5 (FCT K))]) hC hK hl hP hD hS hA (m_need1X l G h0 nw nk mhasKept nt ktp nr mrowMany mroundOf mroundFrom mouts nm mfromHour mtoHour ns vks (nI (jd + 1)) (nI kc) mlines nl nc nF np ntr nb mbestCost nso nsi nit nsh nsf nss nrc mtraced mdealer mnumber mwhose msize misParted fnt bt (htp) (by omega) (hFB)) si_X12_236 [0, 1] [2, 3] sm_0_1 fm_0_1 nd_0_1 sm_2_3 nd_2_3 dj_0_1__2_3 rfl rfl rfl rfl rfl (Nat.le_of_ble_eq_true rfl) (rmT (Nat.le_of_ble_eq_true rfl) (Nat.le_of_ble_eq_true rfl)) ⟨Nat.le_of_ble_eq_true rfl, Nat.le_of_ble_eq_true rfl⟩ gX12_one_2.2.2.2.2.2.2.2.2.1 (fun u9102 H locs hr9101 hP hD hS => ?_)
            refine Kpdr (ws := [(nc, iA G 100 fnc), (nF, sA G 5 (FCT K)), (h0, oX12 nw nk mhasKept nt (nI ktp) nr mrowMany mroundOf mroundFrom mouts nm mfromHour mtoHour ns (nI (NXT bt ktp vks)) (nI (TKE bt ktp (NXT bt ktp vks))) (nI (TKN bt ktp (NXT bt ktp vks))) 0 (nI (jd + 1)) (nI kc) mlines nl nc nF np ntr nb mbestCost nso nsi nit nsh nsf nss nrc mtraced mdealer mnumber mwhose msize misParted), (nt, iA G 240 fnt)]) hP hD (fun hP hD => ?_)
            have xn9103 := NXT.ge (bt := bt) (n := ktp) (s := vks) (by omega)
            refine lv_aload_n hx hb gX12_one_2.2.2.2.2.2.2.2.2.2 rfl (lv_at1 hl) ?_
            refine vVo (wr := []) hO hC hK hl hP hD hS hA (ihE (mn - 1) (by omega) h0 nw nk mhasKept nt ktp nr mrowMany mroundOf mroundFrom mouts nm mfromHour mtoHour ns (NXT bt ktp vks) (jd + 1) kc mlines nl nc nF np ntr nb mbestCost nso nsi nit nsh nsf nss nrc mtraced mdealer mnumber mwhose msize misParted fnt fnc bt cs rs (by omega) (by omega) (hFB) (hST) (by omega) (by omega)) si_X12_268 [2, 3, 0, 1] [] sm_2_3_0_1 fm_2_3_0_1 nd_2_3_0_1 rfl rfl (by decide) rfl rfl rfl rfl rfl (Nat.le_of_ble_eq_true rfl) ⟨by simp only [RM]; omega, by simp only [RM]; omega⟩ ⟨Nat.le_of_ble_eq_true rfl, Nat.le_of_ble_eq_true rfl⟩ gX12_one_3.1 (Ktu6 fun ff19106 ks19107 kc19108 gnc9109 c19110 r19111 => ?_)
            intro H locs hr9104 hP hD hS
            try dsimp only at hr9104
            refine Kpdr (ws := [(h0, oX12 nw nk mhasKept nt (nI ktp) nr mrowMany mroundOf mroundFrom mouts nm mfromHour mtoHour ns (nI ks19107) (nI (TKE bt ktp ks19107)) (nI (TKN bt ktp ks19107)) ff19106 (nI (jd + 1)) (nI kc19108) mlines nl nc nF np ntr nb mbestCost nso nsi nit nsh nsf nss nrc mtraced mdealer mnumber mwhose msize misParted), (nt, iA G 240 fnt), (nc, iA G 100 gnc9109), (nF, sA G 5 (FCT K))]) hP hD (fun hP hD => ?_)
            have w9112 := hr9104
            rcases w9112 with v9113 | v9114
            · obtain ⟨rfl, hq9115, hq9116⟩ := v9113
              have xl9117 := RT.lem hq9115 (by decide) (by omega)
              have xl9118 := hq9116.1
              refine lv_aload_n hx hb gX12_one_3.2.1 rfl (lv_at1 hl) ?_
              refine lv_aload_n hx hb gX12_one_3.2.2.1 rfl (lv_at1 hl) ?_
              refine lv_bipush (v := 41) hx hb gX12_one_3.2.2.2.1 (by decide) ?_
              refine pV hC hK hl hP hD (m_isSignX l G h0 41 nw nk mhasKept nt ktp nr mrowMany mroundOf mroundFrom mouts nm mfromHour mtoHour ns ks19107 (nI (jd + 1)) (nI kc19108) mlines nl nc nF np ntr nb mbestCost nso nsi nit nsh nsf nss nrc mtraced mdealer mnumber mwhose msize misParted fnt bt (htp) (by omega) (hFB)) si_X12_262 [0, 1] sm_0_1 fm_0_1 nd_0_1 rfl rfl rfl rfl rfl (Nat.le_of_ble_eq_true rfl) (rmT (Nat.le_of_ble_eq_true rfl) (Nat.le_of_ble_eq_true rfl)) ⟨by first | exact Nat.le_of_ble_eq_true rfl | exact Nat.zero_le _, by first | exact Nat.le_of_ble_eq_true rfl | exact Nat.zero_le _⟩ gX12_one_3.2.2.2.2.1 (Kors (Keqa fun a9120 => ?_) (Keqa fun a9120 => ?_))
              · have hq9121 := a9120
                have xl9122 := SGN.len hq9121 (by omega)
                refine vV (wr := [(nc, iA G 100 gnc9109), (nF, sA G 5 (FCT K))]) hC hK hl hP hD hS hA (m_need1X l G h0 nw nk mhasKept nt ktp nr mrowMany mroundOf mroundFrom mouts nm mfromHour mtoHour ns ks19107 (nI (jd + 1)) (nI kc19108) mlines nl nc nF np ntr nb mbestCost nso nsi nit nsh nsf nss nrc mtraced mdealer mnumber mwhose msize misParted fnt bt (htp) (by omega) (hFB)) si_X12_236 [0, 1] [2, 3] sm_0_1 fm_0_1 nd_0_1 sm_2_3 nd_2_3 dj_0_1__2_3 rfl rfl rfl rfl rfl (Nat.le_of_ble_eq_true rfl) (rmT (Nat.le_of_ble_eq_true rfl) (Nat.le_of_ble_eq_true rfl)) ⟨Nat.le_of_ble_eq_true rfl, Nat.le_of_ble_eq_true rfl⟩ gX12_one_3.2.2.2.2.2.1 (fun u9124 H locs hr9123 hP hD hS => ?_)
                refine Kpdr (ws := [(nc, iA G 100 gnc9109), (nF, sA G 5 (FCT K)), (h0, oX12 nw nk mhasKept nt (nI ktp) nr mrowMany mroundOf mroundFrom mouts nm mfromHour mtoHour ns (nI (NXT bt ktp ks19107)) (nI (TKE bt ktp (NXT bt ktp ks19107))) (nI (TKN bt ktp (NXT bt ktp ks19107))) 0 (nI (jd + 1)) (nI kc19108) mlines nl nc nF np ntr nb mbestCost nso nsi nit nsh nsf nss nrc mtraced mdealer mnumber mwhose msize misParted), (nt, iA G 240 fnt)]) hP hD (fun hP hD => ?_)
                have xn9125 := NXT.ge (bt := bt) (n := ktp) (s := ks19107) (by omega)
                refine lv_aload_n hx hb gX12_one_3.2.2.2.2.2.2.1 rfl (lv_at1 hl) ?_
                refine lv_dup hx hb gX12_one_3.2.2.2.2.2.2.2.1 rfl ?_
                refine gf_X12_265 hC rfl hK hP 2 rfl rfl gX12_one_3.2.2.2.2.2.2.2.2.1 ?_
                refine lv_iconst (v := 1) hx hb gX12_one_3.2.2.2.2.2.2.2.2.2 (by decide) ?_
                refine lv_isub hx hb gX12_one_4.1 ?_
                refine eqi (x1 := nI jd) (nI_sub1 jd) ?_
                refine pf_X12_265 hC rfl hK hP hD hS 2 (ws' := [(nc, iA G 100 gnc9109), (nF, sA G 5 (FCT K)), (h0, oX12 nw nk mhasKept nt (nI ktp) nr mrowMany mroundOf mroundFrom mouts nm mfromHour mtoHour ns (nI (NXT bt ktp ks19107)) (nI (TKE bt ktp (NXT bt ktp ks19107))) (nI (TKN bt ktp (NXT bt ktp ks19107))) 0 (nI jd) (nI kc19108) mlines nl nc nF np ntr nb mbestCost nso nsi nit nsh nsf nss nrc mtraced mdealer mnumber mwhose msize misParted), (nt, iA G 240 fnt)]) rfl (Nat.le_of_ble_eq_true rfl) rfl rfl rfl gX12_one_4.2.1 (fun H locs hP hD hS => ?_)
                refine lv_goto (tgt := 223) hx hb gX12_one_4.2.2.1 (by decide) ?_
                refine lv_iconst (v := 0) hx hb gX12_one_11.2.2.2.2.2.2.1 (by decide) ?_
                refine lv_istore_n (lv' := [(2, .int 0), (1, .int (nI vn)), (0, .ref h0)]) hx hb gX12_one_11.2.2.2.2.2.2.2.1 rfl hl (by decide) rfl (fun ls hl => ?_)
                have keyN : ∀ (nN kN : Nat) (vC : Nat → Int32) (H : Heap) (locs : List Loc) (ls : Array Slot), kN + nN = vn → (STP (kc19108 + kN) vC (r19111 ++ List.replicate kN 30000)) → va_PD G A [(nc, iA G 100 vC), (nF, sA G 5 (FCT K)), (h0, oX12 nw nk mhasKept nt (nI ktp) nr mrowMany mroundOf mroundFrom mouts nm mfromHour mtoHour ns (nI (NXT bt ktp ks19107)) (nI (TKE bt ktp (NXT bt ktp ks19107))) (nI (TKN bt ktp (NXT bt ktp ks19107))) 0 (nI jd) (nI (kc19108 + kN)) mlines nl nc nF np ntr nb mbestCost nso nsi nit nsh nsf nss nrc mtraced mdealer mnumber mwhose msize misParted), (nt, iA G 240 fnt)] H → va_S A s.heap H locs → lv_has ls 5 [(2, .int (nI kN)), (1, .int (nI vn)), (0, .ref h0)] → W p l e (RM (10 + 4 * mn) 0 0) s m ([.ref h0] : List Value).toArray below meth c H locs 0 0 Q0 (F0 m 225 ls []) := by
                  intro nN
                  induction nN with
                  | zero =>
                    intro kN vC H locs ls hkN hEx hPD hS hl
                    refine Kan2 hPD (fun hP hD => ?_)
                    obtain rfl : vn = kN := by omega
                    refine Kpdr (ws := [(nc, iA G 100 vC), (nF, sA G 5 (FCT K)), (h0, oX12 nw nk mhasKept nt (nI ktp) nr mrowMany mroundOf mroundFrom mouts nm mfromHour mtoHour ns (nI (NXT bt ktp ks19107)) (nI (TKE bt ktp (NXT bt ktp ks19107))) (nI (TKN bt ktp (NXT bt ktp ks19107))) 0 (nI jd) (nI (kc19108 + vn)) mlines nl nc nF np ntr nb mbestCost nso nsi nit nsh nsf nss nrc mtraced mdealer mnumber mwhose msize misParted), (nt, iA G 240 fnt)]) hP hD (fun hP hD => ?_)
                    have hl : lv_has ls 5 [(2, .int (nI vn)), (1, .int (nI vn)), (0, .ref h0)] := hl
                    refine lv_iload_n hx hb gX12_one_11.2.2.2.2.2.2.2.2.1 rfl (lv_at0 hl) ?_
                    refine lv_iload_n hx hb gX12_one_11.2.2.2.2.2.2.2.2.2 rfl (lv_at1 hl) ?_
                    refine lv_icmp_ge (tgt := 243) hx hb gX12_one_12.1 (by decide) (fun _ => ?_) (fun c9 => absurd (Int32.le_refl _) c9)
                    refine toQ hQ0 ?_
                    exact RV hC hP hD hS [2, 3, 0, 1] (0, (NXT bt ktp ks19107), (kc19108 + vn), vC, (c19110 ++ NOC vn), (r19111 ++ NTR vn)) rfl rfl (by decide) (Or.inl ⟨rfl, hco _ (RT.inO hq9086 (by omega) hq9115 hq9121), hEx⟩) gX12_one_12.2.2.2.2.2.2
                  | succ nN ihN =>
                    intro kN vC H locs ls hkN hEx hPD hS hl
                    refine Kan2 hPD (fun hP hD => ?_)
                    refine lv_iload_n hx hb gX12_one_11.2.2.2.2.2.2.2.2.1 rfl (lv_at0 hl) ?_
                    refine lv_iload_n hx hb gX12_one_11.2.2.2.2.2.2.2.2.2 rfl (lv_at1 hl) ?_
                    refine lv_icmp_ge (tgt := 243) hx hb gX12_one_12.1 (by decide) (fun c9 => absurd c9 (nI_ge (a := kN) (b := vn) (by omega) (by omega))) (fun _ => ?_)
                    refine lv_aload_n hx hb gX12_one_12.2.1 rfl (lv_at2 hl) ?_
                    refine lv_sipush (v := 30000) hx hb gX12_one_12.2.2.1 (by decide) ?_
                    refine vV (wr := [(nF, sA G 5 (FCT K)), (nt, iA G 240 fnt)]) hC hK hl hP hD hS hA (m_codes0 l G h0 30000 nw nk mhasKept nt (nI ktp) nr mrowMany mroundOf mroundFrom mouts nm mfromHour mtoHour ns (nI (NXT bt ktp ks19107)) (nI (TKE bt ktp (NXT bt ktp ks19107))) (nI (TKN bt ktp (NXT bt ktp ks19107))) (nI jd) (kc19108 + kN) mlines nl nc nF np ntr nb mbestCost nso nsi nit nsh nsf nss nrc mtraced mdealer mnumber mwhose msize misParted vC (by omega)) si_X12_252 [2, 0] [1, 3] sm_2_0 fm_2_0 nd_2_0 sm_1_3 nd_1_3 dj_2_0__1_3 rfl rfl rfl rfl rfl (Nat.le_of_ble_eq_true rfl) (rmT (Nat.le_of_ble_eq_true rfl) (Nat.le_of_ble_eq_true rfl)) ⟨Nat.le_of_ble_eq_true rfl, Nat.le_of_ble_eq_true rfl⟩ gX12_one_12.2.2.2.1 (fun u9127 H locs hr9126 hP hD hS => ?_)
                    refine Kpdr (ws := [(nF, sA G 5 (FCT K)), (nt, iA G 240 fnt), (h0, oX12 nw nk mhasKept nt (nI ktp) nr mrowMany mroundOf mroundFrom mouts nm mfromHour mtoHour ns (nI (NXT bt ktp ks19107)) (nI (TKE bt ktp (NXT bt ktp ks19107))) (nI (TKN bt ktp (NXT bt ktp ks19107))) 0 (nI jd) (nI ((kc19108 + kN) + 1)) mlines nl nc nF np ntr nb mbestCost nso nsi nit nsh nsf nss nrc mtraced mdealer mnumber mwhose msize misParted), (nc, iA G 100 (upd vC (kc19108 + kN) 30000))]) hP hD (fun hP hD => ?_)
                    refine lv_iinc (v := nI (kN + 1)) (lv' := [(2, .int (nI (kN + 1))), (1, .int (nI vn)), (0, .ref h0)]) hx hb gX12_one_12.2.2.2.2.1 hl (k := 0) rfl (nI_1 _) (by decide) rfl (fun ls hl => ?_)
                    refine lv_goto (tgt := 225) hx hb gX12_one_12.2.2.2.2.2.1 (by decide) ?_
                    refine Kpds (ws' := [(nc, iA G 100 (upd vC (kc19108 + kN) 30000)), (nF, sA G 5 (FCT K)), (h0, oX12 nw nk mhasKept nt (nI ktp) nr mrowMany mroundOf mroundFrom mouts nm mfromHour mtoHour ns (nI (NXT bt ktp ks19107)) (nI (TKE bt ktp (NXT bt ktp ks19107))) (nI (TKN bt ktp (NXT bt ktp ks19107))) 0 (nI jd) (nI ((kc19108 + kN) + 1)) mlines nl nc nF np ntr nb mbestCost nso nsi nit nsh nsf nss nrc mtraced mdealer mnumber mwhose msize misParted), (nt, iA G 240 fnt)]) hP hD [3, 0, 2, 1] fm_3_0_2_1 nd_3_0_2_1 sm_3_0_2_1 (fun hP hD => ?_)
                    exact ihN (kN + 1) (upd vC (kc19108 + kN) 30000) _ _ _ (by omega) (by first | assumption | exact Or.inl rfl | exact Or.inr rfl | exact STP.r0 hq9116 | exact STP.rep hEx) (And.intro hP hD) hS (lv_sub hl [0, 1, 2] rfl)
                exact keyN vn 0 gnc9109 _ _ _ (by omega) (by first | assumption | exact Or.inl rfl | exact Or.inr rfl | exact STP.r0 hq9116 | exact STP.rep hEx) (And.intro hP hD) hS (lv_sub hl [0, 1, 2] rfl)
              · have hq9128 := a9120
                refine vV (wr := [(nt, iA G 240 fnt), (nc, iA G 100 gnc9109), (nF, sA G 5 (FCT K))]) hC hK hl hP hD hS hA (m_need0 l G h0 nw nk mhasKept nt (nI ktp) nr mrowMany mroundOf mroundFrom mouts nm mfromHour mtoHour ns (nI ks19107) (nI (TKE bt ktp ks19107)) (nI (TKN bt ktp ks19107)) (nI (jd + 1)) (nI kc19108) mlines nl nc nF np ntr nb mbestCost nso nsi nit nsh nsf nss nrc mtraced mdealer mnumber mwhose msize misParted) si_X12_236 [0] [1, 2, 3] sm_0 fm_0 nd_0 sm_1_2_3 nd_1_2_3 dj_0__1_2_3 rfl rfl rfl rfl rfl (Nat.le_of_ble_eq_true rfl) (rmT (Nat.le_of_ble_eq_true rfl) (Nat.le_of_ble_eq_true rfl)) ⟨Nat.le_of_ble_eq_true rfl, Nat.le_of_ble_eq_true rfl⟩ gX12_one_3.2.2.2.2.2.1 (fun u9130 H locs hr9129 hP hD hS => ?_)
                refine Kpdr (ws := [(nt, iA G 240 fnt), (nc, iA G 100 gnc9109), (nF, sA G 5 (FCT K)), (h0, oX12 nw nk mhasKept nt (nI ktp) nr mrowMany mroundOf mroundFrom mouts nm mfromHour mtoHour ns (nI ks19107) (nI (TKE bt ktp ks19107)) (nI (TKN bt ktp ks19107)) 1 (nI (jd + 1)) (nI kc19108) mlines nl nc nF np ntr nb mbestCost nso nsi nit nsh nsf nss nrc mtraced mdealer mnumber mwhose msize misParted)]) hP hD (fun hP hD => ?_)
                refine lv_aload_n hx hb gX12_one_3.2.2.2.2.2.2.1 rfl (lv_at1 hl) ?_
                refine lv_dup hx hb gX12_one_3.2.2.2.2.2.2.2.1 rfl ?_
                refine gf_X12_265 hC rfl hK hP 3 rfl rfl gX12_one_3.2.2.2.2.2.2.2.2.1 ?_
                refine lv_iconst (v := 1) hx hb gX12_one_3.2.2.2.2.2.2.2.2.2 (by decide) ?_
                refine lv_isub hx hb gX12_one_4.1 ?_
                refine eqi (x1 := nI jd) (nI_sub1 jd) ?_
                refine pf_X12_265 hC rfl hK hP hD hS 3 (ws' := [(nt, iA G 240 fnt), (nc, iA G 100 gnc9109), (nF, sA G 5 (FCT K)), (h0, oX12 nw nk mhasKept nt (nI ktp) nr mrowMany mroundOf mroundFrom mouts nm mfromHour mtoHour ns (nI ks19107) (nI (TKE bt ktp ks19107)) (nI (TKN bt ktp ks19107)) 1 (nI jd) (nI kc19108) mlines nl nc nF np ntr nb mbestCost nso nsi nit nsh nsf nss nrc mtraced mdealer mnumber mwhose msize misParted)]) rfl (Nat.le_of_ble_eq_true rfl) rfl rfl rfl gX12_one_4.2.1 (fun H locs hP hD hS => ?_)
                refine lv_goto (tgt := 223) hx hb gX12_one_4.2.2.1 (by decide) ?_
                refine lv_iconst (v := 0) hx hb gX12_one_11.2.2.2.2.2.2.1 (by decide) ?_
                refine lv_istore_n (lv' := [(2, .int 0), (1, .int (nI vn)), (0, .ref h0)]) hx hb gX12_one_11.2.2.2.2.2.2.2.1 rfl hl (by decide) rfl (fun ls hl => ?_)
                have keyN : ∀ (nN kN : Nat) (H : Heap) (locs : List Loc) (ls : Array Slot), kN + nN = vn → va_PD G A [(nt, iA G 240 fnt), (nc, iA G 100 gnc9109), (nF, sA G 5 (FCT K)), (h0, oX12 nw nk mhasKept nt (nI ktp) nr mrowMany mroundOf mroundFrom mouts nm mfromHour mtoHour ns (nI ks19107) (nI (TKE bt ktp ks19107)) (nI (TKN bt ktp ks19107)) 1 (nI jd) (nI kc19108) mlines nl nc nF np ntr nb mbestCost nso nsi nit nsh nsf nss nrc mtraced mdealer mnumber mwhose msize misParted)] H → va_S A s.heap H locs → lv_has ls 5 [(2, .int (nI kN)), (1, .int (nI vn)), (0, .ref h0)] → W p l e (RM (10 + 4 * mn) 0 0) s m ([.ref h0] : List Value).toArray below meth c H locs 0 0 Q0 (F0 m 225 ls []) := by
                  intro nN
                  induction nN with
                  | zero =>
                    intro kN H locs ls hkN hPD hS hl
                    refine Kan2 hPD (fun hP hD => ?_)
                    obtain rfl : vn = kN := by omega
                    have hl : lv_has ls 5 [(2, .int (nI vn)), (1, .int (nI vn)), (0, .ref h0)] := hl
                    refine lv_iload_n hx hb gX12_one_11.2.2.2.2.2.2.2.2.1 rfl (lv_at0 hl) ?_
                    refine lv_iload_n hx hb gX12_one_11.2.2.2.2.2.2.2.2.2 rfl (lv_at1 hl) ?_
                    refine lv_icmp_ge (tgt := 243) hx hb gX12_one_12.1 (by decide) (fun _ => ?_) (fun c9 => absurd (Int32.le_refl _) c9)
                    refine toQ hQ0 ?_
                    exact RV hC hP hD hS [3, 0, 1, 2] (1, ks19107, kc19108, gnc9109, [], []) rfl rfl (by decide) (Or.inr ⟨rfl, hco _ (RT.inU hq9086 (by omega) hq9115 hq9128), by (try dsimp only); omega⟩) gX12_one_12.2.2.2.2.2.2
                  | succ nN ihN =>
                    intro kN H locs ls hkN hPD hS hl
                    refine Kan2 hPD (fun hP hD => ?_)
                    refine lv_iload_n hx hb gX12_one_11.2.2.2.2.2.2.2.2.1 rfl (lv_at0 hl) ?_
                    refine lv_iload_n hx hb gX12_one_11.2.2.2.2.2.2.2.2.2 rfl (lv_at1 hl) ?_
                    refine lv_icmp_ge (tgt := 243) hx hb gX12_one_12.1 (by decide) (fun c9 => absurd c9 (nI_ge (a := kN) (b := vn) (by omega) (by omega))) (fun _ => ?_)
                    refine lv_aload_n hx hb gX12_one_12.2.1 rfl (lv_at2 hl) ?_
                    refine lv_sipush (v := 30000) hx hb gX12_one_12.2.2.1 (by decide) ?_
                    refine vV (wr := [(nt, iA G 240 fnt), (nc, iA G 100 gnc9109), (nF, sA G 5 (FCT K))]) hC hK hl hP hD hS hA (m_codesF l G h0 30000 nw nk mhasKept nt (nI ktp) nr mrowMany mroundOf mroundFrom mouts nm mfromHour mtoHour ns (nI ks19107) (nI (TKE bt ktp ks19107)) (nI (TKN bt ktp ks19107)) (nI jd) (nI kc19108) mlines nl nc nF np ntr nb mbestCost nso nsi nit nsh nsf nss nrc mtraced mdealer mnumber mwhose msize misParted) si_X12_252 [3] [0, 1, 2] sm_3 fm_3 nd_3 sm_0_1_2 nd_0_1_2 dj_3__0_1_2 rfl rfl rfl rfl rfl (Nat.le_of_ble_eq_true rfl) (rmT (Nat.le_of_ble_eq_true rfl) (Nat.le_of_ble_eq_true rfl)) ⟨Nat.le_of_ble_eq_true rfl, Nat.le_of_ble_eq_true rfl⟩ gX12_one_12.2.2.2.1 (fun u9132 H locs hr9131 hP hD hS => ?_)
                    refine Kpdr (ws := [(nt, iA G 240 fnt), (nc, iA G 100 gnc9109), (nF, sA G 5 (FCT K)), (h0, oX12 nw nk mhasKept nt (nI ktp) nr mrowMany mroundOf mroundFrom mouts nm mfromHour mtoHour ns (nI ks19107) (nI (TKE bt ktp ks19107)) (nI (TKN bt ktp ks19107)) 1 (nI jd) (nI kc19108) mlines nl nc nF np ntr nb mbestCost nso nsi nit nsh nsf nss nrc mtraced mdealer mnumber mwhose msize misParted)]) hP hD (fun hP hD => ?_)
                    refine lv_iinc (v := nI (kN + 1)) (lv' := [(2, .int (nI (kN + 1))), (1, .int (nI vn)), (0, .ref h0)]) hx hb gX12_one_12.2.2.2.2.1 hl (k := 0) rfl (nI_1 _) (by decide) rfl (fun ls hl => ?_)
                    refine lv_goto (tgt := 225) hx hb gX12_one_12.2.2.2.2.2.1 (by decide) ?_
                    exact ihN (kN + 1) _ _ _ (by omega) (And.intro hP hD) hS (lv_sub hl [0, 1, 2] rfl)
                exact keyN vn 0 _ _ _ (by omega) (And.intro hP hD) hS (lv_sub hl [0, 1, 2] rfl)
            · obtain ⟨rfl, hq9133, hq9134⟩ := v9114
              refine lv_aload_n hx hb gX12_one_3.2.1 rfl (lv_at1 hl) ?_
              refine lv_aload_n hx hb gX12_one_3.2.2.1 rfl (lv_at1 hl) ?_
              refine lv_bipush (v := 41) hx hb gX12_one_3.2.2.2.1 (by decide) ?_
              refine pV hC hK hl hP hD (m_isSignF l G h0 41 nw nk mhasKept nt (nI ktp) nr mrowMany mroundOf mroundFrom mouts nm mfromHour mtoHour ns (nI ks19107) (nI (TKE bt ktp ks19107)) (nI (TKN bt ktp ks19107)) (nI (jd + 1)) (nI kc19108) mlines nl nc nF np ntr nb mbestCost nso nsi nit nsh nsf nss nrc mtraced mdealer mnumber mwhose msize misParted) si_X12_262 [0] sm_0 fm_0 nd_0 rfl rfl rfl rfl rfl (Nat.le_of_ble_eq_true rfl) (rmT (Nat.le_of_ble_eq_true rfl) (Nat.le_of_ble_eq_true rfl)) ⟨by first | exact Nat.le_of_ble_eq_true rfl | exact Nat.zero_le _, by first | exact Nat.le_of_ble_eq_true rfl | exact Nat.zero_le _⟩ gX12_one_3.2.2.2.2.1 (Keqr ?_)
              refine vV (wr := [(nt, iA G 240 fnt), (nc, iA G 100 gnc9109), (nF, sA G 5 (FCT K))]) hC hK hl hP hD hS hA (m_needF l G h0 0 nw nk mhasKept nt (nI ktp) nr mrowMany mroundOf mroundFrom mouts nm mfromHour mtoHour ns (nI ks19107) (nI (TKE bt ktp ks19107)) (nI (TKN bt ktp ks19107)) (nI (jd + 1)) (nI kc19108) mlines nl nc nF np ntr nb mbestCost nso nsi nit nsh nsf nss nrc mtraced mdealer mnumber mwhose msize misParted) si_X12_236 [0] [1, 2, 3] sm_0 fm_0 nd_0 sm_1_2_3 nd_1_2_3 dj_0__1_2_3 rfl rfl rfl rfl rfl (Nat.le_of_ble_eq_true rfl) (rmT (Nat.le_of_ble_eq_true rfl) (Nat.le_of_ble_eq_true rfl)) ⟨Nat.le_of_ble_eq_true rfl, Nat.le_of_ble_eq_true rfl⟩ gX12_one_3.2.2.2.2.2.1 (fun u9138 H locs hr9137 hP hD hS => ?_)
              refine Kpdr (ws := [(nt, iA G 240 fnt), (nc, iA G 100 gnc9109), (nF, sA G 5 (FCT K)), (h0, oX12 nw nk mhasKept nt (nI ktp) nr mrowMany mroundOf mroundFrom mouts nm mfromHour mtoHour ns (nI ks19107) (nI (TKE bt ktp ks19107)) (nI (TKN bt ktp ks19107)) 1 (nI (jd + 1)) (nI kc19108) mlines nl nc nF np ntr nb mbestCost nso nsi nit nsh nsf nss nrc mtraced mdealer mnumber mwhose msize misParted)]) hP hD (fun hP hD => ?_)
              refine lv_aload_n hx hb gX12_one_3.2.2.2.2.2.2.1 rfl (lv_at1 hl) ?_
              refine lv_dup hx hb gX12_one_3.2.2.2.2.2.2.2.1 rfl ?_
              refine gf_X12_265 hC rfl hK hP 3 rfl rfl gX12_one_3.2.2.2.2.2.2.2.2.1 ?_
              refine lv_iconst (v := 1) hx hb gX12_one_3.2.2.2.2.2.2.2.2.2 (by decide) ?_
              refine lv_isub hx hb gX12_one_4.1 ?_
              refine eqi (x1 := nI jd) (nI_sub1 jd) ?_
              refine pf_X12_265 hC rfl hK hP hD hS 3 (ws' := [(nt, iA G 240 fnt), (nc, iA G 100 gnc9109), (nF, sA G 5 (FCT K)), (h0, oX12 nw nk mhasKept nt (nI ktp) nr mrowMany mroundOf mroundFrom mouts nm mfromHour mtoHour ns (nI ks19107) (nI (TKE bt ktp ks19107)) (nI (TKN bt ktp ks19107)) 1 (nI jd) (nI kc19108) mlines nl nc nF np ntr nb mbestCost nso nsi nit nsh nsf nss nrc mtraced mdealer mnumber mwhose msize misParted)]) rfl (Nat.le_of_ble_eq_true rfl) rfl rfl rfl gX12_one_4.2.1 (fun H locs hP hD hS => ?_)
              refine lv_goto (tgt := 223) hx hb gX12_one_4.2.2.1 (by decide) ?_
              refine lv_iconst (v := 0) hx hb gX12_one_11.2.2.2.2.2.2.1 (by decide) ?_
              refine lv_istore_n (lv' := [(2, .int 0), (1, .int (nI vn)), (0, .ref h0)]) hx hb gX12_one_11.2.2.2.2.2.2.2.1 rfl hl (by decide) rfl (fun ls hl => ?_)
              have keyN : ∀ (nN kN : Nat) (H : Heap) (locs : List Loc) (ls : Array Slot), kN + nN = vn → va_PD G A [(nt, iA G 240 fnt), (nc, iA G 100 gnc9109), (nF, sA G 5 (FCT K)), (h0, oX12 nw nk mhasKept nt (nI ktp) nr mrowMany mroundOf mroundFrom mouts nm mfromHour mtoHour ns (nI ks19107) (nI (TKE bt ktp ks19107)) (nI (TKN bt ktp ks19107)) 1 (nI jd) (nI kc19108) mlines nl nc nF np ntr nb mbestCost nso nsi nit nsh nsf nss nrc mtraced mdealer mnumber mwhose msize misParted)] H → va_S A s.heap H locs → lv_has ls 5 [(2, .int (nI kN)), (1, .int (nI vn)), (0, .ref h0)] → W p l e (RM (10 + 4 * mn) 0 0) s m ([.ref h0] : List Value).toArray below meth c H locs 0 0 Q0 (F0 m 225 ls []) := by
                intro nN
                induction nN with
                | zero =>
                  intro kN H locs ls hkN hPD hS hl
                  refine Kan2 hPD (fun hP hD => ?_)
                  obtain rfl : vn = kN := by omega
                  have hl : lv_has ls 5 [(2, .int (nI vn)), (1, .int (nI vn)), (0, .ref h0)] := hl
                  refine lv_iload_n hx hb gX12_one_11.2.2.2.2.2.2.2.2.1 rfl (lv_at0 hl) ?_
                  refine lv_iload_n hx hb gX12_one_11.2.2.2.2.2.2.2.2.2 rfl (lv_at1 hl) ?_
                  refine lv_icmp_ge (tgt := 243) hx hb gX12_one_12.1 (by decide) (fun _ => ?_) (fun c9 => absurd (Int32.le_refl _) c9)
                  refine toQ hQ0 ?_
                  exact RV hC hP hD hS [3, 0, 1, 2] (1, ks19107, kc19108, gnc9109, [], []) rfl rfl (by decide) (Or.inr ⟨rfl, hco _ (RT.inF hq9086 (by omega) hq9133 rfl), by (try dsimp only); omega⟩) gX12_one_12.2.2.2.2.2.2
                | succ nN ihN =>
                  intro kN H locs ls hkN hPD hS hl
                  refine Kan2 hPD (fun hP hD => ?_)
                  refine lv_iload_n hx hb gX12_one_11.2.2.2.2.2.2.2.2.1 rfl (lv_at0 hl) ?_
                  refine lv_iload_n hx hb gX12_one_11.2.2.2.2.2.2.2.2.2 rfl (lv_at1 hl) ?_
                  refine lv_icmp_ge (tgt := 243) hx hb gX12_one_12.1 (by decide) (fun c9 => absurd c9 (nI_ge (a := kN) (b := vn) (by omega) (by omega))) (fun _ => ?_)
                  refine lv_aload_n hx hb gX12_one_12.2.1 rfl (lv_at2 hl) ?_
                  refine lv_sipush (v := 30000) hx hb gX12_one_12.2.2.1 (by decide) ?_
                  refine vV (wr := [(nt, iA G 240 fnt), (nc, iA G 100 gnc9109), (nF, sA G 5 (FCT K))]) hC hK hl hP hD hS hA (m_codesF l G h0 30000 nw nk mhasKept nt (nI ktp) nr mrowMany mroundOf mroundFrom mouts nm mfromHour mtoHour ns (nI ks19107) (nI (TKE bt ktp ks19107)) (nI (TKN bt ktp ks19107)) (nI jd) (nI kc19108) mlines nl nc nF np ntr nb mbestCost nso nsi nit nsh nsf nss nrc mtraced mdealer mnumber mwhose msize misParted) si_X12_252 [3] [0, 1, 2] sm_3 fm_3 nd_3 sm_0_1_2 nd_0_1_2 dj_3__0_1_2 rfl rfl rfl rfl rfl (Nat.le_of_ble_eq_true rfl) (rmT (Nat.le_of_ble_eq_true rfl) (Nat.le_of_ble_eq_true rfl)) ⟨Nat.le_of_ble_eq_true rfl, Nat.le_of_ble_eq_true rfl⟩ gX12_one_12.2.2.2.1 (fun u9140 H locs hr9139 hP hD hS => ?_)
                  refine Kpdr (ws := [(nt, iA G 240 fnt), (nc, iA G 100 gnc9109), (nF, sA G 5 (FCT K)), (h0, oX12 nw nk mhasKept nt (nI ktp) nr mrowMany mroundOf mroundFrom mouts nm mfromHour mtoHour ns (nI ks19107) (nI (TKE bt ktp ks19107)) (nI (TKN bt ktp ks19107)) 1 (nI jd) (nI kc19108) mlines nl nc nF np ntr nb mbestCost nso nsi nit nsh nsf nss nrc mtraced mdealer mnumber mwhose msize misParted)]) hP hD (fun hP hD => ?_)
                  refine lv_iinc (v := nI (kN + 1)) (lv' := [(2, .int (nI (kN + 1))), (1, .int (nI vn)), (0, .ref h0)]) hx hb gX12_one_12.2.2.2.2.1 hl (k := 0) rfl (nI_1 _) (by decide) rfl (fun ls hl => ?_)
                  refine lv_goto (tgt := 225) hx hb gX12_one_12.2.2.2.2.2.1 (by decide) ?_
                  exact ihN (kN + 1) _ _ _ (by omega) (And.intro hP hD) hS (lv_sub hl [0, 1, 2] rfl)
              exact keyN vn 0 _ _ _ (by omega) (And.intro hP hD) hS (lv_sub hl [0, 1, 2] rfl)
        · have hq9141 := a9085
          refine lv_if_eq (tgt := 85) hx hb gX12_one_1.2.2.2.1 (by decide) (fun _ => ?_) (fun c9 => absurd (by decide) c9)
          refine lv_iconst (v := (-1)) hx hb gX12_one_4.2.2.2.1 (by decide) ?_
          refine lv_istore_n (lv' := [(2, .int (-1)), (1, .int (nI vn)), (0, .ref h0)]) hx hb gX12_one_4.2.2.2.2.1 rfl hl (by decide) rfl (fun ls hl => ?_)
          refine lv_iconst (v := 0) hx hb gX12_one_4.2.2.2.2.2.1 (by decide) ?_
          refine lv_istore_n (lv' := [(3, .int 0), (2, .int (-1)), (1, .int (nI vn)), (0, .ref h0)]) hx hb gX12_one_4.2.2.2.2.2.2.1 rfl hl (by decide) rfl (fun ls hl => ?_)
          have keyE : ∀ (nE : Nat) (vq : Nat) (fa9 : Int32) (H : Heap) (locs : List Loc) (ls : Array Slot), (vq ≤ 5 ∧ 5 < vq + nE) → (FCI bt ktp vks fa9 vq) → va_PD G A [(h0, oX12 nw nk mhasKept nt (nI ktp) nr mrowMany mroundOf mroundFrom mouts nm mfromHour mtoHour ns (nI vks) (nI (TKE bt ktp vks)) (nI (TKN bt ktp vks)) 0 (nI jd) (nI kc) mlines nl nc nF np ntr nb mbestCost nso nsi nit nsh nsf nss nrc mtraced mdealer mnumber mwhose msize misParted), (nt, iA G 240 fnt), (nc, iA G 100 fnc), (nF, sA G 5 (FCT K))] H → va_S A s.heap H locs → lv_has ls 5 [(3, .int (nI vq)), (2, .int fa9), (1, .int (nI vn)), (0, .ref h0)] → W p l e (RM (10 + 4 * mn) 0 0) s m ([.ref h0] : List Value).toArray below meth c H locs 0 0 Q0 (F0 m 89 ls []) := by
            intro nE
            induction nE with
            | zero =>
              intro vq fa9 H locs ls hiF hfa hPD hS hl
              refine Kan2 hPD (fun hP hD => ?_)
              exact (show False by omega).elim
            | succ nE ihE =>
              intro vq fa9 H locs ls hiF hfa hPD hS hl
              refine Kan2 hPD (fun hP hD => ?_)
              refine lv_iload_n hx hb gX12_one_4.2.2.2.2.2.2.2.1 rfl (lv_at0 hl) ?_
              refine lv_iconst (v := 5) hx hb gX12_one_4.2.2.2.2.2.2.2.2.1 (by decide) ?_
              refine lv_icmp_ge (tgt := 119) hx hb gX12_one_4.2.2.2.2.2.2.2.2.2 (by decide) (fun c_91_9142 => ?_) (fun c_91_9142 => ?_)
              · have nb9143 : 5 ≤ vq := (nI_leI (a := 5) (b := vq) (by omega) (by omega)).mp c_91_9142
                have hfa5 : FCI bt ktp vks fa9 5 := (show vq = 5 by omega) ▸ hfa
                rcases FCI.end hfa5 with ⟨rfl, hfn⟩ | ⟨rfl, hfs, hf5⟩
                · refine lv_aload_n hx hb gX12_one_6.2.2.2.1 rfl (lv_at3 hl) ?_
                  refine lv_iload_n hx hb gX12_one_6.2.2.2.2.1 rfl (lv_at1 hl) ?_
                  refine lv_if_lt (tgt := 128) hx hb gX12_one_6.2.2.2.2.2.1 (by decide) (fun _ => ?_) (fun c9 => absurd (by decide) c9)
                  refine lv_iconst (v := 0) hx hb gX12_one_6.2.2.2.2.2.2.2.2.1 (by decide) ?_
                  refine vV (wr := [(nt, iA G 240 fnt), (nc, iA G 100 fnc), (nF, sA G 5 (FCT K))]) hC hK hl hP hD hS hA (m_need0 l G h0 nw nk mhasKept nt (nI ktp) nr mrowMany mroundOf mroundFrom mouts nm mfromHour mtoHour ns (nI vks) (nI (TKE bt ktp vks)) (nI (TKN bt ktp vks)) (nI jd) (nI kc) mlines nl nc nF np ntr nb mbestCost nso nsi nit nsh nsf nss nrc mtraced mdealer mnumber mwhose msize misParted) si_X12_236 [0] [1, 2, 3] sm_0 fm_0 nd_0 sm_1_2_3 nd_1_2_3 dj_0__1_2_3 rfl rfl rfl rfl rfl (Nat.le_of_ble_eq_true rfl) (rmT (Nat.le_of_ble_eq_true rfl) (Nat.le_of_ble_eq_true rfl)) ⟨Nat.le_of_ble_eq_true rfl, Nat.le_of_ble_eq_true rfl⟩ gX12_one_6.2.2.2.2.2.2.2.2.2 (fun u9146 H locs hr9145 hP hD hS => ?_)
                  refine Kpdr (ws := [(nt, iA G 240 fnt), (nc, iA G 100 fnc), (nF, sA G 5 (FCT K)), (h0, oX12 nw nk mhasKept nt (nI ktp) nr mrowMany mroundOf mroundFrom mouts nm mfromHour mtoHour ns (nI vks) (nI (TKE bt ktp vks)) (nI (TKN bt ktp vks)) 1 (nI jd) (nI kc) mlines nl nc nF np ntr nb mbestCost nso nsi nit nsh nsf nss nrc mtraced mdealer mnumber mwhose msize misParted)]) hP hD (fun hP hD => ?_)
                  refine lv_aload_n hx hb gX12_one_7.1 rfl (lv_at3 hl) ?_
                  refine lv_bipush (v := 60) hx hb gX12_one_7.2.1 (by decide) ?_
                  refine pV hC hK hl hP hD (m_isSignF l G h0 60 nw nk mhasKept nt (nI ktp) nr mrowMany mroundOf mroundFrom mouts nm mfromHour mtoHour ns (nI vks) (nI (TKE bt ktp vks)) (nI (TKN bt ktp vks)) (nI jd) (nI kc) mlines nl nc nF np ntr nb mbestCost nso nsi nit nsh nsf nss nrc mtraced mdealer mnumber mwhose msize misParted) si_X12_262 [3] sm_3 fm_3 nd_3 rfl rfl rfl rfl rfl (Nat.le_of_ble_eq_true rfl) (rmT (Nat.le_of_ble_eq_true rfl) (Nat.le_of_ble_eq_true rfl)) ⟨by first | exact Nat.le_of_ble_eq_true rfl | exact Nat.zero_le _, by first | exact Nat.le_of_ble_eq_true rfl | exact Nat.zero_le _⟩ gX12_one_7.2.2.1 (Keqr ?_)
                  refine lv_if_eq (tgt := 145) hx hb gX12_one_7.2.2.2.1 (by decide) (fun _ => ?_) (fun c9 => absurd (by decide) c9)
                  refine lv_aload_n hx hb gX12_one_7.2.2.2.2.2.2.1 rfl (lv_at3 hl) ?_
                  refine lv_bipush (v := 61) hx hb gX12_one_7.2.2.2.2.2.2.2.1 (by decide) ?_
                  refine pV hC hK hl hP hD (m_isSignF l G h0 61 nw nk mhasKept nt (nI ktp) nr mrowMany mroundOf mroundFrom mouts nm mfromHour mtoHour ns (nI vks) (nI (TKE bt ktp vks)) (nI (TKN bt ktp vks)) (nI jd) (nI kc) mlines nl nc nF np ntr nb mbestCost nso nsi nit nsh nsf nss nrc mtraced mdealer mnumber mwhose msize misParted) si_X12_262 [3] sm_3 fm_3 nd_3 rfl rfl rfl rfl rfl (Nat.le_of_ble_eq_true rfl) (rmT (Nat.le_of_ble_eq_true rfl) (Nat.le_of_ble_eq_true rfl)) ⟨by first | exact Nat.le_of_ble_eq_true rfl | exact Nat.zero_le _, by first | exact Nat.le_of_ble_eq_true rfl | exact Nat.zero_le _⟩ gX12_one_7.2.2.2.2.2.2.2.2.1 (Keqr ?_)
                  refine lv_if_eq (tgt := 158) hx hb gX12_one_7.2.2.2.2.2.2.2.2.2 (by decide) (fun _ => ?_) (fun c9 => absurd (by decide) c9)
                  refine lv_iconst (v := 2) hx hb gX12_one_8.2.2.1 (by decide) ?_
                  refine lv_istore_n (lv' := [(3, .int 2), (2, .int (-1)), (1, .int (nI vn)), (0, .ref h0)]) hx hb gX12_one_8.2.2.2.1 rfl hl (by decide) rfl (fun ls hl => ?_)
                  refine lv_aload_n hx hb gX12_one_8.2.2.2.2.1 rfl (lv_at3 hl) ?_
                  refine lv_aload_n hx hb gX12_one_8.2.2.2.2.2.1 rfl (lv_at3 hl) ?_
                  refine lv_bipush (v := 60) hx hb gX12_one_8.2.2.2.2.2.2.1 (by decide) ?_
                  refine pV hC hK hl hP hD (m_isSignF l G h0 60 nw nk mhasKept nt (nI ktp) nr mrowMany mroundOf mroundFrom mouts nm mfromHour mtoHour ns (nI vks) (nI (TKE bt ktp vks)) (nI (TKN bt ktp vks)) (nI jd) (nI kc) mlines nl nc nF np ntr nb mbestCost nso nsi nit nsh nsf nss nrc mtraced mdealer mnumber mwhose msize misParted) si_X12_262 [3] sm_3 fm_3 nd_3 rfl rfl rfl rfl rfl (Nat.le_of_ble_eq_true rfl) (rmT (Nat.le_of_ble_eq_true rfl) (Nat.le_of_ble_eq_true rfl)) ⟨by first | exact Nat.le_of_ble_eq_true rfl | exact Nat.zero_le _, by first | exact Nat.le_of_ble_eq_true rfl | exact Nat.zero_le _⟩ gX12_one_8.2.2.2.2.2.2.2.1 (Keqr ?_)
                  refine lv_if_ne (tgt := 188) hx hb gX12_one_8.2.2.2.2.2.2.2.2.1 (by decide) (fun c9 => absurd (by decide) c9) (fun _ => ?_)
                  refine lv_aload_n hx hb gX12_one_8.2.2.2.2.2.2.2.2.2 rfl (lv_at3 hl) ?_
                  refine lv_bipush (v := 61) hx hb gX12_one_9.1 (by decide) ?_
                  refine pV hC hK hl hP hD (m_isSignF l G h0 61 nw nk mhasKept nt (nI ktp) nr mrowMany mroundOf mroundFrom mouts nm mfromHour mtoHour ns (nI vks) (nI (TKE bt ktp vks)) (nI (TKN bt ktp vks)) (nI jd) (nI kc) mlines nl nc nF np ntr nb mbestCost nso nsi nit nsh nsf nss nrc mtraced mdealer mnumber mwhose msize misParted) si_X12_262 [3] sm_3 fm_3 nd_3 rfl rfl rfl rfl rfl (Nat.le_of_ble_eq_true rfl) (rmT (Nat.le_of_ble_eq_true rfl) (Nat.le_of_ble_eq_true rfl)) ⟨by first | exact Nat.le_of_ble_eq_true rfl | exact Nat.zero_le _, by first | exact Nat.le_of_ble_eq_true rfl | exact Nat.zero_le _⟩ gX12_one_9.2.1 (Keqr ?_)
                  refine lv_if_ne (tgt := 188) hx hb gX12_one_9.2.2.1 (by decide) (fun c9 => absurd (by decide) c9) (fun _ => ?_)
                  refine lv_aload_n hx hb gX12_one_9.2.2.2.1 rfl (lv_at3 hl) ?_
                  refine lv_bipush (v := 62) hx hb gX12_one_9.2.2.2.2.1 (by decide) ?_
                  refine pV hC hK hl hP hD (m_isSignF l G h0 62 nw nk mhasKept nt (nI ktp) nr mrowMany mroundOf mroundFrom mouts nm mfromHour mtoHour ns (nI vks) (nI (TKE bt ktp vks)) (nI (TKN bt ktp vks)) (nI jd) (nI kc) mlines nl nc nF np ntr nb mbestCost nso nsi nit nsh nsf nss nrc mtraced mdealer mnumber mwhose msize misParted) si_X12_262 [3] sm_3 fm_3 nd_3 rfl rfl rfl rfl rfl (Nat.le_of_ble_eq_true rfl) (rmT (Nat.le_of_ble_eq_true rfl) (Nat.le_of_ble_eq_true rfl)) ⟨by first | exact Nat.le_of_ble_eq_true rfl | exact Nat.zero_le _, by first | exact Nat.le_of_ble_eq_true rfl | exact Nat.zero_le _⟩ gX12_one_9.2.2.2.2.2.1 (Keqr ?_)
                  refine lv_if_eq (tgt := 192) hx hb gX12_one_9.2.2.2.2.2.2.1 (by decide) (fun _ => ?_) (fun c9 => absurd (by decide) c9)
                  refine lv_iconst (v := 0) hx hb gX12_one_9.2.2.2.2.2.2.2.2.2 (by decide) ?_
                  refine vV (wr := [(nt, iA G 240 fnt), (nc, iA G 100 fnc), (nF, sA G 5 (FCT K))]) hC hK hl hP hD hS hA (m_needF l G h0 0 nw nk mhasKept nt (nI ktp) nr mrowMany mroundOf mroundFrom mouts nm mfromHour mtoHour ns (nI vks) (nI (TKE bt ktp vks)) (nI (TKN bt ktp vks)) (nI jd) (nI kc) mlines nl nc nF np ntr nb mbestCost nso nsi nit nsh nsf nss nrc mtraced mdealer mnumber mwhose msize misParted) si_X12_236 [3] [0, 1, 2] sm_3 fm_3 nd_3 sm_0_1_2 nd_0_1_2 dj_3__0_1_2 rfl rfl rfl rfl rfl (Nat.le_of_ble_eq_true rfl) (rmT (Nat.le_of_ble_eq_true rfl) (Nat.le_of_ble_eq_true rfl)) ⟨Nat.le_of_ble_eq_true rfl, Nat.le_of_ble_eq_true rfl⟩ gX12_one_10.1 (fun u9158 H locs hr9157 hP hD hS => ?_)
                  refine Kpdr (ws := [(nt, iA G 240 fnt), (nc, iA G 100 fnc), (nF, sA G 5 (FCT K)), (h0, oX12 nw nk mhasKept nt (nI ktp) nr mrowMany mroundOf mroundFrom mouts nm mfromHour mtoHour ns (nI vks) (nI (TKE bt ktp vks)) (nI (TKN bt ktp vks)) 1 (nI jd) (nI kc) mlines nl nc nF np ntr nb mbestCost nso nsi nit nsh nsf nss nrc mtraced mdealer mnumber mwhose msize misParted)]) hP hD (fun hP hD => ?_)
                  refine lv_aload_n hx hb gX12_one_10.2.1 rfl (lv_at3 hl) ?_
                  refine lv_sipush (v := 999) hx hb gX12_one_10.2.2.1 (by decide) ?_
                  refine iV (wr := [(nt, iA G 240 fnt), (nc, iA G 100 fnc), (nF, sA G 5 (FCT K))]) hC hK hl hP hD hS hA (m_numberF l G h0 999 nw nk mhasKept nt (nI ktp) nr mrowMany mroundOf mroundFrom mouts nm mfromHour mtoHour ns (nI vks) (nI (TKE bt ktp vks)) (nI (TKN bt ktp vks)) (nI jd) (nI kc) mlines nl nc nF np ntr nb mbestCost nso nsi nit nsh nsf nss nrc mtraced mdealer mnumber mwhose msize misParted) si_X12_271 [3] [0, 1, 2] sm_3 fm_3 nd_3 sm_0_1_2 nd_0_1_2 dj_3__0_1_2 rfl rfl rfl rfl rfl (Nat.le_of_ble_eq_true rfl) (rmT (Nat.le_of_ble_eq_true rfl) (Nat.le_of_ble_eq_true rfl)) ⟨Nat.le_of_ble_eq_true rfl, Nat.le_of_ble_eq_true rfl⟩ gX12_one_10.2.2.2.1 (fun r9159 u9160 H locs hr9159 hP hD hS => ?_)
                  refine Kpdr (ws := [(nt, iA G 240 fnt), (nc, iA G 100 fnc), (nF, sA G 5 (FCT K)), (h0, oX12 nw nk mhasKept nt (nI ktp) nr mrowMany mroundOf mroundFrom mouts nm mfromHour mtoHour ns (nI vks) (nI (TKE bt ktp vks)) (nI (TKN bt ktp vks)) 1 (nI jd) (nI kc) mlines nl nc nF np ntr nb mbestCost nso nsi nit nsh nsf nss nrc mtraced mdealer mnumber mwhose msize misParted)]) hP hD (fun hP hD => ?_)
                  obtain rfl := hr9159
                  refine lv_istore (lv' := [(4, .int 0), (3, .int 2), (2, .int (-1)), (1, .int (nI vn)), (0, .ref h0)]) hx hb gX12_one_10.2.2.2.2.1 hl (by decide) rfl (fun ls hl => ?_)
                  refine lv_aload_n hx hb gX12_one_10.2.2.2.2.2.1 rfl (lv_at4 hl) ?_
                  refine lv_sipush (v := 3000) hx hb gX12_one_10.2.2.2.2.2.2.1 (by decide) ?_
                  refine lv_iload_n hx hb gX12_one_10.2.2.2.2.2.2.2.1 rfl (lv_at2 hl) ?_
                  refine lv_imul hx hb gX12_one_10.2.2.2.2.2.2.2.2.1 ?_
                  refine eqi (x1 := (-3000)) (by decide) ?_
                  refine lv_sipush (v := 1000) hx hb gX12_one_10.2.2.2.2.2.2.2.2.2 (by decide) ?_
                  refine lv_iload_n hx hb gX12_one_11.1 rfl (lv_at1 hl) ?_
                  refine lv_imul hx hb gX12_one_11.2.1 ?_
                  refine eqi (x1 := 2000) (by decide) ?_
                  refine lv_iadd hx hb gX12_one_11.2.2.1 ?_
                  refine eqi (x1 := (-1000)) (by decide) ?_
                  refine lv_iload hx hb gX12_one_11.2.2.2.1 (lv_at0 hl) ?_
                  refine lv_iadd hx hb gX12_one_11.2.2.2.2.1 ?_
                  refine eqi (x1 := (-1000)) (by decide) ?_
                  refine vV (wr := [(nt, iA G 240 fnt), (nc, iA G 100 fnc), (nF, sA G 5 (FCT K))]) hC hK hl hP hD hS hA (m_codesF l G h0 (-1000) nw nk mhasKept nt (nI ktp) nr mrowMany mroundOf mroundFrom mouts nm mfromHour mtoHour ns (nI vks) (nI (TKE bt ktp vks)) (nI (TKN bt ktp vks)) (nI jd) (nI kc) mlines nl nc nF np ntr nb mbestCost nso nsi nit nsh nsf nss nrc mtraced mdealer mnumber mwhose msize misParted) si_X12_252 [3] [0, 1, 2] sm_3 fm_3 nd_3 sm_0_1_2 nd_0_1_2 dj_3__0_1_2 rfl rfl rfl rfl rfl (Nat.le_of_ble_eq_true rfl) (rmT (Nat.le_of_ble_eq_true rfl) (Nat.le_of_ble_eq_true rfl)) ⟨Nat.le_of_ble_eq_true rfl, Nat.le_of_ble_eq_true rfl⟩ gX12_one_11.2.2.2.2.2.1 (fun u9163 H locs hr9162 hP hD hS => ?_)
                  refine Kpdr (ws := [(nt, iA G 240 fnt), (nc, iA G 100 fnc), (nF, sA G 5 (FCT K)), (h0, oX12 nw nk mhasKept nt (nI ktp) nr mrowMany mroundOf mroundFrom mouts nm mfromHour mtoHour ns (nI vks) (nI (TKE bt ktp vks)) (nI (TKN bt ktp vks)) 1 (nI jd) (nI kc) mlines nl nc nF np ntr nb mbestCost nso nsi nit nsh nsf nss nrc mtraced mdealer mnumber mwhose msize misParted)]) hP hD (fun hP hD => ?_)
                  refine lv_iconst (v := 0) hx hb gX12_one_11.2.2.2.2.2.2.1 (by decide) ?_
                  refine lv_istore_n (lv' := [(2, .int 0), (4, .int 0), (3, .int 2), (1, .int (nI vn)), (0, .ref h0)]) hx hb gX12_one_11.2.2.2.2.2.2.2.1 rfl hl (by decide) rfl (fun ls hl => ?_)
                  have keyN : ∀ (nN kN : Nat) (H : Heap) (locs : List Loc) (ls : Array Slot), kN + nN = vn → va_PD G A [(nt, iA G 240 fnt), (nc, iA G 100 fnc), (nF, sA G 5 (FCT K)), (h0, oX12 nw nk mhasKept nt (nI ktp) nr mrowMany mroundOf mroundFrom mouts nm mfromHour mtoHour ns (nI vks) (nI (TKE bt ktp vks)) (nI (TKN bt ktp vks)) 1 (nI jd) (nI kc) mlines nl nc nF np ntr nb mbestCost nso nsi nit nsh nsf nss nrc mtraced mdealer mnumber mwhose msize misParted)] H → va_S A s.heap H locs → lv_has ls 5 [(2, .int (nI kN)), (4, .int 0), (3, .int 2), (1, .int (nI vn)), (0, .ref h0)] → W p l e (RM (10 + 4 * mn) 0 0) s m ([.ref h0] : List Value).toArray below meth c H locs 0 0 Q0 (F0 m 225 ls []) := by
                    intro nN
                    induction nN with
                    | zero =>
                      intro kN H locs ls hkN hPD hS hl
                      refine Kan2 hPD (fun hP hD => ?_)
                      obtain rfl : vn = kN := by omega
                      have hl : lv_has ls 5 [(2, .int (nI vn)), (4, .int 0), (3, .int 2), (1, .int (nI vn)), (0, .ref h0)] := hl
                      refine lv_iload_n hx hb gX12_one_11.2.2.2.2.2.2.2.2.1 rfl (lv_at0 hl) ?_
                      refine lv_iload_n hx hb gX12_one_11.2.2.2.2.2.2.2.2.2 rfl (lv_at3 hl) ?_
                      refine lv_icmp_ge (tgt := 243) hx hb gX12_one_12.1 (by decide) (fun _ => ?_) (fun c9 => absurd (Int32.le_refl _) c9)
                      refine toQ hQ0 ?_
                      exact RV hC hP hD hS [3, 0, 1, 2] (1, vks, kc, fnc, [], []) rfl rfl (by decide) (Or.inr ⟨rfl, hco _ (RT.cmpF hq9083 hq9141 (CMP.f1 hfn)), by (try dsimp only); omega⟩) gX12_one_12.2.2.2.2.2.2
                    | succ nN ihN =>
                      intro kN H locs ls hkN hPD hS hl
                      refine Kan2 hPD (fun hP hD => ?_)
                      refine lv_iload_n hx hb gX12_one_11.2.2.2.2.2.2.2.2.1 rfl (lv_at0 hl) ?_
                      refine lv_iload_n hx hb gX12_one_11.2.2.2.2.2.2.2.2.2 rfl (lv_at3 hl) ?_
                      refine lv_icmp_ge (tgt := 243) hx hb gX12_one_12.1 (by decide) (fun c9 => absurd c9 (nI_ge (a := kN) (b := vn) (by omega) (by omega))) (fun _ => ?_)
                      refine lv_aload_n hx hb gX12_one_12.2.1 rfl (lv_at4 hl) ?_
                      refine lv_sipush (v := 30000) hx hb gX12_one_12.2.2.1 (by decide) ?_
                      refine vV (wr := [(nt, iA G 240 fnt), (nc, iA G 100 fnc), (nF, sA G 5 (FCT K))]) hC hK hl hP hD hS hA (m_codesF l G h0 30000 nw nk mhasKept nt (nI ktp) nr mrowMany mroundOf mroundFrom mouts nm mfromHour mtoHour ns (nI vks) (nI (TKE bt ktp vks)) (nI (TKN bt ktp vks)) (nI jd) (nI kc) mlines nl nc nF np ntr nb mbestCost nso nsi nit nsh nsf nss nrc mtraced mdealer mnumber mwhose msize misParted) si_X12_252 [3] [0, 1, 2] sm_3 fm_3 nd_3 sm_0_1_2 nd_0_1_2 dj_3__0_1_2 rfl rfl rfl rfl rfl (Nat.le_of_ble_eq_true rfl) (rmT (Nat.le_of_ble_eq_true rfl) (Nat.le_of_ble_eq_true rfl)) ⟨Nat.le_of_ble_eq_true rfl, Nat.le_of_ble_eq_true rfl⟩ gX12_one_12.2.2.2.1 (fun u9165 H locs hr9164 hP hD hS => ?_)
                      refine Kpdr (ws := [(nt, iA G 240 fnt), (nc, iA G 100 fnc), (nF, sA G 5 (FCT K)), (h0, oX12 nw nk mhasKept nt (nI ktp) nr mrowMany mroundOf mroundFrom mouts nm mfromHour mtoHour ns (nI vks) (nI (TKE bt ktp vks)) (nI (TKN bt ktp vks)) 1 (nI jd) (nI kc) mlines nl nc nF np ntr nb mbestCost nso nsi nit nsh nsf nss nrc mtraced mdealer mnumber mwhose msize misParted)]) hP hD (fun hP hD => ?_)
                      refine lv_iinc (v := nI (kN + 1)) (lv' := [(2, .int (nI (kN + 1))), (4, .int 0), (3, .int 2), (1, .int (nI vn)), (0, .ref h0)]) hx hb gX12_one_12.2.2.2.2.1 hl (k := 0) rfl (nI_1 _) (by decide) rfl (fun ls hl => ?_)
                      refine lv_goto (tgt := 225) hx hb gX12_one_12.2.2.2.2.2.1 (by decide) ?_
                      exact ihN (kN + 1) _ _ _ (by omega) (And.intro hP hD) hS (lv_sub hl [0, 1, 2, 3, 4] rfl)
                  exact keyN vn 0 _ _ _ (by omega) (And.intro hP hD) hS (lv_sub hl [0, 1, 2, 3, 4] rfl)
                · refine lv_aload_n hx hb gX12_one_6.2.2.2.1 rfl (lv_at3 hl) ?_
                  refine lv_iload_n hx hb gX12_one_6.2.2.2.2.1 rfl (lv_at1 hl) ?_
                  refine lv_if_lt (tgt := 128) hx hb gX12_one_6.2.2.2.2.2.1 (by decide) (fun c9 => absurd c9 (nI_pos (by omega))) (fun _ => ?_)
                  refine lv_iconst (v := 1) hx hb gX12_one_6.2.2.2.2.2.2.1 (by decide) ?_
                  refine lv_goto (tgt := 129) hx hb gX12_one_6.2.2.2.2.2.2.2.1 (by decide) ?_
                  refine vV (wr := [(nc, iA G 100 fnc), (nF, sA G 5 (FCT K))]) hC hK hl hP hD hS hA (m_need1X l G h0 nw nk mhasKept nt ktp nr mrowMany mroundOf mroundFrom mouts nm mfromHour mtoHour ns vks (nI jd) (nI kc) mlines nl nc nF np ntr nb mbestCost nso nsi nit nsh nsf nss nrc mtraced mdealer mnumber mwhose msize misParted fnt bt (htp) (by omega) (hFB)) si_X12_236 [0, 1] [2, 3] sm_0_1 fm_0_1 nd_0_1 sm_2_3 nd_2_3 dj_0_1__2_3 rfl rfl rfl rfl rfl (Nat.le_of_ble_eq_true rfl) (rmT (Nat.le_of_ble_eq_true rfl) (Nat.le_of_ble_eq_true rfl)) ⟨Nat.le_of_ble_eq_true rfl, Nat.le_of_ble_eq_true rfl⟩ gX12_one_6.2.2.2.2.2.2.2.2.2 (fun u9167 H locs hr9166 hP hD hS => ?_)
                  refine Kpdr (ws := [(nc, iA G 100 fnc), (nF, sA G 5 (FCT K)), (h0, oX12 nw nk mhasKept nt (nI ktp) nr mrowMany mroundOf mroundFrom mouts nm mfromHour mtoHour ns (nI (NXT bt ktp vks)) (nI (TKE bt ktp (NXT bt ktp vks))) (nI (TKN bt ktp (NXT bt ktp vks))) 0 (nI jd) (nI kc) mlines nl nc nF np ntr nb mbestCost nso nsi nit nsh nsf nss nrc mtraced mdealer mnumber mwhose msize misParted), (nt, iA G 240 fnt)]) hP hD (fun hP hD => ?_)
                  have xn9168 := NXT.ge (bt := bt) (n := ktp) (s := vks) (by omega)
                  refine lv_aload_n hx hb gX12_one_7.1 rfl (lv_at3 hl) ?_
                  refine lv_bipush (v := 60) hx hb gX12_one_7.2.1 (by decide) ?_
                  refine pV hC hK hl hP hD (m_isSignX l G h0 60 nw nk mhasKept nt ktp nr mrowMany mroundOf mroundFrom mouts nm mfromHour mtoHour ns (NXT bt ktp vks) (nI jd) (nI kc) mlines nl nc nF np ntr nb mbestCost nso nsi nit nsh nsf nss nrc mtraced mdealer mnumber mwhose msize misParted fnt bt (htp) (by omega) (hFB)) si_X12_262 [2, 3] sm_2_3 fm_2_3 nd_2_3 rfl rfl rfl rfl rfl (Nat.le_of_ble_eq_true rfl) (rmT (Nat.le_of_ble_eq_true rfl) (Nat.le_of_ble_eq_true rfl)) ⟨by first | exact Nat.le_of_ble_eq_true rfl | exact Nat.zero_le _, by first | exact Nat.le_of_ble_eq_true rfl | exact Nat.zero_le _⟩ gX12_one_7.2.2.1 (Kors (Keqa fun a9170 => ?_) (Keqa fun a9170 => ?_))
                  · have hq9171 := a9170
                    have xl9172 := SGN.len hq9171 (by omega)
                    refine lv_if_eq (tgt := 145) hx hb gX12_one_7.2.2.2.1 (by decide) (fun c9 => absurd c9 (by decide)) (fun _ => ?_)
                    refine lv_iconst (v := 0) hx hb gX12_one_7.2.2.2.2.1 (by decide) ?_
                    refine lv_goto (tgt := 159) hx hb gX12_one_7.2.2.2.2.2.1 (by decide) ?_
                    refine lv_istore_n (lv' := [(3, .int 0), (2, .int (nI (FAV bt ktp vks))), (1, .int (nI vn)), (0, .ref h0)]) hx hb gX12_one_8.2.2.2.1 rfl hl (by decide) rfl (fun ls hl => ?_)
                    refine lv_aload_n hx hb gX12_one_8.2.2.2.2.1 rfl (lv_at3 hl) ?_
                    refine lv_aload_n hx hb gX12_one_8.2.2.2.2.2.1 rfl (lv_at3 hl) ?_
                    refine lv_bipush (v := 60) hx hb gX12_one_8.2.2.2.2.2.2.1 (by decide) ?_
                    refine pV hC hK hl hP hD (m_isSignX l G h0 60 nw nk mhasKept nt ktp nr mrowMany mroundOf mroundFrom mouts nm mfromHour mtoHour ns (NXT bt ktp vks) (nI jd) (nI kc) mlines nl nc nF np ntr nb mbestCost nso nsi nit nsh nsf nss nrc mtraced mdealer mnumber mwhose msize misParted fnt bt (htp) (by omega) (hFB)) si_X12_262 [2, 3] sm_2_3 fm_2_3 nd_2_3 rfl rfl rfl rfl rfl (Nat.le_of_ble_eq_true rfl) (rmT (Nat.le_of_ble_eq_true rfl) (Nat.le_of_ble_eq_true rfl)) ⟨by first | exact Nat.le_of_ble_eq_true rfl | exact Nat.zero_le _, by first | exact Nat.le_of_ble_eq_true rfl | exact Nat.zero_le _⟩ gX12_one_8.2.2.2.2.2.2.2.1 (Kors (Keqa fun a9174 => ?_) (Keqa fun a9174 => ?_))
                    · have hq9175 := a9174
                      have xl9176 := SGN.len hq9175 (by omega)
                      refine lv_if_ne (tgt := 188) hx hb gX12_one_8.2.2.2.2.2.2.2.2.1 (by decide) (fun _ => ?_) (fun c9 => absurd c9 (by decide))
                      refine lv_iconst (v := 1) hx hb gX12_one_9.2.2.2.2.2.2.2.1 (by decide) ?_
                      refine lv_goto (tgt := 193) hx hb gX12_one_9.2.2.2.2.2.2.2.2.1 (by decide) ?_
                      have hsg : SIG bt ktp (NXT bt ktp vks) = some 0 := SIG.e0 hq9175
                      refine vV (wr := [(nc, iA G 100 fnc), (nF, sA G 5 (FCT K))]) hC hK hl hP hD hS hA (m_need1X l G h0 nw nk mhasKept nt ktp nr mrowMany mroundOf mroundFrom mouts nm mfromHour mtoHour ns (NXT bt ktp vks) (nI jd) (nI kc) mlines nl nc nF np ntr nb mbestCost nso nsi nit nsh nsf nss nrc mtraced mdealer mnumber mwhose msize misParted fnt bt (htp) (by omega) (hFB)) si_X12_236 [2, 3] [0, 1] sm_2_3 fm_2_3 nd_2_3 sm_0_1 nd_0_1 dj_2_3__0_1 rfl rfl rfl rfl rfl (Nat.le_of_ble_eq_true rfl) (rmT (Nat.le_of_ble_eq_true rfl) (Nat.le_of_ble_eq_true rfl)) ⟨Nat.le_of_ble_eq_true rfl, Nat.le_of_ble_eq_true rfl⟩ gX12_one_10.1 (fun u9178 H locs hr9177 hP hD hS => ?_)
                      refine Kpdr (ws := [(nc, iA G 100 fnc), (nF, sA G 5 (FCT K)), (h0, oX12 nw nk mhasKept nt (nI ktp) nr mrowMany mroundOf mroundFrom mouts nm mfromHour mtoHour ns (nI (NXT bt ktp (NXT bt ktp vks))) (nI (TKE bt ktp (NXT bt ktp (NXT bt ktp vks)))) (nI (TKN bt ktp (NXT bt ktp (NXT bt ktp vks)))) 0 (nI jd) (nI kc) mlines nl nc nF np ntr nb mbestCost nso nsi nit nsh nsf nss nrc mtraced mdealer mnumber mwhose msize misParted), (nt, iA G 240 fnt)]) hP hD (fun hP hD => ?_)
                      have xn9179 := NXT.ge (bt := bt) (n := ktp) (s := (NXT bt ktp vks)) (by omega)
                      refine lv_aload_n hx hb gX12_one_10.2.1 rfl (lv_at3 hl) ?_
                      refine lv_sipush (v := 999) hx hb gX12_one_10.2.2.1 (by decide) ?_
                      refine iV (wr := [(nc, iA G 100 fnc), (nF, sA G 5 (FCT K))]) hC hK hl hP hD hS hA (m_numberX l G h0 999 nw nk mhasKept nt ktp nr mrowMany mroundOf mroundFrom mouts nm mfromHour mtoHour ns (NXT bt ktp (NXT bt ktp vks)) (nI jd) (nI kc) mlines nl nc nF np ntr nb mbestCost nso nsi nit nsh nsf nss nrc mtraced mdealer mnumber mwhose msize misParted fnt bt (htp) (by omega) (hFB) (by omega)) si_X12_271 [2, 3] [0, 1] sm_2_3 fm_2_3 nd_2_3 sm_0_1 nd_0_1 dj_2_3__0_1 rfl rfl rfl rfl rfl (Nat.le_of_ble_eq_true rfl) (rmT (Nat.le_of_ble_eq_true rfl) (Nat.le_of_ble_eq_true rfl)) ⟨Nat.le_of_ble_eq_true rfl, Nat.le_of_ble_eq_true rfl⟩ gX12_one_10.2.2.2.1 (fun r9180 => Ktu2 fun ff19182 ks19183 => ?_)
                      intro H locs hr9180 hP hD hS
                      try dsimp only at hr9180
                      refine Kpdr (ws := [(nc, iA G 100 fnc), (nF, sA G 5 (FCT K)), (h0, oX12 nw nk mhasKept nt (nI ktp) nr mrowMany mroundOf mroundFrom mouts nm mfromHour mtoHour ns (nI ks19183) (nI (TKE bt ktp ks19183)) (nI (TKN bt ktp ks19183)) ff19182 (nI jd) (nI kc) mlines nl nc nF np ntr nb mbestCost nso nsi nit nsh nsf nss nrc mtraced mdealer mnumber mwhose msize misParted), (nt, iA G 240 fnt)]) hP hD (fun hP hD => ?_)
                      obtain ⟨hr9180, w9184⟩ := hr9180
                      rcases w9184 with v9185 | v9186
                      · obtain ⟨rfl, rfl, rfl, hq9187⟩ := v9185
                        have xl9188 := NML.len hq9187 (by omega)
                        refine lv_istore (lv' := [(4, .int (nI (NVL bt ktp (NXT bt ktp (NXT bt ktp vks))))), (3, .int 0), (2, .int (nI (FAV bt ktp vks))), (1, .int (nI vn)), (0, .ref h0)]) hx hb gX12_one_10.2.2.2.2.1 hl (by decide) rfl (fun ls hl => ?_)
                        refine lv_aload_n hx hb gX12_one_10.2.2.2.2.2.1 rfl (lv_at4 hl) ?_
                        refine lv_sipush (v := 3000) hx hb gX12_one_10.2.2.2.2.2.2.1 (by decide) ?_
                        refine lv_iload_n hx hb gX12_one_10.2.2.2.2.2.2.2.1 rfl (lv_at2 hl) ?_
                        refine lv_imul hx hb gX12_one_10.2.2.2.2.2.2.2.2.1 ?_
                        refine eqi (x1 := nI (3000 * (FAV bt ktp vks))) (nI_mul 3000 (FAV bt ktp vks)) ?_
                        refine lv_sipush (v := 1000) hx hb gX12_one_10.2.2.2.2.2.2.2.2.2 (by decide) ?_
                        refine lv_iload_n hx hb gX12_one_11.1 rfl (lv_at1 hl) ?_
                        refine lv_imul hx hb gX12_one_11.2.1 ?_
                        refine eqi (x1 := 0) (by decide) ?_
                        refine lv_iadd hx hb gX12_one_11.2.2.1 ?_
                        refine eqi (x1 := nI (3000 * (FAV bt ktp vks) + 0)) (nI_add (3000 * (FAV bt ktp vks)) 0) ?_
                        refine lv_iload hx hb gX12_one_11.2.2.2.1 (lv_at0 hl) ?_
                        refine lv_iadd hx hb gX12_one_11.2.2.2.2.1 ?_
                        refine eqi (x1 := nI (3000 * (FAV bt ktp vks) + 0 + (NVL bt ktp (NXT bt ktp (NXT bt ktp vks))))) (nI_add (3000 * (FAV bt ktp vks) + 0) (NVL bt ktp (NXT bt ktp (NXT bt ktp vks)))) ?_
                        have hy9 := CMP.y hfs hsg (NML.of hq9187).1
                        have hcv : (CMP bt ktp vks).2.2 = (FAV bt ktp vks * 3 + 0) * 1000 + NVL bt ktp (NXT bt ktp (NXT bt ktp vks)) := congrArg (fun z9 => z9.2.2) hy9
                        have hcm : CMP bt ktp vks = (1, (NXT bt ktp (NXT bt ktp (NXT bt ktp vks))), (CMP bt ktp vks).2.2) := hy9.trans (congrArg (fun z9 => ((1 : Nat), (NXT bt ktp (NXT bt ktp (NXT bt ktp vks))), z9)) hcv.symm)
                        refine eqi (x1 := nI (CMP bt ktp vks).2.2) (congrArg nI (by rw [hcv]; omega)) ?_
                        refine vV (wr := [(nF, sA G 5 (FCT K)), (nt, iA G 240 fnt)]) hC hK hl hP hD hS hA (m_codes0 l G h0 (nI (CMP bt ktp vks).2.2) nw nk mhasKept nt (nI ktp) nr mrowMany mroundOf mroundFrom mouts nm mfromHour mtoHour ns (nI (NXT bt ktp (NXT bt ktp (NXT bt ktp vks)))) (nI (TKE bt ktp (NXT bt ktp (NXT bt ktp (NXT bt ktp vks))))) (nI (TKN bt ktp (NXT bt ktp (NXT bt ktp (NXT bt ktp vks))))) (nI jd) kc mlines nl nc nF np ntr nb mbestCost nso nsi nit nsh nsf nss nrc mtraced mdealer mnumber mwhose msize misParted fnc (by omega)) si_X12_252 [2, 0] [1, 3] sm_2_0 fm_2_0 nd_2_0 sm_1_3 nd_1_3 dj_2_0__1_3 rfl rfl rfl rfl rfl (Nat.le_of_ble_eq_true rfl) (rmT (Nat.le_of_ble_eq_true rfl) (Nat.le_of_ble_eq_true rfl)) ⟨Nat.le_of_ble_eq_true rfl, Nat.le_of_ble_eq_true rfl⟩ gX12_one_11.2.2.2.2.2.1 (fun u9190 H locs hr9189 hP hD hS => ?_)
                        refine Kpdr (ws := [(nF, sA G 5 (FCT K)), (nt, iA G 240 fnt), (h0, oX12 nw nk mhasKept nt (nI ktp) nr mrowMany mroundOf mroundFrom mouts nm mfromHour mtoHour ns (nI (NXT bt ktp (NXT bt ktp (NXT bt ktp vks)))) (nI (TKE bt ktp (NXT bt ktp (NXT bt ktp (NXT bt ktp vks))))) (nI (TKN bt ktp (NXT bt ktp (NXT bt ktp (NXT bt ktp vks))))) 0 (nI jd) (nI (kc + 1)) mlines nl nc nF np ntr nb mbestCost nso nsi nit nsh nsf nss nrc mtraced mdealer mnumber mwhose msize misParted), (nc, iA G 100 (upd fnc kc (nI (CMP bt ktp vks).2.2)))]) hP hD (fun hP hD => ?_)
                        refine lv_iconst (v := 0) hx hb gX12_one_11.2.2.2.2.2.2.1 (by decide) ?_
                        refine lv_istore_n (lv' := [(2, .int 0), (4, .int (nI (NVL bt ktp (NXT bt ktp (NXT bt ktp vks))))), (3, .int 0), (1, .int (nI vn)), (0, .ref h0)]) hx hb gX12_one_11.2.2.2.2.2.2.2.1 rfl hl (by decide) rfl (fun ls hl => ?_)
                        have keyN : ∀ (nN kN : Nat) (vC : Nat → Int32) (H : Heap) (locs : List Loc) (ls : Array Slot), kN + nN = vn → (STP ((kc + 1) + kN) vC ((rs ++ [nI (CMP bt ktp vks).2.2]) ++ List.replicate kN 30000)) → va_PD G A [(nF, sA G 5 (FCT K)), (nt, iA G 240 fnt), (h0, oX12 nw nk mhasKept nt (nI ktp) nr mrowMany mroundOf mroundFrom mouts nm mfromHour mtoHour ns (nI (NXT bt ktp (NXT bt ktp (NXT bt ktp vks)))) (nI (TKE bt ktp (NXT bt ktp (NXT bt ktp (NXT bt ktp vks))))) (nI (TKN bt ktp (NXT bt ktp (NXT bt ktp (NXT bt ktp vks))))) 0 (nI jd) (nI ((kc + 1) + kN)) mlines nl nc nF np ntr nb mbestCost nso nsi nit nsh nsf nss nrc mtraced mdealer mnumber mwhose msize misParted), (nc, iA G 100 vC)] H → va_S A s.heap H locs → lv_has ls 5 [(2, .int (nI kN)), (4, .int (nI (NVL bt ktp (NXT bt ktp (NXT bt ktp vks))))), (3, .int 0), (1, .int (nI vn)), (0, .ref h0)] → W p l e (RM (10 + 4 * mn) 0 0) s m ([.ref h0] : List Value).toArray below meth c H locs 0 0 Q0 (F0 m 225 ls []) := by
                          intro nN
                          induction nN with
                          | zero =>
                            intro kN vC H locs ls hkN hEx hPD hS hl
                            refine Kan2 hPD (fun hP hD => ?_)
                            obtain rfl : vn = kN := by omega
                            refine Kpdr (ws := [(nF, sA G 5 (FCT K)), (nt, iA G 240 fnt), (h0, oX12 nw nk mhasKept nt (nI ktp) nr mrowMany mroundOf mroundFrom mouts nm mfromHour mtoHour ns (nI (NXT bt ktp (NXT bt ktp (NXT bt ktp vks)))) (nI (TKE bt ktp (NXT bt ktp (NXT bt ktp (NXT bt ktp vks))))) (nI (TKN bt ktp (NXT bt ktp (NXT bt ktp (NXT bt ktp vks))))) 0 (nI jd) (nI ((kc + 1) + vn)) mlines nl nc nF np ntr nb mbestCost nso nsi nit nsh nsf nss nrc mtraced mdealer mnumber mwhose msize misParted), (nc, iA G 100 vC)]) hP hD (fun hP hD => ?_)
                            have hl : lv_has ls 5 [(2, .int (nI vn)), (4, .int (nI (NVL bt ktp (NXT bt ktp (NXT bt ktp vks))))), (3, .int 0), (1, .int (nI vn)), (0, .ref h0)] := hl
                            refine lv_iload_n hx hb gX12_one_11.2.2.2.2.2.2.2.2.1 rfl (lv_at0 hl) ?_
                            refine lv_iload_n hx hb gX12_one_11.2.2.2.2.2.2.2.2.2 rfl (lv_at3 hl) ?_
                            refine lv_icmp_ge (tgt := 243) hx hb gX12_one_12.1 (by decide) (fun _ => ?_) (fun c9 => absurd (Int32.le_refl _) c9)
                            refine toQ hQ0 ?_
                            exact RV hC hP hD hS [2, 1, 3, 0] (0, (NXT bt ktp (NXT bt ktp (NXT bt ktp vks))), ((kc + 1) + vn), vC, (cs ++ nI (CMP bt ktp vks).2.2 :: NOC vn), (rs ++ nI (CMP bt ktp vks).2.2 :: NTR vn)) rfl rfl (by decide) (Or.inl ⟨rfl, hco _ (RT.cmpO hq9083 hq9141 hcm), STP.cn hEx⟩) gX12_one_12.2.2.2.2.2.2
                          | succ nN ihN =>
                            intro kN vC H locs ls hkN hEx hPD hS hl
                            refine Kan2 hPD (fun hP hD => ?_)
                            refine lv_iload_n hx hb gX12_one_11.2.2.2.2.2.2.2.2.1 rfl (lv_at0 hl) ?_
                            refine lv_iload_n hx hb gX12_one_11.2.2.2.2.2.2.2.2.2 rfl (lv_at3 hl) ?_
                            refine lv_icmp_ge (tgt := 243) hx hb gX12_one_12.1 (by decide) (fun c9 => absurd c9 (nI_ge (a := kN) (b := vn) (by omega) (by omega))) (fun _ => ?_)
                            refine lv_aload_n hx hb gX12_one_12.2.1 rfl (lv_at4 hl) ?_
                            refine lv_sipush (v := 30000) hx hb gX12_one_12.2.2.1 (by decide) ?_
                            refine vV (wr := [(nF, sA G 5 (FCT K)), (nt, iA G 240 fnt)]) hC hK hl hP hD hS hA (m_codes0 l G h0 30000 nw nk mhasKept nt (nI ktp) nr mrowMany mroundOf mroundFrom mouts nm mfromHour mtoHour ns (nI (NXT bt ktp (NXT bt ktp (NXT bt ktp vks)))) (nI (TKE bt ktp (NXT bt ktp (NXT bt ktp (NXT bt ktp vks))))) (nI (TKN bt ktp (NXT bt ktp (NXT bt ktp (NXT bt ktp vks))))) (nI jd) ((kc + 1) + kN) mlines nl nc nF np ntr nb mbestCost nso nsi nit nsh nsf nss nrc mtraced mdealer mnumber mwhose msize misParted vC (by omega)) si_X12_252 [2, 3] [0, 1] sm_2_3 fm_2_3 nd_2_3 sm_0_1 nd_0_1 dj_2_3__0_1 rfl rfl rfl rfl rfl (Nat.le_of_ble_eq_true rfl) (rmT (Nat.le_of_ble_eq_true rfl) (Nat.le_of_ble_eq_true rfl)) ⟨Nat.le_of_ble_eq_true rfl, Nat.le_of_ble_eq_true rfl⟩ gX12_one_12.2.2.2.1 (fun u9192 H locs hr9191 hP hD hS => ?_)
                            refine Kpdr (ws := [(nF, sA G 5 (FCT K)), (nt, iA G 240 fnt), (h0, oX12 nw nk mhasKept nt (nI ktp) nr mrowMany mroundOf mroundFrom mouts nm mfromHour mtoHour ns (nI (NXT bt ktp (NXT bt ktp (NXT bt ktp vks)))) (nI (TKE bt ktp (NXT bt ktp (NXT bt ktp (NXT bt ktp vks))))) (nI (TKN bt ktp (NXT bt ktp (NXT bt ktp (NXT bt ktp vks))))) 0 (nI jd) (nI (((kc + 1) + kN) + 1)) mlines nl nc nF np ntr nb mbestCost nso nsi nit nsh nsf nss nrc mtraced mdealer mnumber mwhose msize misParted), (nc, iA G 100 (upd vC ((kc + 1) + kN) 30000))]) hP hD (fun hP hD => ?_)
                            refine lv_iinc (v := nI (kN + 1)) (lv' := [(2, .int (nI (kN + 1))), (4, .int (nI (NVL bt ktp (NXT bt ktp (NXT bt ktp vks))))), (3, .int 0), (1, .int (nI vn)), (0, .ref h0)]) hx hb gX12_one_12.2.2.2.2.1 hl (k := 0) rfl (nI_1 _) (by decide) rfl (fun ls hl => ?_)
                            refine lv_goto (tgt := 225) hx hb gX12_one_12.2.2.2.2.2.1 (by decide) ?_
                            exact ihN (kN + 1) (upd vC ((kc + 1) + kN) 30000) _ _ _ (by omega) (by first | assumption | exact Or.inl rfl | exact Or.inr rfl | exact STP.r0 (STP.push hST) | exact STP.rep hEx) (And.intro hP hD) hS (lv_sub hl [0, 1, 2, 3, 4] rfl)
                        exact keyN vn 0 (upd fnc kc (nI (CMP bt ktp vks).2.2)) _ _ _ (by omega) (by first | assumption | exact Or.inl rfl | exact Or.inr rfl | exact STP.r0 (STP.push hST) | exact STP.rep hEx) (And.intro hP hD) hS (lv_sub hl [0, 1, 2, 3, 4] rfl)
                      · obtain ⟨rfl, rfl, hq9193⟩ := v9186
                        refine lv_istore (lv' := [(4, .int r9180), (3, .int 0), (2, .int (nI (FAV bt ktp vks))), (1, .int (nI vn)), (0, .ref h0)]) hx hb gX12_one_10.2.2.2.2.1 hl (by decide) rfl (fun ls hl => ?_)
                        refine lv_aload_n hx hb gX12_one_10.2.2.2.2.2.1 rfl (lv_at4 hl) ?_
                        refine lv_sipush (v := 3000) hx hb gX12_one_10.2.2.2.2.2.2.1 (by decide) ?_
                        refine lv_iload_n hx hb gX12_one_10.2.2.2.2.2.2.2.1 rfl (lv_at2 hl) ?_
                        refine lv_imul hx hb gX12_one_10.2.2.2.2.2.2.2.2.1 ?_
                        refine eqi (x1 := nI (3000 * (FAV bt ktp vks))) (nI_mul 3000 (FAV bt ktp vks)) ?_
                        refine lv_sipush (v := 1000) hx hb gX12_one_10.2.2.2.2.2.2.2.2.2 (by decide) ?_
                        refine lv_iload_n hx hb gX12_one_11.1 rfl (lv_at1 hl) ?_
                        refine lv_imul hx hb gX12_one_11.2.1 ?_
                        refine eqi (x1 := 0) (by decide) ?_
                        refine lv_iadd hx hb gX12_one_11.2.2.1 ?_
                        refine eqi (x1 := nI (3000 * (FAV bt ktp vks) + 0)) (nI_add (3000 * (FAV bt ktp vks)) 0) ?_
                        refine lv_iload hx hb gX12_one_11.2.2.2.1 (lv_at0 hl) ?_
                        refine lv_iadd hx hb gX12_one_11.2.2.2.2.1 ?_
                        refine vV (wr := [(nc, iA G 100 fnc), (nF, sA G 5 (FCT K)), (nt, iA G 240 fnt)]) hC hK hl hP hD hS hA (m_codesF l G h0 ((nI (3000 * (FAV bt ktp vks) + 0)) + r9180) nw nk mhasKept nt (nI ktp) nr mrowMany mroundOf mroundFrom mouts nm mfromHour mtoHour ns (nI (NXT bt ktp (NXT bt ktp vks))) (nI (TKE bt ktp (NXT bt ktp (NXT bt ktp vks)))) (nI (TKN bt ktp (NXT bt ktp (NXT bt ktp vks)))) (nI jd) (nI kc) mlines nl nc nF np ntr nb mbestCost nso nsi nit nsh nsf nss nrc mtraced mdealer mnumber mwhose msize misParted) si_X12_252 [2] [0, 1, 3] sm_2 fm_2 nd_2 sm_0_1_3 nd_0_1_3 dj_2__0_1_3 rfl rfl rfl rfl rfl (Nat.le_of_ble_eq_true rfl) (rmT (Nat.le_of_ble_eq_true rfl) (Nat.le_of_ble_eq_true rfl)) ⟨Nat.le_of_ble_eq_true rfl, Nat.le_of_ble_eq_true rfl⟩ gX12_one_11.2.2.2.2.2.1 (fun u9195 H locs hr9194 hP hD hS => ?_)
                        refine Kpdr (ws := [(nc, iA G 100 fnc), (nF, sA G 5 (FCT K)), (nt, iA G 240 fnt), (h0, oX12 nw nk mhasKept nt (nI ktp) nr mrowMany mroundOf mroundFrom mouts nm mfromHour mtoHour ns (nI (NXT bt ktp (NXT bt ktp vks))) (nI (TKE bt ktp (NXT bt ktp (NXT bt ktp vks)))) (nI (TKN bt ktp (NXT bt ktp (NXT bt ktp vks)))) 1 (nI jd) (nI kc) mlines nl nc nF np ntr nb mbestCost nso nsi nit nsh nsf nss nrc mtraced mdealer mnumber mwhose msize misParted)]) hP hD (fun hP hD => ?_)
                        refine lv_iconst (v := 0) hx hb gX12_one_11.2.2.2.2.2.2.1 (by decide) ?_
                        refine lv_istore_n (lv' := [(2, .int 0), (4, .int r9180), (3, .int 0), (1, .int (nI vn)), (0, .ref h0)]) hx hb gX12_one_11.2.2.2.2.2.2.2.1 rfl hl (by decide) rfl (fun ls hl => ?_)
                        have keyN : ∀ (nN kN : Nat) (H : Heap) (locs : List Loc) (ls : Array Slot), kN + nN = vn → va_PD G A [(nc, iA G 100 fnc), (nF, sA G 5 (FCT K)), (nt, iA G 240 fnt), (h0, oX12 nw nk mhasKept nt (nI ktp) nr mrowMany mroundOf mroundFrom mouts nm mfromHour mtoHour ns (nI (NXT bt ktp (NXT bt ktp vks))) (nI (TKE bt ktp (NXT bt ktp (NXT bt ktp vks)))) (nI (TKN bt ktp (NXT bt ktp (NXT bt ktp vks)))) 1 (nI jd) (nI kc) mlines nl nc nF np ntr nb mbestCost nso nsi nit nsh nsf nss nrc mtraced mdealer mnumber mwhose msize misParted)] H → va_S A s.heap H locs → lv_has ls 5 [(2, .int (nI kN)), (4, .int r9180), (3, .int 0), (1, .int (nI vn)), (0, .ref h0)] → W p l e (RM (10 + 4 * mn) 0 0) s m ([.ref h0] : List Value).toArray below meth c H locs 0 0 Q0 (F0 m 225 ls []) := by
                          intro nN
                          induction nN with
                          | zero =>
                            intro kN H locs ls hkN hPD hS hl
                            refine Kan2 hPD (fun hP hD => ?_)
                            obtain rfl : vn = kN := by omega
                            have hl : lv_has ls 5 [(2, .int (nI vn)), (4, .int r9180), (3, .int 0), (1, .int (nI vn)), (0, .ref h0)] := hl
                            refine lv_iload_n hx hb gX12_one_11.2.2.2.2.2.2.2.2.1 rfl (lv_at0 hl) ?_
                            refine lv_iload_n hx hb gX12_one_11.2.2.2.2.2.2.2.2.2 rfl (lv_at3 hl) ?_
                            refine lv_icmp_ge (tgt := 243) hx hb gX12_one_12.1 (by decide) (fun _ => ?_) (fun c9 => absurd (Int32.le_refl _) c9)
                            refine toQ hQ0 ?_
                            exact RV hC hP hD hS [3, 2, 0, 1] (1, (NXT bt ktp (NXT bt ktp vks)), kc, fnc, [], []) rfl rfl (by decide) (Or.inr ⟨rfl, hco _ (RT.cmpF hq9083 hq9141 (CMP.f3 hfs hsg (NML.no hq9193 (by omega)))), by (try dsimp only); omega⟩) gX12_one_12.2.2.2.2.2.2
                          | succ nN ihN =>
                            intro kN H locs ls hkN hPD hS hl
                            refine Kan2 hPD (fun hP hD => ?_)
                            refine lv_iload_n hx hb gX12_one_11.2.2.2.2.2.2.2.2.1 rfl (lv_at0 hl) ?_
                            refine lv_iload_n hx hb gX12_one_11.2.2.2.2.2.2.2.2.2 rfl (lv_at3 hl) ?_
                            refine lv_icmp_ge (tgt := 243) hx hb gX12_one_12.1 (by decide) (fun c9 => absurd c9 (nI_ge (a := kN) (b := vn) (by omega) (by omega))) (fun _ => ?_)
                            refine lv_aload_n hx hb gX12_one_12.2.1 rfl (lv_at4 hl) ?_
                            refine lv_sipush (v := 30000) hx hb gX12_one_12.2.2.1 (by decide) ?_
                            refine vV (wr := [(nc, iA G 100 fnc), (nF, sA G 5 (FCT K)), (nt, iA G 240 fnt)]) hC hK hl hP hD hS hA (m_codesF l G h0 30000 nw nk mhasKept nt (nI ktp) nr mrowMany mroundOf mroundFrom mouts nm mfromHour mtoHour ns (nI (NXT bt ktp (NXT bt ktp vks))) (nI (TKE bt ktp (NXT bt ktp (NXT bt ktp vks)))) (nI (TKN bt ktp (NXT bt ktp (NXT bt ktp vks)))) (nI jd) (nI kc) mlines nl nc nF np ntr nb mbestCost nso nsi nit nsh nsf nss nrc mtraced mdealer mnumber mwhose msize misParted) si_X12_252 [3] [0, 1, 2] sm_3 fm_3 nd_3 sm_0_1_2 nd_0_1_2 dj_3__0_1_2 rfl rfl rfl rfl rfl (Nat.le_of_ble_eq_true rfl) (rmT (Nat.le_of_ble_eq_true rfl) (Nat.le_of_ble_eq_true rfl)) ⟨Nat.le_of_ble_eq_true rfl, Nat.le_of_ble_eq_true rfl⟩ gX12_one_12.2.2.2.1 (fun u9197 H locs hr9196 hP hD hS => ?_)
                            refine Kpdr (ws := [(nc, iA G 100 fnc), (nF, sA G 5 (FCT K)), (nt, iA G 240 fnt), (h0, oX12 nw nk mhasKept nt (nI ktp) nr mrowMany mroundOf mroundFrom mouts nm mfromHour mtoHour ns (nI (NXT bt ktp (NXT bt ktp vks))) (nI (TKE bt ktp (NXT bt ktp (NXT bt ktp vks)))) (nI (TKN bt ktp (NXT bt ktp (NXT bt ktp vks)))) 1 (nI jd) (nI kc) mlines nl nc nF np ntr nb mbestCost nso nsi nit nsh nsf nss nrc mtraced mdealer mnumber mwhose msize misParted)]) hP hD (fun hP hD => ?_)
                            refine lv_iinc (v := nI (kN + 1)) (lv' := [(2, .int (nI (kN + 1))), (4, .int r9180), (3, .int 0), (1, .int (nI vn)), (0, .ref h0)]) hx hb gX12_one_12.2.2.2.2.1 hl (k := 0) rfl (nI_1 _) (by decide) rfl (fun ls hl => ?_)
                            refine lv_goto (tgt := 225) hx hb gX12_one_12.2.2.2.2.2.1 (by decide) ?_
                            exact ihN (kN + 1) _ _ _ (by omega) (And.intro hP hD) hS (lv_sub hl [0, 1, 2, 3, 4] rfl)
                        exact keyN vn 0 _ _ _ (by omega) (And.intro hP hD) hS (lv_sub hl [0, 1, 2, 3, 4] rfl)
                    · exact absurd hq9171 a9174
                  · have hq9198 := a9170
                    refine lv_if_eq (tgt := 145) hx hb gX12_one_7.2.2.2.1 (by decide) (fun _ => ?_) (fun c9 => absurd (by decide) c9)
                    refine lv_aload_n hx hb gX12_one_7.2.2.2.2.2.2.1 rfl (lv_at3 hl) ?_
                    refine lv_bipush (v := 61) hx hb gX12_one_7.2.2.2.2.2.2.2.1 (by decide) ?_
                    refine pV hC hK hl hP hD (m_isSignX l G h0 61 nw nk mhasKept nt ktp nr mrowMany mroundOf mroundFrom mouts nm mfromHour mtoHour ns (NXT bt ktp vks) (nI jd) (nI kc) mlines nl nc nF np ntr nb mbestCost nso nsi nit nsh nsf nss nrc mtraced mdealer mnumber mwhose msize misParted fnt bt (htp) (by omega) (hFB)) si_X12_262 [2, 3] sm_2_3 fm_2_3 nd_2_3 rfl rfl rfl rfl rfl (Nat.le_of_ble_eq_true rfl) (rmT (Nat.le_of_ble_eq_true rfl) (Nat.le_of_ble_eq_true rfl)) ⟨by first | exact Nat.le_of_ble_eq_true rfl | exact Nat.zero_le _, by first | exact Nat.le_of_ble_eq_true rfl | exact Nat.zero_le _⟩ gX12_one_7.2.2.2.2.2.2.2.2.1 (Kors (Keqa fun a9200 => ?_) (Keqa fun a9200 => ?_))
                    · have hq9201 := a9200
                      have xl9202 := SGN.len hq9201 (by omega)
                      refine lv_if_eq (tgt := 158) hx hb gX12_one_7.2.2.2.2.2.2.2.2.2 (by decide) (fun c9 => absurd c9 (by decide)) (fun _ => ?_)
                      refine lv_iconst (v := 1) hx hb gX12_one_8.1 (by decide) ?_
                      refine lv_goto (tgt := 159) hx hb gX12_one_8.2.1 (by decide) ?_
                      refine lv_istore_n (lv' := [(3, .int 1), (2, .int (nI (FAV bt ktp vks))), (1, .int (nI vn)), (0, .ref h0)]) hx hb gX12_one_8.2.2.2.1 rfl hl (by decide) rfl (fun ls hl => ?_)
                      refine lv_aload_n hx hb gX12_one_8.2.2.2.2.1 rfl (lv_at3 hl) ?_
                      refine lv_aload_n hx hb gX12_one_8.2.2.2.2.2.1 rfl (lv_at3 hl) ?_
                      refine lv_bipush (v := 60) hx hb gX12_one_8.2.2.2.2.2.2.1 (by decide) ?_
                      refine pV hC hK hl hP hD (m_isSignX l G h0 60 nw nk mhasKept nt ktp nr mrowMany mroundOf mroundFrom mouts nm mfromHour mtoHour ns (NXT bt ktp vks) (nI jd) (nI kc) mlines nl nc nF np ntr nb mbestCost nso nsi nit nsh nsf nss nrc mtraced mdealer mnumber mwhose msize misParted fnt bt (htp) (by omega) (hFB)) si_X12_262 [2, 3] sm_2_3 fm_2_3 nd_2_3 rfl rfl rfl rfl rfl (Nat.le_of_ble_eq_true rfl) (rmT (Nat.le_of_ble_eq_true rfl) (Nat.le_of_ble_eq_true rfl)) ⟨by first | exact Nat.le_of_ble_eq_true rfl | exact Nat.zero_le _, by first | exact Nat.le_of_ble_eq_true rfl | exact Nat.zero_le _⟩ gX12_one_8.2.2.2.2.2.2.2.1 (Kors (Keqa fun a9204 => ?_) (Keqa fun a9204 => ?_))
                      · exact absurd a9204 hq9198
                      · have hq9205 := a9204
                        refine lv_if_ne (tgt := 188) hx hb gX12_one_8.2.2.2.2.2.2.2.2.1 (by decide) (fun c9 => absurd (by decide) c9) (fun _ => ?_)
                        refine lv_aload_n hx hb gX12_one_8.2.2.2.2.2.2.2.2.2 rfl (lv_at3 hl) ?_
                        refine lv_bipush (v := 61) hx hb gX12_one_9.1 (by decide) ?_
                        refine pV hC hK hl hP hD (m_isSignX l G h0 61 nw nk mhasKept nt ktp nr mrowMany mroundOf mroundFrom mouts nm mfromHour mtoHour ns (NXT bt ktp vks) (nI jd) (nI kc) mlines nl nc nF np ntr nb mbestCost nso nsi nit nsh nsf nss nrc mtraced mdealer mnumber mwhose msize misParted fnt bt (htp) (by omega) (hFB)) si_X12_262 [2, 3] sm_2_3 fm_2_3 nd_2_3 rfl rfl rfl rfl rfl (Nat.le_of_ble_eq_true rfl) (rmT (Nat.le_of_ble_eq_true rfl) (Nat.le_of_ble_eq_true rfl)) ⟨by first | exact Nat.le_of_ble_eq_true rfl | exact Nat.zero_le _, by first | exact Nat.le_of_ble_eq_true rfl | exact Nat.zero_le _⟩ gX12_one_9.2.1 (Kors (Keqa fun a9207 => ?_) (Keqa fun a9207 => ?_))
                        · have hq9208 := a9207
                          have xl9209 := SGN.len hq9208 (by omega)
                          refine lv_if_ne (tgt := 188) hx hb gX12_one_9.2.2.1 (by decide) (fun _ => ?_) (fun c9 => absurd c9 (by decide))
                          refine lv_iconst (v := 1) hx hb gX12_one_9.2.2.2.2.2.2.2.1 (by decide) ?_
                          refine lv_goto (tgt := 193) hx hb gX12_one_9.2.2.2.2.2.2.2.2.1 (by decide) ?_
                          have hsg : SIG bt ktp (NXT bt ktp vks) = some 1 := SIG.e1 hq9205 hq9208
                          refine vV (wr := [(nc, iA G 100 fnc), (nF, sA G 5 (FCT K))]) hC hK hl hP hD hS hA (m_need1X l G h0 nw nk mhasKept nt ktp nr mrowMany mroundOf mroundFrom mouts nm mfromHour mtoHour ns (NXT bt ktp vks) (nI jd) (nI kc) mlines nl nc nF np ntr nb mbestCost nso nsi nit nsh nsf nss nrc mtraced mdealer mnumber mwhose msize misParted fnt bt (htp) (by omega) (hFB)) si_X12_236 [2, 3] [0, 1] sm_2_3 fm_2_3 nd_2_3 sm_0_1 nd_0_1 dj_2_3__0_1 rfl rfl rfl rfl rfl (Nat.le_of_ble_eq_true rfl) (rmT (Nat.le_of_ble_eq_true rfl) (Nat.le_of_ble_eq_true rfl)) ⟨Nat.le_of_ble_eq_true rfl, Nat.le_of_ble_eq_true rfl⟩ gX12_one_10.1 (fun u9211 H locs hr9210 hP hD hS => ?_)
                          refine Kpdr (ws := [(nc, iA G 100 fnc), (nF, sA G 5 (FCT K)), (h0, oX12 nw nk mhasKept nt (nI ktp) nr mrowMany mroundOf mroundFrom mouts nm mfromHour mtoHour ns (nI (NXT bt ktp (NXT bt ktp vks))) (nI (TKE bt ktp (NXT bt ktp (NXT bt ktp vks)))) (nI (TKN bt ktp (NXT bt ktp (NXT bt ktp vks)))) 0 (nI jd) (nI kc) mlines nl nc nF np ntr nb mbestCost nso nsi nit nsh nsf nss nrc mtraced mdealer mnumber mwhose msize misParted), (nt, iA G 240 fnt)]) hP hD (fun hP hD => ?_)
                          have xn9212 := NXT.ge (bt := bt) (n := ktp) (s := (NXT bt ktp vks)) (by omega)
                          refine lv_aload_n hx hb gX12_one_10.2.1 rfl (lv_at3 hl) ?_
                          refine lv_sipush (v := 999) hx hb gX12_one_10.2.2.1 (by decide) ?_
                          refine iV (wr := [(nc, iA G 100 fnc), (nF, sA G 5 (FCT K))]) hC hK hl hP hD hS hA (m_numberX l G h0 999 nw nk mhasKept nt ktp nr mrowMany mroundOf mroundFrom mouts nm mfromHour mtoHour ns (NXT bt ktp (NXT bt ktp vks)) (nI jd) (nI kc) mlines nl nc nF np ntr nb mbestCost nso nsi nit nsh nsf nss nrc mtraced mdealer mnumber mwhose msize misParted fnt bt (htp) (by omega) (hFB) (by omega)) si_X12_271 [2, 3] [0, 1] sm_2_3 fm_2_3 nd_2_3 sm_0_1 nd_0_1 dj_2_3__0_1 rfl rfl rfl rfl rfl (Nat.le_of_ble_eq_true rfl) (rmT (Nat.le_of_ble_eq_true rfl) (Nat.le_of_ble_eq_true rfl)) ⟨Nat.le_of_ble_eq_true rfl, Nat.le_of_ble_eq_true rfl⟩ gX12_one_10.2.2.2.1 (fun r9213 => Ktu2 fun ff19215 ks19216 => ?_)
                          intro H locs hr9213 hP hD hS
                          try dsimp only at hr9213
                          refine Kpdr (ws := [(nc, iA G 100 fnc), (nF, sA G 5 (FCT K)), (h0, oX12 nw nk mhasKept nt (nI ktp) nr mrowMany mroundOf mroundFrom mouts nm mfromHour mtoHour ns (nI ks19216) (nI (TKE bt ktp ks19216)) (nI (TKN bt ktp ks19216)) ff19215 (nI jd) (nI kc) mlines nl nc nF np ntr nb mbestCost nso nsi nit nsh nsf nss nrc mtraced mdealer mnumber mwhose msize misParted), (nt, iA G 240 fnt)]) hP hD (fun hP hD => ?_)
                          obtain ⟨hr9213, w9217⟩ := hr9213
                          rcases w9217 with v9218 | v9219
                          · obtain ⟨rfl, rfl, rfl, hq9220⟩ := v9218
                            have xl9221 := NML.len hq9220 (by omega)
                            refine lv_istore (lv' := [(4, .int (nI (NVL bt ktp (NXT bt ktp (NXT bt ktp vks))))), (3, .int 1), (2, .int (nI (FAV bt ktp vks))), (1, .int (nI vn)), (0, .ref h0)]) hx hb gX12_one_10.2.2.2.2.1 hl (by decide) rfl (fun ls hl => ?_)
                            refine lv_aload_n hx hb gX12_one_10.2.2.2.2.2.1 rfl (lv_at4 hl) ?_
                            refine lv_sipush (v := 3000) hx hb gX12_one_10.2.2.2.2.2.2.1 (by decide) ?_
                            refine lv_iload_n hx hb gX12_one_10.2.2.2.2.2.2.2.1 rfl (lv_at2 hl) ?_
                            refine lv_imul hx hb gX12_one_10.2.2.2.2.2.2.2.2.1 ?_
                            refine eqi (x1 := nI (3000 * (FAV bt ktp vks))) (nI_mul 3000 (FAV bt ktp vks)) ?_
                            refine lv_sipush (v := 1000) hx hb gX12_one_10.2.2.2.2.2.2.2.2.2 (by decide) ?_
                            refine lv_iload_n hx hb gX12_one_11.1 rfl (lv_at1 hl) ?_
                            refine lv_imul hx hb gX12_one_11.2.1 ?_
                            refine eqi (x1 := 1000) (by decide) ?_
                            refine lv_iadd hx hb gX12_one_11.2.2.1 ?_
                            refine eqi (x1 := nI (3000 * (FAV bt ktp vks) + 1000)) (nI_add (3000 * (FAV bt ktp vks)) 1000) ?_
                            refine lv_iload hx hb gX12_one_11.2.2.2.1 (lv_at0 hl) ?_
                            refine lv_iadd hx hb gX12_one_11.2.2.2.2.1 ?_
                            refine eqi (x1 := nI (3000 * (FAV bt ktp vks) + 1000 + (NVL bt ktp (NXT bt ktp (NXT bt ktp vks))))) (nI_add (3000 * (FAV bt ktp vks) + 1000) (NVL bt ktp (NXT bt ktp (NXT bt ktp vks)))) ?_
                            have hy9 := CMP.y hfs hsg (NML.of hq9220).1
                            have hcv : (CMP bt ktp vks).2.2 = (FAV bt ktp vks * 3 + 1) * 1000 + NVL bt ktp (NXT bt ktp (NXT bt ktp vks)) := congrArg (fun z9 => z9.2.2) hy9
                            have hcm : CMP bt ktp vks = (1, (NXT bt ktp (NXT bt ktp (NXT bt ktp vks))), (CMP bt ktp vks).2.2) := hy9.trans (congrArg (fun z9 => ((1 : Nat), (NXT bt ktp (NXT bt ktp (NXT bt ktp vks))), z9)) hcv.symm)
                            refine eqi (x1 := nI (CMP bt ktp vks).2.2) (congrArg nI (by rw [hcv]; omega)) ?_
                            refine vV (wr := [(nF, sA G 5 (FCT K)), (nt, iA G 240 fnt)]) hC hK hl hP hD hS hA (m_codes0 l G h0 (nI (CMP bt ktp vks).2.2) nw nk mhasKept nt (nI ktp) nr mrowMany mroundOf mroundFrom mouts nm mfromHour mtoHour ns (nI (NXT bt ktp (NXT bt ktp (NXT bt ktp vks)))) (nI (TKE bt ktp (NXT bt ktp (NXT bt ktp (NXT bt ktp vks))))) (nI (TKN bt ktp (NXT bt ktp (NXT bt ktp (NXT bt ktp vks))))) (nI jd) kc mlines nl nc nF np ntr nb mbestCost nso nsi nit nsh nsf nss nrc mtraced mdealer mnumber mwhose msize misParted fnc (by omega)) si_X12_252 [2, 0] [1, 3] sm_2_0 fm_2_0 nd_2_0 sm_1_3 nd_1_3 dj_2_0__1_3 rfl rfl rfl rfl rfl (Nat.le_of_ble_eq_true rfl) (rmT (Nat.le_of_ble_eq_true rfl) (Nat.le_of_ble_eq_true rfl)) ⟨Nat.le_of_ble_eq_true rfl, Nat.le_of_ble_eq_true rfl⟩ gX12_one_11.2.2.2.2.2.1 (fun u9223 H locs hr9222 hP hD hS => ?_)
                            refine Kpdr (ws := [(nF, sA G 5 (FCT K)), (nt, iA G 240 fnt), (h0, oX12 nw nk mhasKept nt (nI ktp) nr mrowMany mroundOf mroundFrom mouts nm mfromHour mtoHour ns (nI (NXT bt ktp (NXT bt ktp (NXT bt ktp vks)))) (nI (TKE bt ktp (NXT bt ktp (NXT bt ktp (NXT bt ktp vks))))) (nI (TKN bt ktp (NXT bt ktp (NXT bt ktp (NXT bt ktp vks))))) 0 (nI jd) (nI (kc + 1)) mlines nl nc nF np ntr nb mbestCost nso nsi nit nsh nsf nss nrc mtraced mdealer mnumber mwhose msize misParted), (nc, iA G 100 (upd fnc kc (nI (CMP bt ktp vks).2.2)))]) hP hD (fun hP hD => ?_)
                            refine lv_iconst (v := 0) hx hb gX12_one_11.2.2.2.2.2.2.1 (by decide) ?_
                            refine lv_istore_n (lv' := [(2, .int 0), (4, .int (nI (NVL bt ktp (NXT bt ktp (NXT bt ktp vks))))), (3, .int 1), (1, .int (nI vn)), (0, .ref h0)]) hx hb gX12_one_11.2.2.2.2.2.2.2.1 rfl hl (by decide) rfl (fun ls hl => ?_)
                            have keyN : ∀ (nN kN : Nat) (vC : Nat → Int32) (H : Heap) (locs : List Loc) (ls : Array Slot), kN + nN = vn → (STP ((kc + 1) + kN) vC ((rs ++ [nI (CMP bt ktp vks).2.2]) ++ List.replicate kN 30000)) → va_PD G A [(nF, sA G 5 (FCT K)), (nt, iA G 240 fnt), (h0, oX12 nw nk mhasKept nt (nI ktp) nr mrowMany mroundOf mroundFrom mouts nm mfromHour mtoHour ns (nI (NXT bt ktp (NXT bt ktp (NXT bt ktp vks)))) (nI (TKE bt ktp (NXT bt ktp (NXT bt ktp (NXT bt ktp vks))))) (nI (TKN bt ktp (NXT bt ktp (NXT bt ktp (NXT bt ktp vks))))) 0 (nI jd) (nI ((kc + 1) + kN)) mlines nl nc nF np ntr nb mbestCost nso nsi nit nsh nsf nss nrc mtraced mdealer mnumber mwhose msize misParted), (nc, iA G 100 vC)] H → va_S A s.heap H locs → lv_has ls 5 [(2, .int (nI kN)), (4, .int (nI (NVL bt ktp (NXT bt ktp (NXT bt ktp vks))))), (3, .int 1), (1, .int (nI vn)), (0, .ref h0)] → W p l e (RM (10 + 4 * mn) 0 0) s m ([.ref h0] : List Value).toArray below meth c H locs 0 0 Q0 (F0 m 225 ls []) := by
                              intro nN
                              induction nN with
                              | zero =>
                                intro kN vC H locs ls hkN hEx hPD hS hl
                                refine Kan2 hPD (fun hP hD => ?_)
                                obtain rfl : vn = kN := by omega
                                refine Kpdr (ws := [(nF, sA G 5 (FCT K)), (nt, iA G 240 fnt), (h0, oX12 nw nk mhasKept nt (nI ktp) nr mrowMany mroundOf mroundFrom mouts nm mfromHour mtoHour ns (nI (NXT bt ktp (NXT bt ktp (NXT bt ktp vks)))) (nI (TKE bt ktp (NXT bt ktp (NXT bt ktp (NXT bt ktp vks))))) (nI (TKN bt ktp (NXT bt ktp (NXT bt ktp (NXT bt ktp vks))))) 0 (nI jd) (nI ((kc + 1) + vn)) mlines nl nc nF np ntr nb mbestCost nso nsi nit nsh nsf nss nrc mtraced mdealer mnumber mwhose msize misParted), (nc, iA G 100 vC)]) hP hD (fun hP hD => ?_)
                                have hl : lv_has ls 5 [(2, .int (nI vn)), (4, .int (nI (NVL bt ktp (NXT bt ktp (NXT bt ktp vks))))), (3, .int 1), (1, .int (nI vn)), (0, .ref h0)] := hl
                                refine lv_iload_n hx hb gX12_one_11.2.2.2.2.2.2.2.2.1 rfl (lv_at0 hl) ?_
                                refine lv_iload_n hx hb gX12_one_11.2.2.2.2.2.2.2.2.2 rfl (lv_at3 hl) ?_
                                refine lv_icmp_ge (tgt := 243) hx hb gX12_one_12.1 (by decide) (fun _ => ?_) (fun c9 => absurd (Int32.le_refl _) c9)
                                refine toQ hQ0 ?_
                                exact RV hC hP hD hS [2, 1, 3, 0] (0, (NXT bt ktp (NXT bt ktp (NXT bt ktp vks))), ((kc + 1) + vn), vC, (cs ++ nI (CMP bt ktp vks).2.2 :: NOC vn), (rs ++ nI (CMP bt ktp vks).2.2 :: NTR vn)) rfl rfl (by decide) (Or.inl ⟨rfl, hco _ (RT.cmpO hq9083 hq9141 hcm), STP.cn hEx⟩) gX12_one_12.2.2.2.2.2.2
                              | succ nN ihN =>
                                intro kN vC H locs ls hkN hEx hPD hS hl
                                refine Kan2 hPD (fun hP hD => ?_)
                                refine lv_iload_n hx hb gX12_one_11.2.2.2.2.2.2.2.2.1 rfl (lv_at0 hl) ?_
                                refine lv_iload_n hx hb gX12_one_11.2.2.2.2.2.2.2.2.2 rfl (lv_at3 hl) ?_
                                refine lv_icmp_ge (tgt := 243) hx hb gX12_one_12.1 (by decide) (fun c9 => absurd c9 (nI_ge (a := kN) (b := vn) (by omega) (by omega))) (fun _ => ?_)
                                refine lv_aload_n hx hb gX12_one_12.2.1 rfl (lv_at4 hl) ?_
                                refine lv_sipush (v := 30000) hx hb gX12_one_12.2.2.1 (by decide) ?_
                                refine vV (wr := [(nF, sA G 5 (FCT K)), (nt, iA G 240 fnt)]) hC hK hl hP hD hS hA (m_codes0 l G h0 30000 nw nk mhasKept nt (nI ktp) nr mrowMany mroundOf mroundFrom mouts nm mfromHour mtoHour ns (nI (NXT bt ktp (NXT bt ktp (NXT bt ktp vks)))) (nI (TKE bt ktp (NXT bt ktp (NXT bt ktp (NXT bt ktp vks))))) (nI (TKN bt ktp (NXT bt ktp (NXT bt ktp (NXT bt ktp vks))))) (nI jd) ((kc + 1) + kN) mlines nl nc nF np ntr nb mbestCost nso nsi nit nsh nsf nss nrc mtraced mdealer mnumber mwhose msize misParted vC (by omega)) si_X12_252 [2, 3] [0, 1] sm_2_3 fm_2_3 nd_2_3 sm_0_1 nd_0_1 dj_2_3__0_1 rfl rfl rfl rfl rfl (Nat.le_of_ble_eq_true rfl) (rmT (Nat.le_of_ble_eq_true rfl) (Nat.le_of_ble_eq_true rfl)) ⟨Nat.le_of_ble_eq_true rfl, Nat.le_of_ble_eq_true rfl⟩ gX12_one_12.2.2.2.1 (fun u9225 H locs hr9224 hP hD hS => ?_)
                                refine Kpdr (ws := [(nF, sA G 5 (FCT K)), (nt, iA G 240 fnt), (h0, oX12 nw nk mhasKept nt (nI ktp) nr mrowMany mroundOf mroundFrom mouts nm mfromHour mtoHour ns (nI (NXT bt ktp (NXT bt ktp (NXT bt ktp vks)))) (nI (TKE bt ktp (NXT bt ktp (NXT bt ktp (NXT bt ktp vks))))) (nI (TKN bt ktp (NXT bt ktp (NXT bt ktp (NXT bt ktp vks))))) 0 (nI jd) (nI (((kc + 1) + kN) + 1)) mlines nl nc nF np ntr nb mbestCost nso nsi nit nsh nsf nss nrc mtraced mdealer mnumber mwhose msize misParted), (nc, iA G 100 (upd vC ((kc + 1) + kN) 30000))]) hP hD (fun hP hD => ?_)
                                refine lv_iinc (v := nI (kN + 1)) (lv' := [(2, .int (nI (kN + 1))), (4, .int (nI (NVL bt ktp (NXT bt ktp (NXT bt ktp vks))))), (3, .int 1), (1, .int (nI vn)), (0, .ref h0)]) hx hb gX12_one_12.2.2.2.2.1 hl (k := 0) rfl (nI_1 _) (by decide) rfl (fun ls hl => ?_)
                                refine lv_goto (tgt := 225) hx hb gX12_one_12.2.2.2.2.2.1 (by decide) ?_
                                exact ihN (kN + 1) (upd vC ((kc + 1) + kN) 30000) _ _ _ (by omega) (by first | assumption | exact Or.inl rfl | exact Or.inr rfl | exact STP.r0 (STP.push hST) | exact STP.rep hEx) (And.intro hP hD) hS (lv_sub hl [0, 1, 2, 3, 4] rfl)
                            exact keyN vn 0 (upd fnc kc (nI (CMP bt ktp vks).2.2)) _ _ _ (by omega) (by first | assumption | exact Or.inl rfl | exact Or.inr rfl | exact STP.r0 (STP.push hST) | exact STP.rep hEx) (And.intro hP hD) hS (lv_sub hl [0, 1, 2, 3, 4] rfl)
                          · obtain ⟨rfl, rfl, hq9226⟩ := v9219
                            refine lv_istore (lv' := [(4, .int r9213), (3, .int 1), (2, .int (nI (FAV bt ktp vks))), (1, .int (nI vn)), (0, .ref h0)]) hx hb gX12_one_10.2.2.2.2.1 hl (by decide) rfl (fun ls hl => ?_)
                            refine lv_aload_n hx hb gX12_one_10.2.2.2.2.2.1 rfl (lv_at4 hl) ?_
                            refine lv_sipush (v := 3000) hx hb gX12_one_10.2.2.2.2.2.2.1 (by decide) ?_
                            refine lv_iload_n hx hb gX12_one_10.2.2.2.2.2.2.2.1 rfl (lv_at2 hl) ?_
                            refine lv_imul hx hb gX12_one_10.2.2.2.2.2.2.2.2.1 ?_
                            refine eqi (x1 := nI (3000 * (FAV bt ktp vks))) (nI_mul 3000 (FAV bt ktp vks)) ?_
                            refine lv_sipush (v := 1000) hx hb gX12_one_10.2.2.2.2.2.2.2.2.2 (by decide) ?_
                            refine lv_iload_n hx hb gX12_one_11.1 rfl (lv_at1 hl) ?_
                            refine lv_imul hx hb gX12_one_11.2.1 ?_
                            refine eqi (x1 := 1000) (by decide) ?_
                            refine lv_iadd hx hb gX12_one_11.2.2.1 ?_
                            refine eqi (x1 := nI (3000 * (FAV bt ktp vks) + 1000)) (nI_add (3000 * (FAV bt ktp vks)) 1000) ?_
                            refine lv_iload hx hb gX12_one_11.2.2.2.1 (lv_at0 hl) ?_
                            refine lv_iadd hx hb gX12_one_11.2.2.2.2.1 ?_
                            refine vV (wr := [(nc, iA G 100 fnc), (nF, sA G 5 (FCT K)), (nt, iA G 240 fnt)]) hC hK hl hP hD hS hA (m_codesF l G h0 ((nI (3000 * (FAV bt ktp vks) + 1000)) + r9213) nw nk mhasKept nt (nI ktp) nr mrowMany mroundOf mroundFrom mouts nm mfromHour mtoHour ns (nI (NXT bt ktp (NXT bt ktp vks))) (nI (TKE bt ktp (NXT bt ktp (NXT bt ktp vks)))) (nI (TKN bt ktp (NXT bt ktp (NXT bt ktp vks)))) (nI jd) (nI kc) mlines nl nc nF np ntr nb mbestCost nso nsi nit nsh nsf nss nrc mtraced mdealer mnumber mwhose msize misParted) si_X12_252 [2] [0, 1, 3] sm_2 fm_2 nd_2 sm_0_1_3 nd_0_1_3 dj_2__0_1_3 rfl rfl rfl rfl rfl (Nat.le_of_ble_eq_true rfl) (rmT (Nat.le_of_ble_eq_true rfl) (Nat.le_of_ble_eq_true rfl)) ⟨Nat.le_of_ble_eq_true rfl, Nat.le_of_ble_eq_true rfl⟩ gX12_one_11.2.2.2.2.2.1 (fun u9228 H locs hr9227 hP hD hS => ?_)
                            refine Kpdr (ws := [(nc, iA G 100 fnc), (nF, sA G 5 (FCT K)), (nt, iA G 240 fnt), (h0, oX12 nw nk mhasKept nt (nI ktp) nr mrowMany mroundOf mroundFrom mouts nm mfromHour mtoHour ns (nI (NXT bt ktp (NXT bt ktp vks))) (nI (TKE bt ktp (NXT bt ktp (NXT bt ktp vks)))) (nI (TKN bt ktp (NXT bt ktp (NXT bt ktp vks)))) 1 (nI jd) (nI kc) mlines nl nc nF np ntr nb mbestCost nso nsi nit nsh nsf nss nrc mtraced mdealer mnumber mwhose msize misParted)]) hP hD (fun hP hD => ?_)
                            refine lv_iconst (v := 0) hx hb gX12_one_11.2.2.2.2.2.2.1 (by decide) ?_
                            refine lv_istore_n (lv' := [(2, .int 0), (4, .int r9213), (3, .int 1), (1, .int (nI vn)), (0, .ref h0)]) hx hb gX12_one_11.2.2.2.2.2.2.2.1 rfl hl (by decide) rfl (fun ls hl => ?_)
                            have keyN : ∀ (nN kN : Nat) (H : Heap) (locs : List Loc) (ls : Array Slot), kN + nN = vn → va_PD G A [(nc, iA G 100 fnc), (nF, sA G 5 (FCT K)), (nt, iA G 240 fnt), (h0, oX12 nw nk mhasKept nt (nI ktp) nr mrowMany mroundOf mroundFrom mouts nm mfromHour mtoHour ns (nI (NXT bt ktp (NXT bt ktp vks))) (nI (TKE bt ktp (NXT bt ktp (NXT bt ktp vks)))) (nI (TKN bt ktp (NXT bt ktp (NXT bt ktp vks)))) 1 (nI jd) (nI kc) mlines nl nc nF np ntr nb mbestCost nso nsi nit nsh nsf nss nrc mtraced mdealer mnumber mwhose msize misParted)] H → va_S A s.heap H locs → lv_has ls 5 [(2, .int (nI kN)), (4, .int r9213), (3, .int 1), (1, .int (nI vn)), (0, .ref h0)] → W p l e (RM (10 + 4 * mn) 0 0) s m ([.ref h0] : List Value).toArray below meth c H locs 0 0 Q0 (F0 m 225 ls []) := by
                              intro nN
                              induction nN with
                              | zero =>
                                intro kN H locs ls hkN hPD hS hl
                                refine Kan2 hPD (fun hP hD => ?_)
                                obtain rfl : vn = kN := by omega
                                have hl : lv_has ls 5 [(2, .int (nI vn)), (4, .int r9213), (3, .int 1), (1, .int (nI vn)), (0, .ref h0)] := hl
                                refine lv_iload_n hx hb gX12_one_11.2.2.2.2.2.2.2.2.1 rfl (lv_at0 hl) ?_
                                refine lv_iload_n hx hb gX12_one_11.2.2.2.2.2.2.2.2.2 rfl (lv_at3 hl) ?_
                                refine lv_icmp_ge (tgt := 243) hx hb gX12_one_12.1 (by decide) (fun _ => ?_) (fun c9 => absurd (Int32.le_refl _) c9)
                                refine toQ hQ0 ?_
                                exact RV hC hP hD hS [3, 2, 0, 1] (1, (NXT bt ktp (NXT bt ktp vks)), kc, fnc, [], []) rfl rfl (by decide) (Or.inr ⟨rfl, hco _ (RT.cmpF hq9083 hq9141 (CMP.f3 hfs hsg (NML.no hq9226 (by omega)))), by (try dsimp only); omega⟩) gX12_one_12.2.2.2.2.2.2
                              | succ nN ihN =>
                                intro kN H locs ls hkN hPD hS hl
                                refine Kan2 hPD (fun hP hD => ?_)
                                refine lv_iload_n hx hb gX12_one_11.2.2.2.2.2.2.2.2.1 rfl (lv_at0 hl) ?_
                                refine lv_iload_n hx hb gX12_one_11.2.2.2.2.2.2.2.2.2 rfl (lv_at3 hl) ?_
                                refine lv_icmp_ge (tgt := 243) hx hb gX12_one_12.1 (by decide) (fun c9 => absurd c9 (nI_ge (a := kN) (b := vn) (by omega) (by omega))) (fun _ => ?_)
                                refine lv_aload_n hx hb gX12_one_12.2.1 rfl (lv_at4 hl) ?_
                                refine lv_sipush (v := 30000) hx hb gX12_one_12.2.2.1 (by decide) ?_
                                refine vV (wr := [(nc, iA G 100 fnc), (nF, sA G 5 (FCT K)), (nt, iA G 240 fnt)]) hC hK hl hP hD hS hA (m_codesF l G h0 30000 nw nk mhasKept nt (nI ktp) nr mrowMany mroundOf mroundFrom mouts nm mfromHour mtoHour ns (nI (NXT bt ktp (NXT bt ktp vks))) (nI (TKE bt ktp (NXT bt ktp (NXT bt ktp vks)))) (nI (TKN bt ktp (NXT bt ktp (NXT bt ktp vks)))) (nI jd) (nI kc) mlines nl nc nF np ntr nb mbestCost nso nsi nit nsh nsf nss nrc mtraced mdealer mnumber mwhose msize misParted) si_X12_252 [3] [0, 1, 2] sm_3 fm_3 nd_3 sm_0_1_2 nd_0_1_2 dj_3__0_1_2 rfl rfl rfl rfl rfl (Nat.le_of_ble_eq_true rfl) (rmT (Nat.le_of_ble_eq_true rfl) (Nat.le_of_ble_eq_true rfl)) ⟨Nat.le_of_ble_eq_true rfl, Nat.le_of_ble_eq_true rfl⟩ gX12_one_12.2.2.2.1 (fun u9230 H locs hr9229 hP hD hS => ?_)
                                refine Kpdr (ws := [(nc, iA G 100 fnc), (nF, sA G 5 (FCT K)), (nt, iA G 240 fnt), (h0, oX12 nw nk mhasKept nt (nI ktp) nr mrowMany mroundOf mroundFrom mouts nm mfromHour mtoHour ns (nI (NXT bt ktp (NXT bt ktp vks))) (nI (TKE bt ktp (NXT bt ktp (NXT bt ktp vks)))) (nI (TKN bt ktp (NXT bt ktp (NXT bt ktp vks)))) 1 (nI jd) (nI kc) mlines nl nc nF np ntr nb mbestCost nso nsi nit nsh nsf nss nrc mtraced mdealer mnumber mwhose msize misParted)]) hP hD (fun hP hD => ?_)
                                refine lv_iinc (v := nI (kN + 1)) (lv' := [(2, .int (nI (kN + 1))), (4, .int r9213), (3, .int 1), (1, .int (nI vn)), (0, .ref h0)]) hx hb gX12_one_12.2.2.2.2.1 hl (k := 0) rfl (nI_1 _) (by decide) rfl (fun ls hl => ?_)
                                refine lv_goto (tgt := 225) hx hb gX12_one_12.2.2.2.2.2.1 (by decide) ?_
                                exact ihN (kN + 1) _ _ _ (by omega) (And.intro hP hD) hS (lv_sub hl [0, 1, 2, 3, 4] rfl)
                            exact keyN vn 0 _ _ _ (by omega) (And.intro hP hD) hS (lv_sub hl [0, 1, 2, 3, 4] rfl)
                        · exact absurd hq9201 a9207
                    · have hq9231 := a9200
                      refine lv_if_eq (tgt := 158) hx hb gX12_one_7.2.2.2.2.2.2.2.2.2 (by decide) (fun _ => ?_) (fun c9 => absurd (by decide) c9)
                      refine lv_iconst (v := 2) hx hb gX12_one_8.2.2.1 (by decide) ?_
                      refine lv_istore_n (lv' := [(3, .int 2), (2, .int (nI (FAV bt ktp vks))), (1, .int (nI vn)), (0, .ref h0)]) hx hb gX12_one_8.2.2.2.1 rfl hl (by decide) rfl (fun ls hl => ?_)
                      refine lv_aload_n hx hb gX12_one_8.2.2.2.2.1 rfl (lv_at3 hl) ?_
                      refine lv_aload_n hx hb gX12_one_8.2.2.2.2.2.1 rfl (lv_at3 hl) ?_
                      refine lv_bipush (v := 60) hx hb gX12_one_8.2.2.2.2.2.2.1 (by decide) ?_
                      refine pV hC hK hl hP hD (m_isSignX l G h0 60 nw nk mhasKept nt ktp nr mrowMany mroundOf mroundFrom mouts nm mfromHour mtoHour ns (NXT bt ktp vks) (nI jd) (nI kc) mlines nl nc nF np ntr nb mbestCost nso nsi nit nsh nsf nss nrc mtraced mdealer mnumber mwhose msize misParted fnt bt (htp) (by omega) (hFB)) si_X12_262 [2, 3] sm_2_3 fm_2_3 nd_2_3 rfl rfl rfl rfl rfl (Nat.le_of_ble_eq_true rfl) (rmT (Nat.le_of_ble_eq_true rfl) (Nat.le_of_ble_eq_true rfl)) ⟨by first | exact Nat.le_of_ble_eq_true rfl | exact Nat.zero_le _, by first | exact Nat.le_of_ble_eq_true rfl | exact Nat.zero_le _⟩ gX12_one_8.2.2.2.2.2.2.2.1 (Kors (Keqa fun a9233 => ?_) (Keqa fun a9233 => ?_))
                      · exact absurd a9233 hq9198
                      · have hq9234 := a9233
                        refine lv_if_ne (tgt := 188) hx hb gX12_one_8.2.2.2.2.2.2.2.2.1 (by decide) (fun c9 => absurd (by decide) c9) (fun _ => ?_)
                        refine lv_aload_n hx hb gX12_one_8.2.2.2.2.2.2.2.2.2 rfl (lv_at3 hl) ?_
                        refine lv_bipush (v := 61) hx hb gX12_one_9.1 (by decide) ?_
                        refine pV hC hK hl hP hD (m_isSignX l G h0 61 nw nk mhasKept nt ktp nr mrowMany mroundOf mroundFrom mouts nm mfromHour mtoHour ns (NXT bt ktp vks) (nI jd) (nI kc) mlines nl nc nF np ntr nb mbestCost nso nsi nit nsh nsf nss nrc mtraced mdealer mnumber mwhose msize misParted fnt bt (htp) (by omega) (hFB)) si_X12_262 [2, 3] sm_2_3 fm_2_3 nd_2_3 rfl rfl rfl rfl rfl (Nat.le_of_ble_eq_true rfl) (rmT (Nat.le_of_ble_eq_true rfl) (Nat.le_of_ble_eq_true rfl)) ⟨by first | exact Nat.le_of_ble_eq_true rfl | exact Nat.zero_le _, by first | exact Nat.le_of_ble_eq_true rfl | exact Nat.zero_le _⟩ gX12_one_9.2.1 (Kors (Keqa fun a9236 => ?_) (Keqa fun a9236 => ?_))
                        · exact absurd a9236 hq9231
                        · have hq9237 := a9236
                          refine lv_if_ne (tgt := 188) hx hb gX12_one_9.2.2.1 (by decide) (fun c9 => absurd (by decide) c9) (fun _ => ?_)
                          refine lv_aload_n hx hb gX12_one_9.2.2.2.1 rfl (lv_at3 hl) ?_
                          refine lv_bipush (v := 62) hx hb gX12_one_9.2.2.2.2.1 (by decide) ?_
                          refine pV hC hK hl hP hD (m_isSignX l G h0 62 nw nk mhasKept nt ktp nr mrowMany mroundOf mroundFrom mouts nm mfromHour mtoHour ns (NXT bt ktp vks) (nI jd) (nI kc) mlines nl nc nF np ntr nb mbestCost nso nsi nit nsh nsf nss nrc mtraced mdealer mnumber mwhose msize misParted fnt bt (htp) (by omega) (hFB)) si_X12_262 [2, 3] sm_2_3 fm_2_3 nd_2_3 rfl rfl rfl rfl rfl (Nat.le_of_ble_eq_true rfl) (rmT (Nat.le_of_ble_eq_true rfl) (Nat.le_of_ble_eq_true rfl)) ⟨by first | exact Nat.le_of_ble_eq_true rfl | exact Nat.zero_le _, by first | exact Nat.le_of_ble_eq_true rfl | exact Nat.zero_le _⟩ gX12_one_9.2.2.2.2.2.1 (Kors (Keqa fun a9239 => ?_) (Keqa fun a9239 => ?_))
                          · have hq9240 := a9239
                            have xl9241 := SGN.len hq9240 (by omega)
                            refine lv_if_eq (tgt := 192) hx hb gX12_one_9.2.2.2.2.2.2.1 (by decide) (fun c9 => absurd c9 (by decide)) (fun _ => ?_)
                            refine lv_iconst (v := 1) hx hb gX12_one_9.2.2.2.2.2.2.2.1 (by decide) ?_
                            refine lv_goto (tgt := 193) hx hb gX12_one_9.2.2.2.2.2.2.2.2.1 (by decide) ?_
                            have hsg : SIG bt ktp (NXT bt ktp vks) = some 2 := SIG.e2 hq9234 hq9237 hq9240
                            refine vV (wr := [(nc, iA G 100 fnc), (nF, sA G 5 (FCT K))]) hC hK hl hP hD hS hA (m_need1X l G h0 nw nk mhasKept nt ktp nr mrowMany mroundOf mroundFrom mouts nm mfromHour mtoHour ns (NXT bt ktp vks) (nI jd) (nI kc) mlines nl nc nF np ntr nb mbestCost nso nsi nit nsh nsf nss nrc mtraced mdealer mnumber mwhose msize misParted fnt bt (htp) (by omega) (hFB)) si_X12_236 [2, 3] [0, 1] sm_2_3 fm_2_3 nd_2_3 sm_0_1 nd_0_1 dj_2_3__0_1 rfl rfl rfl rfl rfl (Nat.le_of_ble_eq_true rfl) (rmT (Nat.le_of_ble_eq_true rfl) (Nat.le_of_ble_eq_true rfl)) ⟨Nat.le_of_ble_eq_true rfl, Nat.le_of_ble_eq_true rfl⟩ gX12_one_10.1 (fun u9243 H locs hr9242 hP hD hS => ?_)
                            refine Kpdr (ws := [(nc, iA G 100 fnc), (nF, sA G 5 (FCT K)), (h0, oX12 nw nk mhasKept nt (nI ktp) nr mrowMany mroundOf mroundFrom mouts nm mfromHour mtoHour ns (nI (NXT bt ktp (NXT bt ktp vks))) (nI (TKE bt ktp (NXT bt ktp (NXT bt ktp vks)))) (nI (TKN bt ktp (NXT bt ktp (NXT bt ktp vks)))) 0 (nI jd) (nI kc) mlines nl nc nF np ntr nb mbestCost nso nsi nit nsh nsf nss nrc mtraced mdealer mnumber mwhose msize misParted), (nt, iA G 240 fnt)]) hP hD (fun hP hD => ?_)
                            have xn9244 := NXT.ge (bt := bt) (n := ktp) (s := (NXT bt ktp vks)) (by omega)
                            refine lv_aload_n hx hb gX12_one_10.2.1 rfl (lv_at3 hl) ?_
                            refine lv_sipush (v := 999) hx hb gX12_one_10.2.2.1 (by decide) ?_
                            refine iV (wr := [(nc, iA G 100 fnc), (nF, sA G 5 (FCT K))]) hC hK hl hP hD hS hA (m_numberX l G h0 999 nw nk mhasKept nt ktp nr mrowMany mroundOf mroundFrom mouts nm mfromHour mtoHour ns (NXT bt ktp (NXT bt ktp vks)) (nI jd) (nI kc) mlines nl nc nF np ntr nb mbestCost nso nsi nit nsh nsf nss nrc mtraced mdealer mnumber mwhose msize misParted fnt bt (htp) (by omega) (hFB) (by omega)) si_X12_271 [2, 3] [0, 1] sm_2_3 fm_2_3 nd_2_3 sm_0_1 nd_0_1 dj_2_3__0_1 rfl rfl rfl rfl rfl (Nat.le_of_ble_eq_true rfl) (rmT (Nat.le_of_ble_eq_true rfl) (Nat.le_of_ble_eq_true rfl)) ⟨Nat.le_of_ble_eq_true rfl, Nat.le_of_ble_eq_true rfl⟩ gX12_one_10.2.2.2.1 (fun r9245 => Ktu2 fun ff19247 ks19248 => ?_)
                            intro H locs hr9245 hP hD hS
                            try dsimp only at hr9245
                            refine Kpdr (ws := [(nc, iA G 100 fnc), (nF, sA G 5 (FCT K)), (h0, oX12 nw nk mhasKept nt (nI ktp) nr mrowMany mroundOf mroundFrom mouts nm mfromHour mtoHour ns (nI ks19248) (nI (TKE bt ktp ks19248)) (nI (TKN bt ktp ks19248)) ff19247 (nI jd) (nI kc) mlines nl nc nF np ntr nb mbestCost nso nsi nit nsh nsf nss nrc mtraced mdealer mnumber mwhose msize misParted), (nt, iA G 240 fnt)]) hP hD (fun hP hD => ?_)
                            obtain ⟨hr9245, w9249⟩ := hr9245
                            rcases w9249 with v9250 | v9251
                            · obtain ⟨rfl, rfl, rfl, hq9252⟩ := v9250
                              have xl9253 := NML.len hq9252 (by omega)
                              refine lv_istore (lv' := [(4, .int (nI (NVL bt ktp (NXT bt ktp (NXT bt ktp vks))))), (3, .int 2), (2, .int (nI (FAV bt ktp vks))), (1, .int (nI vn)), (0, .ref h0)]) hx hb gX12_one_10.2.2.2.2.1 hl (by decide) rfl (fun ls hl => ?_)
                              refine lv_aload_n hx hb gX12_one_10.2.2.2.2.2.1 rfl (lv_at4 hl) ?_
                              refine lv_sipush (v := 3000) hx hb gX12_one_10.2.2.2.2.2.2.1 (by decide) ?_
                              refine lv_iload_n hx hb gX12_one_10.2.2.2.2.2.2.2.1 rfl (lv_at2 hl) ?_
                              refine lv_imul hx hb gX12_one_10.2.2.2.2.2.2.2.2.1 ?_
                              refine eqi (x1 := nI (3000 * (FAV bt ktp vks))) (nI_mul 3000 (FAV bt ktp vks)) ?_
                              refine lv_sipush (v := 1000) hx hb gX12_one_10.2.2.2.2.2.2.2.2.2 (by decide) ?_
                              refine lv_iload_n hx hb gX12_one_11.1 rfl (lv_at1 hl) ?_
                              refine lv_imul hx hb gX12_one_11.2.1 ?_
                              refine eqi (x1 := 2000) (by decide) ?_
                              refine lv_iadd hx hb gX12_one_11.2.2.1 ?_
                              refine eqi (x1 := nI (3000 * (FAV bt ktp vks) + 2000)) (nI_add (3000 * (FAV bt ktp vks)) 2000) ?_
                              refine lv_iload hx hb gX12_one_11.2.2.2.1 (lv_at0 hl) ?_
                              refine lv_iadd hx hb gX12_one_11.2.2.2.2.1 ?_
                              refine eqi (x1 := nI (3000 * (FAV bt ktp vks) + 2000 + (NVL bt ktp (NXT bt ktp (NXT bt ktp vks))))) (nI_add (3000 * (FAV bt ktp vks) + 2000) (NVL bt ktp (NXT bt ktp (NXT bt ktp vks)))) ?_
                              have hy9 := CMP.y hfs hsg (NML.of hq9252).1
                              have hcv : (CMP bt ktp vks).2.2 = (FAV bt ktp vks * 3 + 2) * 1000 + NVL bt ktp (NXT bt ktp (NXT bt ktp vks)) := congrArg (fun z9 => z9.2.2) hy9
                              have hcm : CMP bt ktp vks = (1, (NXT bt ktp (NXT bt ktp (NXT bt ktp vks))), (CMP bt ktp vks).2.2) := hy9.trans (congrArg (fun z9 => ((1 : Nat), (NXT bt ktp (NXT bt ktp (NXT bt ktp vks))), z9)) hcv.symm)
                              refine eqi (x1 := nI (CMP bt ktp vks).2.2) (congrArg nI (by rw [hcv]; omega)) ?_
                              refine vV (wr := [(nF, sA G 5 (FCT K)), (nt, iA G 240 fnt)]) hC hK hl hP hD hS hA (m_codes0 l G h0 (nI (CMP bt ktp vks).2.2) nw nk mhasKept nt (nI ktp) nr mrowMany mroundOf mroundFrom mouts nm mfromHour mtoHour ns (nI (NXT bt ktp (NXT bt ktp (NXT bt ktp vks)))) (nI (TKE bt ktp (NXT bt ktp (NXT bt ktp (NXT bt ktp vks))))) (nI (TKN bt ktp (NXT bt ktp (NXT bt ktp (NXT bt ktp vks))))) (nI jd) kc mlines nl nc nF np ntr nb mbestCost nso nsi nit nsh nsf nss nrc mtraced mdealer mnumber mwhose msize misParted fnc (by omega)) si_X12_252 [2, 0] [1, 3] sm_2_0 fm_2_0 nd_2_0 sm_1_3 nd_1_3 dj_2_0__1_3 rfl rfl rfl rfl rfl (Nat.le_of_ble_eq_true rfl) (rmT (Nat.le_of_ble_eq_true rfl) (Nat.le_of_ble_eq_true rfl)) ⟨Nat.le_of_ble_eq_true rfl, Nat.le_of_ble_eq_true rfl⟩ gX12_one_11.2.2.2.2.2.1 (fun u9255 H locs hr9254 hP hD hS => ?_)
                              refine Kpdr (ws := [(nF, sA G 5 (FCT K)), (nt, iA G 240 fnt), (h0, oX12 nw nk mhasKept nt (nI ktp) nr mrowMany mroundOf mroundFrom mouts nm mfromHour mtoHour ns (nI (NXT bt ktp (NXT bt ktp (NXT bt ktp vks)))) (nI (TKE bt ktp (NXT bt ktp (NXT bt ktp (NXT bt ktp vks))))) (nI (TKN bt ktp (NXT bt ktp (NXT bt ktp (NXT bt ktp vks))))) 0 (nI jd) (nI (kc + 1)) mlines nl nc nF np ntr nb mbestCost nso nsi nit nsh nsf nss nrc mtraced mdealer mnumber mwhose msize misParted), (nc, iA G 100 (upd fnc kc (nI (CMP bt ktp vks).2.2)))]) hP hD (fun hP hD => ?_)
                              refine lv_iconst (v := 0) hx hb gX12_one_11.2.2.2.2.2.2.1 (by decide) ?_
                              refine lv_istore_n (lv' := [(2, .int 0), (4, .int (nI (NVL bt ktp (NXT bt ktp (NXT bt ktp vks))))), (3, .int 2), (1, .int (nI vn)), (0, .ref h0)]) hx hb gX12_one_11.2.2.2.2.2.2.2.1 rfl hl (by decide) rfl (fun ls hl => ?_)
                              have keyN : ∀ (nN kN : Nat) (vC : Nat → Int32) (H : Heap) (locs : List Loc) (ls : Array Slot), kN + nN = vn → (STP ((kc + 1) + kN) vC ((rs ++ [nI (CMP bt ktp vks).2.2]) ++ List.replicate kN 30000)) → va_PD G A [(nF, sA G 5 (FCT K)), (nt, iA G 240 fnt), (h0, oX12 nw nk mhasKept nt (nI ktp) nr mrowMany mroundOf mroundFrom mouts nm mfromHour mtoHour ns (nI (NXT bt ktp (NXT bt ktp (NXT bt ktp vks)))) (nI (TKE bt ktp (NXT bt ktp (NXT bt ktp (NXT bt ktp vks))))) (nI (TKN bt ktp (NXT bt ktp (NXT bt ktp (NXT bt ktp vks))))) 0 (nI jd) (nI ((kc + 1) + kN)) mlines nl nc nF np ntr nb mbestCost nso nsi nit nsh nsf nss nrc mtraced mdealer mnumber mwhose msize misParted), (nc, iA G 100 vC)] H → va_S A s.heap H locs → lv_has ls 5 [(2, .int (nI kN)), (4, .int (nI (NVL bt ktp (NXT bt ktp (NXT bt ktp vks))))), (3, .int 2), (1, .int (nI vn)), (0, .ref h0)] → W p l e (RM (10 + 4 * mn) 0 0) s m ([.ref h0] : List Value).toArray below meth c H locs 0 0 Q0 (F0 m 225 ls []) := by
                                intro nN
                                induction nN with
                                | zero =>
                                  intro kN vC H locs ls hkN hEx hPD hS hl
                                  refine Kan2 hPD (fun hP hD => ?_)
                                  obtain rfl : vn = kN := by omega
                                  refine Kpdr (ws := [(nF, sA G 5 (FCT K)), (nt, iA G 240 fnt), (h0, oX12 nw nk mhasKept nt (nI ktp) nr mrowMany mroundOf mroundFrom mouts nm mfromHour mtoHour ns (nI (NXT bt ktp (NXT bt ktp (NXT bt ktp vks)))) (nI (TKE bt ktp (NXT bt ktp (NXT bt ktp (NXT bt ktp vks))))) (nI (TKN bt ktp (NXT bt ktp (NXT bt ktp (NXT bt ktp vks))))) 0 (nI jd) (nI ((kc + 1) + vn)) mlines nl nc nF np ntr nb mbestCost nso nsi nit nsh nsf nss nrc mtraced mdealer mnumber mwhose msize misParted), (nc, iA G 100 vC)]) hP hD (fun hP hD => ?_)
                                  have hl : lv_has ls 5 [(2, .int (nI vn)), (4, .int (nI (NVL bt ktp (NXT bt ktp (NXT bt ktp vks))))), (3, .int 2), (1, .int (nI vn)), (0, .ref h0)] := hl
                                  refine lv_iload_n hx hb gX12_one_11.2.2.2.2.2.2.2.2.1 rfl (lv_at0 hl) ?_
                                  refine lv_iload_n hx hb gX12_one_11.2.2.2.2.2.2.2.2.2 rfl (lv_at3 hl) ?_
                                  refine lv_icmp_ge (tgt := 243) hx hb gX12_one_12.1 (by decide) (fun _ => ?_) (fun c9 => absurd (Int32.le_refl _) c9)
                                  refine toQ hQ0 ?_
                                  exact RV hC hP hD hS [2, 1, 3, 0] (0, (NXT bt ktp (NXT bt ktp (NXT bt ktp vks))), ((kc + 1) + vn), vC, (cs ++ nI (CMP bt ktp vks).2.2 :: NOC vn), (rs ++ nI (CMP bt ktp vks).2.2 :: NTR vn)) rfl rfl (by decide) (Or.inl ⟨rfl, hco _ (RT.cmpO hq9083 hq9141 hcm), STP.cn hEx⟩) gX12_one_12.2.2.2.2.2.2
                                | succ nN ihN =>
                                  intro kN vC H locs ls hkN hEx hPD hS hl
                                  refine Kan2 hPD (fun hP hD => ?_)
                                  refine lv_iload_n hx hb gX12_one_11.2.2.2.2.2.2.2.2.1 rfl (lv_at0 hl) ?_
                                  refine lv_iload_n hx hb gX12_one_11.2.2.2.2.2.2.2.2.2 rfl (lv_at3 hl) ?_
                                  refine lv_icmp_ge (tgt := 243) hx hb gX12_one_12.1 (by decide) (fun c9 => absurd c9 (nI_ge (a := kN) (b := vn) (by omega) (by omega))) (fun _ => ?_)
                                  refine lv_aload_n hx hb gX12_one_12.2.1 rfl (lv_at4 hl) ?_
                                  refine lv_sipush (v := 30000) hx hb gX12_one_12.2.2.1 (by decide) ?_
                                  refine vV (wr := [(nF, sA G 5 (FCT K)), (nt, iA G 240 fnt)]) hC hK hl hP hD hS hA (m_codes0 l G h0 30000 nw nk mhasKept nt (nI ktp) nr mrowMany mroundOf mroundFrom mouts nm mfromHour mtoHour ns (nI (NXT bt ktp (NXT bt ktp (NXT bt ktp vks)))) (nI (TKE bt ktp (NXT bt ktp (NXT bt ktp (NXT bt ktp vks))))) (nI (TKN bt ktp (NXT bt ktp (NXT bt ktp (NXT bt ktp vks))))) (nI jd) ((kc + 1) + kN) mlines nl nc nF np ntr nb mbestCost nso nsi nit nsh nsf nss nrc mtraced mdealer mnumber mwhose msize misParted vC (by omega)) si_X12_252 [2, 3] [0, 1] sm_2_3 fm_2_3 nd_2_3 sm_0_1 nd_0_1 dj_2_3__0_1 rfl rfl rfl rfl rfl (Nat.le_of_ble_eq_true rfl) (rmT (Nat.le_of_ble_eq_true rfl) (Nat.le_of_ble_eq_true rfl)) ⟨Nat.le_of_ble_eq_true rfl, Nat.le_of_ble_eq_true rfl⟩ gX12_one_12.2.2.2.1 (fun u9257 H locs hr9256 hP hD hS => ?_)
                                  refine Kpdr (ws := [(nF, sA G 5 (FCT K)), (nt, iA G 240 fnt), (h0, oX12 nw nk mhasKept nt (nI ktp) nr mrowMany mroundOf mroundFrom mouts nm mfromHour mtoHour ns (nI (NXT bt ktp (NXT bt ktp (NXT bt ktp vks)))) (nI (TKE bt ktp (NXT bt ktp (NXT bt ktp (NXT bt ktp vks))))) (nI (TKN bt ktp (NXT bt ktp (NXT bt ktp (NXT bt ktp vks))))) 0 (nI jd) (nI (((kc + 1) + kN) + 1)) mlines nl nc nF np ntr nb mbestCost nso nsi nit nsh nsf nss nrc mtraced mdealer mnumber mwhose msize misParted), (nc, iA G 100 (upd vC ((kc + 1) + kN) 30000))]) hP hD (fun hP hD => ?_)
                                  refine lv_iinc (v := nI (kN + 1)) (lv' := [(2, .int (nI (kN + 1))), (4, .int (nI (NVL bt ktp (NXT bt ktp (NXT bt ktp vks))))), (3, .int 2), (1, .int (nI vn)), (0, .ref h0)]) hx hb gX12_one_12.2.2.2.2.1 hl (k := 0) rfl (nI_1 _) (by decide) rfl (fun ls hl => ?_)
                                  refine lv_goto (tgt := 225) hx hb gX12_one_12.2.2.2.2.2.1 (by decide) ?_
                                  exact ihN (kN + 1) (upd vC ((kc + 1) + kN) 30000) _ _ _ (by omega) (by first | assumption | exact Or.inl rfl | exact Or.inr rfl | exact STP.r0 (STP.push hST) | exact STP.rep hEx) (And.intro hP hD) hS (lv_sub hl [0, 1, 2, 3, 4] rfl)
                              exact keyN vn 0 (upd fnc kc (nI (CMP bt ktp vks).2.2)) _ _ _ (by omega) (by first | assumption | exact Or.inl rfl | exact Or.inr rfl | exact STP.r0 (STP.push hST) | exact STP.rep hEx) (And.intro hP hD) hS (lv_sub hl [0, 1, 2, 3, 4] rfl)
                            · obtain ⟨rfl, rfl, hq9258⟩ := v9251
                              refine lv_istore (lv' := [(4, .int r9245), (3, .int 2), (2, .int (nI (FAV bt ktp vks))), (1, .int (nI vn)), (0, .ref h0)]) hx hb gX12_one_10.2.2.2.2.1 hl (by decide) rfl (fun ls hl => ?_)
                              refine lv_aload_n hx hb gX12_one_10.2.2.2.2.2.1 rfl (lv_at4 hl) ?_
                              refine lv_sipush (v := 3000) hx hb gX12_one_10.2.2.2.2.2.2.1 (by decide) ?_
                              refine lv_iload_n hx hb gX12_one_10.2.2.2.2.2.2.2.1 rfl (lv_at2 hl) ?_
                              refine lv_imul hx hb gX12_one_10.2.2.2.2.2.2.2.2.1 ?_
                              refine eqi (x1 := nI (3000 * (FAV bt ktp vks))) (nI_mul 3000 (FAV bt ktp vks)) ?_
                              refine lv_sipush (v := 1000) hx hb gX12_one_10.2.2.2.2.2.2.2.2.2 (by decide) ?_
                              refine lv_iload_n hx hb gX12_one_11.1 rfl (lv_at1 hl) ?_
                              refine lv_imul hx hb gX12_one_11.2.1 ?_
                              refine eqi (x1 := 2000) (by decide) ?_
                              refine lv_iadd hx hb gX12_one_11.2.2.1 ?_
                              refine eqi (x1 := nI (3000 * (FAV bt ktp vks) + 2000)) (nI_add (3000 * (FAV bt ktp vks)) 2000) ?_
                              refine lv_iload hx hb gX12_one_11.2.2.2.1 (lv_at0 hl) ?_
                              refine lv_iadd hx hb gX12_one_11.2.2.2.2.1 ?_
                              refine vV (wr := [(nc, iA G 100 fnc), (nF, sA G 5 (FCT K)), (nt, iA G 240 fnt)]) hC hK hl hP hD hS hA (m_codesF l G h0 ((nI (3000 * (FAV bt ktp vks) + 2000)) + r9245) nw nk mhasKept nt (nI ktp) nr mrowMany mroundOf mroundFrom mouts nm mfromHour mtoHour ns (nI (NXT bt ktp (NXT bt ktp vks))) (nI (TKE bt ktp (NXT bt ktp (NXT bt ktp vks)))) (nI (TKN bt ktp (NXT bt ktp (NXT bt ktp vks)))) (nI jd) (nI kc) mlines nl nc nF np ntr nb mbestCost nso nsi nit nsh nsf nss nrc mtraced mdealer mnumber mwhose msize misParted) si_X12_252 [2] [0, 1, 3] sm_2 fm_2 nd_2 sm_0_1_3 nd_0_1_3 dj_2__0_1_3 rfl rfl rfl rfl rfl (Nat.le_of_ble_eq_true rfl) (rmT (Nat.le_of_ble_eq_true rfl) (Nat.le_of_ble_eq_true rfl)) ⟨Nat.le_of_ble_eq_true rfl, Nat.le_of_ble_eq_true rfl⟩ gX12_one_11.2.2.2.2.2.1 (fun u9260 H locs hr9259 hP hD hS => ?_)
                              refine Kpdr (ws := [(nc, iA G 100 fnc), (nF, sA G 5 (FCT K)), (nt, iA G 240 fnt), (h0, oX12 nw nk mhasKept nt (nI ktp) nr mrowMany mroundOf mroundFrom mouts nm mfromHour mtoHour ns (nI (NXT bt ktp (NXT bt ktp vks))) (nI (TKE bt ktp (NXT bt ktp (NXT bt ktp vks)))) (nI (TKN bt ktp (NXT bt ktp (NXT bt ktp vks)))) 1 (nI jd) (nI kc) mlines nl nc nF np ntr nb mbestCost nso nsi nit nsh nsf nss nrc mtraced mdealer mnumber mwhose msize misParted)]) hP hD (fun hP hD => ?_)
                              refine lv_iconst (v := 0) hx hb gX12_one_11.2.2.2.2.2.2.1 (by decide) ?_
                              refine lv_istore_n (lv' := [(2, .int 0), (4, .int r9245), (3, .int 2), (1, .int (nI vn)), (0, .ref h0)]) hx hb gX12_one_11.2.2.2.2.2.2.2.1 rfl hl (by decide) rfl (fun ls hl => ?_)
                              have keyN : ∀ (nN kN : Nat) (H : Heap) (locs : List Loc) (ls : Array Slot), kN + nN = vn → va_PD G A [(nc, iA G 100 fnc), (nF, sA G 5 (FCT K)), (nt, iA G 240 fnt), (h0, oX12 nw nk mhasKept nt (nI ktp) nr mrowMany mroundOf mroundFrom mouts nm mfromHour mtoHour ns (nI (NXT bt ktp (NXT bt ktp vks))) (nI (TKE bt ktp (NXT bt ktp (NXT bt ktp vks)))) (nI (TKN bt ktp (NXT bt ktp (NXT bt ktp vks)))) 1 (nI jd) (nI kc) mlines nl nc nF np ntr nb mbestCost nso nsi nit nsh nsf nss nrc mtraced mdealer mnumber mwhose msize misParted)] H → va_S A s.heap H locs → lv_has ls 5 [(2, .int (nI kN)), (4, .int r9245), (3, .int 2), (1, .int (nI vn)), (0, .ref h0)] → W p l e (RM (10 + 4 * mn) 0 0) s m ([.ref h0] : List Value).toArray below meth c H locs 0 0 Q0 (F0 m 225 ls []) := by
                                intro nN
                                induction nN with
                                | zero =>
                                  intro kN H locs ls hkN hPD hS hl
                                  refine Kan2 hPD (fun hP hD => ?_)
                                  obtain rfl : vn = kN := by omega
                                  have hl : lv_has ls 5 [(2, .int (nI vn)), (4, .int r9245), (3, .int 2), (1, .int (nI vn)), (0, .ref h0)] := hl
                                  refine lv_iload_n hx hb gX12_one_11.2.2.2.2.2.2.2.2.1 rfl (lv_at0 hl) ?_
                                  refine lv_iload_n hx hb gX12_one_11.2.2.2.2.2.2.2.2.2 rfl (lv_at3 hl) ?_
                                  refine lv_icmp_ge (tgt := 243) hx hb gX12_one_12.1 (by decide) (fun _ => ?_) (fun c9 => absurd (Int32.le_refl _) c9)
                                  refine toQ hQ0 ?_
                                  exact RV hC hP hD hS [3, 2, 0, 1] (1, (NXT bt ktp (NXT bt ktp vks)), kc, fnc, [], []) rfl rfl (by decide) (Or.inr ⟨rfl, hco _ (RT.cmpF hq9083 hq9141 (CMP.f3 hfs hsg (NML.no hq9258 (by omega)))), by (try dsimp only); omega⟩) gX12_one_12.2.2.2.2.2.2
                                | succ nN ihN =>
                                  intro kN H locs ls hkN hPD hS hl
                                  refine Kan2 hPD (fun hP hD => ?_)
                                  refine lv_iload_n hx hb gX12_one_11.2.2.2.2.2.2.2.2.1 rfl (lv_at0 hl) ?_
                                  refine lv_iload_n hx hb gX12_one_11.2.2.2.2.2.2.2.2.2 rfl (lv_at3 hl) ?_
                                  refine lv_icmp_ge (tgt := 243) hx hb gX12_one_12.1 (by decide) (fun c9 => absurd c9 (nI_ge (a := kN) (b := vn) (by omega) (by omega))) (fun _ => ?_)
                                  refine lv_aload_n hx hb gX12_one_12.2.1 rfl (lv_at4 hl) ?_
                                  refine lv_sipush (v := 30000) hx hb gX12_one_12.2.2.1 (by decide) ?_
                                  refine vV (wr := [(nc, iA G 100 fnc), (nF, sA G 5 (FCT K)), (nt, iA G 240 fnt)]) hC hK hl hP hD hS hA (m_codesF l G h0 30000 nw nk mhasKept nt (nI ktp) nr mrowMany mroundOf mroundFrom mouts nm mfromHour mtoHour ns (nI (NXT bt ktp (NXT bt ktp vks))) (nI (TKE bt ktp (NXT bt ktp (NXT bt ktp vks)))) (nI (TKN bt ktp (NXT bt ktp (NXT bt ktp vks)))) (nI jd) (nI kc) mlines nl nc nF np ntr nb mbestCost nso nsi nit nsh nsf nss nrc mtraced mdealer mnumber mwhose msize misParted) si_X12_252 [3] [0, 1, 2] sm_3 fm_3 nd_3 sm_0_1_2 nd_0_1_2 dj_3__0_1_2 rfl rfl rfl rfl rfl (Nat.le_of_ble_eq_true rfl) (rmT (Nat.le_of_ble_eq_true rfl) (Nat.le_of_ble_eq_true rfl)) ⟨Nat.le_of_ble_eq_true rfl, Nat.le_of_ble_eq_true rfl⟩ gX12_one_12.2.2.2.1 (fun u9262 H locs hr9261 hP hD hS => ?_)
                                  refine Kpdr (ws := [(nc, iA G 100 fnc), (nF, sA G 5 (FCT K)), (nt, iA G 240 fnt), (h0, oX12 nw nk mhasKept nt (nI ktp) nr mrowMany mroundOf mroundFrom mouts nm mfromHour mtoHour ns (nI (NXT bt ktp (NXT bt ktp vks))) (nI (TKE bt ktp (NXT bt ktp (NXT bt ktp vks)))) (nI (TKN bt ktp (NXT bt ktp (NXT bt ktp vks)))) 1 (nI jd) (nI kc) mlines nl nc nF np ntr nb mbestCost nso nsi nit nsh nsf nss nrc mtraced mdealer mnumber mwhose msize misParted)]) hP hD (fun hP hD => ?_)
                                  refine lv_iinc (v := nI (kN + 1)) (lv' := [(2, .int (nI (kN + 1))), (4, .int r9245), (3, .int 2), (1, .int (nI vn)), (0, .ref h0)]) hx hb gX12_one_12.2.2.2.2.1 hl (k := 0) rfl (nI_1 _) (by decide) rfl (fun ls hl => ?_)
                                  refine lv_goto (tgt := 225) hx hb gX12_one_12.2.2.2.2.2.1 (by decide) ?_
                                  exact ihN (kN + 1) _ _ _ (by omega) (And.intro hP hD) hS (lv_sub hl [0, 1, 2, 3, 4] rfl)
                              exact keyN vn 0 _ _ _ (by omega) (And.intro hP hD) hS (lv_sub hl [0, 1, 2, 3, 4] rfl)
                          · have hq9263 := a9239
                            refine lv_if_eq (tgt := 192) hx hb gX12_one_9.2.2.2.2.2.2.1 (by decide) (fun _ => ?_) (fun c9 => absurd (by decide) c9)
                            refine lv_iconst (v := 0) hx hb gX12_one_9.2.2.2.2.2.2.2.2.2 (by decide) ?_
                            have hsn : SIG bt ktp (NXT bt ktp vks) = none := SIG.n hq9234 hq9237 hq9263
                            refine vV (wr := [(nc, iA G 100 fnc), (nF, sA G 5 (FCT K)), (nt, iA G 240 fnt)]) hC hK hl hP hD hS hA (m_need0 l G h0 nw nk mhasKept nt (nI ktp) nr mrowMany mroundOf mroundFrom mouts nm mfromHour mtoHour ns (nI (NXT bt ktp vks)) (nI (TKE bt ktp (NXT bt ktp vks))) (nI (TKN bt ktp (NXT bt ktp vks))) (nI jd) (nI kc) mlines nl nc nF np ntr nb mbestCost nso nsi nit nsh nsf nss nrc mtraced mdealer mnumber mwhose msize misParted) si_X12_236 [2] [0, 1, 3] sm_2 fm_2 nd_2 sm_0_1_3 nd_0_1_3 dj_2__0_1_3 rfl rfl rfl rfl rfl (Nat.le_of_ble_eq_true rfl) (rmT (Nat.le_of_ble_eq_true rfl) (Nat.le_of_ble_eq_true rfl)) ⟨Nat.le_of_ble_eq_true rfl, Nat.le_of_ble_eq_true rfl⟩ gX12_one_10.1 (fun u9265 H locs hr9264 hP hD hS => ?_)
                            refine Kpdr (ws := [(nc, iA G 100 fnc), (nF, sA G 5 (FCT K)), (nt, iA G 240 fnt), (h0, oX12 nw nk mhasKept nt (nI ktp) nr mrowMany mroundOf mroundFrom mouts nm mfromHour mtoHour ns (nI (NXT bt ktp vks)) (nI (TKE bt ktp (NXT bt ktp vks))) (nI (TKN bt ktp (NXT bt ktp vks))) 1 (nI jd) (nI kc) mlines nl nc nF np ntr nb mbestCost nso nsi nit nsh nsf nss nrc mtraced mdealer mnumber mwhose msize misParted)]) hP hD (fun hP hD => ?_)
                            refine lv_aload_n hx hb gX12_one_10.2.1 rfl (lv_at3 hl) ?_
                            refine lv_sipush (v := 999) hx hb gX12_one_10.2.2.1 (by decide) ?_
                            refine iV (wr := [(nc, iA G 100 fnc), (nF, sA G 5 (FCT K)), (nt, iA G 240 fnt)]) hC hK hl hP hD hS hA (m_numberF l G h0 999 nw nk mhasKept nt (nI ktp) nr mrowMany mroundOf mroundFrom mouts nm mfromHour mtoHour ns (nI (NXT bt ktp vks)) (nI (TKE bt ktp (NXT bt ktp vks))) (nI (TKN bt ktp (NXT bt ktp vks))) (nI jd) (nI kc) mlines nl nc nF np ntr nb mbestCost nso nsi nit nsh nsf nss nrc mtraced mdealer mnumber mwhose msize misParted) si_X12_271 [3] [0, 1, 2] sm_3 fm_3 nd_3 sm_0_1_2 nd_0_1_2 dj_3__0_1_2 rfl rfl rfl rfl rfl (Nat.le_of_ble_eq_true rfl) (rmT (Nat.le_of_ble_eq_true rfl) (Nat.le_of_ble_eq_true rfl)) ⟨Nat.le_of_ble_eq_true rfl, Nat.le_of_ble_eq_true rfl⟩ gX12_one_10.2.2.2.1 (fun r9266 u9267 H locs hr9266 hP hD hS => ?_)
                            refine Kpdr (ws := [(nc, iA G 100 fnc), (nF, sA G 5 (FCT K)), (nt, iA G 240 fnt), (h0, oX12 nw nk mhasKept nt (nI ktp) nr mrowMany mroundOf mroundFrom mouts nm mfromHour mtoHour ns (nI (NXT bt ktp vks)) (nI (TKE bt ktp (NXT bt ktp vks))) (nI (TKN bt ktp (NXT bt ktp vks))) 1 (nI jd) (nI kc) mlines nl nc nF np ntr nb mbestCost nso nsi nit nsh nsf nss nrc mtraced mdealer mnumber mwhose msize misParted)]) hP hD (fun hP hD => ?_)
                            obtain rfl := hr9266
                            refine lv_istore (lv' := [(4, .int 0), (3, .int 2), (2, .int (nI (FAV bt ktp vks))), (1, .int (nI vn)), (0, .ref h0)]) hx hb gX12_one_10.2.2.2.2.1 hl (by decide) rfl (fun ls hl => ?_)
                            refine lv_aload_n hx hb gX12_one_10.2.2.2.2.2.1 rfl (lv_at4 hl) ?_
                            refine lv_sipush (v := 3000) hx hb gX12_one_10.2.2.2.2.2.2.1 (by decide) ?_
                            refine lv_iload_n hx hb gX12_one_10.2.2.2.2.2.2.2.1 rfl (lv_at2 hl) ?_
                            refine lv_imul hx hb gX12_one_10.2.2.2.2.2.2.2.2.1 ?_
                            refine eqi (x1 := nI (3000 * (FAV bt ktp vks))) (nI_mul 3000 (FAV bt ktp vks)) ?_
                            refine lv_sipush (v := 1000) hx hb gX12_one_10.2.2.2.2.2.2.2.2.2 (by decide) ?_
                            refine lv_iload_n hx hb gX12_one_11.1 rfl (lv_at1 hl) ?_
                            refine lv_imul hx hb gX12_one_11.2.1 ?_
                            refine eqi (x1 := 2000) (by decide) ?_
                            refine lv_iadd hx hb gX12_one_11.2.2.1 ?_
                            refine eqi (x1 := nI (3000 * (FAV bt ktp vks) + 2000)) (nI_add (3000 * (FAV bt ktp vks)) 2000) ?_
                            refine lv_iload hx hb gX12_one_11.2.2.2.1 (lv_at0 hl) ?_
                            refine lv_iadd hx hb gX12_one_11.2.2.2.2.1 ?_
                            refine eqi (x1 := nI (3000 * (FAV bt ktp vks) + 2000 + 0)) (nI_add (3000 * (FAV bt ktp vks) + 2000) 0) ?_
                            refine vV (wr := [(nc, iA G 100 fnc), (nF, sA G 5 (FCT K)), (nt, iA G 240 fnt)]) hC hK hl hP hD hS hA (m_codesF l G h0 (nI (3000 * (FAV bt ktp vks) + 2000 + 0)) nw nk mhasKept nt (nI ktp) nr mrowMany mroundOf mroundFrom mouts nm mfromHour mtoHour ns (nI (NXT bt ktp vks)) (nI (TKE bt ktp (NXT bt ktp vks))) (nI (TKN bt ktp (NXT bt ktp vks))) (nI jd) (nI kc) mlines nl nc nF np ntr nb mbestCost nso nsi nit nsh nsf nss nrc mtraced mdealer mnumber mwhose msize misParted) si_X12_252 [3] [0, 1, 2] sm_3 fm_3 nd_3 sm_0_1_2 nd_0_1_2 dj_3__0_1_2 rfl rfl rfl rfl rfl (Nat.le_of_ble_eq_true rfl) (rmT (Nat.le_of_ble_eq_true rfl) (Nat.le_of_ble_eq_true rfl)) ⟨Nat.le_of_ble_eq_true rfl, Nat.le_of_ble_eq_true rfl⟩ gX12_one_11.2.2.2.2.2.1 (fun u9270 H locs hr9269 hP hD hS => ?_)
                            refine Kpdr (ws := [(nc, iA G 100 fnc), (nF, sA G 5 (FCT K)), (nt, iA G 240 fnt), (h0, oX12 nw nk mhasKept nt (nI ktp) nr mrowMany mroundOf mroundFrom mouts nm mfromHour mtoHour ns (nI (NXT bt ktp vks)) (nI (TKE bt ktp (NXT bt ktp vks))) (nI (TKN bt ktp (NXT bt ktp vks))) 1 (nI jd) (nI kc) mlines nl nc nF np ntr nb mbestCost nso nsi nit nsh nsf nss nrc mtraced mdealer mnumber mwhose msize misParted)]) hP hD (fun hP hD => ?_)
                            refine lv_iconst (v := 0) hx hb gX12_one_11.2.2.2.2.2.2.1 (by decide) ?_
                            refine lv_istore_n (lv' := [(2, .int 0), (4, .int 0), (3, .int 2), (1, .int (nI vn)), (0, .ref h0)]) hx hb gX12_one_11.2.2.2.2.2.2.2.1 rfl hl (by decide) rfl (fun ls hl => ?_)
                            have keyN : ∀ (nN kN : Nat) (H : Heap) (locs : List Loc) (ls : Array Slot), kN + nN = vn → va_PD G A [(nc, iA G 100 fnc), (nF, sA G 5 (FCT K)), (nt, iA G 240 fnt), (h0, oX12 nw nk mhasKept nt (nI ktp) nr mrowMany mroundOf mroundFrom mouts nm mfromHour mtoHour ns (nI (NXT bt ktp vks)) (nI (TKE bt ktp (NXT bt ktp vks))) (nI (TKN bt ktp (NXT bt ktp vks))) 1 (nI jd) (nI kc) mlines nl nc nF np ntr nb mbestCost nso nsi nit nsh nsf nss nrc mtraced mdealer mnumber mwhose msize misParted)] H → va_S A s.heap H locs → lv_has ls 5 [(2, .int (nI kN)), (4, .int 0), (3, .int 2), (1, .int (nI vn)), (0, .ref h0)] → W p l e (RM (10 + 4 * mn) 0 0) s m ([.ref h0] : List Value).toArray below meth c H locs 0 0 Q0 (F0 m 225 ls []) := by
                              intro nN
                              induction nN with
                              | zero =>
                                intro kN H locs ls hkN hPD hS hl
                                refine Kan2 hPD (fun hP hD => ?_)
                                obtain rfl : vn = kN := by omega
                                have hl : lv_has ls 5 [(2, .int (nI vn)), (4, .int 0), (3, .int 2), (1, .int (nI vn)), (0, .ref h0)] := hl
                                refine lv_iload_n hx hb gX12_one_11.2.2.2.2.2.2.2.2.1 rfl (lv_at0 hl) ?_
                                refine lv_iload_n hx hb gX12_one_11.2.2.2.2.2.2.2.2.2 rfl (lv_at3 hl) ?_
                                refine lv_icmp_ge (tgt := 243) hx hb gX12_one_12.1 (by decide) (fun _ => ?_) (fun c9 => absurd (Int32.le_refl _) c9)
                                refine toQ hQ0 ?_
                                exact RV hC hP hD hS [3, 2, 0, 1] (1, (NXT bt ktp vks), kc, fnc, [], []) rfl rfl (by decide) (Or.inr ⟨rfl, hco _ (RT.cmpF hq9083 hq9141 (CMP.f2 hfs hsn)), by (try dsimp only); omega⟩) gX12_one_12.2.2.2.2.2.2
                              | succ nN ihN =>
                                intro kN H locs ls hkN hPD hS hl
                                refine Kan2 hPD (fun hP hD => ?_)
                                refine lv_iload_n hx hb gX12_one_11.2.2.2.2.2.2.2.2.1 rfl (lv_at0 hl) ?_
                                refine lv_iload_n hx hb gX12_one_11.2.2.2.2.2.2.2.2.2 rfl (lv_at3 hl) ?_
                                refine lv_icmp_ge (tgt := 243) hx hb gX12_one_12.1 (by decide) (fun c9 => absurd c9 (nI_ge (a := kN) (b := vn) (by omega) (by omega))) (fun _ => ?_)
                                refine lv_aload_n hx hb gX12_one_12.2.1 rfl (lv_at4 hl) ?_
                                refine lv_sipush (v := 30000) hx hb gX12_one_12.2.2.1 (by decide) ?_
                                refine vV (wr := [(nc, iA G 100 fnc), (nF, sA G 5 (FCT K)), (nt, iA G 240 fnt)]) hC hK hl hP hD hS hA (m_codesF l G h0 30000 nw nk mhasKept nt (nI ktp) nr mrowMany mroundOf mroundFrom mouts nm mfromHour mtoHour ns (nI (NXT bt ktp vks)) (nI (TKE bt ktp (NXT bt ktp vks))) (nI (TKN bt ktp (NXT bt ktp vks))) (nI jd) (nI kc) mlines nl nc nF np ntr nb mbestCost nso nsi nit nsh nsf nss nrc mtraced mdealer mnumber mwhose msize misParted) si_X12_252 [3] [0, 1, 2] sm_3 fm_3 nd_3 sm_0_1_2 nd_0_1_2 dj_3__0_1_2 rfl rfl rfl rfl rfl (Nat.le_of_ble_eq_true rfl) (rmT (Nat.le_of_ble_eq_true rfl) (Nat.le_of_ble_eq_true rfl)) ⟨Nat.le_of_ble_eq_true rfl, Nat.le_of_ble_eq_true rfl⟩ gX12_one_12.2.2.2.1 (fun u9272 H locs hr9271 hP hD hS => ?_)
                                refine Kpdr (ws := [(nc, iA G 100 fnc), (nF, sA G 5 (FCT K)), (nt, iA G 240 fnt), (h0, oX12 nw nk mhasKept nt (nI ktp) nr mrowMany mroundOf mroundFrom mouts nm mfromHour mtoHour ns (nI (NXT bt ktp vks)) (nI (TKE bt ktp (NXT bt ktp vks))) (nI (TKN bt ktp (NXT bt ktp vks))) 1 (nI jd) (nI kc) mlines nl nc nF np ntr nb mbestCost nso nsi nit nsh nsf nss nrc mtraced mdealer mnumber mwhose msize misParted)]) hP hD (fun hP hD => ?_)
                                refine lv_iinc (v := nI (kN + 1)) (lv' := [(2, .int (nI (kN + 1))), (4, .int 0), (3, .int 2), (1, .int (nI vn)), (0, .ref h0)]) hx hb gX12_one_12.2.2.2.2.1 hl (k := 0) rfl (nI_1 _) (by decide) rfl (fun ls hl => ?_)
                                refine lv_goto (tgt := 225) hx hb gX12_one_12.2.2.2.2.2.1 (by decide) ?_
                                exact ihN (kN + 1) _ _ _ (by omega) (And.intro hP hD) hS (lv_sub hl [0, 1, 2, 3, 4] rfl)
                            exact keyN vn 0 _ _ _ (by omega) (And.intro hP hD) hS (lv_sub hl [0, 1, 2, 3, 4] rfl)
              · have nb9144 : ¬ 5 ≤ vq := fun h9 => c_91_9142 ((nI_leI (a := 5) (b := vq) (by omega) (by omega)).mpr h9)
                refine lv_aload_n hx hb gX12_one_5.1 rfl (lv_at3 hl) ?_
                refine lv_aload_n hx hb gX12_one_5.2.1 rfl (lv_at3 hl) ?_
                refine gf_X12_50 hC rfl hK hP 0 rfl rfl gX12_one_5.2.2.1 ?_
                refine lv_iload_n hx hb gX12_one_5.2.2.2.1 rfl (lv_at0 hl) ?_
                obtain ⟨if9273, hif9273⟩ : ∃ z, z = 11 + vq := ⟨_, rfl⟩
                have hxif9273 : if9273 < 16 := by omega
                have h3if9273 := slen3 if9273 hxif9273 (by omega)
                refine aldS hC hK hP 3 rfl (vp_in_nI (by omega) (by omega)) (k := vq) (nI_clamp (by omega)) (v := (K.1 if9273)) (by rw [hif9273]; exact if_pos (by omega)) gX12_one_5.2.2.2.2.1 ?_
                refine pVo hO hS hC hK hl hP hD (m_isNameX l G K if9273 h0 nw nk mhasKept nt ktp nr mrowMany mroundOf mroundFrom mouts nm mfromHour mtoHour ns vks (nI jd) (nI kc) mlines nl nc nF np ntr nb mbestCost nso nsi nit nsh nsf nss nrc mtraced mdealer mnumber mwhose msize misParted fnt bt (htp) (by omega) (hFB) ((hxif9273))) si_X12_248 [0, 1] sm_0_1 fm_0_1 nd_0_1 rfl rfl rfl rfl rfl (Nat.le_of_ble_eq_true rfl) (rmT (Nat.le_of_ble_eq_true rfl) (Nat.le_of_ble_eq_true rfl)) ⟨by first | exact Nat.le_of_ble_eq_true rfl | exact Nat.zero_le _, by first | exact Nat.le_of_ble_eq_true rfl | exact Nat.zero_le _⟩ gX12_one_5.2.2.2.2.2.1 (Kors (Keqa fun a9275 => ?_) (Keqa fun a9275 => ?_))
                · have hq9276 := a9275
                  have xl9277 : vks + SLEN.getD if9273 0 ≤ NXT bt ktp vks ∧ NXT bt ktp vks ≤ ktp := WRD.len hq9276 (by omega)
                  refine lv_if_eq (tgt := 111) hx hb gX12_one_5.2.2.2.2.2.2.1 (by decide) (fun c9 => absurd c9 (by decide)) (fun _ => ?_)
                  refine lv_iload_n hx hb gX12_one_5.2.2.2.2.2.2.2.1 rfl (lv_at0 hl) ?_
                  refine lv_goto (tgt := 112) hx hb gX12_one_5.2.2.2.2.2.2.2.2.1 (by decide) ?_
                  refine lv_istore_n (lv' := [(2, .int (nI vq)), (3, .int (nI vq)), (1, .int (nI vn)), (0, .ref h0)]) hx hb gX12_one_6.1 rfl hl (by decide) rfl (fun ls hl => ?_)
                  refine lv_iinc (v := nI (vq + 1)) (lv' := [(3, .int (nI (vq + 1))), (2, .int (nI vq)), (1, .int (nI vn)), (0, .ref h0)]) hx hb gX12_one_6.2.1 hl (k := 1) rfl (nI_1 _) (by decide) rfl (fun ls hl => ?_)
                  refine lv_goto (tgt := 89) hx hb gX12_one_6.2.2.1 (by decide) ?_
                  exact ihE (vq + 1) (nI vq) _ _ _ (by omega) (FCI.yes hif9273 hq9276) (And.intro hP hD) hS (lv_sub hl [0, 1, 2, 3] rfl)
                · have hq9278 := a9275
                  refine lv_if_eq (tgt := 111) hx hb gX12_one_5.2.2.2.2.2.2.1 (by decide) (fun _ => ?_) (fun c9 => absurd (by decide) c9)
                  refine lv_iload_n hx hb gX12_one_5.2.2.2.2.2.2.2.2.2 rfl (lv_at1 hl) ?_
                  refine lv_istore_n (lv' := [(2, .int fa9), (3, .int (nI vq)), (1, .int (nI vn)), (0, .ref h0)]) hx hb gX12_one_6.1 rfl hl (by decide) rfl (fun ls hl => ?_)
                  refine lv_iinc (v := nI (vq + 1)) (lv' := [(3, .int (nI (vq + 1))), (2, .int fa9), (1, .int (nI vn)), (0, .ref h0)]) hx hb gX12_one_6.2.1 hl (k := 1) rfl (nI_1 _) (by decide) rfl (fun ls hl => ?_)
                  refine lv_goto (tgt := 89) hx hb gX12_one_6.2.2.1 (by decide) ?_
                  exact ihE (vq + 1) fa9 _ _ _ (by omega) (FCI.no hfa hif9273 hq9278) (And.intro hP hD) hS (lv_sub hl [0, 1, 2, 3] rfl)
          exact keyE 6 0 (-1) _ _ _ (by omega) (FCI.zero) (And.intro hP hD) hS (lv_sub hl [0, 1, 2, 3] rfl)
  exact keyT 241 ks 0 _ _ _ (by omega) (fun _ h9 => h9) (And.intro hP hD) hS (lv_sub hl [0, 1] rfl)
def K_m_all (l : Launch) (G : GG) (K : OO) (mn : Nat) (h0 : Nat) (nw : Nat) (nk : Nat) (mhasKept : Int32) (nt : Nat) (ktp : Nat) (nr : Nat) (mrowMany : Int32) (mroundOf : Int32) (mroundFrom : Int32) (mouts : Int32) (nm : Nat) (mfromHour : Int32) (mtoHour : Int32) (ns : Nat) (ks : Nat) (jd : Nat) (kc : Nat) (mlines : Int32) (nl : Nat) (nc : Nat) (nF : Nat) (np : Nat) (ntr : Nat) (nb : Nat) (mbestCost : Int32) (nso : Nat) (nsi : Nat) (nit : Nat) (nsh : Nat) (nsf : Nat) (nss : Nat) (nrc : Nat) (mtraced : Int32) (mdealer : Int32) (mnumber : Int32) (mwhose : Int32) (msize : Int32) (misParted : Int32) (fnt : Nat → Int32) (fnc : Nat → Int32) (bt : Nat → Int32) (cs : List Int32) (rs : List Int32) : Prop := MVo l G K yX12_all cX12_all 1 (11 + 4 * mn) 0 0 [.ref h0] [(h0, oX12 nw nk mhasKept nt (nI ktp) nr mrowMany mroundOf mroundFrom mouts nm mfromHour mtoHour ns (nI ks) (nI (TKE bt ktp ks)) (nI (TKN bt ktp ks)) 0 (nI jd) (nI kc) mlines nl nc nF np ntr nb mbestCost nso nsi nit nsh nsf nss nrc mtraced mdealer mnumber mwhose msize misParted), (nt, iA G 240 fnt), (nc, iA G 100 fnc), (nF, sA G 5 (FCT K))] (fun u : Int32 × Nat × Nat × (Nat → Int32) × (List Int32) × (List Int32) => (0 = u.1 ∧ RT bt ktp 1 jd 0 ks cs rs (1, u.2.1, u.2.2.2.2.1, u.2.2.2.2.2) ∧ STP u.2.2.1 u.2.2.2.1 u.2.2.2.2.2) ∨ (1 = u.1 ∧ RT bt ktp 1 jd 0 ks cs rs (0, u.2.1, [], []) ∧ u.2.1 ≤ ktp)) (fun u : Int32 × Nat × Nat × (Nat → Int32) × (List Int32) × (List Int32) => [(h0, oX12 nw nk mhasKept nt (nI ktp) nr mrowMany mroundOf mroundFrom mouts nm mfromHour mtoHour ns (nI u.2.1) (nI (TKE bt ktp u.2.1)) (nI (TKN bt ktp u.2.1)) u.1 (nI jd) (nI u.2.2.1) mlines nl nc nF np ntr nb mbestCost nso nsi nit nsh nsf nss nrc mtraced mdealer mnumber mwhose msize misParted), (nt, iA G 240 fnt), (nc, iA G 100 u.2.2.2.1), (nF, sA G 5 (FCT K))])
set_option maxHeartbeats 4000000 in
set_option maxRecDepth 100000 in
theorem m_all (l : Launch) (G : GG) (K : OO) (mn : Nat) (h0 : Nat) (nw : Nat) (nk : Nat) (mhasKept : Int32) (nt : Nat) (ktp : Nat) (nr : Nat) (mrowMany : Int32) (mroundOf : Int32) (mroundFrom : Int32) (mouts : Int32) (nm : Nat) (mfromHour : Int32) (mtoHour : Int32) (ns : Nat) (ks : Nat) (jd : Nat) (kc : Nat) (mlines : Int32) (nl : Nat) (nc : Nat) (nF : Nat) (np : Nat) (ntr : Nat) (nb : Nat) (mbestCost : Int32) (nso : Nat) (nsi : Nat) (nit : Nat) (nsh : Nat) (nsf : Nat) (nss : Nat) (nrc : Nat) (mtraced : Int32) (mdealer : Int32) (mnumber : Int32) (mwhose : Int32) (msize : Int32) (misParted : Int32) (fnt : Nat → Int32) (fnc : Nat → Int32) (bt : Nat → Int32) (cs : List Int32) (rs : List Int32) (htp : ktp ≤ 240) (hks : ks ≤ ktp) (hFB : FBT fnt bt ktp) (hST : STP kc fnc rs) (h3s : 3 * kc ≤ ks) (hjm : jd + mn = 4) (ihE : ∀ m9, m9 < mn → ∀ (h0 : Nat) (nw : Nat) (nk : Nat) (mhasKept : Int32) (nt : Nat) (ktp : Nat) (nr : Nat) (mrowMany : Int32) (mroundOf : Int32) (mroundFrom : Int32) (mouts : Int32) (nm : Nat) (mfromHour : Int32) (mtoHour : Int32) (ns : Nat) (ks : Nat) (jd : Nat) (kc : Nat) (mlines : Int32) (nl : Nat) (nc : Nat) (nF : Nat) (np : Nat) (ntr : Nat) (nb : Nat) (mbestCost : Int32) (nso : Nat) (nsi : Nat) (nit : Nat) (nsh : Nat) (nsf : Nat) (nss : Nat) (nrc : Nat) (mtraced : Int32) (mdealer : Int32) (mnumber : Int32) (mwhose : Int32) (msize : Int32) (misParted : Int32) (fnt : Nat → Int32) (fnc : Nat → Int32) (bt : Nat → Int32) (cs : List Int32) (rs : List Int32) (htp : ktp ≤ 240) (hks : ks ≤ ktp) (hFB : FBT fnt bt ktp) (hST : STP kc fnc rs) (h3s : 3 * kc ≤ ks) (hjm : jd + m9 = 4), MVo l G K yX12_either cX12_either 1 (12 + 4 * m9) 0 0 [.ref h0] [(h0, oX12 nw nk mhasKept nt (nI ktp) nr mrowMany mroundOf mroundFrom mouts nm mfromHour mtoHour ns (nI ks) (nI (TKE bt ktp ks)) (nI (TKN bt ktp ks)) 0 (nI jd) (nI kc) mlines nl nc nF np ntr nb mbestCost nso nsi nit nsh nsf nss nrc mtraced mdealer mnumber mwhose msize misParted), (nt, iA G 240 fnt), (nc, iA G 100 fnc), (nF, sA G 5 (FCT K))] (fun u : Int32 × Nat × Nat × (Nat → Int32) × (List Int32) × (List Int32) => (0 = u.1 ∧ RT bt ktp 2 jd 0 ks cs rs (1, u.2.1, u.2.2.2.2.1, u.2.2.2.2.2) ∧ STP u.2.2.1 u.2.2.2.1 u.2.2.2.2.2) ∨ (1 = u.1 ∧ RT bt ktp 2 jd 0 ks cs rs (0, u.2.1, [], []) ∧ u.2.1 ≤ ktp)) (fun u : Int32 × Nat × Nat × (Nat → Int32) × (List Int32) × (List Int32) => [(h0, oX12 nw nk mhasKept nt (nI ktp) nr mrowMany mroundOf mroundFrom mouts nm mfromHour mtoHour ns (nI u.2.1) (nI (TKE bt ktp u.2.1)) (nI (TKN bt ktp u.2.1)) u.1 (nI jd) (nI u.2.2.1) mlines nl nc nF np ntr nb mbestCost nso nsi nit nsh nsf nss nrc mtraced mdealer mnumber mwhose msize misParted), (nt, iA G 240 fnt), (nc, iA G 100 u.2.2.2.1), (nF, sA G 5 (FCT K))])) : K_m_all l G K mn h0 nw nk mhasKept nt ktp nr mrowMany mroundOf mroundFrom mouts nm mfromHour mtoHour ns ks jd kc mlines nl nc nF np ntr nb mbestCost nso nsi nit nsh nsf nss nrc mtraced mdealer mnumber mwhose msize misParted fnt fnc bt cs rs := by
  refine MVo.start (by decide +kernel) (Nat.le_of_ble_eq_true rfl) ?_
  intro p e s m below meth c A ls hC hK hP hD hS hA hl hO
  refine absQ (fun Q0 hQ0 => ?_)
  have hl : lv_has ls 1 [(0, .ref h0)] := hl
  refine Kan8 hC (fun hx hb hr hml hB hown hlocks hnm => ?_)
  have tk0 := TKE.ge (bt := bt) (n := ktp) (s := ks) hks
  have hs1 := hST.1
  refine lv_aload_n hx hb gX12_all_0.1 rfl (lv_at0 hl) ?_
  refine vVo (wr := []) hO hC hK hl hP hD hS hA (m_one l G K mn h0 nw nk mhasKept nt ktp nr mrowMany mroundOf mroundFrom mouts nm mfromHour mtoHour ns ks jd kc mlines nl nc nF np ntr nb mbestCost nso nsi nit nsh nsf nss nrc mtraced mdealer mnumber mwhose msize misParted fnt fnc bt cs rs (by omega) (by omega) (hFB) (hST) (by omega) (by omega) ihE) si_X12_255 [0, 1, 2, 3] [] sm_0_1_2_3 fm_0_1_2_3 nd_0_1_2_3 rfl rfl (by decide) rfl rfl rfl rfl rfl (Nat.le_of_ble_eq_true rfl) ⟨by simp only [RM]; omega, by simp only [RM]; omega⟩ ⟨Nat.le_of_ble_eq_true rfl, Nat.le_of_ble_eq_true rfl⟩ gX12_all_0.2.1 (Ktu6 fun ff19281 ks19282 kc19283 gnc9284 c19285 r19286 => ?_)
  intro H locs hr9279 hP hD hS
  try dsimp only at hr9279
  refine Kpdr (ws := [(h0, oX12 nw nk mhasKept nt (nI ktp) nr mrowMany mroundOf mroundFrom mouts nm mfromHour mtoHour ns (nI ks19282) (nI (TKE bt ktp ks19282)) (nI (TKN bt ktp ks19282)) ff19281 (nI jd) (nI kc19283) mlines nl nc nF np ntr nb mbestCost nso nsi nit nsh nsf nss nrc mtraced mdealer mnumber mwhose msize misParted), (nt, iA G 240 fnt), (nc, iA G 100 gnc9284), (nF, sA G 5 (FCT K))]) hP hD (fun hP hD => ?_)
  have w9287 := hr9279
  rcases w9287 with v9288 | v9289
  · obtain ⟨rfl, hq9290, hq9291⟩ := v9288
    have xl9292 := RT.lem hq9290 (by decide) (by omega)
    have xl9293 := hq9291.1
    have keyD : ∀ (nD : Nat) (vks : Nat) (vc : Nat) (vC : Nat → Int32) (H : Heap) (locs : List Loc) (ls : Array Slot), (3 * vc ≤ vks ∧ vks ≤ ktp ∧ 241 ≤ vks + nD) → (RTV bt ktp 1 jd ks cs rs 3 vks vc vC) → va_PD G A [(h0, oX12 nw nk mhasKept nt (nI ktp) nr mrowMany mroundOf mroundFrom mouts nm mfromHour mtoHour ns (nI vks) (nI (TKE bt ktp vks)) (nI (TKN bt ktp vks)) 0 (nI jd) (nI vc) mlines nl nc nF np ntr nb mbestCost nso nsi nit nsh nsf nss nrc mtraced mdealer mnumber mwhose msize misParted), (nt, iA G 240 fnt), (nc, iA G 100 vC), (nF, sA G 5 (FCT K))] H → va_S A s.heap H locs → lv_has ls 1 [(0, .ref h0)] → W p l e (RM (11 + 4 * mn) 0 0) s m ([.ref h0] : List Value).toArray below meth c H locs 0 0 Q0 (F0 m 4 ls []) := by
      intro nD
      induction nD with
      | zero =>
        intro vks vc vC H locs ls hiD hrw hPD hS hl
        refine Kan2 hPD (fun hP hD => ?_)
        exact (show False by omega).elim
      | succ nD ihD =>
        intro vks vc vC H locs ls hiD hrw hPD hS hl
        refine Kan2 hPD (fun hP hD => ?_)
        have tkv := TKE.ge (bt := bt) (n := ktp) (s := vks) (by omega)
        obtain ⟨c9, q9, hst9, hco9⟩ := hrw
        have hsl9 := hst9.1
        refine lv_aload_n hx hb gX12_all_0.2.2.1 rfl (lv_at0 hl) ?_
        refine va_ldcSw (index := 258) (tx := "and") hx hb hown (hO.2.2 9 (by decide)) gX12_all_0.2.2.2.1 ?_
        refine pVo hO hS hC hK hl hP hD (m_isNameX l G K 9 h0 nw nk mhasKept nt ktp nr mrowMany mroundOf mroundFrom mouts nm mfromHour mtoHour ns vks (nI jd) (nI vc) mlines nl nc nF np ntr nb mbestCost nso nsi nit nsh nsf nss nrc mtraced mdealer mnumber mwhose msize misParted fnt bt (htp) (by omega) (hFB) ((by decide))) si_X12_248 [0, 1] sm_0_1 fm_0_1 nd_0_1 rfl rfl rfl rfl rfl (Nat.le_of_ble_eq_true rfl) (rmT (Nat.le_of_ble_eq_true rfl) (Nat.le_of_ble_eq_true rfl)) ⟨by first | exact Nat.le_of_ble_eq_true rfl | exact Nat.zero_le _, by first | exact Nat.le_of_ble_eq_true rfl | exact Nat.zero_le _⟩ gX12_all_0.2.2.2.2.1 (Kors (Keqa fun a9295 => ?_) (Keqa fun a9295 => ?_))
        · have hq9296 := a9295
          have xl9297 : vks + 3 ≤ NXT bt ktp vks ∧ NXT bt ktp vks ≤ ktp := WRD.len hq9296 (by omega)
          refine lv_if_eq (tgt := 32) hx hb gX12_all_0.2.2.2.2.2.1 (by decide) (fun c9 => absurd c9 (by decide)) (fun _ => ?_)
          refine lv_aload_n hx hb gX12_all_0.2.2.2.2.2.2.1 rfl (lv_at0 hl) ?_
          refine vV (wr := [(nc, iA G 100 vC), (nF, sA G 5 (FCT K))]) hC hK hl hP hD hS hA (m_nextT l G h0 nw nk mhasKept nt ktp nr mrowMany mroundOf mroundFrom mouts nm mfromHour mtoHour ns vks 0 (nI jd) (nI vc) mlines nl nc nF np ntr nb mbestCost nso nsi nit nsh nsf nss nrc mtraced mdealer mnumber mwhose msize misParted fnt bt (htp) (by omega) (hFB)) si_X12_233 [0, 1] [2, 3] sm_0_1 fm_0_1 nd_0_1 sm_2_3 nd_2_3 dj_0_1__2_3 rfl rfl rfl rfl rfl (Nat.le_of_ble_eq_true rfl) (rmT (Nat.le_of_ble_eq_true rfl) (Nat.le_of_ble_eq_true rfl)) ⟨Nat.le_of_ble_eq_true rfl, Nat.le_of_ble_eq_true rfl⟩ gX12_all_0.2.2.2.2.2.2.2.1 (fun u9299 H locs hr9298 hP hD hS => ?_)
          refine Kpdr (ws := [(nc, iA G 100 vC), (nF, sA G 5 (FCT K)), (h0, oX12 nw nk mhasKept nt (nI ktp) nr mrowMany mroundOf mroundFrom mouts nm mfromHour mtoHour ns (nI (NXT bt ktp vks)) (nI (TKE bt ktp (NXT bt ktp vks))) (nI (TKN bt ktp (NXT bt ktp vks))) 0 (nI jd) (nI vc) mlines nl nc nF np ntr nb mbestCost nso nsi nit nsh nsf nss nrc mtraced mdealer mnumber mwhose msize misParted), (nt, iA G 240 fnt)]) hP hD (fun hP hD => ?_)
          have xn9300 := NXT.ge (bt := bt) (n := ktp) (s := vks) (by omega)
          refine lv_aload_n hx hb gX12_all_0.2.2.2.2.2.2.2.2.1 rfl (lv_at0 hl) ?_
          refine vVo (wr := []) hO hC hK hl hP hD hS hA (m_one l G K mn h0 nw nk mhasKept nt ktp nr mrowMany mroundOf mroundFrom mouts nm mfromHour mtoHour ns (NXT bt ktp vks) jd vc mlines nl nc nF np ntr nb mbestCost nso nsi nit nsh nsf nss nrc mtraced mdealer mnumber mwhose msize misParted fnt vC bt c9 q9 (by omega) (by omega) (hFB) (hst9) (by omega) (by omega) ihE) si_X12_255 [2, 3, 0, 1] [] sm_2_3_0_1 fm_2_3_0_1 nd_2_3_0_1 rfl rfl (by decide) rfl rfl rfl rfl rfl (Nat.le_of_ble_eq_true rfl) ⟨by simp only [RM]; omega, by simp only [RM]; omega⟩ ⟨Nat.le_of_ble_eq_true rfl, Nat.le_of_ble_eq_true rfl⟩ gX12_all_0.2.2.2.2.2.2.2.2.2 (Ktu6 fun ff19303 ks19304 kc19305 gnc9306 c19307 r19308 => ?_)
          intro H locs hr9301 hP hD hS
          try dsimp only at hr9301
          refine Kpdr (ws := [(h0, oX12 nw nk mhasKept nt (nI ktp) nr mrowMany mroundOf mroundFrom mouts nm mfromHour mtoHour ns (nI ks19304) (nI (TKE bt ktp ks19304)) (nI (TKN bt ktp ks19304)) ff19303 (nI jd) (nI kc19305) mlines nl nc nF np ntr nb mbestCost nso nsi nit nsh nsf nss nrc mtraced mdealer mnumber mwhose msize misParted), (nt, iA G 240 fnt), (nc, iA G 100 gnc9306), (nF, sA G 5 (FCT K))]) hP hD (fun hP hD => ?_)
          have w9309 := hr9301
          rcases w9309 with v9310 | v9311
          · obtain ⟨rfl, hq9312, hq9313⟩ := v9310
            have xl9314 := RT.lem hq9312 (by decide) (by omega)
            have xl9315 := hq9313.1
            refine lv_aload_n hx hb gX12_all_1.1 rfl (lv_at0 hl) ?_
            refine lv_sipush (v := 30001) hx hb gX12_all_1.2.1 (by decide) ?_
            refine vV (wr := [(nt, iA G 240 fnt), (nF, sA G 5 (FCT K))]) hC hK hl hP hD hS hA (m_codes0 l G h0 30001 nw nk mhasKept nt (nI ktp) nr mrowMany mroundOf mroundFrom mouts nm mfromHour mtoHour ns (nI ks19304) (nI (TKE bt ktp ks19304)) (nI (TKN bt ktp ks19304)) (nI jd) kc19305 mlines nl nc nF np ntr nb mbestCost nso nsi nit nsh nsf nss nrc mtraced mdealer mnumber mwhose msize misParted gnc9306 (by omega)) si_X12_252 [0, 2] [1, 3] sm_0_2 fm_0_2 nd_0_2 sm_1_3 nd_1_3 dj_0_2__1_3 rfl rfl rfl rfl rfl (Nat.le_of_ble_eq_true rfl) (rmT (Nat.le_of_ble_eq_true rfl) (Nat.le_of_ble_eq_true rfl)) ⟨Nat.le_of_ble_eq_true rfl, Nat.le_of_ble_eq_true rfl⟩ gX12_all_1.2.2.1 (fun u9317 H locs hr9316 hP hD hS => ?_)
            refine Kpdr (ws := [(nt, iA G 240 fnt), (nF, sA G 5 (FCT K)), (h0, oX12 nw nk mhasKept nt (nI ktp) nr mrowMany mroundOf mroundFrom mouts nm mfromHour mtoHour ns (nI ks19304) (nI (TKE bt ktp ks19304)) (nI (TKN bt ktp ks19304)) 0 (nI jd) (nI (kc19305 + 1)) mlines nl nc nF np ntr nb mbestCost nso nsi nit nsh nsf nss nrc mtraced mdealer mnumber mwhose msize misParted), (nc, iA G 100 (upd gnc9306 kc19305 30001))]) hP hD (fun hP hD => ?_)
            refine lv_goto (tgt := 4) hx hb gX12_all_1.2.2.2.1 (by decide) ?_
            refine Kpds (ws' := [(h0, oX12 nw nk mhasKept nt (nI ktp) nr mrowMany mroundOf mroundFrom mouts nm mfromHour mtoHour ns (nI ks19304) (nI (TKE bt ktp ks19304)) (nI (TKN bt ktp ks19304)) 0 (nI jd) (nI (kc19305 + 1)) mlines nl nc nF np ntr nb mbestCost nso nsi nit nsh nsf nss nrc mtraced mdealer mnumber mwhose msize misParted), (nt, iA G 240 fnt), (nc, iA G 100 (upd gnc9306 kc19305 30001)), (nF, sA G 5 (FCT K))]) hP hD [2, 0, 3, 1] fm_2_0_3_1 nd_2_0_3_1 sm_2_0_3_1 (fun hP hD => ?_)
            exact ihD ks19304 (kc19305 + 1) (upd gnc9306 kc19305 30001) _ _ _ (by omega) (⟨_, _, STP.push hq9313, fun r h9 => hco9 r (RT.andG hq9296 hq9312 h9)⟩) (And.intro hP hD) hS (lv_sub hl [0] rfl)
          · obtain ⟨rfl, hq9318, hq9319⟩ := v9311
            refine lv_aload_n hx hb gX12_all_1.1 rfl (lv_at0 hl) ?_
            refine lv_sipush (v := 30001) hx hb gX12_all_1.2.1 (by decide) ?_
            refine vV (wr := [(nt, iA G 240 fnt), (nc, iA G 100 gnc9306), (nF, sA G 5 (FCT K))]) hC hK hl hP hD hS hA (m_codesF l G h0 30001 nw nk mhasKept nt (nI ktp) nr mrowMany mroundOf mroundFrom mouts nm mfromHour mtoHour ns (nI ks19304) (nI (TKE bt ktp ks19304)) (nI (TKN bt ktp ks19304)) (nI jd) (nI kc19305) mlines nl nc nF np ntr nb mbestCost nso nsi nit nsh nsf nss nrc mtraced mdealer mnumber mwhose msize misParted) si_X12_252 [0] [1, 2, 3] sm_0 fm_0 nd_0 sm_1_2_3 nd_1_2_3 dj_0__1_2_3 rfl rfl rfl rfl rfl (Nat.le_of_ble_eq_true rfl) (rmT (Nat.le_of_ble_eq_true rfl) (Nat.le_of_ble_eq_true rfl)) ⟨Nat.le_of_ble_eq_true rfl, Nat.le_of_ble_eq_true rfl⟩ gX12_all_1.2.2.1 (fun u9321 H locs hr9320 hP hD hS => ?_)
            refine Kpdr (ws := [(nt, iA G 240 fnt), (nc, iA G 100 gnc9306), (nF, sA G 5 (FCT K)), (h0, oX12 nw nk mhasKept nt (nI ktp) nr mrowMany mroundOf mroundFrom mouts nm mfromHour mtoHour ns (nI ks19304) (nI (TKE bt ktp ks19304)) (nI (TKN bt ktp ks19304)) 1 (nI jd) (nI kc19305) mlines nl nc nF np ntr nb mbestCost nso nsi nit nsh nsf nss nrc mtraced mdealer mnumber mwhose msize misParted)]) hP hD (fun hP hD => ?_)
            refine lv_goto (tgt := 4) hx hb gX12_all_1.2.2.2.1 (by decide) ?_
            refine lv_aload_n hx hb gX12_all_0.2.2.1 rfl (lv_at0 hl) ?_
            refine va_ldcSw (index := 258) (tx := "and") hx hb hown (hO.2.2 9 (by decide)) gX12_all_0.2.2.2.1 ?_
            refine pVo hO hS hC hK hl hP hD (m_isNameF l G K 9 h0 nw nk mhasKept nt (nI ktp) nr mrowMany mroundOf mroundFrom mouts nm mfromHour mtoHour ns (nI ks19304) (nI (TKE bt ktp ks19304)) (nI (TKN bt ktp ks19304)) (nI jd) (nI kc19305) mlines nl nc nF np ntr nb mbestCost nso nsi nit nsh nsf nss nrc mtraced mdealer mnumber mwhose msize misParted ((by decide))) si_X12_248 [3] sm_3 fm_3 nd_3 rfl rfl rfl rfl rfl (Nat.le_of_ble_eq_true rfl) (rmT (Nat.le_of_ble_eq_true rfl) (Nat.le_of_ble_eq_true rfl)) ⟨by first | exact Nat.le_of_ble_eq_true rfl | exact Nat.zero_le _, by first | exact Nat.le_of_ble_eq_true rfl | exact Nat.zero_le _⟩ gX12_all_0.2.2.2.2.1 (Keqr ?_)
            refine lv_if_eq (tgt := 32) hx hb gX12_all_0.2.2.2.2.2.1 (by decide) (fun _ => ?_) (fun c9 => absurd (by decide) c9)
            refine toQ hQ0 ?_
            exact RV hC hP hD hS [3, 0, 1, 2] (1, ks19304, kc19305, gnc9306, [], []) rfl rfl (by decide) (Or.inr ⟨rfl, hco9 _ (RT.andF hq9296 hq9318 rfl), by (try dsimp only); omega⟩) gX12_all_1.2.2.2.2
        · have hq9324 := a9295
          refine lv_if_eq (tgt := 32) hx hb gX12_all_0.2.2.2.2.2.1 (by decide) (fun _ => ?_) (fun c9 => absurd (by decide) c9)
          refine toQ hQ0 ?_
          exact RV hC hP hD hS [0, 1, 2, 3] (0, vks, vc, vC, c9, q9) rfl rfl (by decide) (Or.inl ⟨rfl, hco9 _ (RT.andE hq9324), hst9⟩) gX12_all_1.2.2.2.2
    exact keyD 241 ks19282 kc19283 gnc9284 _ _ _ (by omega) (⟨c19285, r19286, hq9291, fun _ h9 => RT.allG hq9290 h9⟩) (And.intro hP hD) hS (lv_sub hl [0] rfl)
  · obtain ⟨rfl, hq9325, hq9326⟩ := v9289
    refine lv_aload_n hx hb gX12_all_0.2.2.1 rfl (lv_at0 hl) ?_
    refine va_ldcSw (index := 258) (tx := "and") hx hb hown (hO.2.2 9 (by decide)) gX12_all_0.2.2.2.1 ?_
    refine pVo hO hS hC hK hl hP hD (m_isNameF l G K 9 h0 nw nk mhasKept nt (nI ktp) nr mrowMany mroundOf mroundFrom mouts nm mfromHour mtoHour ns (nI ks19282) (nI (TKE bt ktp ks19282)) (nI (TKN bt ktp ks19282)) (nI jd) (nI kc19283) mlines nl nc nF np ntr nb mbestCost nso nsi nit nsh nsf nss nrc mtraced mdealer mnumber mwhose msize misParted ((by decide))) si_X12_248 [0] sm_0 fm_0 nd_0 rfl rfl rfl rfl rfl (Nat.le_of_ble_eq_true rfl) (rmT (Nat.le_of_ble_eq_true rfl) (Nat.le_of_ble_eq_true rfl)) ⟨by first | exact Nat.le_of_ble_eq_true rfl | exact Nat.zero_le _, by first | exact Nat.le_of_ble_eq_true rfl | exact Nat.zero_le _⟩ gX12_all_0.2.2.2.2.1 (Keqr ?_)
    refine lv_if_eq (tgt := 32) hx hb gX12_all_0.2.2.2.2.2.1 (by decide) (fun _ => ?_) (fun c9 => absurd (by decide) c9)
    refine toQ hQ0 ?_
    exact RV hC hP hD hS [0, 1, 2, 3] (1, ks19282, kc19283, gnc9284, [], []) rfl rfl (by decide) (Or.inr ⟨rfl, RT.allF hq9325 rfl, by (try dsimp only); omega⟩) gX12_all_1.2.2.2.2
def K_m_either_step (l : Launch) (G : GG) (K : OO) (mn : Nat) (h0 : Nat) (nw : Nat) (nk : Nat) (mhasKept : Int32) (nt : Nat) (ktp : Nat) (nr : Nat) (mrowMany : Int32) (mroundOf : Int32) (mroundFrom : Int32) (mouts : Int32) (nm : Nat) (mfromHour : Int32) (mtoHour : Int32) (ns : Nat) (ks : Nat) (jd : Nat) (kc : Nat) (mlines : Int32) (nl : Nat) (nc : Nat) (nF : Nat) (np : Nat) (ntr : Nat) (nb : Nat) (mbestCost : Int32) (nso : Nat) (nsi : Nat) (nit : Nat) (nsh : Nat) (nsf : Nat) (nss : Nat) (nrc : Nat) (mtraced : Int32) (mdealer : Int32) (mnumber : Int32) (mwhose : Int32) (msize : Int32) (misParted : Int32) (fnt : Nat → Int32) (fnc : Nat → Int32) (bt : Nat → Int32) (cs : List Int32) (rs : List Int32) : Prop := MVo l G K yX12_either cX12_either 1 (12 + 4 * mn) 0 0 [.ref h0] [(h0, oX12 nw nk mhasKept nt (nI ktp) nr mrowMany mroundOf mroundFrom mouts nm mfromHour mtoHour ns (nI ks) (nI (TKE bt ktp ks)) (nI (TKN bt ktp ks)) 0 (nI jd) (nI kc) mlines nl nc nF np ntr nb mbestCost nso nsi nit nsh nsf nss nrc mtraced mdealer mnumber mwhose msize misParted), (nt, iA G 240 fnt), (nc, iA G 100 fnc), (nF, sA G 5 (FCT K))] (fun u : Int32 × Nat × Nat × (Nat → Int32) × (List Int32) × (List Int32) => (0 = u.1 ∧ RT bt ktp 2 jd 0 ks cs rs (1, u.2.1, u.2.2.2.2.1, u.2.2.2.2.2) ∧ STP u.2.2.1 u.2.2.2.1 u.2.2.2.2.2) ∨ (1 = u.1 ∧ RT bt ktp 2 jd 0 ks cs rs (0, u.2.1, [], []) ∧ u.2.1 ≤ ktp)) (fun u : Int32 × Nat × Nat × (Nat → Int32) × (List Int32) × (List Int32) => [(h0, oX12 nw nk mhasKept nt (nI ktp) nr mrowMany mroundOf mroundFrom mouts nm mfromHour mtoHour ns (nI u.2.1) (nI (TKE bt ktp u.2.1)) (nI (TKN bt ktp u.2.1)) u.1 (nI jd) (nI u.2.2.1) mlines nl nc nF np ntr nb mbestCost nso nsi nit nsh nsf nss nrc mtraced mdealer mnumber mwhose msize misParted), (nt, iA G 240 fnt), (nc, iA G 100 u.2.2.2.1), (nF, sA G 5 (FCT K))])
set_option maxHeartbeats 4000000 in
set_option maxRecDepth 100000 in
theorem m_either_step (l : Launch) (G : GG) (K : OO) (mn : Nat) (h0 : Nat) (nw : Nat) (nk : Nat) (mhasKept : Int32) (nt : Nat) (ktp : Nat) (nr : Nat) (mrowMany : Int32) (mroundOf : Int32) (mroundFrom : Int32) (mouts : Int32) (nm : Nat) (mfromHour : Int32) (mtoHour : Int32) (ns : Nat) (ks : Nat) (jd : Nat) (kc : Nat) (mlines : Int32) (nl : Nat) (nc : Nat) (nF : Nat) (np : Nat) (ntr : Nat) (nb : Nat) (mbestCost : Int32) (nso : Nat) (nsi : Nat) (nit : Nat) (nsh : Nat) (nsf : Nat) (nss : Nat) (nrc : Nat) (mtraced : Int32) (mdealer : Int32) (mnumber : Int32) (mwhose : Int32) (msize : Int32) (misParted : Int32) (fnt : Nat → Int32) (fnc : Nat → Int32) (bt : Nat → Int32) (cs : List Int32) (rs : List Int32) (htp : ktp ≤ 240) (hks : ks ≤ ktp) (hFB : FBT fnt bt ktp) (hST : STP kc fnc rs) (h3s : 3 * kc ≤ ks) (hjm : jd + mn = 4) (ihE : ∀ m9, m9 < mn → ∀ (h0 : Nat) (nw : Nat) (nk : Nat) (mhasKept : Int32) (nt : Nat) (ktp : Nat) (nr : Nat) (mrowMany : Int32) (mroundOf : Int32) (mroundFrom : Int32) (mouts : Int32) (nm : Nat) (mfromHour : Int32) (mtoHour : Int32) (ns : Nat) (ks : Nat) (jd : Nat) (kc : Nat) (mlines : Int32) (nl : Nat) (nc : Nat) (nF : Nat) (np : Nat) (ntr : Nat) (nb : Nat) (mbestCost : Int32) (nso : Nat) (nsi : Nat) (nit : Nat) (nsh : Nat) (nsf : Nat) (nss : Nat) (nrc : Nat) (mtraced : Int32) (mdealer : Int32) (mnumber : Int32) (mwhose : Int32) (msize : Int32) (misParted : Int32) (fnt : Nat → Int32) (fnc : Nat → Int32) (bt : Nat → Int32) (cs : List Int32) (rs : List Int32) (htp : ktp ≤ 240) (hks : ks ≤ ktp) (hFB : FBT fnt bt ktp) (hST : STP kc fnc rs) (h3s : 3 * kc ≤ ks) (hjm : jd + m9 = 4), MVo l G K yX12_either cX12_either 1 (12 + 4 * m9) 0 0 [.ref h0] [(h0, oX12 nw nk mhasKept nt (nI ktp) nr mrowMany mroundOf mroundFrom mouts nm mfromHour mtoHour ns (nI ks) (nI (TKE bt ktp ks)) (nI (TKN bt ktp ks)) 0 (nI jd) (nI kc) mlines nl nc nF np ntr nb mbestCost nso nsi nit nsh nsf nss nrc mtraced mdealer mnumber mwhose msize misParted), (nt, iA G 240 fnt), (nc, iA G 100 fnc), (nF, sA G 5 (FCT K))] (fun u : Int32 × Nat × Nat × (Nat → Int32) × (List Int32) × (List Int32) => (0 = u.1 ∧ RT bt ktp 2 jd 0 ks cs rs (1, u.2.1, u.2.2.2.2.1, u.2.2.2.2.2) ∧ STP u.2.2.1 u.2.2.2.1 u.2.2.2.2.2) ∨ (1 = u.1 ∧ RT bt ktp 2 jd 0 ks cs rs (0, u.2.1, [], []) ∧ u.2.1 ≤ ktp)) (fun u : Int32 × Nat × Nat × (Nat → Int32) × (List Int32) × (List Int32) => [(h0, oX12 nw nk mhasKept nt (nI ktp) nr mrowMany mroundOf mroundFrom mouts nm mfromHour mtoHour ns (nI u.2.1) (nI (TKE bt ktp u.2.1)) (nI (TKN bt ktp u.2.1)) u.1 (nI jd) (nI u.2.2.1) mlines nl nc nF np ntr nb mbestCost nso nsi nit nsh nsf nss nrc mtraced mdealer mnumber mwhose msize misParted), (nt, iA G 240 fnt), (nc, iA G 100 u.2.2.2.1), (nF, sA G 5 (FCT K))])) : K_m_either_step l G K mn h0 nw nk mhasKept nt ktp nr mrowMany mroundOf mroundFrom mouts nm mfromHour mtoHour ns ks jd kc mlines nl nc nF np ntr nb mbestCost nso nsi nit nsh nsf nss nrc mtraced mdealer mnumber mwhose msize misParted fnt fnc bt cs rs := by
  refine MVo.start (by decide +kernel) (Nat.le_of_ble_eq_true rfl) ?_
  intro p e s m below meth c A ls hC hK hP hD hS hA hl hO
  refine absQ (fun Q0 hQ0 => ?_)
  have hl : lv_has ls 1 [(0, .ref h0)] := hl
  refine Kan8 hC (fun hx hb hr hml hB hown hlocks hnm => ?_)
  have tk0 := TKE.ge (bt := bt) (n := ktp) (s := ks) hks
  have hs1 := hST.1
  refine lv_aload_n hx hb gX12_either_0.1 rfl (lv_at0 hl) ?_
  refine vVo (wr := []) hO hC hK hl hP hD hS hA (m_all l G K mn h0 nw nk mhasKept nt ktp nr mrowMany mroundOf mroundFrom mouts nm mfromHour mtoHour ns ks jd kc mlines nl nc nF np ntr nb mbestCost nso nsi nit nsh nsf nss nrc mtraced mdealer mnumber mwhose msize misParted fnt fnc bt cs rs (by omega) (by omega) (hFB) (hST) (by omega) (by omega) ihE) si_X12_243 [0, 1, 2, 3] [] sm_0_1_2_3 fm_0_1_2_3 nd_0_1_2_3 rfl rfl (by decide) rfl rfl rfl rfl rfl (Nat.le_of_ble_eq_true rfl) ⟨by simp only [RM]; omega, by simp only [RM]; omega⟩ ⟨Nat.le_of_ble_eq_true rfl, Nat.le_of_ble_eq_true rfl⟩ gX12_either_0.2.1 (Ktu6 fun ff19331 ks19332 kc19333 gnc9334 c19335 r19336 => ?_)
  intro H locs hr9329 hP hD hS
  try dsimp only at hr9329
  refine Kpdr (ws := [(h0, oX12 nw nk mhasKept nt (nI ktp) nr mrowMany mroundOf mroundFrom mouts nm mfromHour mtoHour ns (nI ks19332) (nI (TKE bt ktp ks19332)) (nI (TKN bt ktp ks19332)) ff19331 (nI jd) (nI kc19333) mlines nl nc nF np ntr nb mbestCost nso nsi nit nsh nsf nss nrc mtraced mdealer mnumber mwhose msize misParted), (nt, iA G 240 fnt), (nc, iA G 100 gnc9334), (nF, sA G 5 (FCT K))]) hP hD (fun hP hD => ?_)
  have w9337 := hr9329
  rcases w9337 with v9338 | v9339
  · obtain ⟨rfl, hq9340, hq9341⟩ := v9338
    have xl9342 := RT.lem hq9340 (by decide) (by omega)
    have xl9343 := hq9341.1
    have keyD : ∀ (nD : Nat) (vks : Nat) (vc : Nat) (vC : Nat → Int32) (H : Heap) (locs : List Loc) (ls : Array Slot), (3 * vc ≤ vks ∧ vks ≤ ktp ∧ 241 ≤ vks + nD) → (RTV bt ktp 2 jd ks cs rs 4 vks vc vC) → va_PD G A [(h0, oX12 nw nk mhasKept nt (nI ktp) nr mrowMany mroundOf mroundFrom mouts nm mfromHour mtoHour ns (nI vks) (nI (TKE bt ktp vks)) (nI (TKN bt ktp vks)) 0 (nI jd) (nI vc) mlines nl nc nF np ntr nb mbestCost nso nsi nit nsh nsf nss nrc mtraced mdealer mnumber mwhose msize misParted), (nt, iA G 240 fnt), (nc, iA G 100 vC), (nF, sA G 5 (FCT K))] H → va_S A s.heap H locs → lv_has ls 1 [(0, .ref h0)] → W p l e (RM (12 + 4 * mn) 0 0) s m ([.ref h0] : List Value).toArray below meth c H locs 0 0 Q0 (F0 m 4 ls []) := by
      intro nD
      induction nD with
      | zero =>
        intro vks vc vC H locs ls hiD hrw hPD hS hl
        refine Kan2 hPD (fun hP hD => ?_)
        exact (show False by omega).elim
      | succ nD ihD =>
        intro vks vc vC H locs ls hiD hrw hPD hS hl
        refine Kan2 hPD (fun hP hD => ?_)
        have tkv := TKE.ge (bt := bt) (n := ktp) (s := vks) (by omega)
        obtain ⟨c9, q9, hst9, hco9⟩ := hrw
        have hsl9 := hst9.1
        refine lv_aload_n hx hb gX12_either_0.2.2.1 rfl (lv_at0 hl) ?_
        refine va_ldcS (index := 246) (tx := "o\x72") hx hb hown (hO.2.2 8 (by decide)) gX12_either_0.2.2.2.1 ?_
        refine pVo hO hS hC hK hl hP hD (m_isNameX l G K 8 h0 nw nk mhasKept nt ktp nr mrowMany mroundOf mroundFrom mouts nm mfromHour mtoHour ns vks (nI jd) (nI vc) mlines nl nc nF np ntr nb mbestCost nso nsi nit nsh nsf nss nrc mtraced mdealer mnumber mwhose msize misParted fnt bt (htp) (by omega) (hFB) ((by decide))) si_X12_248 [0, 1] sm_0_1 fm_0_1 nd_0_1 rfl rfl rfl rfl rfl (Nat.le_of_ble_eq_true rfl) (rmT (Nat.le_of_ble_eq_true rfl) (Nat.le_of_ble_eq_true rfl)) ⟨by first | exact Nat.le_of_ble_eq_true rfl | exact Nat.zero_le _, by first | exact Nat.le_of_ble_eq_true rfl | exact Nat.zero_le _⟩ gX12_either_0.2.2.2.2.1 (Kors (Keqa fun a9345 => ?_) (Keqa fun a9345 => ?_))
        · have hq9346 := a9345
          have xl9347 : vks + 2 ≤ NXT bt ktp vks ∧ NXT bt ktp vks ≤ ktp := WRD.len hq9346 (by omega)
          refine lv_if_eq (tgt := 31) hx hb gX12_either_0.2.2.2.2.2.1 (by decide) (fun c9 => absurd c9 (by decide)) (fun _ => ?_)
          refine lv_aload_n hx hb gX12_either_0.2.2.2.2.2.2.1 rfl (lv_at0 hl) ?_
          refine vV (wr := [(nc, iA G 100 vC), (nF, sA G 5 (FCT K))]) hC hK hl hP hD hS hA (m_nextT l G h0 nw nk mhasKept nt ktp nr mrowMany mroundOf mroundFrom mouts nm mfromHour mtoHour ns vks 0 (nI jd) (nI vc) mlines nl nc nF np ntr nb mbestCost nso nsi nit nsh nsf nss nrc mtraced mdealer mnumber mwhose msize misParted fnt bt (htp) (by omega) (hFB)) si_X12_233 [0, 1] [2, 3] sm_0_1 fm_0_1 nd_0_1 sm_2_3 nd_2_3 dj_0_1__2_3 rfl rfl rfl rfl rfl (Nat.le_of_ble_eq_true rfl) (rmT (Nat.le_of_ble_eq_true rfl) (Nat.le_of_ble_eq_true rfl)) ⟨Nat.le_of_ble_eq_true rfl, Nat.le_of_ble_eq_true rfl⟩ gX12_either_0.2.2.2.2.2.2.2.1 (fun u9349 H locs hr9348 hP hD hS => ?_)
          refine Kpdr (ws := [(nc, iA G 100 vC), (nF, sA G 5 (FCT K)), (h0, oX12 nw nk mhasKept nt (nI ktp) nr mrowMany mroundOf mroundFrom mouts nm mfromHour mtoHour ns (nI (NXT bt ktp vks)) (nI (TKE bt ktp (NXT bt ktp vks))) (nI (TKN bt ktp (NXT bt ktp vks))) 0 (nI jd) (nI vc) mlines nl nc nF np ntr nb mbestCost nso nsi nit nsh nsf nss nrc mtraced mdealer mnumber mwhose msize misParted), (nt, iA G 240 fnt)]) hP hD (fun hP hD => ?_)
          have xn9350 := NXT.ge (bt := bt) (n := ktp) (s := vks) (by omega)
          refine lv_aload_n hx hb gX12_either_0.2.2.2.2.2.2.2.2.1 rfl (lv_at0 hl) ?_
          refine vVo (wr := []) hO hC hK hl hP hD hS hA (m_all l G K mn h0 nw nk mhasKept nt ktp nr mrowMany mroundOf mroundFrom mouts nm mfromHour mtoHour ns (NXT bt ktp vks) jd vc mlines nl nc nF np ntr nb mbestCost nso nsi nit nsh nsf nss nrc mtraced mdealer mnumber mwhose msize misParted fnt vC bt c9 q9 (by omega) (by omega) (hFB) (hst9) (by omega) (by omega) ihE) si_X12_243 [2, 3, 0, 1] [] sm_2_3_0_1 fm_2_3_0_1 nd_2_3_0_1 rfl rfl (by decide) rfl rfl rfl rfl rfl (Nat.le_of_ble_eq_true rfl) ⟨by simp only [RM]; omega, by simp only [RM]; omega⟩ ⟨Nat.le_of_ble_eq_true rfl, Nat.le_of_ble_eq_true rfl⟩ gX12_either_0.2.2.2.2.2.2.2.2.2 (Ktu6 fun ff19353 ks19354 kc19355 gnc9356 c19357 r19358 => ?_)
          intro H locs hr9351 hP hD hS
          try dsimp only at hr9351
          refine Kpdr (ws := [(h0, oX12 nw nk mhasKept nt (nI ktp) nr mrowMany mroundOf mroundFrom mouts nm mfromHour mtoHour ns (nI ks19354) (nI (TKE bt ktp ks19354)) (nI (TKN bt ktp ks19354)) ff19353 (nI jd) (nI kc19355) mlines nl nc nF np ntr nb mbestCost nso nsi nit nsh nsf nss nrc mtraced mdealer mnumber mwhose msize misParted), (nt, iA G 240 fnt), (nc, iA G 100 gnc9356), (nF, sA G 5 (FCT K))]) hP hD (fun hP hD => ?_)
          have w9359 := hr9351
          rcases w9359 with v9360 | v9361
          · obtain ⟨rfl, hq9362, hq9363⟩ := v9360
            have xl9364 := RT.lem hq9362 (by decide) (by omega)
            have xl9365 := hq9363.1
            refine lv_aload_n hx hb gX12_either_1.1 rfl (lv_at0 hl) ?_
            refine lv_sipush (v := 30002) hx hb gX12_either_1.2.1 (by decide) ?_
            refine vV (wr := [(nt, iA G 240 fnt), (nF, sA G 5 (FCT K))]) hC hK hl hP hD hS hA (m_codes0 l G h0 30002 nw nk mhasKept nt (nI ktp) nr mrowMany mroundOf mroundFrom mouts nm mfromHour mtoHour ns (nI ks19354) (nI (TKE bt ktp ks19354)) (nI (TKN bt ktp ks19354)) (nI jd) kc19355 mlines nl nc nF np ntr nb mbestCost nso nsi nit nsh nsf nss nrc mtraced mdealer mnumber mwhose msize misParted gnc9356 (by omega)) si_X12_252 [0, 2] [1, 3] sm_0_2 fm_0_2 nd_0_2 sm_1_3 nd_1_3 dj_0_2__1_3 rfl rfl rfl rfl rfl (Nat.le_of_ble_eq_true rfl) (rmT (Nat.le_of_ble_eq_true rfl) (Nat.le_of_ble_eq_true rfl)) ⟨Nat.le_of_ble_eq_true rfl, Nat.le_of_ble_eq_true rfl⟩ gX12_either_1.2.2.1 (fun u9367 H locs hr9366 hP hD hS => ?_)
            refine Kpdr (ws := [(nt, iA G 240 fnt), (nF, sA G 5 (FCT K)), (h0, oX12 nw nk mhasKept nt (nI ktp) nr mrowMany mroundOf mroundFrom mouts nm mfromHour mtoHour ns (nI ks19354) (nI (TKE bt ktp ks19354)) (nI (TKN bt ktp ks19354)) 0 (nI jd) (nI (kc19355 + 1)) mlines nl nc nF np ntr nb mbestCost nso nsi nit nsh nsf nss nrc mtraced mdealer mnumber mwhose msize misParted), (nc, iA G 100 (upd gnc9356 kc19355 30002))]) hP hD (fun hP hD => ?_)
            refine lv_goto (tgt := 4) hx hb gX12_either_1.2.2.2.1 (by decide) ?_
            refine Kpds (ws' := [(h0, oX12 nw nk mhasKept nt (nI ktp) nr mrowMany mroundOf mroundFrom mouts nm mfromHour mtoHour ns (nI ks19354) (nI (TKE bt ktp ks19354)) (nI (TKN bt ktp ks19354)) 0 (nI jd) (nI (kc19355 + 1)) mlines nl nc nF np ntr nb mbestCost nso nsi nit nsh nsf nss nrc mtraced mdealer mnumber mwhose msize misParted), (nt, iA G 240 fnt), (nc, iA G 100 (upd gnc9356 kc19355 30002)), (nF, sA G 5 (FCT K))]) hP hD [2, 0, 3, 1] fm_2_0_3_1 nd_2_0_3_1 sm_2_0_3_1 (fun hP hD => ?_)
            exact ihD ks19354 (kc19355 + 1) (upd gnc9356 kc19355 30002) _ _ _ (by omega) (⟨_, _, STP.push hq9363, fun r h9 => hco9 r (RT.orG hq9346 hq9362 h9)⟩) (And.intro hP hD) hS (lv_sub hl [0] rfl)
          · obtain ⟨rfl, hq9368, hq9369⟩ := v9361
            refine lv_aload_n hx hb gX12_either_1.1 rfl (lv_at0 hl) ?_
            refine lv_sipush (v := 30002) hx hb gX12_either_1.2.1 (by decide) ?_
            refine vV (wr := [(nt, iA G 240 fnt), (nc, iA G 100 gnc9356), (nF, sA G 5 (FCT K))]) hC hK hl hP hD hS hA (m_codesF l G h0 30002 nw nk mhasKept nt (nI ktp) nr mrowMany mroundOf mroundFrom mouts nm mfromHour mtoHour ns (nI ks19354) (nI (TKE bt ktp ks19354)) (nI (TKN bt ktp ks19354)) (nI jd) (nI kc19355) mlines nl nc nF np ntr nb mbestCost nso nsi nit nsh nsf nss nrc mtraced mdealer mnumber mwhose msize misParted) si_X12_252 [0] [1, 2, 3] sm_0 fm_0 nd_0 sm_1_2_3 nd_1_2_3 dj_0__1_2_3 rfl rfl rfl rfl rfl (Nat.le_of_ble_eq_true rfl) (rmT (Nat.le_of_ble_eq_true rfl) (Nat.le_of_ble_eq_true rfl)) ⟨Nat.le_of_ble_eq_true rfl, Nat.le_of_ble_eq_true rfl⟩ gX12_either_1.2.2.1 (fun u9371 H locs hr9370 hP hD hS => ?_)
            refine Kpdr (ws := [(nt, iA G 240 fnt), (nc, iA G 100 gnc9356), (nF, sA G 5 (FCT K)), (h0, oX12 nw nk mhasKept nt (nI ktp) nr mrowMany mroundOf mroundFrom mouts nm mfromHour mtoHour ns (nI ks19354) (nI (TKE bt ktp ks19354)) (nI (TKN bt ktp ks19354)) 1 (nI jd) (nI kc19355) mlines nl nc nF np ntr nb mbestCost nso nsi nit nsh nsf nss nrc mtraced mdealer mnumber mwhose msize misParted)]) hP hD (fun hP hD => ?_)
            refine lv_goto (tgt := 4) hx hb gX12_either_1.2.2.2.1 (by decide) ?_
            refine lv_aload_n hx hb gX12_either_0.2.2.1 rfl (lv_at0 hl) ?_
            refine va_ldcS (index := 246) (tx := "o\x72") hx hb hown (hO.2.2 8 (by decide)) gX12_either_0.2.2.2.1 ?_
            refine pVo hO hS hC hK hl hP hD (m_isNameF l G K 8 h0 nw nk mhasKept nt (nI ktp) nr mrowMany mroundOf mroundFrom mouts nm mfromHour mtoHour ns (nI ks19354) (nI (TKE bt ktp ks19354)) (nI (TKN bt ktp ks19354)) (nI jd) (nI kc19355) mlines nl nc nF np ntr nb mbestCost nso nsi nit nsh nsf nss nrc mtraced mdealer mnumber mwhose msize misParted ((by decide))) si_X12_248 [3] sm_3 fm_3 nd_3 rfl rfl rfl rfl rfl (Nat.le_of_ble_eq_true rfl) (rmT (Nat.le_of_ble_eq_true rfl) (Nat.le_of_ble_eq_true rfl)) ⟨by first | exact Nat.le_of_ble_eq_true rfl | exact Nat.zero_le _, by first | exact Nat.le_of_ble_eq_true rfl | exact Nat.zero_le _⟩ gX12_either_0.2.2.2.2.1 (Keqr ?_)
            refine lv_if_eq (tgt := 31) hx hb gX12_either_0.2.2.2.2.2.1 (by decide) (fun _ => ?_) (fun c9 => absurd (by decide) c9)
            refine toQ hQ0 ?_
            exact RV hC hP hD hS [3, 0, 1, 2] (1, ks19354, kc19355, gnc9356, [], []) rfl rfl (by decide) (Or.inr ⟨rfl, hco9 _ (RT.orF hq9346 hq9368 rfl), by (try dsimp only); omega⟩) gX12_either_1.2.2.2.2
        · have hq9374 := a9345
          refine lv_if_eq (tgt := 31) hx hb gX12_either_0.2.2.2.2.2.1 (by decide) (fun _ => ?_) (fun c9 => absurd (by decide) c9)
          refine toQ hQ0 ?_
          exact RV hC hP hD hS [0, 1, 2, 3] (0, vks, vc, vC, c9, q9) rfl rfl (by decide) (Or.inl ⟨rfl, hco9 _ (RT.orE hq9374), hst9⟩) gX12_either_1.2.2.2.2
    exact keyD 241 ks19332 kc19333 gnc9334 _ _ _ (by omega) (⟨c19335, r19336, hq9341, fun _ h9 => RT.conG hq9340 h9⟩) (And.intro hP hD) hS (lv_sub hl [0] rfl)
  · obtain ⟨rfl, hq9375, hq9376⟩ := v9339
    refine lv_aload_n hx hb gX12_either_0.2.2.1 rfl (lv_at0 hl) ?_
    refine va_ldcS (index := 246) (tx := "o\x72") hx hb hown (hO.2.2 8 (by decide)) gX12_either_0.2.2.2.1 ?_
    refine pVo hO hS hC hK hl hP hD (m_isNameF l G K 8 h0 nw nk mhasKept nt (nI ktp) nr mrowMany mroundOf mroundFrom mouts nm mfromHour mtoHour ns (nI ks19332) (nI (TKE bt ktp ks19332)) (nI (TKN bt ktp ks19332)) (nI jd) (nI kc19333) mlines nl nc nF np ntr nb mbestCost nso nsi nit nsh nsf nss nrc mtraced mdealer mnumber mwhose msize misParted ((by decide))) si_X12_248 [0] sm_0 fm_0 nd_0 rfl rfl rfl rfl rfl (Nat.le_of_ble_eq_true rfl) (rmT (Nat.le_of_ble_eq_true rfl) (Nat.le_of_ble_eq_true rfl)) ⟨by first | exact Nat.le_of_ble_eq_true rfl | exact Nat.zero_le _, by first | exact Nat.le_of_ble_eq_true rfl | exact Nat.zero_le _⟩ gX12_either_0.2.2.2.2.1 (Keqr ?_)
    refine lv_if_eq (tgt := 31) hx hb gX12_either_0.2.2.2.2.2.1 (by decide) (fun _ => ?_) (fun c9 => absurd (by decide) c9)
    refine toQ hQ0 ?_
    exact RV hC hP hD hS [0, 1, 2, 3] (1, ks19332, kc19333, gnc9334, [], []) rfl rfl (by decide) (Or.inr ⟨rfl, RT.conF hq9375 rfl, by (try dsimp only); omega⟩) gX12_either_1.2.2.2.2
theorem m_either (l : Launch) (G : GG) (K : OO) : ∀ (mn : Nat) (h0 : Nat) (nw : Nat) (nk : Nat) (mhasKept : Int32) (nt : Nat) (ktp : Nat) (nr : Nat) (mrowMany : Int32) (mroundOf : Int32) (mroundFrom : Int32) (mouts : Int32) (nm : Nat) (mfromHour : Int32) (mtoHour : Int32) (ns : Nat) (ks : Nat) (jd : Nat) (kc : Nat) (mlines : Int32) (nl : Nat) (nc : Nat) (nF : Nat) (np : Nat) (ntr : Nat) (nb : Nat) (mbestCost : Int32) (nso : Nat) (nsi : Nat) (nit : Nat) (nsh : Nat) (nsf : Nat) (nss : Nat) (nrc : Nat) (mtraced : Int32) (mdealer : Int32) (mnumber : Int32) (mwhose : Int32) (msize : Int32) (misParted : Int32) (fnt : Nat → Int32) (fnc : Nat → Int32) (bt : Nat → Int32) (cs : List Int32) (rs : List Int32) (htp : ktp ≤ 240) (hks : ks ≤ ktp) (hFB : FBT fnt bt ktp) (hST : STP kc fnc rs) (h3s : 3 * kc ≤ ks) (hjm : jd + mn = 4), MVo l G K yX12_either cX12_either 1 (12 + 4 * mn) 0 0 [.ref h0] [(h0, oX12 nw nk mhasKept nt (nI ktp) nr mrowMany mroundOf mroundFrom mouts nm mfromHour mtoHour ns (nI ks) (nI (TKE bt ktp ks)) (nI (TKN bt ktp ks)) 0 (nI jd) (nI kc) mlines nl nc nF np ntr nb mbestCost nso nsi nit nsh nsf nss nrc mtraced mdealer mnumber mwhose msize misParted), (nt, iA G 240 fnt), (nc, iA G 100 fnc), (nF, sA G 5 (FCT K))] (fun u : Int32 × Nat × Nat × (Nat → Int32) × (List Int32) × (List Int32) => (0 = u.1 ∧ RT bt ktp 2 jd 0 ks cs rs (1, u.2.1, u.2.2.2.2.1, u.2.2.2.2.2) ∧ STP u.2.2.1 u.2.2.2.1 u.2.2.2.2.2) ∨ (1 = u.1 ∧ RT bt ktp 2 jd 0 ks cs rs (0, u.2.1, [], []) ∧ u.2.1 ≤ ktp)) (fun u : Int32 × Nat × Nat × (Nat → Int32) × (List Int32) × (List Int32) => [(h0, oX12 nw nk mhasKept nt (nI ktp) nr mrowMany mroundOf mroundFrom mouts nm mfromHour mtoHour ns (nI u.2.1) (nI (TKE bt ktp u.2.1)) (nI (TKN bt ktp u.2.1)) u.1 (nI jd) (nI u.2.2.1) mlines nl nc nF np ntr nb mbestCost nso nsi nit nsh nsf nss nrc mtraced mdealer mnumber mwhose msize misParted), (nt, iA G 240 fnt), (nc, iA G 100 u.2.2.2.1), (nF, sA G 5 (FCT K))]) := by
  intro mn
  induction mn using Nat.strongRecOn with
  | ind mn ih => exact fun h0 nw nk mhasKept nt ktp nr mrowMany mroundOf mroundFrom mouts nm mfromHour mtoHour ns ks jd kc mlines nl nc nF np ntr nb mbestCost nso nsi nit nsh nsf nss nrc mtraced mdealer mnumber mwhose msize misParted fnt fnc bt cs rs htp hks hFB hST h3s hjm => m_either_step l G K mn h0 nw nk mhasKept nt ktp nr mrowMany mroundOf mroundFrom mouts nm mfromHour mtoHour ns ks jd kc mlines nl nc nF np ntr nb mbestCost nso nsi nit nsh nsf nss nrc mtraced mdealer mnumber mwhose msize misParted fnt fnc bt cs rs htp hks hFB hST h3s hjm ih
def K_m_lineAt (l : Launch) (G : GG) (K : OO) (h0 : Nat) (nw : Nat) (nk : Nat) (mhasKept : Int32) (nt : Nat) (ktp : Nat) (nr : Nat) (mrowMany : Int32) (mroundOf : Int32) (mroundFrom : Int32) (mouts : Int32) (nm : Nat) (mfromHour : Int32) (mtoHour : Int32) (ns : Nat) (ks : Nat) (kc : Nat) (kl : Nat) (nl : Nat) (nc : Nat) (nF : Nat) (np : Nat) (ntr : Nat) (nb : Nat) (mbestCost : Int32) (nso : Nat) (nsi : Nat) (nit : Nat) (nsh : Nat) (nsf : Nat) (nss : Nat) (nrc : Nat) (mtraced : Int32) (mdealer : Int32) (mnumber : Int32) (mwhose : Int32) (msize : Int32) (misParted : Int32) (fnt : Nat → Int32) (fnc : Nat → Int32) (fnl : Nat → Int32) (bt : Nat → Int32) (cs : List Int32) (rs : List Int32) : Prop := MVo l G K yX12_lineAt cX12_lineAt 3 32 0 0 [.ref h0, .int (nI (6 * kl))] [(h0, oX12 nw nk mhasKept nt (nI ktp) nr mrowMany mroundOf mroundFrom mouts nm mfromHour mtoHour ns (nI ks) (nI (TKE bt ktp ks)) (nI (TKN bt ktp ks)) 0 0 (nI kc) (nI kl) nl nc nF np ntr nb mbestCost nso nsi nit nsh nsf nss nrc mtraced mdealer mnumber mwhose msize misParted), (nt, iA G 240 fnt), (nc, iA G 100 fnc), (nl, iA G 54 fnl), (nF, sA G 5 (FCT K))] (fun u : Int32 × Nat × Nat × (Nat → Int32) × (Nat → Int32) × LNT × (List Int32) × (List Int32) => (0 = u.1 ∧ RLN bt ktp ks cs rs (1, u.2.1, u.2.2.2.2.2.1, u.2.2.2.2.2.2.1, u.2.2.2.2.2.2.2) ∧ STP u.2.2.1 u.2.2.2.1 u.2.2.2.2.2.2.2 ∧ LNM fnl u.2.2.2.2.1 kl u.2.2.2.2.2.1 ∧ 3 * u.2.2.1 ≤ u.2.1 ∧ u.2.1 ≤ ktp) ∨ (1 = u.1 ∧ RLN bt ktp ks cs rs (0, u.2.1, LN0, [], []) ∧ u.2.1 ≤ ktp)) (fun u : Int32 × Nat × Nat × (Nat → Int32) × (Nat → Int32) × LNT × (List Int32) × (List Int32) => [(h0, oX12 nw nk mhasKept nt (nI ktp) nr mrowMany mroundOf mroundFrom mouts nm mfromHour mtoHour ns (nI u.2.1) (nI (TKE bt ktp u.2.1)) (nI (TKN bt ktp u.2.1)) u.1 0 (nI u.2.2.1) (nI kl) nl nc nF np ntr nb mbestCost nso nsi nit nsh nsf nss nrc mtraced mdealer mnumber mwhose msize misParted), (nt, iA G 240 fnt), (nc, iA G 100 u.2.2.2.1), (nl, iA G 54 u.2.2.2.2.1), (nF, sA G 5 (FCT K))])
set_option maxHeartbeats 4000000 in
set_option maxRecDepth 100000 in
theorem m_lineAt (l : Launch) (G : GG) (K : OO) (h0 : Nat) (nw : Nat) (nk : Nat) (mhasKept : Int32) (nt : Nat) (ktp : Nat) (nr : Nat) (mrowMany : Int32) (mroundOf : Int32) (mroundFrom : Int32) (mouts : Int32) (nm : Nat) (mfromHour : Int32) (mtoHour : Int32) (ns : Nat) (ks : Nat) (kc : Nat) (kl : Nat) (nl : Nat) (nc : Nat) (nF : Nat) (np : Nat) (ntr : Nat) (nb : Nat) (mbestCost : Int32) (nso : Nat) (nsi : Nat) (nit : Nat) (nsh : Nat) (nsf : Nat) (nss : Nat) (nrc : Nat) (mtraced : Int32) (mdealer : Int32) (mnumber : Int32) (mwhose : Int32) (msize : Int32) (misParted : Int32) (fnt : Nat → Int32) (fnc : Nat → Int32) (fnl : Nat → Int32) (bt : Nat → Int32) (cs : List Int32) (rs : List Int32) (htp : ktp ≤ 240) (hks : ks ≤ ktp) (hFB : FBT fnt bt ktp) (hST : STP kc fnc rs) (h3s : 3 * kc ≤ ks) (hkl : kl < 9) : K_m_lineAt l G K h0 nw nk mhasKept nt ktp nr mrowMany mroundOf mroundFrom mouts nm mfromHour mtoHour ns ks kc kl nl nc nF np ntr nb mbestCost nso nsi nit nsh nsf nss nrc mtraced mdealer mnumber mwhose msize misParted fnt fnc fnl bt cs rs := by
  refine MVo.start (by decide +kernel) (Nat.le_of_ble_eq_true rfl) ?_
  intro p e s m below meth c A ls hC hK hP hD hS hA hl hO
  refine absQ (fun Q0 hQ0 => ?_)
  have hl : lv_has ls 3 [(0, .ref h0), (1, .int (nI (6 * kl)))] := hl
  refine Kan8 hC (fun hx hb hr hml hB hown hlocks hnm => ?_)
  have tk0 := TKE.ge (bt := bt) (n := ktp) (s := ks) hks
  have hs1 := hST.1
  refine lv_aload_n hx hb gX12_lineAt_0.1 rfl (lv_at0 hl) ?_
  refine va_ldcSw (index := 274) (tx := "taken") hx hb hown (hO.2.2 1 (by decide)) gX12_lineAt_0.2.1 ?_
  refine pVo hO hS hC hK hl hP hD (m_isNameX l G K 1 h0 nw nk mhasKept nt ktp nr mrowMany mroundOf mroundFrom mouts nm mfromHour mtoHour ns ks 0 (nI kc) (nI kl) nl nc nF np ntr nb mbestCost nso nsi nit nsh nsf nss nrc mtraced mdealer mnumber mwhose msize misParted fnt bt (htp) (hks) (hFB) ((by decide))) si_X12_248 [0, 1] sm_0_1 fm_0_1 nd_0_1 rfl rfl rfl rfl rfl (Nat.le_of_ble_eq_true rfl) rm_32_5_4 ⟨by first | exact Nat.le_of_ble_eq_true rfl | exact Nat.zero_le _, by first | exact Nat.le_of_ble_eq_true rfl | exact Nat.zero_le _⟩ gX12_lineAt_0.2.2.1 (Kors (Keqa fun a9380 => ?_) (Keqa fun a9380 => ?_))
  · have hq9381 := a9380
    have xl9382 : ks + 5 ≤ NXT bt ktp ks ∧ NXT bt ktp ks ≤ ktp := WRD.len hq9381 (by omega)
    refine lv_if_eq (tgt := 14) hx hb gX12_lineAt_0.2.2.2.1 (by decide) (fun c9 => absurd c9 (by decide)) (fun _ => ?_)
    refine lv_iconst (v := 0) hx hb gX12_lineAt_0.2.2.2.2.1 (by decide) ?_
    refine lv_goto (tgt := 57) hx hb gX12_lineAt_0.2.2.2.2.2.1 (by decide) ?_
    refine lv_istore_n (lv' := [(2, .int 0), (0, .ref h0), (1, .int (nI (6 * kl)))]) hx hb gX12_lineAt_2.2.2.2.2.2.1 rfl hl (by decide) rfl (fun ls hl => ?_)
    refine lv_aload_n hx hb gX12_lineAt_2.2.2.2.2.2.2.1 rfl (lv_at1 hl) ?_
    refine lv_iload_n hx hb gX12_lineAt_2.2.2.2.2.2.2.2.1 rfl (lv_at0 hl) ?_
    refine lv_if_lt (tgt := 67) hx hb gX12_lineAt_2.2.2.2.2.2.2.2.2.1 (by decide) (fun c9 => absurd c9 (by decide)) (fun _ => ?_)
    refine lv_iconst (v := 1) hx hb gX12_lineAt_2.2.2.2.2.2.2.2.2.2 (by decide) ?_
    refine lv_goto (tgt := 68) hx hb gX12_lineAt_3.1 (by decide) ?_
    refine vV (wr := [(nc, iA G 100 fnc), (nl, iA G 54 fnl), (nF, sA G 5 (FCT K))]) hC hK hl hP hD hS hA (m_need1X l G h0 nw nk mhasKept nt ktp nr mrowMany mroundOf mroundFrom mouts nm mfromHour mtoHour ns ks 0 (nI kc) (nI kl) nl nc nF np ntr nb mbestCost nso nsi nit nsh nsf nss nrc mtraced mdealer mnumber mwhose msize misParted fnt bt (htp) (hks) (hFB)) si_X12_236 [0, 1] [2, 3, 4] sm_0_1 fm_0_1 nd_0_1 sm_2_3_4 nd_2_3_4 dj_0_1__2_3_4 rfl rfl rfl rfl rfl (Nat.le_of_ble_eq_true rfl) rm_32_4_2 ⟨Nat.le_of_ble_eq_true rfl, Nat.le_of_ble_eq_true rfl⟩ gX12_lineAt_3.2.2.1 (fun u9384 H locs hr9383 hP hD hS => ?_)
    refine Kpdr (ws := [(nc, iA G 100 fnc), (nl, iA G 54 fnl), (nF, sA G 5 (FCT K)), (h0, oX12 nw nk mhasKept nt (nI ktp) nr mrowMany mroundOf mroundFrom mouts nm mfromHour mtoHour ns (nI (NXT bt ktp ks)) (nI (TKE bt ktp (NXT bt ktp ks))) (nI (TKN bt ktp (NXT bt ktp ks))) 0 0 (nI kc) (nI kl) nl nc nF np ntr nb mbestCost nso nsi nit nsh nsf nss nrc mtraced mdealer mnumber mwhose msize misParted), (nt, iA G 240 fnt)]) hP hD (fun hP hD => ?_)
    have xn9385 := NXT.ge (bt := bt) (n := ktp) (s := ks) (by omega)
    refine lv_aload_n hx hb gX12_lineAt_3.2.2.2.1 rfl (lv_at1 hl) ?_
    refine gf_X12_32 hC rfl hK hP 3 rfl rfl gX12_lineAt_3.2.2.2.2.1 ?_
    refine lv_iload_n hx hb gX12_lineAt_3.2.2.2.2.2.1 rfl (lv_at2 hl) ?_
    refine lv_iload_n hx hb gX12_lineAt_3.2.2.2.2.2.2.1 rfl (lv_at0 hl) ?_
    refine astN hC hK hP hD hS 1 (ws' := [(nc, iA G 100 fnc), (nl, iA G 54 (upd fnl (6 * kl) 0)), (nF, sA G 5 (FCT K)), (h0, oX12 nw nk mhasKept nt (nI ktp) nr mrowMany mroundOf mroundFrom mouts nm mfromHour mtoHour ns (nI (NXT bt ktp ks)) (nI (TKE bt ktp (NXT bt ktp ks))) (nI (TKN bt ktp (NXT bt ktp ks))) 0 0 (nI kc) (nI kl) nl nc nF np ntr nb mbestCost nso nsi nit nsh nsf nss nrc mtraced mdealer mnumber mwhose msize misParted), (nt, iA G 240 fnt)]) rfl (k := (6 * kl)) (by omega) (Nat.le_of_ble_eq_true rfl) (rfl) gX12_lineAt_3.2.2.2.2.2.2.2.1 (fun H locs hP hD hS => ?_)
    refine lv_aload_n hx hb gX12_lineAt_3.2.2.2.2.2.2.2.2.1 rfl (lv_at1 hl) ?_
    refine gf_X12_32 hC rfl hK hP 3 rfl rfl gX12_lineAt_3.2.2.2.2.2.2.2.2.2 ?_
    refine lv_iload_n hx hb gX12_lineAt_4.1 rfl (lv_at2 hl) ?_
    refine lv_iconst (v := 1) hx hb gX12_lineAt_4.2.1 (by decide) ?_
    refine lv_iadd hx hb gX12_lineAt_4.2.2.1 ?_
    refine eqi (x1 := nI (6 * kl + 1)) (nI_add (6 * kl) 1) ?_
    refine lv_aload_n hx hb gX12_lineAt_4.2.2.2.1 rfl (lv_at1 hl) ?_
    refine lv_iload_n hx hb gX12_lineAt_4.2.2.2.2.1 rfl (lv_at0 hl) ?_
    refine lv_if_eq (tgt := 95) hx hb gX12_lineAt_4.2.2.2.2.2.1 (by decide) (fun _ => ?_) (fun c9 => absurd (by decide) c9)
    refine lv_bipush (v := 99) hx hb gX12_lineAt_4.2.2.2.2.2.2.2.2.2 (by decide) ?_
    refine lv_goto (tgt := 112) hx hb gX12_lineAt_5.1 (by decide) ?_
    refine iV (wr := [(nc, iA G 100 fnc), (nl, iA G 54 (upd fnl (6 * kl) 0)), (nF, sA G 5 (FCT K))]) hC hK hl hP hD hS hA (m_numberX l G h0 99 nw nk mhasKept nt ktp nr mrowMany mroundOf mroundFrom mouts nm mfromHour mtoHour ns (NXT bt ktp ks) 0 (nI kc) (nI kl) nl nc nF np ntr nb mbestCost nso nsi nit nsh nsf nss nrc mtraced mdealer mnumber mwhose msize misParted fnt bt (htp) (by omega) (hFB) (by omega)) si_X12_271 [3, 4] [0, 1, 2] sm_3_4 fm_3_4 nd_3_4 sm_0_1_2 nd_0_1_2 dj_3_4__0_1_2 rfl rfl rfl rfl rfl (Nat.le_of_ble_eq_true rfl) rm_32_5_5 ⟨Nat.le_of_ble_eq_true rfl, Nat.le_of_ble_eq_true rfl⟩ gX12_lineAt_5.2.2.2.2.2.2.2.1 (fun r9386 => Ktu2 fun ff19388 ks19389 => ?_)
    intro H locs hr9386 hP hD hS
    try dsimp only at hr9386
    refine Kpdr (ws := [(nc, iA G 100 fnc), (nl, iA G 54 (upd fnl (6 * kl) 0)), (nF, sA G 5 (FCT K)), (h0, oX12 nw nk mhasKept nt (nI ktp) nr mrowMany mroundOf mroundFrom mouts nm mfromHour mtoHour ns (nI ks19389) (nI (TKE bt ktp ks19389)) (nI (TKN bt ktp ks19389)) ff19388 0 (nI kc) (nI kl) nl nc nF np ntr nb mbestCost nso nsi nit nsh nsf nss nrc mtraced mdealer mnumber mwhose msize misParted), (nt, iA G 240 fnt)]) hP hD (fun hP hD => ?_)
    obtain ⟨hr9386, w9390⟩ := hr9386
    rcases w9390 with v9391 | v9392
    · obtain ⟨rfl, rfl, rfl, hq9393⟩ := v9391
      have xl9394 := NML.len hq9393 (by omega)
      refine astN hC hK hP hD hS 1 (ws' := [(nc, iA G 100 fnc), (nl, iA G 54 (upd (upd fnl (6 * kl) 0) (6 * kl + 1) (nI (NVL bt ktp (NXT bt ktp ks))))), (nF, sA G 5 (FCT K)), (h0, oX12 nw nk mhasKept nt (nI ktp) nr mrowMany mroundOf mroundFrom mouts nm mfromHour mtoHour ns (nI (NXT bt ktp (NXT bt ktp ks))) (nI (TKE bt ktp (NXT bt ktp (NXT bt ktp ks)))) (nI (TKN bt ktp (NXT bt ktp (NXT bt ktp ks)))) 0 0 (nI kc) (nI kl) nl nc nF np ntr nb mbestCost nso nsi nit nsh nsf nss nrc mtraced mdealer mnumber mwhose msize misParted), (nt, iA G 240 fnt)]) rfl (k := (6 * kl + 1)) (by omega) (Nat.le_of_ble_eq_true rfl) (rfl) gX12_lineAt_5.2.2.2.2.2.2.2.2.1 (fun H locs hP hD hS => ?_)
      refine lv_aload_n hx hb gX12_lineAt_5.2.2.2.2.2.2.2.2.2 rfl (lv_at1 hl) ?_
      refine gf_X12_32 hC rfl hK hP 3 rfl rfl gX12_lineAt_6.1 ?_
      refine lv_iload_n hx hb gX12_lineAt_6.2.1 rfl (lv_at2 hl) ?_
      refine lv_iconst (v := 2) hx hb gX12_lineAt_6.2.2.1 (by decide) ?_
      refine lv_iadd hx hb gX12_lineAt_6.2.2.2.1 ?_
      refine eqi (x1 := nI (6 * kl + 2)) (nI_add (6 * kl) 2) ?_
      refine lv_bipush (v := (-9)) hx hb gX12_lineAt_6.2.2.2.2.1 (by decide) ?_
      refine astN hC hK hP hD hS 1 (ws' := [(nc, iA G 100 fnc), (nl, iA G 54 (upd (upd (upd fnl (6 * kl) 0) (6 * kl + 1) (nI (NVL bt ktp (NXT bt ktp ks)))) (6 * kl + 2) (-9))), (nF, sA G 5 (FCT K)), (h0, oX12 nw nk mhasKept nt (nI ktp) nr mrowMany mroundOf mroundFrom mouts nm mfromHour mtoHour ns (nI (NXT bt ktp (NXT bt ktp ks))) (nI (TKE bt ktp (NXT bt ktp (NXT bt ktp ks)))) (nI (TKN bt ktp (NXT bt ktp (NXT bt ktp ks)))) 0 0 (nI kc) (nI kl) nl nc nF np ntr nb mbestCost nso nsi nit nsh nsf nss nrc mtraced mdealer mnumber mwhose msize misParted), (nt, iA G 240 fnt)]) rfl (k := (6 * kl + 2)) (by omega) (Nat.le_of_ble_eq_true rfl) (rfl) gX12_lineAt_6.2.2.2.2.2.1 (fun H locs hP hD hS => ?_)
      refine lv_aload_n hx hb gX12_lineAt_6.2.2.2.2.2.2.1 rfl (lv_at1 hl) ?_
      refine gf_X12_32 hC rfl hK hP 3 rfl rfl gX12_lineAt_6.2.2.2.2.2.2.2.1 ?_
      refine lv_iload_n hx hb gX12_lineAt_6.2.2.2.2.2.2.2.2.1 rfl (lv_at2 hl) ?_
      refine lv_iconst (v := 3) hx hb gX12_lineAt_6.2.2.2.2.2.2.2.2.2 (by decide) ?_
      refine lv_iadd hx hb gX12_lineAt_7.1 ?_
      refine eqi (x1 := nI (6 * kl + 3)) (nI_add (6 * kl) 3) ?_
      refine lv_bipush (v := (-9)) hx hb gX12_lineAt_7.2.1 (by decide) ?_
      refine astN hC hK hP hD hS 1 (ws' := [(nc, iA G 100 fnc), (nl, iA G 54 (upd (upd (upd (upd fnl (6 * kl) 0) (6 * kl + 1) (nI (NVL bt ktp (NXT bt ktp ks)))) (6 * kl + 2) (-9)) (6 * kl + 3) (-9))), (nF, sA G 5 (FCT K)), (h0, oX12 nw nk mhasKept nt (nI ktp) nr mrowMany mroundOf mroundFrom mouts nm mfromHour mtoHour ns (nI (NXT bt ktp (NXT bt ktp ks))) (nI (TKE bt ktp (NXT bt ktp (NXT bt ktp ks)))) (nI (TKN bt ktp (NXT bt ktp (NXT bt ktp ks)))) 0 0 (nI kc) (nI kl) nl nc nF np ntr nb mbestCost nso nsi nit nsh nsf nss nrc mtraced mdealer mnumber mwhose msize misParted), (nt, iA G 240 fnt)]) rfl (k := (6 * kl + 3)) (by omega) (Nat.le_of_ble_eq_true rfl) (rfl) gX12_lineAt_7.2.2.1 (fun H locs hP hD hS => ?_)
      refine lv_iload_n hx hb gX12_lineAt_7.2.2.2.1 rfl (lv_at0 hl) ?_
      refine lv_if_ne (tgt := 190) hx hb gX12_lineAt_7.2.2.2.2.1 (by decide) (fun c9 => absurd (by decide) c9) (fun _ => ?_)
      refine lv_aload_n hx hb gX12_lineAt_7.2.2.2.2.2.1 rfl (lv_at1 hl) ?_
      refine lv_aload_n hx hb gX12_lineAt_7.2.2.2.2.2.2.1 rfl (lv_at1 hl) ?_
      refine va_ldcSw (index := 282) (tx := "of") hx hb hown (hO.2.2 5 (by decide)) gX12_lineAt_7.2.2.2.2.2.2.2.1 ?_
      refine pVo hO hS hC hK hl hP hD (m_isNameX l G K 5 h0 nw nk mhasKept nt ktp nr mrowMany mroundOf mroundFrom mouts nm mfromHour mtoHour ns (NXT bt ktp (NXT bt ktp ks)) 0 (nI kc) (nI kl) nl nc nF np ntr nb mbestCost nso nsi nit nsh nsf nss nrc mtraced mdealer mnumber mwhose msize misParted fnt bt (htp) (by omega) (hFB) ((by decide))) si_X12_248 [3, 4] sm_3_4 fm_3_4 nd_3_4 rfl rfl rfl rfl rfl (Nat.le_of_ble_eq_true rfl) rm_32_5_4 ⟨by first | exact Nat.le_of_ble_eq_true rfl | exact Nat.zero_le _, by first | exact Nat.le_of_ble_eq_true rfl | exact Nat.zero_le _⟩ gX12_lineAt_7.2.2.2.2.2.2.2.2.1 (Kors (Keqa fun a9396 => ?_) (Keqa fun a9396 => ?_))
      · have hq9397 := a9396
        have xl9398 : (NXT bt ktp (NXT bt ktp ks)) + 2 ≤ NXT bt ktp (NXT bt ktp (NXT bt ktp ks)) ∧ NXT bt ktp (NXT bt ktp (NXT bt ktp ks)) ≤ ktp := WRD.len hq9397 (by omega)
        refine vV (wr := [(nc, iA G 100 fnc), (nl, iA G 54 (upd (upd (upd (upd fnl (6 * kl) 0) (6 * kl + 1) (nI (NVL bt ktp (NXT bt ktp ks)))) (6 * kl + 2) (-9)) (6 * kl + 3) (-9))), (nF, sA G 5 (FCT K))]) hC hK hl hP hD hS hA (m_need1X l G h0 nw nk mhasKept nt ktp nr mrowMany mroundOf mroundFrom mouts nm mfromHour mtoHour ns (NXT bt ktp (NXT bt ktp ks)) 0 (nI kc) (nI kl) nl nc nF np ntr nb mbestCost nso nsi nit nsh nsf nss nrc mtraced mdealer mnumber mwhose msize misParted fnt bt (htp) (by omega) (hFB)) si_X12_236 [3, 4] [0, 1, 2] sm_3_4 fm_3_4 nd_3_4 sm_0_1_2 nd_0_1_2 dj_3_4__0_1_2 rfl rfl rfl rfl rfl (Nat.le_of_ble_eq_true rfl) rm_32_4_2 ⟨Nat.le_of_ble_eq_true rfl, Nat.le_of_ble_eq_true rfl⟩ gX12_lineAt_7.2.2.2.2.2.2.2.2.2 (fun u9400 H locs hr9399 hP hD hS => ?_)
        refine Kpdr (ws := [(nc, iA G 100 fnc), (nl, iA G 54 (upd (upd (upd (upd fnl (6 * kl) 0) (6 * kl + 1) (nI (NVL bt ktp (NXT bt ktp ks)))) (6 * kl + 2) (-9)) (6 * kl + 3) (-9))), (nF, sA G 5 (FCT K)), (h0, oX12 nw nk mhasKept nt (nI ktp) nr mrowMany mroundOf mroundFrom mouts nm mfromHour mtoHour ns (nI (NXT bt ktp (NXT bt ktp (NXT bt ktp ks)))) (nI (TKE bt ktp (NXT bt ktp (NXT bt ktp (NXT bt ktp ks))))) (nI (TKN bt ktp (NXT bt ktp (NXT bt ktp (NXT bt ktp ks))))) 0 0 (nI kc) (nI kl) nl nc nF np ntr nb mbestCost nso nsi nit nsh nsf nss nrc mtraced mdealer mnumber mwhose msize misParted), (nt, iA G 240 fnt)]) hP hD (fun hP hD => ?_)
        have xn9401 := NXT.ge (bt := bt) (n := ktp) (s := (NXT bt ktp (NXT bt ktp ks))) (by omega)
        refine lv_aload_n hx hb gX12_lineAt_8.1 rfl (lv_at1 hl) ?_
        refine gf_X12_32 hC rfl hK hP 3 rfl rfl gX12_lineAt_8.2.1 ?_
        refine lv_iload_n hx hb gX12_lineAt_8.2.2.1 rfl (lv_at2 hl) ?_
        refine lv_iconst (v := 2) hx hb gX12_lineAt_8.2.2.2.1 (by decide) ?_
        refine lv_iadd hx hb gX12_lineAt_8.2.2.2.2.1 ?_
        refine eqi (x1 := nI (6 * kl + 2)) (nI_add (6 * kl) 2) ?_
        refine lv_aload_n hx hb gX12_lineAt_8.2.2.2.2.2.1 rfl (lv_at1 hl) ?_
        refine lv_bipush (v := 7) hx hb gX12_lineAt_8.2.2.2.2.2.2.1 (by decide) ?_
        refine iV (wr := [(nc, iA G 100 fnc), (nl, iA G 54 (upd (upd (upd (upd fnl (6 * kl) 0) (6 * kl + 1) (nI (NVL bt ktp (NXT bt ktp ks)))) (6 * kl + 2) (-9)) (6 * kl + 3) (-9))), (nF, sA G 5 (FCT K))]) hC hK hl hP hD hS hA (m_numberX l G h0 7 nw nk mhasKept nt ktp nr mrowMany mroundOf mroundFrom mouts nm mfromHour mtoHour ns (NXT bt ktp (NXT bt ktp (NXT bt ktp ks))) 0 (nI kc) (nI kl) nl nc nF np ntr nb mbestCost nso nsi nit nsh nsf nss nrc mtraced mdealer mnumber mwhose msize misParted fnt bt (htp) (by omega) (hFB) (by omega)) si_X12_271 [3, 4] [0, 1, 2] sm_3_4 fm_3_4 nd_3_4 sm_0_1_2 nd_0_1_2 dj_3_4__0_1_2 rfl rfl rfl rfl rfl (Nat.le_of_ble_eq_true rfl) rm_32_5_5 ⟨Nat.le_of_ble_eq_true rfl, Nat.le_of_ble_eq_true rfl⟩ gX12_lineAt_8.2.2.2.2.2.2.2.1 (fun r9402 => Ktu2 fun ff19404 ks19405 => ?_)
        intro H locs hr9402 hP hD hS
        try dsimp only at hr9402
        refine Kpdr (ws := [(nc, iA G 100 fnc), (nl, iA G 54 (upd (upd (upd (upd fnl (6 * kl) 0) (6 * kl + 1) (nI (NVL bt ktp (NXT bt ktp ks)))) (6 * kl + 2) (-9)) (6 * kl + 3) (-9))), (nF, sA G 5 (FCT K)), (h0, oX12 nw nk mhasKept nt (nI ktp) nr mrowMany mroundOf mroundFrom mouts nm mfromHour mtoHour ns (nI ks19405) (nI (TKE bt ktp ks19405)) (nI (TKN bt ktp ks19405)) ff19404 0 (nI kc) (nI kl) nl nc nF np ntr nb mbestCost nso nsi nit nsh nsf nss nrc mtraced mdealer mnumber mwhose msize misParted), (nt, iA G 240 fnt)]) hP hD (fun hP hD => ?_)
        obtain ⟨hr9402, w9406⟩ := hr9402
        rcases w9406 with v9407 | v9408
        · obtain ⟨rfl, rfl, rfl, hq9409⟩ := v9407
          have xl9410 := NML.len hq9409 (by omega)
          refine astN hC hK hP hD hS 1 (ws' := [(nc, iA G 100 fnc), (nl, iA G 54 (upd (upd (upd (upd (upd fnl (6 * kl) 0) (6 * kl + 1) (nI (NVL bt ktp (NXT bt ktp ks)))) (6 * kl + 2) (-9)) (6 * kl + 3) (-9)) (6 * kl + 2) (nI (NVL bt ktp (NXT bt ktp (NXT bt ktp (NXT bt ktp ks))))))), (nF, sA G 5 (FCT K)), (h0, oX12 nw nk mhasKept nt (nI ktp) nr mrowMany mroundOf mroundFrom mouts nm mfromHour mtoHour ns (nI (NXT bt ktp (NXT bt ktp (NXT bt ktp (NXT bt ktp ks))))) (nI (TKE bt ktp (NXT bt ktp (NXT bt ktp (NXT bt ktp (NXT bt ktp ks)))))) (nI (TKN bt ktp (NXT bt ktp (NXT bt ktp (NXT bt ktp (NXT bt ktp ks)))))) 0 0 (nI kc) (nI kl) nl nc nF np ntr nb mbestCost nso nsi nit nsh nsf nss nrc mtraced mdealer mnumber mwhose msize misParted), (nt, iA G 240 fnt)]) rfl (k := (6 * kl + 2)) (by omega) (Nat.le_of_ble_eq_true rfl) (rfl) gX12_lineAt_8.2.2.2.2.2.2.2.2.1 (fun H locs hP hD hS => ?_)
          refine lv_aload_n hx hb gX12_lineAt_8.2.2.2.2.2.2.2.2.2 rfl (lv_at1 hl) ?_
          refine lv_aload_n hx hb gX12_lineAt_9.1 rfl (lv_at1 hl) ?_
          refine va_ldcSw (index := 284) (tx := "from") hx hb hown (hO.2.2 6 (by decide)) gX12_lineAt_9.2.1 ?_
          refine pVo hO hS hC hK hl hP hD (m_isNameX l G K 6 h0 nw nk mhasKept nt ktp nr mrowMany mroundOf mroundFrom mouts nm mfromHour mtoHour ns (NXT bt ktp (NXT bt ktp (NXT bt ktp (NXT bt ktp ks)))) 0 (nI kc) (nI kl) nl nc nF np ntr nb mbestCost nso nsi nit nsh nsf nss nrc mtraced mdealer mnumber mwhose msize misParted fnt bt (htp) (by omega) (hFB) ((by decide))) si_X12_248 [3, 4] sm_3_4 fm_3_4 nd_3_4 rfl rfl rfl rfl rfl (Nat.le_of_ble_eq_true rfl) rm_32_5_4 ⟨by first | exact Nat.le_of_ble_eq_true rfl | exact Nat.zero_le _, by first | exact Nat.le_of_ble_eq_true rfl | exact Nat.zero_le _⟩ gX12_lineAt_9.2.2.1 (Kors (Keqa fun a9412 => ?_) (Keqa fun a9412 => ?_))
          · have hq9413 := a9412
            have xl9414 : (NXT bt ktp (NXT bt ktp (NXT bt ktp (NXT bt ktp ks)))) + 4 ≤ NXT bt ktp (NXT bt ktp (NXT bt ktp (NXT bt ktp (NXT bt ktp ks)))) ∧ NXT bt ktp (NXT bt ktp (NXT bt ktp (NXT bt ktp (NXT bt ktp ks)))) ≤ ktp := WRD.len hq9413 (by omega)
            refine vV (wr := [(nc, iA G 100 fnc), (nl, iA G 54 (upd (upd (upd (upd (upd fnl (6 * kl) 0) (6 * kl + 1) (nI (NVL bt ktp (NXT bt ktp ks)))) (6 * kl + 2) (-9)) (6 * kl + 3) (-9)) (6 * kl + 2) (nI (NVL bt ktp (NXT bt ktp (NXT bt ktp (NXT bt ktp ks))))))), (nF, sA G 5 (FCT K))]) hC hK hl hP hD hS hA (m_need1X l G h0 nw nk mhasKept nt ktp nr mrowMany mroundOf mroundFrom mouts nm mfromHour mtoHour ns (NXT bt ktp (NXT bt ktp (NXT bt ktp (NXT bt ktp ks)))) 0 (nI kc) (nI kl) nl nc nF np ntr nb mbestCost nso nsi nit nsh nsf nss nrc mtraced mdealer mnumber mwhose msize misParted fnt bt (htp) (by omega) (hFB)) si_X12_236 [3, 4] [0, 1, 2] sm_3_4 fm_3_4 nd_3_4 sm_0_1_2 nd_0_1_2 dj_3_4__0_1_2 rfl rfl rfl rfl rfl (Nat.le_of_ble_eq_true rfl) rm_32_4_2 ⟨Nat.le_of_ble_eq_true rfl, Nat.le_of_ble_eq_true rfl⟩ gX12_lineAt_9.2.2.2.1 (fun u9416 H locs hr9415 hP hD hS => ?_)
            refine Kpdr (ws := [(nc, iA G 100 fnc), (nl, iA G 54 (upd (upd (upd (upd (upd fnl (6 * kl) 0) (6 * kl + 1) (nI (NVL bt ktp (NXT bt ktp ks)))) (6 * kl + 2) (-9)) (6 * kl + 3) (-9)) (6 * kl + 2) (nI (NVL bt ktp (NXT bt ktp (NXT bt ktp (NXT bt ktp ks))))))), (nF, sA G 5 (FCT K)), (h0, oX12 nw nk mhasKept nt (nI ktp) nr mrowMany mroundOf mroundFrom mouts nm mfromHour mtoHour ns (nI (NXT bt ktp (NXT bt ktp (NXT bt ktp (NXT bt ktp (NXT bt ktp ks)))))) (nI (TKE bt ktp (NXT bt ktp (NXT bt ktp (NXT bt ktp (NXT bt ktp (NXT bt ktp ks))))))) (nI (TKN bt ktp (NXT bt ktp (NXT bt ktp (NXT bt ktp (NXT bt ktp (NXT bt ktp ks))))))) 0 0 (nI kc) (nI kl) nl nc nF np ntr nb mbestCost nso nsi nit nsh nsf nss nrc mtraced mdealer mnumber mwhose msize misParted), (nt, iA G 240 fnt)]) hP hD (fun hP hD => ?_)
            have xn9417 := NXT.ge (bt := bt) (n := ktp) (s := (NXT bt ktp (NXT bt ktp (NXT bt ktp (NXT bt ktp ks))))) (by omega)
            refine lv_aload_n hx hb gX12_lineAt_9.2.2.2.2.1 rfl (lv_at1 hl) ?_
            refine gf_X12_32 hC rfl hK hP 3 rfl rfl gX12_lineAt_9.2.2.2.2.2.1 ?_
            refine lv_iload_n hx hb gX12_lineAt_9.2.2.2.2.2.2.1 rfl (lv_at2 hl) ?_
            refine lv_iconst (v := 3) hx hb gX12_lineAt_9.2.2.2.2.2.2.2.1 (by decide) ?_
            refine lv_iadd hx hb gX12_lineAt_9.2.2.2.2.2.2.2.2.1 ?_
            refine eqi (x1 := nI (6 * kl + 3)) (nI_add (6 * kl) 3) ?_
            refine lv_aload_n hx hb gX12_lineAt_9.2.2.2.2.2.2.2.2.2 rfl (lv_at1 hl) ?_
            refine lv_bipush (v := 7) hx hb gX12_lineAt_10.1 (by decide) ?_
            refine iV (wr := [(nc, iA G 100 fnc), (nl, iA G 54 (upd (upd (upd (upd (upd fnl (6 * kl) 0) (6 * kl + 1) (nI (NVL bt ktp (NXT bt ktp ks)))) (6 * kl + 2) (-9)) (6 * kl + 3) (-9)) (6 * kl + 2) (nI (NVL bt ktp (NXT bt ktp (NXT bt ktp (NXT bt ktp ks))))))), (nF, sA G 5 (FCT K))]) hC hK hl hP hD hS hA (m_numberX l G h0 7 nw nk mhasKept nt ktp nr mrowMany mroundOf mroundFrom mouts nm mfromHour mtoHour ns (NXT bt ktp (NXT bt ktp (NXT bt ktp (NXT bt ktp (NXT bt ktp ks))))) 0 (nI kc) (nI kl) nl nc nF np ntr nb mbestCost nso nsi nit nsh nsf nss nrc mtraced mdealer mnumber mwhose msize misParted fnt bt (htp) (by omega) (hFB) (by omega)) si_X12_271 [3, 4] [0, 1, 2] sm_3_4 fm_3_4 nd_3_4 sm_0_1_2 nd_0_1_2 dj_3_4__0_1_2 rfl rfl rfl rfl rfl (Nat.le_of_ble_eq_true rfl) rm_32_5_5 ⟨Nat.le_of_ble_eq_true rfl, Nat.le_of_ble_eq_true rfl⟩ gX12_lineAt_10.2.1 (fun r9418 => Ktu2 fun ff19420 ks19421 => ?_)
            intro H locs hr9418 hP hD hS
            try dsimp only at hr9418
            refine Kpdr (ws := [(nc, iA G 100 fnc), (nl, iA G 54 (upd (upd (upd (upd (upd fnl (6 * kl) 0) (6 * kl + 1) (nI (NVL bt ktp (NXT bt ktp ks)))) (6 * kl + 2) (-9)) (6 * kl + 3) (-9)) (6 * kl + 2) (nI (NVL bt ktp (NXT bt ktp (NXT bt ktp (NXT bt ktp ks))))))), (nF, sA G 5 (FCT K)), (h0, oX12 nw nk mhasKept nt (nI ktp) nr mrowMany mroundOf mroundFrom mouts nm mfromHour mtoHour ns (nI ks19421) (nI (TKE bt ktp ks19421)) (nI (TKN bt ktp ks19421)) ff19420 0 (nI kc) (nI kl) nl nc nF np ntr nb mbestCost nso nsi nit nsh nsf nss nrc mtraced mdealer mnumber mwhose msize misParted), (nt, iA G 240 fnt)]) hP hD (fun hP hD => ?_)
            obtain ⟨hr9418, w9422⟩ := hr9418
            rcases w9422 with v9423 | v9424
            · obtain ⟨rfl, rfl, rfl, hq9425⟩ := v9423
              have xl9426 := NML.len hq9425 (by omega)
              refine astN hC hK hP hD hS 1 (ws' := [(nc, iA G 100 fnc), (nl, iA G 54 (upd (upd (upd (upd (upd (upd fnl (6 * kl) 0) (6 * kl + 1) (nI (NVL bt ktp (NXT bt ktp ks)))) (6 * kl + 2) (-9)) (6 * kl + 3) (-9)) (6 * kl + 2) (nI (NVL bt ktp (NXT bt ktp (NXT bt ktp (NXT bt ktp ks)))))) (6 * kl + 3) (nI (NVL bt ktp (NXT bt ktp (NXT bt ktp (NXT bt ktp (NXT bt ktp (NXT bt ktp ks))))))))), (nF, sA G 5 (FCT K)), (h0, oX12 nw nk mhasKept nt (nI ktp) nr mrowMany mroundOf mroundFrom mouts nm mfromHour mtoHour ns (nI (NXT bt ktp (NXT bt ktp (NXT bt ktp (NXT bt ktp (NXT bt ktp (NXT bt ktp ks))))))) (nI (TKE bt ktp (NXT bt ktp (NXT bt ktp (NXT bt ktp (NXT bt ktp (NXT bt ktp (NXT bt ktp ks)))))))) (nI (TKN bt ktp (NXT bt ktp (NXT bt ktp (NXT bt ktp (NXT bt ktp (NXT bt ktp (NXT bt ktp ks)))))))) 0 0 (nI kc) (nI kl) nl nc nF np ntr nb mbestCost nso nsi nit nsh nsf nss nrc mtraced mdealer mnumber mwhose msize misParted), (nt, iA G 240 fnt)]) rfl (k := (6 * kl + 3)) (by omega) (Nat.le_of_ble_eq_true rfl) (rfl) gX12_lineAt_10.2.2.1 (fun H locs hP hD hS => ?_)
              refine lv_iload_n hx hb gX12_lineAt_10.2.2.2.1 rfl (lv_at0 hl) ?_
              refine lv_iconst (v := 2) hx hb gX12_lineAt_10.2.2.2.2.1 (by decide) ?_
              refine lv_icmp_ne (tgt := 221) hx hb gX12_lineAt_10.2.2.2.2.2.1 (by decide) (fun _ => ?_) (fun c9 => absurd c9 (by decide))
              refine lv_aload_n hx hb gX12_lineAt_12.1 rfl (lv_at1 hl) ?_
              refine gf_X12_32 hC rfl hK hP 3 rfl rfl gX12_lineAt_12.2.1 ?_
              refine lv_iload_n hx hb gX12_lineAt_12.2.2.1 rfl (lv_at2 hl) ?_
              refine lv_iconst (v := 4) hx hb gX12_lineAt_12.2.2.2.1 (by decide) ?_
              refine lv_iadd hx hb gX12_lineAt_12.2.2.2.2.1 ?_
              refine eqi (x1 := nI (6 * kl + 4)) (nI_add (6 * kl) 4) ?_
              refine lv_aload_n hx hb gX12_lineAt_12.2.2.2.2.2.1 rfl (lv_at1 hl) ?_
              refine gf_X12_240 hC rfl hK hP 3 rfl rfl gX12_lineAt_12.2.2.2.2.2.2.1 ?_
              refine astN hC hK hP hD hS 1 (ws' := [(nc, iA G 100 fnc), (nl, iA G 54 (upd (upd (upd (upd (upd (upd (upd fnl (6 * kl) 0) (6 * kl + 1) (nI (NVL bt ktp (NXT bt ktp ks)))) (6 * kl + 2) (-9)) (6 * kl + 3) (-9)) (6 * kl + 2) (nI (NVL bt ktp (NXT bt ktp (NXT bt ktp (NXT bt ktp ks)))))) (6 * kl + 3) (nI (NVL bt ktp (NXT bt ktp (NXT bt ktp (NXT bt ktp (NXT bt ktp (NXT bt ktp ks)))))))) (6 * kl + 4) (nI kc))), (nF, sA G 5 (FCT K)), (h0, oX12 nw nk mhasKept nt (nI ktp) nr mrowMany mroundOf mroundFrom mouts nm mfromHour mtoHour ns (nI (NXT bt ktp (NXT bt ktp (NXT bt ktp (NXT bt ktp (NXT bt ktp (NXT bt ktp ks))))))) (nI (TKE bt ktp (NXT bt ktp (NXT bt ktp (NXT bt ktp (NXT bt ktp (NXT bt ktp (NXT bt ktp ks)))))))) (nI (TKN bt ktp (NXT bt ktp (NXT bt ktp (NXT bt ktp (NXT bt ktp (NXT bt ktp (NXT bt ktp ks)))))))) 0 0 (nI kc) (nI kl) nl nc nF np ntr nb mbestCost nso nsi nit nsh nsf nss nrc mtraced mdealer mnumber mwhose msize misParted), (nt, iA G 240 fnt)]) rfl (k := (6 * kl + 4)) (by omega) (Nat.le_of_ble_eq_true rfl) (rfl) gX12_lineAt_12.2.2.2.2.2.2.2.1 (fun H locs hP hD hS => ?_)
              refine lv_iload_n hx hb gX12_lineAt_12.2.2.2.2.2.2.2.2.1 rfl (lv_at0 hl) ?_
              refine lv_iconst (v := 3) hx hb gX12_lineAt_12.2.2.2.2.2.2.2.2.2 (by decide) ?_
              refine lv_icmp_eq (tgt := 256) hx hb gX12_lineAt_13.1 (by decide) (fun c9 => absurd c9 (by decide)) (fun _ => ?_)
              refine lv_aload_n hx hb gX12_lineAt_13.2.1 rfl (lv_at1 hl) ?_
              refine va_ldcSw (index := 287) (tx := "if") hx hb hown (hO.2.2 0 (by decide)) gX12_lineAt_13.2.2.1 ?_
              refine pVo hO hS hC hK hl hP hD (m_isNameX l G K 0 h0 nw nk mhasKept nt ktp nr mrowMany mroundOf mroundFrom mouts nm mfromHour mtoHour ns (NXT bt ktp (NXT bt ktp (NXT bt ktp (NXT bt ktp (NXT bt ktp (NXT bt ktp ks)))))) 0 (nI kc) (nI kl) nl nc nF np ntr nb mbestCost nso nsi nit nsh nsf nss nrc mtraced mdealer mnumber mwhose msize misParted fnt bt (htp) (by omega) (hFB) ((by decide))) si_X12_248 [3, 4] sm_3_4 fm_3_4 nd_3_4 rfl rfl rfl rfl rfl (Nat.le_of_ble_eq_true rfl) rm_32_5_4 ⟨by first | exact Nat.le_of_ble_eq_true rfl | exact Nat.zero_le _, by first | exact Nat.le_of_ble_eq_true rfl | exact Nat.zero_le _⟩ gX12_lineAt_13.2.2.2.1 (Kors (Keqa fun a9428 => ?_) (Keqa fun a9428 => ?_))
              · have hq9429 := a9428
                have xl9430 : (NXT bt ktp (NXT bt ktp (NXT bt ktp (NXT bt ktp (NXT bt ktp (NXT bt ktp ks)))))) + 2 ≤ NXT bt ktp (NXT bt ktp (NXT bt ktp (NXT bt ktp (NXT bt ktp (NXT bt ktp (NXT bt ktp ks)))))) ∧ NXT bt ktp (NXT bt ktp (NXT bt ktp (NXT bt ktp (NXT bt ktp (NXT bt ktp (NXT bt ktp ks)))))) ≤ ktp := WRD.len hq9429 (by omega)
                refine lv_if_eq (tgt := 256) hx hb gX12_lineAt_13.2.2.2.2.1 (by decide) (fun c9 => absurd c9 (by decide)) (fun _ => ?_)
                refine lv_aload_n hx hb gX12_lineAt_13.2.2.2.2.2.1 rfl (lv_at1 hl) ?_
                refine vV (wr := [(nc, iA G 100 fnc), (nl, iA G 54 (upd (upd (upd (upd (upd (upd (upd fnl (6 * kl) 0) (6 * kl + 1) (nI (NVL bt ktp (NXT bt ktp ks)))) (6 * kl + 2) (-9)) (6 * kl + 3) (-9)) (6 * kl + 2) (nI (NVL bt ktp (NXT bt ktp (NXT bt ktp (NXT bt ktp ks)))))) (6 * kl + 3) (nI (NVL bt ktp (NXT bt ktp (NXT bt ktp (NXT bt ktp (NXT bt ktp (NXT bt ktp ks)))))))) (6 * kl + 4) (nI kc))), (nF, sA G 5 (FCT K))]) hC hK hl hP hD hS hA (m_nextT l G h0 nw nk mhasKept nt ktp nr mrowMany mroundOf mroundFrom mouts nm mfromHour mtoHour ns (NXT bt ktp (NXT bt ktp (NXT bt ktp (NXT bt ktp (NXT bt ktp (NXT bt ktp ks)))))) 0 0 (nI kc) (nI kl) nl nc nF np ntr nb mbestCost nso nsi nit nsh nsf nss nrc mtraced mdealer mnumber mwhose msize misParted fnt bt (htp) (by omega) (hFB)) si_X12_233 [3, 4] [0, 1, 2] sm_3_4 fm_3_4 nd_3_4 sm_0_1_2 nd_0_1_2 dj_3_4__0_1_2 rfl rfl rfl rfl rfl (Nat.le_of_ble_eq_true rfl) rm_32_3_1 ⟨Nat.le_of_ble_eq_true rfl, Nat.le_of_ble_eq_true rfl⟩ gX12_lineAt_13.2.2.2.2.2.2.1 (fun u9432 H locs hr9431 hP hD hS => ?_)
                refine Kpdr (ws := [(nc, iA G 100 fnc), (nl, iA G 54 (upd (upd (upd (upd (upd (upd (upd fnl (6 * kl) 0) (6 * kl + 1) (nI (NVL bt ktp (NXT bt ktp ks)))) (6 * kl + 2) (-9)) (6 * kl + 3) (-9)) (6 * kl + 2) (nI (NVL bt ktp (NXT bt ktp (NXT bt ktp (NXT bt ktp ks)))))) (6 * kl + 3) (nI (NVL bt ktp (NXT bt ktp (NXT bt ktp (NXT bt ktp (NXT bt ktp (NXT bt ktp ks)))))))) (6 * kl + 4) (nI kc))), (nF, sA G 5 (FCT K)), (h0, oX12 nw nk mhasKept nt (nI ktp) nr mrowMany mroundOf mroundFrom mouts nm mfromHour mtoHour ns (nI (NXT bt ktp (NXT bt ktp (NXT bt ktp (NXT bt ktp (NXT bt ktp (NXT bt ktp (NXT bt ktp ks)))))))) (nI (TKE bt ktp (NXT bt ktp (NXT bt ktp (NXT bt ktp (NXT bt ktp (NXT bt ktp (NXT bt ktp (NXT bt ktp ks))))))))) (nI (TKN bt ktp (NXT bt ktp (NXT bt ktp (NXT bt ktp (NXT bt ktp (NXT bt ktp (NXT bt ktp (NXT bt ktp ks))))))))) 0 0 (nI kc) (nI kl) nl nc nF np ntr nb mbestCost nso nsi nit nsh nsf nss nrc mtraced mdealer mnumber mwhose msize misParted), (nt, iA G 240 fnt)]) hP hD (fun hP hD => ?_)
                have xn9433 := NXT.ge (bt := bt) (n := ktp) (s := (NXT bt ktp (NXT bt ktp (NXT bt ktp (NXT bt ktp (NXT bt ktp (NXT bt ktp ks))))))) (by omega)
                refine lv_aload_n hx hb gX12_lineAt_13.2.2.2.2.2.2.2.1 rfl (lv_at1 hl) ?_
                refine vVo (wr := [(nl, iA G 54 (upd (upd (upd (upd (upd (upd (upd fnl (6 * kl) 0) (6 * kl + 1) (nI (NVL bt ktp (NXT bt ktp ks)))) (6 * kl + 2) (-9)) (6 * kl + 3) (-9)) (6 * kl + 2) (nI (NVL bt ktp (NXT bt ktp (NXT bt ktp (NXT bt ktp ks)))))) (6 * kl + 3) (nI (NVL bt ktp (NXT bt ktp (NXT bt ktp (NXT bt ktp (NXT bt ktp (NXT bt ktp ks)))))))) (6 * kl + 4) (nI kc)))]) hO hC hK hl hP hD hS hA (m_either l G K 4 h0 nw nk mhasKept nt ktp nr mrowMany mroundOf mroundFrom mouts nm mfromHour mtoHour ns (NXT bt ktp (NXT bt ktp (NXT bt ktp (NXT bt ktp (NXT bt ktp (NXT bt ktp (NXT bt ktp ks))))))) 0 kc (nI kl) nl nc nF np ntr nb mbestCost nso nsi nit nsh nsf nss nrc mtraced mdealer mnumber mwhose msize misParted fnt fnc bt cs rs (by omega) (by omega) (hFB) (hST) (by omega) (by omega)) si_X12_268 [3, 4, 0, 2] [1] sm_3_4_0_2 fm_3_4_0_2 nd_3_4_0_2 sm_1 nd_1 dj_3_4_0_2__1 rfl rfl rfl rfl rfl (Nat.le_of_ble_eq_true rfl) ⟨Nat.le_of_ble_eq_true rfl, Nat.le_of_ble_eq_true rfl⟩ ⟨Nat.le_of_ble_eq_true rfl, Nat.le_of_ble_eq_true rfl⟩ gX12_lineAt_13.2.2.2.2.2.2.2.2.1 (Ktu6 fun ff19436 ks19437 kc19438 gnc9439 c19440 r19441 => ?_)
                intro H locs hr9434 hP hD hS
                try dsimp only at hr9434
                refine Kpdr (ws := [(nl, iA G 54 (upd (upd (upd (upd (upd (upd (upd fnl (6 * kl) 0) (6 * kl + 1) (nI (NVL bt ktp (NXT bt ktp ks)))) (6 * kl + 2) (-9)) (6 * kl + 3) (-9)) (6 * kl + 2) (nI (NVL bt ktp (NXT bt ktp (NXT bt ktp (NXT bt ktp ks)))))) (6 * kl + 3) (nI (NVL bt ktp (NXT bt ktp (NXT bt ktp (NXT bt ktp (NXT bt ktp (NXT bt ktp ks)))))))) (6 * kl + 4) (nI kc))), (h0, oX12 nw nk mhasKept nt (nI ktp) nr mrowMany mroundOf mroundFrom mouts nm mfromHour mtoHour ns (nI ks19437) (nI (TKE bt ktp ks19437)) (nI (TKN bt ktp ks19437)) ff19436 0 (nI kc19438) (nI kl) nl nc nF np ntr nb mbestCost nso nsi nit nsh nsf nss nrc mtraced mdealer mnumber mwhose msize misParted), (nt, iA G 240 fnt), (nc, iA G 100 gnc9439), (nF, sA G 5 (FCT K))]) hP hD (fun hP hD => ?_)
                have w9442 := hr9434
                rcases w9442 with v9443 | v9444
                · obtain ⟨rfl, hq9445, hq9446⟩ := v9443
                  have xl9447 := RT.lem hq9445 (by decide) (by omega)
                  have xl9448 := hq9446.1
                  refine lv_aload_n hx hb gX12_lineAt_13.2.2.2.2.2.2.2.2.2 rfl (lv_at1 hl) ?_
                  refine gf_X12_32 hC rfl hK hP 1 rfl rfl gX12_lineAt_14.1 ?_
                  refine lv_iload_n hx hb gX12_lineAt_14.2.1 rfl (lv_at2 hl) ?_
                  refine lv_iconst (v := 5) hx hb gX12_lineAt_14.2.2.1 (by decide) ?_
                  refine lv_iadd hx hb gX12_lineAt_14.2.2.2.1 ?_
                  refine eqi (x1 := nI (6 * kl + 5)) (nI_add (6 * kl) 5) ?_
                  refine lv_aload_n hx hb gX12_lineAt_14.2.2.2.2.1 rfl (lv_at1 hl) ?_
                  refine gf_X12_240 hC rfl hK hP 1 rfl rfl gX12_lineAt_14.2.2.2.2.2.1 ?_
                  refine astN hC hK hP hD hS 0 (ws' := [(nl, iA G 54 (upd (upd (upd (upd (upd (upd (upd (upd fnl (6 * kl) 0) (6 * kl + 1) (nI (NVL bt ktp (NXT bt ktp ks)))) (6 * kl + 2) (-9)) (6 * kl + 3) (-9)) (6 * kl + 2) (nI (NVL bt ktp (NXT bt ktp (NXT bt ktp (NXT bt ktp ks)))))) (6 * kl + 3) (nI (NVL bt ktp (NXT bt ktp (NXT bt ktp (NXT bt ktp (NXT bt ktp (NXT bt ktp ks)))))))) (6 * kl + 4) (nI kc)) (6 * kl + 5) (nI kc19438))), (h0, oX12 nw nk mhasKept nt (nI ktp) nr mrowMany mroundOf mroundFrom mouts nm mfromHour mtoHour ns (nI ks19437) (nI (TKE bt ktp ks19437)) (nI (TKN bt ktp ks19437)) 0 0 (nI kc19438) (nI kl) nl nc nF np ntr nb mbestCost nso nsi nit nsh nsf nss nrc mtraced mdealer mnumber mwhose msize misParted), (nt, iA G 240 fnt), (nc, iA G 100 gnc9439), (nF, sA G 5 (FCT K))]) rfl (k := (6 * kl + 5)) (by omega) (Nat.le_of_ble_eq_true rfl) (rfl) gX12_lineAt_14.2.2.2.2.2.2.1 (fun H locs hP hD hS => ?_)
                  refine lv_aload_n hx hb gX12_lineAt_14.2.2.2.2.2.2.2.1 rfl (lv_at1 hl) ?_
                  refine lv_aload_n hx hb gX12_lineAt_14.2.2.2.2.2.2.2.2.1 rfl (lv_at1 hl) ?_
                  refine lv_bipush (v := 59) hx hb gX12_lineAt_14.2.2.2.2.2.2.2.2.2 (by decide) ?_
                  refine pV hC hK hl hP hD (m_isSignX l G h0 59 nw nk mhasKept nt ktp nr mrowMany mroundOf mroundFrom mouts nm mfromHour mtoHour ns ks19437 0 (nI kc19438) (nI kl) nl nc nF np ntr nb mbestCost nso nsi nit nsh nsf nss nrc mtraced mdealer mnumber mwhose msize misParted fnt bt (htp) (by omega) (hFB)) si_X12_262 [1, 2] sm_1_2 fm_1_2 nd_1_2 rfl rfl rfl rfl rfl (Nat.le_of_ble_eq_true rfl) rm_32_1_2 ⟨by first | exact Nat.le_of_ble_eq_true rfl | exact Nat.zero_le _, by first | exact Nat.le_of_ble_eq_true rfl | exact Nat.zero_le _⟩ gX12_lineAt_15.1 (Kors (Keqa fun a9450 => ?_) (Keqa fun a9450 => ?_))
                  · have hq9451 := a9450
                    have xl9452 := SGN.len hq9451 (by omega)
                    refine vV (wr := [(nl, iA G 54 (upd (upd (upd (upd (upd (upd (upd (upd fnl (6 * kl) 0) (6 * kl + 1) (nI (NVL bt ktp (NXT bt ktp ks)))) (6 * kl + 2) (-9)) (6 * kl + 3) (-9)) (6 * kl + 2) (nI (NVL bt ktp (NXT bt ktp (NXT bt ktp (NXT bt ktp ks)))))) (6 * kl + 3) (nI (NVL bt ktp (NXT bt ktp (NXT bt ktp (NXT bt ktp (NXT bt ktp (NXT bt ktp ks)))))))) (6 * kl + 4) (nI kc)) (6 * kl + 5) (nI kc19438))), (nc, iA G 100 gnc9439), (nF, sA G 5 (FCT K))]) hC hK hl hP hD hS hA (m_need1X l G h0 nw nk mhasKept nt ktp nr mrowMany mroundOf mroundFrom mouts nm mfromHour mtoHour ns ks19437 0 (nI kc19438) (nI kl) nl nc nF np ntr nb mbestCost nso nsi nit nsh nsf nss nrc mtraced mdealer mnumber mwhose msize misParted fnt bt (htp) (by omega) (hFB)) si_X12_236 [1, 2] [0, 3, 4] sm_1_2 fm_1_2 nd_1_2 sm_0_3_4 nd_0_3_4 dj_1_2__0_3_4 rfl rfl rfl rfl rfl (Nat.le_of_ble_eq_true rfl) rm_32_4_2 ⟨Nat.le_of_ble_eq_true rfl, Nat.le_of_ble_eq_true rfl⟩ gX12_lineAt_15.2.1 (fun u9454 H locs hr9453 hP hD hS => ?_)
                    refine Kpdr (ws := [(nl, iA G 54 (upd (upd (upd (upd (upd (upd (upd (upd fnl (6 * kl) 0) (6 * kl + 1) (nI (NVL bt ktp (NXT bt ktp ks)))) (6 * kl + 2) (-9)) (6 * kl + 3) (-9)) (6 * kl + 2) (nI (NVL bt ktp (NXT bt ktp (NXT bt ktp (NXT bt ktp ks)))))) (6 * kl + 3) (nI (NVL bt ktp (NXT bt ktp (NXT bt ktp (NXT bt ktp (NXT bt ktp (NXT bt ktp ks)))))))) (6 * kl + 4) (nI kc)) (6 * kl + 5) (nI kc19438))), (nc, iA G 100 gnc9439), (nF, sA G 5 (FCT K)), (h0, oX12 nw nk mhasKept nt (nI ktp) nr mrowMany mroundOf mroundFrom mouts nm mfromHour mtoHour ns (nI (NXT bt ktp ks19437)) (nI (TKE bt ktp (NXT bt ktp ks19437))) (nI (TKN bt ktp (NXT bt ktp ks19437))) 0 0 (nI kc19438) (nI kl) nl nc nF np ntr nb mbestCost nso nsi nit nsh nsf nss nrc mtraced mdealer mnumber mwhose msize misParted), (nt, iA G 240 fnt)]) hP hD (fun hP hD => ?_)
                    have xn9455 := NXT.ge (bt := bt) (n := ktp) (s := ks19437) (by omega)
                    refine toQ hQ0 ?_
                    exact RV hC hP hD hS [3, 4, 1, 0, 2] (0, (NXT bt ktp ks19437), kc19438, gnc9439, upd (upd (upd (upd (upd (upd (upd (upd fnl (6 * kl) 0) (6 * kl + 1) (nI (NVL bt ktp (NXT bt ktp ks)))) (6 * kl + 2) (-9)) (6 * kl + 3) (-9)) (6 * kl + 2) (nI (NVL bt ktp (NXT bt ktp (NXT bt ktp (NXT bt ktp ks)))))) (6 * kl + 3) (nI (NVL bt ktp (NXT bt ktp (NXT bt ktp (NXT bt ktp (NXT bt ktp (NXT bt ktp ks)))))))) (6 * kl + 4) (nI kc)) (6 * kl + 5) (nI kc19438), (0, (nI (NVL bt ktp (NXT bt ktp ks))), (nI (NVL bt ktp (NXT bt ktp (NXT bt ktp (NXT bt ktp ks))))), (nI (NVL bt ktp (NXT bt ktp (NXT bt ktp (NXT bt ktp (NXT bt ktp (NXT bt ktp ks))))))), 1, cs.length, c19440.length, rs.length, r19441.length), c19440, r19441) rfl rfl (by decide) (Or.inl ⟨rfl, Or.inr ⟨0, SRT.y (k := 0) (by decide) hq9381, Or.inr ⟨(NXT bt ktp (NXT bt ktp (NXT bt ktp (NXT bt ktp (NXT bt ktp (NXT bt ktp ks)))))), (nI (NVL bt ktp (NXT bt ktp ks))), (nI (NVL bt ktp (NXT bt ktp (NXT bt ktp (NXT bt ktp ks))))), (nI (NVL bt ktp (NXT bt ktp (NXT bt ktp (NXT bt ktp (NXT bt ktp (NXT bt ktp ks))))))), HDQ.t5 hq9393 hq9397 hq9409 hq9413 hq9425, Or.inr ⟨⟨by decide, hq9429⟩, Or.inr ⟨ks19437, c19440, r19441, hq9445, Or.inr ⟨hq9451, rfl⟩⟩⟩⟩⟩, hq9446, (by rw [hs1, hq9446.1]; exact ⟨fun j hj => (upd_ne (by omega)).trans ((upd_ne (by omega)).trans ((upd_ne (by omega)).trans ((upd_ne (by omega)).trans ((upd_ne (by omega)).trans ((upd_ne (by omega)).trans ((upd_ne (by omega)).trans ((upd_ne (by omega)).trans (rfl)))))))), (upd_ne (by omega)).trans ((upd_ne (by omega)).trans ((upd_ne (by omega)).trans ((upd_ne (by omega)).trans ((upd_ne (by omega)).trans ((upd_ne (by omega)).trans ((upd_ne (by omega)).trans (upd_eq (by omega)))))))), (upd_ne (by omega)).trans ((upd_ne (by omega)).trans ((upd_ne (by omega)).trans ((upd_ne (by omega)).trans ((upd_ne (by omega)).trans ((upd_ne (by omega)).trans (upd_eq (by omega))))))), (upd_ne (by omega)).trans ((upd_ne (by omega)).trans ((upd_ne (by omega)).trans (upd_eq (by omega)))), (upd_ne (by omega)).trans ((upd_ne (by omega)).trans (upd_eq (by omega))), (upd_ne (by omega)).trans (upd_eq (by omega)), upd_eq (by omega), fun h9 => absurd (show (1 : Nat) = 0 from h9) (by decide), fun _ => (by (try dsimp only); omega), Nat.le_refl _, (by (try dsimp only); omega)⟩), by (try dsimp only); omega, by (try dsimp only); omega⟩) gX12_lineAt_15.2.2
                  · have hq9456 := a9450
                    refine vV (wr := [(nl, iA G 54 (upd (upd (upd (upd (upd (upd (upd (upd fnl (6 * kl) 0) (6 * kl + 1) (nI (NVL bt ktp (NXT bt ktp ks)))) (6 * kl + 2) (-9)) (6 * kl + 3) (-9)) (6 * kl + 2) (nI (NVL bt ktp (NXT bt ktp (NXT bt ktp (NXT bt ktp ks)))))) (6 * kl + 3) (nI (NVL bt ktp (NXT bt ktp (NXT bt ktp (NXT bt ktp (NXT bt ktp (NXT bt ktp ks)))))))) (6 * kl + 4) (nI kc)) (6 * kl + 5) (nI kc19438))), (nt, iA G 240 fnt), (nc, iA G 100 gnc9439), (nF, sA G 5 (FCT K))]) hC hK hl hP hD hS hA (m_need0 l G h0 nw nk mhasKept nt (nI ktp) nr mrowMany mroundOf mroundFrom mouts nm mfromHour mtoHour ns (nI ks19437) (nI (TKE bt ktp ks19437)) (nI (TKN bt ktp ks19437)) 0 (nI kc19438) (nI kl) nl nc nF np ntr nb mbestCost nso nsi nit nsh nsf nss nrc mtraced mdealer mnumber mwhose msize misParted) si_X12_236 [1] [0, 2, 3, 4] sm_1 fm_1 nd_1 sm_0_2_3_4 nd_0_2_3_4 dj_1__0_2_3_4 rfl rfl rfl rfl rfl (Nat.le_of_ble_eq_true rfl) rm_32_4_2 ⟨Nat.le_of_ble_eq_true rfl, Nat.le_of_ble_eq_true rfl⟩ gX12_lineAt_15.2.1 (fun u9458 H locs hr9457 hP hD hS => ?_)
                    refine Kpdr (ws := [(nl, iA G 54 (upd (upd (upd (upd (upd (upd (upd (upd fnl (6 * kl) 0) (6 * kl + 1) (nI (NVL bt ktp (NXT bt ktp ks)))) (6 * kl + 2) (-9)) (6 * kl + 3) (-9)) (6 * kl + 2) (nI (NVL bt ktp (NXT bt ktp (NXT bt ktp (NXT bt ktp ks)))))) (6 * kl + 3) (nI (NVL bt ktp (NXT bt ktp (NXT bt ktp (NXT bt ktp (NXT bt ktp (NXT bt ktp ks)))))))) (6 * kl + 4) (nI kc)) (6 * kl + 5) (nI kc19438))), (nt, iA G 240 fnt), (nc, iA G 100 gnc9439), (nF, sA G 5 (FCT K)), (h0, oX12 nw nk mhasKept nt (nI ktp) nr mrowMany mroundOf mroundFrom mouts nm mfromHour mtoHour ns (nI ks19437) (nI (TKE bt ktp ks19437)) (nI (TKN bt ktp ks19437)) 1 0 (nI kc19438) (nI kl) nl nc nF np ntr nb mbestCost nso nsi nit nsh nsf nss nrc mtraced mdealer mnumber mwhose msize misParted)]) hP hD (fun hP hD => ?_)
                    refine toQ hQ0 ?_
                    exact RV hC hP hD hS [4, 1, 2, 0, 3] (1, ks19437, kc19438, gnc9439, upd (upd (upd (upd (upd (upd (upd (upd fnl (6 * kl) 0) (6 * kl + 1) (nI (NVL bt ktp (NXT bt ktp ks)))) (6 * kl + 2) (-9)) (6 * kl + 3) (-9)) (6 * kl + 2) (nI (NVL bt ktp (NXT bt ktp (NXT bt ktp (NXT bt ktp ks)))))) (6 * kl + 3) (nI (NVL bt ktp (NXT bt ktp (NXT bt ktp (NXT bt ktp (NXT bt ktp (NXT bt ktp ks)))))))) (6 * kl + 4) (nI kc)) (6 * kl + 5) (nI kc19438), LN0, [], []) rfl rfl (by decide) (Or.inr ⟨rfl, Or.inr ⟨0, SRT.y (k := 0) (by decide) hq9381, Or.inr ⟨(NXT bt ktp (NXT bt ktp (NXT bt ktp (NXT bt ktp (NXT bt ktp (NXT bt ktp ks)))))), (nI (NVL bt ktp (NXT bt ktp ks))), (nI (NVL bt ktp (NXT bt ktp (NXT bt ktp (NXT bt ktp ks))))), (nI (NVL bt ktp (NXT bt ktp (NXT bt ktp (NXT bt ktp (NXT bt ktp (NXT bt ktp ks))))))), HDQ.t5 hq9393 hq9397 hq9409 hq9413 hq9425, Or.inr ⟨⟨by decide, hq9429⟩, Or.inr ⟨ks19437, c19440, r19441, hq9445, Or.inl ⟨hq9456, rfl⟩⟩⟩⟩⟩, by (try dsimp only); omega⟩) gX12_lineAt_15.2.2
                · obtain ⟨rfl, hq9459, hq9460⟩ := v9444
                  refine lv_aload_n hx hb gX12_lineAt_13.2.2.2.2.2.2.2.2.2 rfl (lv_at1 hl) ?_
                  refine gf_X12_32 hC rfl hK hP 1 rfl rfl gX12_lineAt_14.1 ?_
                  refine lv_iload_n hx hb gX12_lineAt_14.2.1 rfl (lv_at2 hl) ?_
                  refine lv_iconst (v := 5) hx hb gX12_lineAt_14.2.2.1 (by decide) ?_
                  refine lv_iadd hx hb gX12_lineAt_14.2.2.2.1 ?_
                  refine eqi (x1 := nI (6 * kl + 5)) (nI_add (6 * kl) 5) ?_
                  refine lv_aload_n hx hb gX12_lineAt_14.2.2.2.2.1 rfl (lv_at1 hl) ?_
                  refine gf_X12_240 hC rfl hK hP 1 rfl rfl gX12_lineAt_14.2.2.2.2.2.1 ?_
                  refine astN hC hK hP hD hS 0 (ws' := [(nl, iA G 54 (upd (upd (upd (upd (upd (upd (upd (upd fnl (6 * kl) 0) (6 * kl + 1) (nI (NVL bt ktp (NXT bt ktp ks)))) (6 * kl + 2) (-9)) (6 * kl + 3) (-9)) (6 * kl + 2) (nI (NVL bt ktp (NXT bt ktp (NXT bt ktp (NXT bt ktp ks)))))) (6 * kl + 3) (nI (NVL bt ktp (NXT bt ktp (NXT bt ktp (NXT bt ktp (NXT bt ktp (NXT bt ktp ks)))))))) (6 * kl + 4) (nI kc)) (6 * kl + 5) (nI kc19438))), (h0, oX12 nw nk mhasKept nt (nI ktp) nr mrowMany mroundOf mroundFrom mouts nm mfromHour mtoHour ns (nI ks19437) (nI (TKE bt ktp ks19437)) (nI (TKN bt ktp ks19437)) 1 0 (nI kc19438) (nI kl) nl nc nF np ntr nb mbestCost nso nsi nit nsh nsf nss nrc mtraced mdealer mnumber mwhose msize misParted), (nt, iA G 240 fnt), (nc, iA G 100 gnc9439), (nF, sA G 5 (FCT K))]) rfl (k := (6 * kl + 5)) (by omega) (Nat.le_of_ble_eq_true rfl) (rfl) gX12_lineAt_14.2.2.2.2.2.2.1 (fun H locs hP hD hS => ?_)
                  refine lv_aload_n hx hb gX12_lineAt_14.2.2.2.2.2.2.2.1 rfl (lv_at1 hl) ?_
                  refine lv_aload_n hx hb gX12_lineAt_14.2.2.2.2.2.2.2.2.1 rfl (lv_at1 hl) ?_
                  refine lv_bipush (v := 59) hx hb gX12_lineAt_14.2.2.2.2.2.2.2.2.2 (by decide) ?_
                  refine pV hC hK hl hP hD (m_isSignF l G h0 59 nw nk mhasKept nt (nI ktp) nr mrowMany mroundOf mroundFrom mouts nm mfromHour mtoHour ns (nI ks19437) (nI (TKE bt ktp ks19437)) (nI (TKN bt ktp ks19437)) 0 (nI kc19438) (nI kl) nl nc nF np ntr nb mbestCost nso nsi nit nsh nsf nss nrc mtraced mdealer mnumber mwhose msize misParted) si_X12_262 [1] sm_1 fm_1 nd_1 rfl rfl rfl rfl rfl (Nat.le_of_ble_eq_true rfl) rm_32_1_2 ⟨by first | exact Nat.le_of_ble_eq_true rfl | exact Nat.zero_le _, by first | exact Nat.le_of_ble_eq_true rfl | exact Nat.zero_le _⟩ gX12_lineAt_15.1 (Keqr ?_)
                  refine vV (wr := [(nl, iA G 54 (upd (upd (upd (upd (upd (upd (upd (upd fnl (6 * kl) 0) (6 * kl + 1) (nI (NVL bt ktp (NXT bt ktp ks)))) (6 * kl + 2) (-9)) (6 * kl + 3) (-9)) (6 * kl + 2) (nI (NVL bt ktp (NXT bt ktp (NXT bt ktp (NXT bt ktp ks)))))) (6 * kl + 3) (nI (NVL bt ktp (NXT bt ktp (NXT bt ktp (NXT bt ktp (NXT bt ktp (NXT bt ktp ks)))))))) (6 * kl + 4) (nI kc)) (6 * kl + 5) (nI kc19438))), (nt, iA G 240 fnt), (nc, iA G 100 gnc9439), (nF, sA G 5 (FCT K))]) hC hK hl hP hD hS hA (m_needF l G h0 0 nw nk mhasKept nt (nI ktp) nr mrowMany mroundOf mroundFrom mouts nm mfromHour mtoHour ns (nI ks19437) (nI (TKE bt ktp ks19437)) (nI (TKN bt ktp ks19437)) 0 (nI kc19438) (nI kl) nl nc nF np ntr nb mbestCost nso nsi nit nsh nsf nss nrc mtraced mdealer mnumber mwhose msize misParted) si_X12_236 [1] [0, 2, 3, 4] sm_1 fm_1 nd_1 sm_0_2_3_4 nd_0_2_3_4 dj_1__0_2_3_4 rfl rfl rfl rfl rfl (Nat.le_of_ble_eq_true rfl) rm_32_4_2 ⟨Nat.le_of_ble_eq_true rfl, Nat.le_of_ble_eq_true rfl⟩ gX12_lineAt_15.2.1 (fun u9464 H locs hr9463 hP hD hS => ?_)
                  refine Kpdr (ws := [(nl, iA G 54 (upd (upd (upd (upd (upd (upd (upd (upd fnl (6 * kl) 0) (6 * kl + 1) (nI (NVL bt ktp (NXT bt ktp ks)))) (6 * kl + 2) (-9)) (6 * kl + 3) (-9)) (6 * kl + 2) (nI (NVL bt ktp (NXT bt ktp (NXT bt ktp (NXT bt ktp ks)))))) (6 * kl + 3) (nI (NVL bt ktp (NXT bt ktp (NXT bt ktp (NXT bt ktp (NXT bt ktp (NXT bt ktp ks)))))))) (6 * kl + 4) (nI kc)) (6 * kl + 5) (nI kc19438))), (nt, iA G 240 fnt), (nc, iA G 100 gnc9439), (nF, sA G 5 (FCT K)), (h0, oX12 nw nk mhasKept nt (nI ktp) nr mrowMany mroundOf mroundFrom mouts nm mfromHour mtoHour ns (nI ks19437) (nI (TKE bt ktp ks19437)) (nI (TKN bt ktp ks19437)) 1 0 (nI kc19438) (nI kl) nl nc nF np ntr nb mbestCost nso nsi nit nsh nsf nss nrc mtraced mdealer mnumber mwhose msize misParted)]) hP hD (fun hP hD => ?_)
                  refine toQ hQ0 ?_
                  exact RV hC hP hD hS [4, 1, 2, 0, 3] (1, ks19437, kc19438, gnc9439, upd (upd (upd (upd (upd (upd (upd (upd fnl (6 * kl) 0) (6 * kl + 1) (nI (NVL bt ktp (NXT bt ktp ks)))) (6 * kl + 2) (-9)) (6 * kl + 3) (-9)) (6 * kl + 2) (nI (NVL bt ktp (NXT bt ktp (NXT bt ktp (NXT bt ktp ks)))))) (6 * kl + 3) (nI (NVL bt ktp (NXT bt ktp (NXT bt ktp (NXT bt ktp (NXT bt ktp (NXT bt ktp ks)))))))) (6 * kl + 4) (nI kc)) (6 * kl + 5) (nI kc19438), LN0, [], []) rfl rfl (by decide) (Or.inr ⟨rfl, Or.inr ⟨0, SRT.y (k := 0) (by decide) hq9381, Or.inr ⟨(NXT bt ktp (NXT bt ktp (NXT bt ktp (NXT bt ktp (NXT bt ktp (NXT bt ktp ks)))))), (nI (NVL bt ktp (NXT bt ktp ks))), (nI (NVL bt ktp (NXT bt ktp (NXT bt ktp (NXT bt ktp ks))))), (nI (NVL bt ktp (NXT bt ktp (NXT bt ktp (NXT bt ktp (NXT bt ktp (NXT bt ktp ks))))))), HDQ.t5 hq9393 hq9397 hq9409 hq9413 hq9425, Or.inr ⟨⟨by decide, hq9429⟩, Or.inl ⟨_, hq9459, rfl⟩⟩⟩⟩, by (try dsimp only); omega⟩) gX12_lineAt_15.2.2
              · have hq9465 := a9428
                refine lv_if_eq (tgt := 256) hx hb gX12_lineAt_13.2.2.2.2.1 (by decide) (fun _ => ?_) (fun c9 => absurd (by decide) c9)
                refine lv_aload_n hx hb gX12_lineAt_13.2.2.2.2.2.2.2.2.2 rfl (lv_at1 hl) ?_
                refine gf_X12_32 hC rfl hK hP 3 rfl rfl gX12_lineAt_14.1 ?_
                refine lv_iload_n hx hb gX12_lineAt_14.2.1 rfl (lv_at2 hl) ?_
                refine lv_iconst (v := 5) hx hb gX12_lineAt_14.2.2.1 (by decide) ?_
                refine lv_iadd hx hb gX12_lineAt_14.2.2.2.1 ?_
                refine eqi (x1 := nI (6 * kl + 5)) (nI_add (6 * kl) 5) ?_
                refine lv_aload_n hx hb gX12_lineAt_14.2.2.2.2.1 rfl (lv_at1 hl) ?_
                refine gf_X12_240 hC rfl hK hP 3 rfl rfl gX12_lineAt_14.2.2.2.2.2.1 ?_
                refine astN hC hK hP hD hS 1 (ws' := [(nc, iA G 100 fnc), (nl, iA G 54 (upd (upd (upd (upd (upd (upd (upd (upd fnl (6 * kl) 0) (6 * kl + 1) (nI (NVL bt ktp (NXT bt ktp ks)))) (6 * kl + 2) (-9)) (6 * kl + 3) (-9)) (6 * kl + 2) (nI (NVL bt ktp (NXT bt ktp (NXT bt ktp (NXT bt ktp ks)))))) (6 * kl + 3) (nI (NVL bt ktp (NXT bt ktp (NXT bt ktp (NXT bt ktp (NXT bt ktp (NXT bt ktp ks)))))))) (6 * kl + 4) (nI kc)) (6 * kl + 5) (nI kc))), (nF, sA G 5 (FCT K)), (h0, oX12 nw nk mhasKept nt (nI ktp) nr mrowMany mroundOf mroundFrom mouts nm mfromHour mtoHour ns (nI (NXT bt ktp (NXT bt ktp (NXT bt ktp (NXT bt ktp (NXT bt ktp (NXT bt ktp ks))))))) (nI (TKE bt ktp (NXT bt ktp (NXT bt ktp (NXT bt ktp (NXT bt ktp (NXT bt ktp (NXT bt ktp ks)))))))) (nI (TKN bt ktp (NXT bt ktp (NXT bt ktp (NXT bt ktp (NXT bt ktp (NXT bt ktp (NXT bt ktp ks)))))))) 0 0 (nI kc) (nI kl) nl nc nF np ntr nb mbestCost nso nsi nit nsh nsf nss nrc mtraced mdealer mnumber mwhose msize misParted), (nt, iA G 240 fnt)]) rfl (k := (6 * kl + 5)) (by omega) (Nat.le_of_ble_eq_true rfl) (rfl) gX12_lineAt_14.2.2.2.2.2.2.1 (fun H locs hP hD hS => ?_)
                refine lv_aload_n hx hb gX12_lineAt_14.2.2.2.2.2.2.2.1 rfl (lv_at1 hl) ?_
                refine lv_aload_n hx hb gX12_lineAt_14.2.2.2.2.2.2.2.2.1 rfl (lv_at1 hl) ?_
                refine lv_bipush (v := 59) hx hb gX12_lineAt_14.2.2.2.2.2.2.2.2.2 (by decide) ?_
                refine pV hC hK hl hP hD (m_isSignX l G h0 59 nw nk mhasKept nt ktp nr mrowMany mroundOf mroundFrom mouts nm mfromHour mtoHour ns (NXT bt ktp (NXT bt ktp (NXT bt ktp (NXT bt ktp (NXT bt ktp (NXT bt ktp ks)))))) 0 (nI kc) (nI kl) nl nc nF np ntr nb mbestCost nso nsi nit nsh nsf nss nrc mtraced mdealer mnumber mwhose msize misParted fnt bt (htp) (by omega) (hFB)) si_X12_262 [3, 4] sm_3_4 fm_3_4 nd_3_4 rfl rfl rfl rfl rfl (Nat.le_of_ble_eq_true rfl) rm_32_1_2 ⟨by first | exact Nat.le_of_ble_eq_true rfl | exact Nat.zero_le _, by first | exact Nat.le_of_ble_eq_true rfl | exact Nat.zero_le _⟩ gX12_lineAt_15.1 (Kors (Keqa fun a9467 => ?_) (Keqa fun a9467 => ?_))
                · have hq9468 := a9467
                  have xl9469 := SGN.len hq9468 (by omega)
                  refine vV (wr := [(nc, iA G 100 fnc), (nl, iA G 54 (upd (upd (upd (upd (upd (upd (upd (upd fnl (6 * kl) 0) (6 * kl + 1) (nI (NVL bt ktp (NXT bt ktp ks)))) (6 * kl + 2) (-9)) (6 * kl + 3) (-9)) (6 * kl + 2) (nI (NVL bt ktp (NXT bt ktp (NXT bt ktp (NXT bt ktp ks)))))) (6 * kl + 3) (nI (NVL bt ktp (NXT bt ktp (NXT bt ktp (NXT bt ktp (NXT bt ktp (NXT bt ktp ks)))))))) (6 * kl + 4) (nI kc)) (6 * kl + 5) (nI kc))), (nF, sA G 5 (FCT K))]) hC hK hl hP hD hS hA (m_need1X l G h0 nw nk mhasKept nt ktp nr mrowMany mroundOf mroundFrom mouts nm mfromHour mtoHour ns (NXT bt ktp (NXT bt ktp (NXT bt ktp (NXT bt ktp (NXT bt ktp (NXT bt ktp ks)))))) 0 (nI kc) (nI kl) nl nc nF np ntr nb mbestCost nso nsi nit nsh nsf nss nrc mtraced mdealer mnumber mwhose msize misParted fnt bt (htp) (by omega) (hFB)) si_X12_236 [3, 4] [0, 1, 2] sm_3_4 fm_3_4 nd_3_4 sm_0_1_2 nd_0_1_2 dj_3_4__0_1_2 rfl rfl rfl rfl rfl (Nat.le_of_ble_eq_true rfl) rm_32_4_2 ⟨Nat.le_of_ble_eq_true rfl, Nat.le_of_ble_eq_true rfl⟩ gX12_lineAt_15.2.1 (fun u9471 H locs hr9470 hP hD hS => ?_)
                  refine Kpdr (ws := [(nc, iA G 100 fnc), (nl, iA G 54 (upd (upd (upd (upd (upd (upd (upd (upd fnl (6 * kl) 0) (6 * kl + 1) (nI (NVL bt ktp (NXT bt ktp ks)))) (6 * kl + 2) (-9)) (6 * kl + 3) (-9)) (6 * kl + 2) (nI (NVL bt ktp (NXT bt ktp (NXT bt ktp (NXT bt ktp ks)))))) (6 * kl + 3) (nI (NVL bt ktp (NXT bt ktp (NXT bt ktp (NXT bt ktp (NXT bt ktp (NXT bt ktp ks)))))))) (6 * kl + 4) (nI kc)) (6 * kl + 5) (nI kc))), (nF, sA G 5 (FCT K)), (h0, oX12 nw nk mhasKept nt (nI ktp) nr mrowMany mroundOf mroundFrom mouts nm mfromHour mtoHour ns (nI (NXT bt ktp (NXT bt ktp (NXT bt ktp (NXT bt ktp (NXT bt ktp (NXT bt ktp (NXT bt ktp ks)))))))) (nI (TKE bt ktp (NXT bt ktp (NXT bt ktp (NXT bt ktp (NXT bt ktp (NXT bt ktp (NXT bt ktp (NXT bt ktp ks))))))))) (nI (TKN bt ktp (NXT bt ktp (NXT bt ktp (NXT bt ktp (NXT bt ktp (NXT bt ktp (NXT bt ktp (NXT bt ktp ks))))))))) 0 0 (nI kc) (nI kl) nl nc nF np ntr nb mbestCost nso nsi nit nsh nsf nss nrc mtraced mdealer mnumber mwhose msize misParted), (nt, iA G 240 fnt)]) hP hD (fun hP hD => ?_)
                  have xn9472 := NXT.ge (bt := bt) (n := ktp) (s := (NXT bt ktp (NXT bt ktp (NXT bt ktp (NXT bt ktp (NXT bt ktp (NXT bt ktp ks))))))) (by omega)
                  refine toQ hQ0 ?_
                  exact RV hC hP hD hS [3, 4, 0, 1, 2] (0, (NXT bt ktp (NXT bt ktp (NXT bt ktp (NXT bt ktp (NXT bt ktp (NXT bt ktp (NXT bt ktp ks))))))), kc, fnc, upd (upd (upd (upd (upd (upd (upd (upd fnl (6 * kl) 0) (6 * kl + 1) (nI (NVL bt ktp (NXT bt ktp ks)))) (6 * kl + 2) (-9)) (6 * kl + 3) (-9)) (6 * kl + 2) (nI (NVL bt ktp (NXT bt ktp (NXT bt ktp (NXT bt ktp ks)))))) (6 * kl + 3) (nI (NVL bt ktp (NXT bt ktp (NXT bt ktp (NXT bt ktp (NXT bt ktp (NXT bt ktp ks)))))))) (6 * kl + 4) (nI kc)) (6 * kl + 5) (nI kc), (0, (nI (NVL bt ktp (NXT bt ktp ks))), (nI (NVL bt ktp (NXT bt ktp (NXT bt ktp (NXT bt ktp ks))))), (nI (NVL bt ktp (NXT bt ktp (NXT bt ktp (NXT bt ktp (NXT bt ktp (NXT bt ktp ks))))))), 0, cs.length, cs.length, rs.length, rs.length), cs, rs) rfl rfl (by decide) (Or.inl ⟨rfl, Or.inr ⟨0, SRT.y (k := 0) (by decide) hq9381, Or.inr ⟨(NXT bt ktp (NXT bt ktp (NXT bt ktp (NXT bt ktp (NXT bt ktp (NXT bt ktp ks)))))), (nI (NVL bt ktp (NXT bt ktp ks))), (nI (NVL bt ktp (NXT bt ktp (NXT bt ktp (NXT bt ktp ks))))), (nI (NVL bt ktp (NXT bt ktp (NXT bt ktp (NXT bt ktp (NXT bt ktp (NXT bt ktp ks))))))), HDQ.t5 hq9393 hq9397 hq9409 hq9413 hq9425, Or.inl ⟨(fun h9 => hq9465 h9.2), Or.inr ⟨hq9468, rfl⟩⟩⟩⟩, hST, (by rw [hs1]; exact ⟨fun j hj => (upd_ne (by omega)).trans ((upd_ne (by omega)).trans ((upd_ne (by omega)).trans ((upd_ne (by omega)).trans ((upd_ne (by omega)).trans ((upd_ne (by omega)).trans ((upd_ne (by omega)).trans ((upd_ne (by omega)).trans (rfl)))))))), (upd_ne (by omega)).trans ((upd_ne (by omega)).trans ((upd_ne (by omega)).trans ((upd_ne (by omega)).trans ((upd_ne (by omega)).trans ((upd_ne (by omega)).trans ((upd_ne (by omega)).trans (upd_eq (by omega)))))))), (upd_ne (by omega)).trans ((upd_ne (by omega)).trans ((upd_ne (by omega)).trans ((upd_ne (by omega)).trans ((upd_ne (by omega)).trans ((upd_ne (by omega)).trans (upd_eq (by omega))))))), (upd_ne (by omega)).trans ((upd_ne (by omega)).trans ((upd_ne (by omega)).trans (upd_eq (by omega)))), (upd_ne (by omega)).trans ((upd_ne (by omega)).trans (upd_eq (by omega))), (upd_ne (by omega)).trans (upd_eq (by omega)), upd_eq (by omega), fun _ => rfl, fun h9 => absurd (show (0 : Nat) = 1 from h9) (by decide), Nat.zero_le _, (by (try dsimp only); omega)⟩), by (try dsimp only); omega, by (try dsimp only); omega⟩) gX12_lineAt_15.2.2
                · have hq9473 := a9467
                  refine vV (wr := [(nc, iA G 100 fnc), (nl, iA G 54 (upd (upd (upd (upd (upd (upd (upd (upd fnl (6 * kl) 0) (6 * kl + 1) (nI (NVL bt ktp (NXT bt ktp ks)))) (6 * kl + 2) (-9)) (6 * kl + 3) (-9)) (6 * kl + 2) (nI (NVL bt ktp (NXT bt ktp (NXT bt ktp (NXT bt ktp ks)))))) (6 * kl + 3) (nI (NVL bt ktp (NXT bt ktp (NXT bt ktp (NXT bt ktp (NXT bt ktp (NXT bt ktp ks)))))))) (6 * kl + 4) (nI kc)) (6 * kl + 5) (nI kc))), (nF, sA G 5 (FCT K)), (nt, iA G 240 fnt)]) hC hK hl hP hD hS hA (m_need0 l G h0 nw nk mhasKept nt (nI ktp) nr mrowMany mroundOf mroundFrom mouts nm mfromHour mtoHour ns (nI (NXT bt ktp (NXT bt ktp (NXT bt ktp (NXT bt ktp (NXT bt ktp (NXT bt ktp ks))))))) (nI (TKE bt ktp (NXT bt ktp (NXT bt ktp (NXT bt ktp (NXT bt ktp (NXT bt ktp (NXT bt ktp ks)))))))) (nI (TKN bt ktp (NXT bt ktp (NXT bt ktp (NXT bt ktp (NXT bt ktp (NXT bt ktp (NXT bt ktp ks)))))))) 0 (nI kc) (nI kl) nl nc nF np ntr nb mbestCost nso nsi nit nsh nsf nss nrc mtraced mdealer mnumber mwhose msize misParted) si_X12_236 [3] [0, 1, 2, 4] sm_3 fm_3 nd_3 sm_0_1_2_4 nd_0_1_2_4 dj_3__0_1_2_4 rfl rfl rfl rfl rfl (Nat.le_of_ble_eq_true rfl) rm_32_4_2 ⟨Nat.le_of_ble_eq_true rfl, Nat.le_of_ble_eq_true rfl⟩ gX12_lineAt_15.2.1 (fun u9475 H locs hr9474 hP hD hS => ?_)
                  refine Kpdr (ws := [(nc, iA G 100 fnc), (nl, iA G 54 (upd (upd (upd (upd (upd (upd (upd (upd fnl (6 * kl) 0) (6 * kl + 1) (nI (NVL bt ktp (NXT bt ktp ks)))) (6 * kl + 2) (-9)) (6 * kl + 3) (-9)) (6 * kl + 2) (nI (NVL bt ktp (NXT bt ktp (NXT bt ktp (NXT bt ktp ks)))))) (6 * kl + 3) (nI (NVL bt ktp (NXT bt ktp (NXT bt ktp (NXT bt ktp (NXT bt ktp (NXT bt ktp ks)))))))) (6 * kl + 4) (nI kc)) (6 * kl + 5) (nI kc))), (nF, sA G 5 (FCT K)), (nt, iA G 240 fnt), (h0, oX12 nw nk mhasKept nt (nI ktp) nr mrowMany mroundOf mroundFrom mouts nm mfromHour mtoHour ns (nI (NXT bt ktp (NXT bt ktp (NXT bt ktp (NXT bt ktp (NXT bt ktp (NXT bt ktp ks))))))) (nI (TKE bt ktp (NXT bt ktp (NXT bt ktp (NXT bt ktp (NXT bt ktp (NXT bt ktp (NXT bt ktp ks)))))))) (nI (TKN bt ktp (NXT bt ktp (NXT bt ktp (NXT bt ktp (NXT bt ktp (NXT bt ktp (NXT bt ktp ks)))))))) 1 0 (nI kc) (nI kl) nl nc nF np ntr nb mbestCost nso nsi nit nsh nsf nss nrc mtraced mdealer mnumber mwhose msize misParted)]) hP hD (fun hP hD => ?_)
                  refine toQ hQ0 ?_
                  exact RV hC hP hD hS [4, 3, 0, 1, 2] (1, (NXT bt ktp (NXT bt ktp (NXT bt ktp (NXT bt ktp (NXT bt ktp (NXT bt ktp ks)))))), kc, fnc, upd (upd (upd (upd (upd (upd (upd (upd fnl (6 * kl) 0) (6 * kl + 1) (nI (NVL bt ktp (NXT bt ktp ks)))) (6 * kl + 2) (-9)) (6 * kl + 3) (-9)) (6 * kl + 2) (nI (NVL bt ktp (NXT bt ktp (NXT bt ktp (NXT bt ktp ks)))))) (6 * kl + 3) (nI (NVL bt ktp (NXT bt ktp (NXT bt ktp (NXT bt ktp (NXT bt ktp (NXT bt ktp ks)))))))) (6 * kl + 4) (nI kc)) (6 * kl + 5) (nI kc), LN0, [], []) rfl rfl (by decide) (Or.inr ⟨rfl, Or.inr ⟨0, SRT.y (k := 0) (by decide) hq9381, Or.inr ⟨(NXT bt ktp (NXT bt ktp (NXT bt ktp (NXT bt ktp (NXT bt ktp (NXT bt ktp ks)))))), (nI (NVL bt ktp (NXT bt ktp ks))), (nI (NVL bt ktp (NXT bt ktp (NXT bt ktp (NXT bt ktp ks))))), (nI (NVL bt ktp (NXT bt ktp (NXT bt ktp (NXT bt ktp (NXT bt ktp (NXT bt ktp ks))))))), HDQ.t5 hq9393 hq9397 hq9409 hq9413 hq9425, Or.inl ⟨(fun h9 => hq9465 h9.2), Or.inl ⟨hq9473, rfl⟩⟩⟩⟩, by (try dsimp only); omega⟩) gX12_lineAt_15.2.2
            · obtain ⟨rfl, rfl, hq9476⟩ := v9424
              refine astN hC hK hP hD hS 1 (ws' := [(nc, iA G 100 fnc), (nl, iA G 54 (upd (upd (upd (upd (upd (upd fnl (6 * kl) 0) (6 * kl + 1) (nI (NVL bt ktp (NXT bt ktp ks)))) (6 * kl + 2) (-9)) (6 * kl + 3) (-9)) (6 * kl + 2) (nI (NVL bt ktp (NXT bt ktp (NXT bt ktp (NXT bt ktp ks)))))) (6 * kl + 3) r9418)), (nF, sA G 5 (FCT K)), (h0, oX12 nw nk mhasKept nt (nI ktp) nr mrowMany mroundOf mroundFrom mouts nm mfromHour mtoHour ns (nI (NXT bt ktp (NXT bt ktp (NXT bt ktp (NXT bt ktp (NXT bt ktp ks)))))) (nI (TKE bt ktp (NXT bt ktp (NXT bt ktp (NXT bt ktp (NXT bt ktp (NXT bt ktp ks))))))) (nI (TKN bt ktp (NXT bt ktp (NXT bt ktp (NXT bt ktp (NXT bt ktp (NXT bt ktp ks))))))) 1 0 (nI kc) (nI kl) nl nc nF np ntr nb mbestCost nso nsi nit nsh nsf nss nrc mtraced mdealer mnumber mwhose msize misParted), (nt, iA G 240 fnt)]) rfl (k := (6 * kl + 3)) (by omega) (Nat.le_of_ble_eq_true rfl) (rfl) gX12_lineAt_10.2.2.1 (fun H locs hP hD hS => ?_)
              refine lv_iload_n hx hb gX12_lineAt_10.2.2.2.1 rfl (lv_at0 hl) ?_
              refine lv_iconst (v := 2) hx hb gX12_lineAt_10.2.2.2.2.1 (by decide) ?_
              refine lv_icmp_ne (tgt := 221) hx hb gX12_lineAt_10.2.2.2.2.2.1 (by decide) (fun _ => ?_) (fun c9 => absurd c9 (by decide))
              refine lv_aload_n hx hb gX12_lineAt_12.1 rfl (lv_at1 hl) ?_
              refine gf_X12_32 hC rfl hK hP 3 rfl rfl gX12_lineAt_12.2.1 ?_
              refine lv_iload_n hx hb gX12_lineAt_12.2.2.1 rfl (lv_at2 hl) ?_
              refine lv_iconst (v := 4) hx hb gX12_lineAt_12.2.2.2.1 (by decide) ?_
              refine lv_iadd hx hb gX12_lineAt_12.2.2.2.2.1 ?_
              refine eqi (x1 := nI (6 * kl + 4)) (nI_add (6 * kl) 4) ?_
              refine lv_aload_n hx hb gX12_lineAt_12.2.2.2.2.2.1 rfl (lv_at1 hl) ?_
              refine gf_X12_240 hC rfl hK hP 3 rfl rfl gX12_lineAt_12.2.2.2.2.2.2.1 ?_
              refine astN hC hK hP hD hS 1 (ws' := [(nc, iA G 100 fnc), (nl, iA G 54 (upd (upd (upd (upd (upd (upd (upd fnl (6 * kl) 0) (6 * kl + 1) (nI (NVL bt ktp (NXT bt ktp ks)))) (6 * kl + 2) (-9)) (6 * kl + 3) (-9)) (6 * kl + 2) (nI (NVL bt ktp (NXT bt ktp (NXT bt ktp (NXT bt ktp ks)))))) (6 * kl + 3) r9418) (6 * kl + 4) (nI kc))), (nF, sA G 5 (FCT K)), (h0, oX12 nw nk mhasKept nt (nI ktp) nr mrowMany mroundOf mroundFrom mouts nm mfromHour mtoHour ns (nI (NXT bt ktp (NXT bt ktp (NXT bt ktp (NXT bt ktp (NXT bt ktp ks)))))) (nI (TKE bt ktp (NXT bt ktp (NXT bt ktp (NXT bt ktp (NXT bt ktp (NXT bt ktp ks))))))) (nI (TKN bt ktp (NXT bt ktp (NXT bt ktp (NXT bt ktp (NXT bt ktp (NXT bt ktp ks))))))) 1 0 (nI kc) (nI kl) nl nc nF np ntr nb mbestCost nso nsi nit nsh nsf nss nrc mtraced mdealer mnumber mwhose msize misParted), (nt, iA G 240 fnt)]) rfl (k := (6 * kl + 4)) (by omega) (Nat.le_of_ble_eq_true rfl) (rfl) gX12_lineAt_12.2.2.2.2.2.2.2.1 (fun H locs hP hD hS => ?_)
              refine lv_iload_n hx hb gX12_lineAt_12.2.2.2.2.2.2.2.2.1 rfl (lv_at0 hl) ?_
              refine lv_iconst (v := 3) hx hb gX12_lineAt_12.2.2.2.2.2.2.2.2.2 (by decide) ?_
              refine lv_icmp_eq (tgt := 256) hx hb gX12_lineAt_13.1 (by decide) (fun c9 => absurd c9 (by decide)) (fun _ => ?_)
              refine lv_aload_n hx hb gX12_lineAt_13.2.1 rfl (lv_at1 hl) ?_
              refine va_ldcSw (index := 287) (tx := "if") hx hb hown (hO.2.2 0 (by decide)) gX12_lineAt_13.2.2.1 ?_
              refine pVo hO hS hC hK hl hP hD (m_isNameF l G K 0 h0 nw nk mhasKept nt (nI ktp) nr mrowMany mroundOf mroundFrom mouts nm mfromHour mtoHour ns (nI (NXT bt ktp (NXT bt ktp (NXT bt ktp (NXT bt ktp (NXT bt ktp ks)))))) (nI (TKE bt ktp (NXT bt ktp (NXT bt ktp (NXT bt ktp (NXT bt ktp (NXT bt ktp ks))))))) (nI (TKN bt ktp (NXT bt ktp (NXT bt ktp (NXT bt ktp (NXT bt ktp (NXT bt ktp ks))))))) 0 (nI kc) (nI kl) nl nc nF np ntr nb mbestCost nso nsi nit nsh nsf nss nrc mtraced mdealer mnumber mwhose msize misParted ((by decide))) si_X12_248 [3] sm_3 fm_3 nd_3 rfl rfl rfl rfl rfl (Nat.le_of_ble_eq_true rfl) rm_32_5_4 ⟨by first | exact Nat.le_of_ble_eq_true rfl | exact Nat.zero_le _, by first | exact Nat.le_of_ble_eq_true rfl | exact Nat.zero_le _⟩ gX12_lineAt_13.2.2.2.1 (Keqr ?_)
              refine lv_if_eq (tgt := 256) hx hb gX12_lineAt_13.2.2.2.2.1 (by decide) (fun _ => ?_) (fun c9 => absurd (by decide) c9)
              refine lv_aload_n hx hb gX12_lineAt_13.2.2.2.2.2.2.2.2.2 rfl (lv_at1 hl) ?_
              refine gf_X12_32 hC rfl hK hP 3 rfl rfl gX12_lineAt_14.1 ?_
              refine lv_iload_n hx hb gX12_lineAt_14.2.1 rfl (lv_at2 hl) ?_
              refine lv_iconst (v := 5) hx hb gX12_lineAt_14.2.2.1 (by decide) ?_
              refine lv_iadd hx hb gX12_lineAt_14.2.2.2.1 ?_
              refine eqi (x1 := nI (6 * kl + 5)) (nI_add (6 * kl) 5) ?_
              refine lv_aload_n hx hb gX12_lineAt_14.2.2.2.2.1 rfl (lv_at1 hl) ?_
              refine gf_X12_240 hC rfl hK hP 3 rfl rfl gX12_lineAt_14.2.2.2.2.2.1 ?_
              refine astN hC hK hP hD hS 1 (ws' := [(nc, iA G 100 fnc), (nl, iA G 54 (upd (upd (upd (upd (upd (upd (upd (upd fnl (6 * kl) 0) (6 * kl + 1) (nI (NVL bt ktp (NXT bt ktp ks)))) (6 * kl + 2) (-9)) (6 * kl + 3) (-9)) (6 * kl + 2) (nI (NVL bt ktp (NXT bt ktp (NXT bt ktp (NXT bt ktp ks)))))) (6 * kl + 3) r9418) (6 * kl + 4) (nI kc)) (6 * kl + 5) (nI kc))), (nF, sA G 5 (FCT K)), (h0, oX12 nw nk mhasKept nt (nI ktp) nr mrowMany mroundOf mroundFrom mouts nm mfromHour mtoHour ns (nI (NXT bt ktp (NXT bt ktp (NXT bt ktp (NXT bt ktp (NXT bt ktp ks)))))) (nI (TKE bt ktp (NXT bt ktp (NXT bt ktp (NXT bt ktp (NXT bt ktp (NXT bt ktp ks))))))) (nI (TKN bt ktp (NXT bt ktp (NXT bt ktp (NXT bt ktp (NXT bt ktp (NXT bt ktp ks))))))) 1 0 (nI kc) (nI kl) nl nc nF np ntr nb mbestCost nso nsi nit nsh nsf nss nrc mtraced mdealer mnumber mwhose msize misParted), (nt, iA G 240 fnt)]) rfl (k := (6 * kl + 5)) (by omega) (Nat.le_of_ble_eq_true rfl) (rfl) gX12_lineAt_14.2.2.2.2.2.2.1 (fun H locs hP hD hS => ?_)
              refine lv_aload_n hx hb gX12_lineAt_14.2.2.2.2.2.2.2.1 rfl (lv_at1 hl) ?_
              refine lv_aload_n hx hb gX12_lineAt_14.2.2.2.2.2.2.2.2.1 rfl (lv_at1 hl) ?_
              refine lv_bipush (v := 59) hx hb gX12_lineAt_14.2.2.2.2.2.2.2.2.2 (by decide) ?_
              refine pV hC hK hl hP hD (m_isSignF l G h0 59 nw nk mhasKept nt (nI ktp) nr mrowMany mroundOf mroundFrom mouts nm mfromHour mtoHour ns (nI (NXT bt ktp (NXT bt ktp (NXT bt ktp (NXT bt ktp (NXT bt ktp ks)))))) (nI (TKE bt ktp (NXT bt ktp (NXT bt ktp (NXT bt ktp (NXT bt ktp (NXT bt ktp ks))))))) (nI (TKN bt ktp (NXT bt ktp (NXT bt ktp (NXT bt ktp (NXT bt ktp (NXT bt ktp ks))))))) 0 (nI kc) (nI kl) nl nc nF np ntr nb mbestCost nso nsi nit nsh nsf nss nrc mtraced mdealer mnumber mwhose msize misParted) si_X12_262 [3] sm_3 fm_3 nd_3 rfl rfl rfl rfl rfl (Nat.le_of_ble_eq_true rfl) rm_32_1_2 ⟨by first | exact Nat.le_of_ble_eq_true rfl | exact Nat.zero_le _, by first | exact Nat.le_of_ble_eq_true rfl | exact Nat.zero_le _⟩ gX12_lineAt_15.1 (Keqr ?_)
              refine vV (wr := [(nc, iA G 100 fnc), (nl, iA G 54 (upd (upd (upd (upd (upd (upd (upd (upd fnl (6 * kl) 0) (6 * kl + 1) (nI (NVL bt ktp (NXT bt ktp ks)))) (6 * kl + 2) (-9)) (6 * kl + 3) (-9)) (6 * kl + 2) (nI (NVL bt ktp (NXT bt ktp (NXT bt ktp (NXT bt ktp ks)))))) (6 * kl + 3) r9418) (6 * kl + 4) (nI kc)) (6 * kl + 5) (nI kc))), (nF, sA G 5 (FCT K)), (nt, iA G 240 fnt)]) hC hK hl hP hD hS hA (m_needF l G h0 0 nw nk mhasKept nt (nI ktp) nr mrowMany mroundOf mroundFrom mouts nm mfromHour mtoHour ns (nI (NXT bt ktp (NXT bt ktp (NXT bt ktp (NXT bt ktp (NXT bt ktp ks)))))) (nI (TKE bt ktp (NXT bt ktp (NXT bt ktp (NXT bt ktp (NXT bt ktp (NXT bt ktp ks))))))) (nI (TKN bt ktp (NXT bt ktp (NXT bt ktp (NXT bt ktp (NXT bt ktp (NXT bt ktp ks))))))) 0 (nI kc) (nI kl) nl nc nF np ntr nb mbestCost nso nsi nit nsh nsf nss nrc mtraced mdealer mnumber mwhose msize misParted) si_X12_236 [3] [0, 1, 2, 4] sm_3 fm_3 nd_3 sm_0_1_2_4 nd_0_1_2_4 dj_3__0_1_2_4 rfl rfl rfl rfl rfl (Nat.le_of_ble_eq_true rfl) rm_32_4_2 ⟨Nat.le_of_ble_eq_true rfl, Nat.le_of_ble_eq_true rfl⟩ gX12_lineAt_15.2.1 (fun u9482 H locs hr9481 hP hD hS => ?_)
              refine Kpdr (ws := [(nc, iA G 100 fnc), (nl, iA G 54 (upd (upd (upd (upd (upd (upd (upd (upd fnl (6 * kl) 0) (6 * kl + 1) (nI (NVL bt ktp (NXT bt ktp ks)))) (6 * kl + 2) (-9)) (6 * kl + 3) (-9)) (6 * kl + 2) (nI (NVL bt ktp (NXT bt ktp (NXT bt ktp (NXT bt ktp ks)))))) (6 * kl + 3) r9418) (6 * kl + 4) (nI kc)) (6 * kl + 5) (nI kc))), (nF, sA G 5 (FCT K)), (nt, iA G 240 fnt), (h0, oX12 nw nk mhasKept nt (nI ktp) nr mrowMany mroundOf mroundFrom mouts nm mfromHour mtoHour ns (nI (NXT bt ktp (NXT bt ktp (NXT bt ktp (NXT bt ktp (NXT bt ktp ks)))))) (nI (TKE bt ktp (NXT bt ktp (NXT bt ktp (NXT bt ktp (NXT bt ktp (NXT bt ktp ks))))))) (nI (TKN bt ktp (NXT bt ktp (NXT bt ktp (NXT bt ktp (NXT bt ktp (NXT bt ktp ks))))))) 1 0 (nI kc) (nI kl) nl nc nF np ntr nb mbestCost nso nsi nit nsh nsf nss nrc mtraced mdealer mnumber mwhose msize misParted)]) hP hD (fun hP hD => ?_)
              refine toQ hQ0 ?_
              exact RV hC hP hD hS [4, 3, 0, 1, 2] (1, (NXT bt ktp (NXT bt ktp (NXT bt ktp (NXT bt ktp (NXT bt ktp ks))))), kc, fnc, upd (upd (upd (upd (upd (upd (upd (upd fnl (6 * kl) 0) (6 * kl + 1) (nI (NVL bt ktp (NXT bt ktp ks)))) (6 * kl + 2) (-9)) (6 * kl + 3) (-9)) (6 * kl + 2) (nI (NVL bt ktp (NXT bt ktp (NXT bt ktp (NXT bt ktp ks)))))) (6 * kl + 3) r9418) (6 * kl + 4) (nI kc)) (6 * kl + 5) (nI kc), LN0, [], []) rfl rfl (by decide) (Or.inr ⟨rfl, Or.inr ⟨0, SRT.y (k := 0) (by decide) hq9381, Or.inl ⟨_, HDQ.t4 hq9393 hq9397 hq9409 hq9413 hq9476, rfl⟩⟩, by (try dsimp only); omega⟩) gX12_lineAt_15.2.2
          · have hq9483 := a9412
            refine vV (wr := [(nc, iA G 100 fnc), (nl, iA G 54 (upd (upd (upd (upd (upd fnl (6 * kl) 0) (6 * kl + 1) (nI (NVL bt ktp (NXT bt ktp ks)))) (6 * kl + 2) (-9)) (6 * kl + 3) (-9)) (6 * kl + 2) (nI (NVL bt ktp (NXT bt ktp (NXT bt ktp (NXT bt ktp ks))))))), (nF, sA G 5 (FCT K)), (nt, iA G 240 fnt)]) hC hK hl hP hD hS hA (m_need0 l G h0 nw nk mhasKept nt (nI ktp) nr mrowMany mroundOf mroundFrom mouts nm mfromHour mtoHour ns (nI (NXT bt ktp (NXT bt ktp (NXT bt ktp (NXT bt ktp ks))))) (nI (TKE bt ktp (NXT bt ktp (NXT bt ktp (NXT bt ktp (NXT bt ktp ks)))))) (nI (TKN bt ktp (NXT bt ktp (NXT bt ktp (NXT bt ktp (NXT bt ktp ks)))))) 0 (nI kc) (nI kl) nl nc nF np ntr nb mbestCost nso nsi nit nsh nsf nss nrc mtraced mdealer mnumber mwhose msize misParted) si_X12_236 [3] [0, 1, 2, 4] sm_3 fm_3 nd_3 sm_0_1_2_4 nd_0_1_2_4 dj_3__0_1_2_4 rfl rfl rfl rfl rfl (Nat.le_of_ble_eq_true rfl) rm_32_4_2 ⟨Nat.le_of_ble_eq_true rfl, Nat.le_of_ble_eq_true rfl⟩ gX12_lineAt_9.2.2.2.1 (fun u9485 H locs hr9484 hP hD hS => ?_)
            refine Kpdr (ws := [(nc, iA G 100 fnc), (nl, iA G 54 (upd (upd (upd (upd (upd fnl (6 * kl) 0) (6 * kl + 1) (nI (NVL bt ktp (NXT bt ktp ks)))) (6 * kl + 2) (-9)) (6 * kl + 3) (-9)) (6 * kl + 2) (nI (NVL bt ktp (NXT bt ktp (NXT bt ktp (NXT bt ktp ks))))))), (nF, sA G 5 (FCT K)), (nt, iA G 240 fnt), (h0, oX12 nw nk mhasKept nt (nI ktp) nr mrowMany mroundOf mroundFrom mouts nm mfromHour mtoHour ns (nI (NXT bt ktp (NXT bt ktp (NXT bt ktp (NXT bt ktp ks))))) (nI (TKE bt ktp (NXT bt ktp (NXT bt ktp (NXT bt ktp (NXT bt ktp ks)))))) (nI (TKN bt ktp (NXT bt ktp (NXT bt ktp (NXT bt ktp (NXT bt ktp ks)))))) 1 0 (nI kc) (nI kl) nl nc nF np ntr nb mbestCost nso nsi nit nsh nsf nss nrc mtraced mdealer mnumber mwhose msize misParted)]) hP hD (fun hP hD => ?_)
            refine lv_aload_n hx hb gX12_lineAt_9.2.2.2.2.1 rfl (lv_at1 hl) ?_
            refine gf_X12_32 hC rfl hK hP 4 rfl rfl gX12_lineAt_9.2.2.2.2.2.1 ?_
            refine lv_iload_n hx hb gX12_lineAt_9.2.2.2.2.2.2.1 rfl (lv_at2 hl) ?_
            refine lv_iconst (v := 3) hx hb gX12_lineAt_9.2.2.2.2.2.2.2.1 (by decide) ?_
            refine lv_iadd hx hb gX12_lineAt_9.2.2.2.2.2.2.2.2.1 ?_
            refine eqi (x1 := nI (6 * kl + 3)) (nI_add (6 * kl) 3) ?_
            refine lv_aload_n hx hb gX12_lineAt_9.2.2.2.2.2.2.2.2.2 rfl (lv_at1 hl) ?_
            refine lv_bipush (v := 7) hx hb gX12_lineAt_10.1 (by decide) ?_
            refine iV (wr := [(nc, iA G 100 fnc), (nl, iA G 54 (upd (upd (upd (upd (upd fnl (6 * kl) 0) (6 * kl + 1) (nI (NVL bt ktp (NXT bt ktp ks)))) (6 * kl + 2) (-9)) (6 * kl + 3) (-9)) (6 * kl + 2) (nI (NVL bt ktp (NXT bt ktp (NXT bt ktp (NXT bt ktp ks))))))), (nF, sA G 5 (FCT K)), (nt, iA G 240 fnt)]) hC hK hl hP hD hS hA (m_numberF l G h0 7 nw nk mhasKept nt (nI ktp) nr mrowMany mroundOf mroundFrom mouts nm mfromHour mtoHour ns (nI (NXT bt ktp (NXT bt ktp (NXT bt ktp (NXT bt ktp ks))))) (nI (TKE bt ktp (NXT bt ktp (NXT bt ktp (NXT bt ktp (NXT bt ktp ks)))))) (nI (TKN bt ktp (NXT bt ktp (NXT bt ktp (NXT bt ktp (NXT bt ktp ks)))))) 0 (nI kc) (nI kl) nl nc nF np ntr nb mbestCost nso nsi nit nsh nsf nss nrc mtraced mdealer mnumber mwhose msize misParted) si_X12_271 [4] [0, 1, 2, 3] sm_4 fm_4 nd_4 sm_0_1_2_3 nd_0_1_2_3 dj_4__0_1_2_3 rfl rfl rfl rfl rfl (Nat.le_of_ble_eq_true rfl) rm_32_5_5 ⟨Nat.le_of_ble_eq_true rfl, Nat.le_of_ble_eq_true rfl⟩ gX12_lineAt_10.2.1 (fun r9486 u9487 H locs hr9486 hP hD hS => ?_)
            refine Kpdr (ws := [(nc, iA G 100 fnc), (nl, iA G 54 (upd (upd (upd (upd (upd fnl (6 * kl) 0) (6 * kl + 1) (nI (NVL bt ktp (NXT bt ktp ks)))) (6 * kl + 2) (-9)) (6 * kl + 3) (-9)) (6 * kl + 2) (nI (NVL bt ktp (NXT bt ktp (NXT bt ktp (NXT bt ktp ks))))))), (nF, sA G 5 (FCT K)), (nt, iA G 240 fnt), (h0, oX12 nw nk mhasKept nt (nI ktp) nr mrowMany mroundOf mroundFrom mouts nm mfromHour mtoHour ns (nI (NXT bt ktp (NXT bt ktp (NXT bt ktp (NXT bt ktp ks))))) (nI (TKE bt ktp (NXT bt ktp (NXT bt ktp (NXT bt ktp (NXT bt ktp ks)))))) (nI (TKN bt ktp (NXT bt ktp (NXT bt ktp (NXT bt ktp (NXT bt ktp ks)))))) 1 0 (nI kc) (nI kl) nl nc nF np ntr nb mbestCost nso nsi nit nsh nsf nss nrc mtraced mdealer mnumber mwhose msize misParted)]) hP hD (fun hP hD => ?_)
            obtain rfl := hr9486
            refine astN hC hK hP hD hS 1 (ws' := [(nc, iA G 100 fnc), (nl, iA G 54 (upd (upd (upd (upd (upd (upd fnl (6 * kl) 0) (6 * kl + 1) (nI (NVL bt ktp (NXT bt ktp ks)))) (6 * kl + 2) (-9)) (6 * kl + 3) (-9)) (6 * kl + 2) (nI (NVL bt ktp (NXT bt ktp (NXT bt ktp (NXT bt ktp ks)))))) (6 * kl + 3) 0)), (nF, sA G 5 (FCT K)), (nt, iA G 240 fnt), (h0, oX12 nw nk mhasKept nt (nI ktp) nr mrowMany mroundOf mroundFrom mouts nm mfromHour mtoHour ns (nI (NXT bt ktp (NXT bt ktp (NXT bt ktp (NXT bt ktp ks))))) (nI (TKE bt ktp (NXT bt ktp (NXT bt ktp (NXT bt ktp (NXT bt ktp ks)))))) (nI (TKN bt ktp (NXT bt ktp (NXT bt ktp (NXT bt ktp (NXT bt ktp ks)))))) 1 0 (nI kc) (nI kl) nl nc nF np ntr nb mbestCost nso nsi nit nsh nsf nss nrc mtraced mdealer mnumber mwhose msize misParted)]) rfl (k := (6 * kl + 3)) (by omega) (Nat.le_of_ble_eq_true rfl) (rfl) gX12_lineAt_10.2.2.1 (fun H locs hP hD hS => ?_)
            refine lv_iload_n hx hb gX12_lineAt_10.2.2.2.1 rfl (lv_at0 hl) ?_
            refine lv_iconst (v := 2) hx hb gX12_lineAt_10.2.2.2.2.1 (by decide) ?_
            refine lv_icmp_ne (tgt := 221) hx hb gX12_lineAt_10.2.2.2.2.2.1 (by decide) (fun _ => ?_) (fun c9 => absurd c9 (by decide))
            refine lv_aload_n hx hb gX12_lineAt_12.1 rfl (lv_at1 hl) ?_
            refine gf_X12_32 hC rfl hK hP 4 rfl rfl gX12_lineAt_12.2.1 ?_
            refine lv_iload_n hx hb gX12_lineAt_12.2.2.1 rfl (lv_at2 hl) ?_
            refine lv_iconst (v := 4) hx hb gX12_lineAt_12.2.2.2.1 (by decide) ?_
            refine lv_iadd hx hb gX12_lineAt_12.2.2.2.2.1 ?_
            refine eqi (x1 := nI (6 * kl + 4)) (nI_add (6 * kl) 4) ?_
            refine lv_aload_n hx hb gX12_lineAt_12.2.2.2.2.2.1 rfl (lv_at1 hl) ?_
            refine gf_X12_240 hC rfl hK hP 4 rfl rfl gX12_lineAt_12.2.2.2.2.2.2.1 ?_
            refine astN hC hK hP hD hS 1 (ws' := [(nc, iA G 100 fnc), (nl, iA G 54 (upd (upd (upd (upd (upd (upd (upd fnl (6 * kl) 0) (6 * kl + 1) (nI (NVL bt ktp (NXT bt ktp ks)))) (6 * kl + 2) (-9)) (6 * kl + 3) (-9)) (6 * kl + 2) (nI (NVL bt ktp (NXT bt ktp (NXT bt ktp (NXT bt ktp ks)))))) (6 * kl + 3) 0) (6 * kl + 4) (nI kc))), (nF, sA G 5 (FCT K)), (nt, iA G 240 fnt), (h0, oX12 nw nk mhasKept nt (nI ktp) nr mrowMany mroundOf mroundFrom mouts nm mfromHour mtoHour ns (nI (NXT bt ktp (NXT bt ktp (NXT bt ktp (NXT bt ktp ks))))) (nI (TKE bt ktp (NXT bt ktp (NXT bt ktp (NXT bt ktp (NXT bt ktp ks)))))) (nI (TKN bt ktp (NXT bt ktp (NXT bt ktp (NXT bt ktp (NXT bt ktp ks)))))) 1 0 (nI kc) (nI kl) nl nc nF np ntr nb mbestCost nso nsi nit nsh nsf nss nrc mtraced mdealer mnumber mwhose msize misParted)]) rfl (k := (6 * kl + 4)) (by omega) (Nat.le_of_ble_eq_true rfl) (rfl) gX12_lineAt_12.2.2.2.2.2.2.2.1 (fun H locs hP hD hS => ?_)
            refine lv_iload_n hx hb gX12_lineAt_12.2.2.2.2.2.2.2.2.1 rfl (lv_at0 hl) ?_
            refine lv_iconst (v := 3) hx hb gX12_lineAt_12.2.2.2.2.2.2.2.2.2 (by decide) ?_
            refine lv_icmp_eq (tgt := 256) hx hb gX12_lineAt_13.1 (by decide) (fun c9 => absurd c9 (by decide)) (fun _ => ?_)
            refine lv_aload_n hx hb gX12_lineAt_13.2.1 rfl (lv_at1 hl) ?_
            refine va_ldcSw (index := 287) (tx := "if") hx hb hown (hO.2.2 0 (by decide)) gX12_lineAt_13.2.2.1 ?_
            refine pVo hO hS hC hK hl hP hD (m_isNameF l G K 0 h0 nw nk mhasKept nt (nI ktp) nr mrowMany mroundOf mroundFrom mouts nm mfromHour mtoHour ns (nI (NXT bt ktp (NXT bt ktp (NXT bt ktp (NXT bt ktp ks))))) (nI (TKE bt ktp (NXT bt ktp (NXT bt ktp (NXT bt ktp (NXT bt ktp ks)))))) (nI (TKN bt ktp (NXT bt ktp (NXT bt ktp (NXT bt ktp (NXT bt ktp ks)))))) 0 (nI kc) (nI kl) nl nc nF np ntr nb mbestCost nso nsi nit nsh nsf nss nrc mtraced mdealer mnumber mwhose msize misParted ((by decide))) si_X12_248 [4] sm_4 fm_4 nd_4 rfl rfl rfl rfl rfl (Nat.le_of_ble_eq_true rfl) rm_32_5_4 ⟨by first | exact Nat.le_of_ble_eq_true rfl | exact Nat.zero_le _, by first | exact Nat.le_of_ble_eq_true rfl | exact Nat.zero_le _⟩ gX12_lineAt_13.2.2.2.1 (Keqr ?_)
            refine lv_if_eq (tgt := 256) hx hb gX12_lineAt_13.2.2.2.2.1 (by decide) (fun _ => ?_) (fun c9 => absurd (by decide) c9)
            refine lv_aload_n hx hb gX12_lineAt_13.2.2.2.2.2.2.2.2.2 rfl (lv_at1 hl) ?_
            refine gf_X12_32 hC rfl hK hP 4 rfl rfl gX12_lineAt_14.1 ?_
            refine lv_iload_n hx hb gX12_lineAt_14.2.1 rfl (lv_at2 hl) ?_
            refine lv_iconst (v := 5) hx hb gX12_lineAt_14.2.2.1 (by decide) ?_
            refine lv_iadd hx hb gX12_lineAt_14.2.2.2.1 ?_
            refine eqi (x1 := nI (6 * kl + 5)) (nI_add (6 * kl) 5) ?_
            refine lv_aload_n hx hb gX12_lineAt_14.2.2.2.2.1 rfl (lv_at1 hl) ?_
            refine gf_X12_240 hC rfl hK hP 4 rfl rfl gX12_lineAt_14.2.2.2.2.2.1 ?_
            refine astN hC hK hP hD hS 1 (ws' := [(nc, iA G 100 fnc), (nl, iA G 54 (upd (upd (upd (upd (upd (upd (upd (upd fnl (6 * kl) 0) (6 * kl + 1) (nI (NVL bt ktp (NXT bt ktp ks)))) (6 * kl + 2) (-9)) (6 * kl + 3) (-9)) (6 * kl + 2) (nI (NVL bt ktp (NXT bt ktp (NXT bt ktp (NXT bt ktp ks)))))) (6 * kl + 3) 0) (6 * kl + 4) (nI kc)) (6 * kl + 5) (nI kc))), (nF, sA G 5 (FCT K)), (nt, iA G 240 fnt), (h0, oX12 nw nk mhasKept nt (nI ktp) nr mrowMany mroundOf mroundFrom mouts nm mfromHour mtoHour ns (nI (NXT bt ktp (NXT bt ktp (NXT bt ktp (NXT bt ktp ks))))) (nI (TKE bt ktp (NXT bt ktp (NXT bt ktp (NXT bt ktp (NXT bt ktp ks)))))) (nI (TKN bt ktp (NXT bt ktp (NXT bt ktp (NXT bt ktp (NXT bt ktp ks)))))) 1 0 (nI kc) (nI kl) nl nc nF np ntr nb mbestCost nso nsi nit nsh nsf nss nrc mtraced mdealer mnumber mwhose msize misParted)]) rfl (k := (6 * kl + 5)) (by omega) (Nat.le_of_ble_eq_true rfl) (rfl) gX12_lineAt_14.2.2.2.2.2.2.1 (fun H locs hP hD hS => ?_)
            refine lv_aload_n hx hb gX12_lineAt_14.2.2.2.2.2.2.2.1 rfl (lv_at1 hl) ?_
            refine lv_aload_n hx hb gX12_lineAt_14.2.2.2.2.2.2.2.2.1 rfl (lv_at1 hl) ?_
            refine lv_bipush (v := 59) hx hb gX12_lineAt_14.2.2.2.2.2.2.2.2.2 (by decide) ?_
            refine pV hC hK hl hP hD (m_isSignF l G h0 59 nw nk mhasKept nt (nI ktp) nr mrowMany mroundOf mroundFrom mouts nm mfromHour mtoHour ns (nI (NXT bt ktp (NXT bt ktp (NXT bt ktp (NXT bt ktp ks))))) (nI (TKE bt ktp (NXT bt ktp (NXT bt ktp (NXT bt ktp (NXT bt ktp ks)))))) (nI (TKN bt ktp (NXT bt ktp (NXT bt ktp (NXT bt ktp (NXT bt ktp ks)))))) 0 (nI kc) (nI kl) nl nc nF np ntr nb mbestCost nso nsi nit nsh nsf nss nrc mtraced mdealer mnumber mwhose msize misParted) si_X12_262 [4] sm_4 fm_4 nd_4 rfl rfl rfl rfl rfl (Nat.le_of_ble_eq_true rfl) rm_32_1_2 ⟨by first | exact Nat.le_of_ble_eq_true rfl | exact Nat.zero_le _, by first | exact Nat.le_of_ble_eq_true rfl | exact Nat.zero_le _⟩ gX12_lineAt_15.1 (Keqr ?_)
            refine vV (wr := [(nc, iA G 100 fnc), (nl, iA G 54 (upd (upd (upd (upd (upd (upd (upd (upd fnl (6 * kl) 0) (6 * kl + 1) (nI (NVL bt ktp (NXT bt ktp ks)))) (6 * kl + 2) (-9)) (6 * kl + 3) (-9)) (6 * kl + 2) (nI (NVL bt ktp (NXT bt ktp (NXT bt ktp (NXT bt ktp ks)))))) (6 * kl + 3) 0) (6 * kl + 4) (nI kc)) (6 * kl + 5) (nI kc))), (nF, sA G 5 (FCT K)), (nt, iA G 240 fnt)]) hC hK hl hP hD hS hA (m_needF l G h0 0 nw nk mhasKept nt (nI ktp) nr mrowMany mroundOf mroundFrom mouts nm mfromHour mtoHour ns (nI (NXT bt ktp (NXT bt ktp (NXT bt ktp (NXT bt ktp ks))))) (nI (TKE bt ktp (NXT bt ktp (NXT bt ktp (NXT bt ktp (NXT bt ktp ks)))))) (nI (TKN bt ktp (NXT bt ktp (NXT bt ktp (NXT bt ktp (NXT bt ktp ks)))))) 0 (nI kc) (nI kl) nl nc nF np ntr nb mbestCost nso nsi nit nsh nsf nss nrc mtraced mdealer mnumber mwhose msize misParted) si_X12_236 [4] [0, 1, 2, 3] sm_4 fm_4 nd_4 sm_0_1_2_3 nd_0_1_2_3 dj_4__0_1_2_3 rfl rfl rfl rfl rfl (Nat.le_of_ble_eq_true rfl) rm_32_4_2 ⟨Nat.le_of_ble_eq_true rfl, Nat.le_of_ble_eq_true rfl⟩ gX12_lineAt_15.2.1 (fun u9494 H locs hr9493 hP hD hS => ?_)
            refine Kpdr (ws := [(nc, iA G 100 fnc), (nl, iA G 54 (upd (upd (upd (upd (upd (upd (upd (upd fnl (6 * kl) 0) (6 * kl + 1) (nI (NVL bt ktp (NXT bt ktp ks)))) (6 * kl + 2) (-9)) (6 * kl + 3) (-9)) (6 * kl + 2) (nI (NVL bt ktp (NXT bt ktp (NXT bt ktp (NXT bt ktp ks)))))) (6 * kl + 3) 0) (6 * kl + 4) (nI kc)) (6 * kl + 5) (nI kc))), (nF, sA G 5 (FCT K)), (nt, iA G 240 fnt), (h0, oX12 nw nk mhasKept nt (nI ktp) nr mrowMany mroundOf mroundFrom mouts nm mfromHour mtoHour ns (nI (NXT bt ktp (NXT bt ktp (NXT bt ktp (NXT bt ktp ks))))) (nI (TKE bt ktp (NXT bt ktp (NXT bt ktp (NXT bt ktp (NXT bt ktp ks)))))) (nI (TKN bt ktp (NXT bt ktp (NXT bt ktp (NXT bt ktp (NXT bt ktp ks)))))) 1 0 (nI kc) (nI kl) nl nc nF np ntr nb mbestCost nso nsi nit nsh nsf nss nrc mtraced mdealer mnumber mwhose msize misParted)]) hP hD (fun hP hD => ?_)
            refine toQ hQ0 ?_
            exact RV hC hP hD hS [4, 3, 0, 1, 2] (1, (NXT bt ktp (NXT bt ktp (NXT bt ktp (NXT bt ktp ks)))), kc, fnc, upd (upd (upd (upd (upd (upd (upd (upd fnl (6 * kl) 0) (6 * kl + 1) (nI (NVL bt ktp (NXT bt ktp ks)))) (6 * kl + 2) (-9)) (6 * kl + 3) (-9)) (6 * kl + 2) (nI (NVL bt ktp (NXT bt ktp (NXT bt ktp (NXT bt ktp ks)))))) (6 * kl + 3) 0) (6 * kl + 4) (nI kc)) (6 * kl + 5) (nI kc), LN0, [], []) rfl rfl (by decide) (Or.inr ⟨rfl, Or.inr ⟨0, SRT.y (k := 0) (by decide) hq9381, Or.inl ⟨_, HDQ.t3 hq9393 hq9397 hq9409 hq9483, rfl⟩⟩, by (try dsimp only); omega⟩) gX12_lineAt_15.2.2
        · obtain ⟨rfl, rfl, hq9495⟩ := v9408
          refine astN hC hK hP hD hS 1 (ws' := [(nc, iA G 100 fnc), (nl, iA G 54 (upd (upd (upd (upd (upd fnl (6 * kl) 0) (6 * kl + 1) (nI (NVL bt ktp (NXT bt ktp ks)))) (6 * kl + 2) (-9)) (6 * kl + 3) (-9)) (6 * kl + 2) r9402)), (nF, sA G 5 (FCT K)), (h0, oX12 nw nk mhasKept nt (nI ktp) nr mrowMany mroundOf mroundFrom mouts nm mfromHour mtoHour ns (nI (NXT bt ktp (NXT bt ktp (NXT bt ktp ks)))) (nI (TKE bt ktp (NXT bt ktp (NXT bt ktp (NXT bt ktp ks))))) (nI (TKN bt ktp (NXT bt ktp (NXT bt ktp (NXT bt ktp ks))))) 1 0 (nI kc) (nI kl) nl nc nF np ntr nb mbestCost nso nsi nit nsh nsf nss nrc mtraced mdealer mnumber mwhose msize misParted), (nt, iA G 240 fnt)]) rfl (k := (6 * kl + 2)) (by omega) (Nat.le_of_ble_eq_true rfl) (rfl) gX12_lineAt_8.2.2.2.2.2.2.2.2.1 (fun H locs hP hD hS => ?_)
          refine lv_aload_n hx hb gX12_lineAt_8.2.2.2.2.2.2.2.2.2 rfl (lv_at1 hl) ?_
          refine lv_aload_n hx hb gX12_lineAt_9.1 rfl (lv_at1 hl) ?_
          refine va_ldcSw (index := 284) (tx := "from") hx hb hown (hO.2.2 6 (by decide)) gX12_lineAt_9.2.1 ?_
          refine pVo hO hS hC hK hl hP hD (m_isNameF l G K 6 h0 nw nk mhasKept nt (nI ktp) nr mrowMany mroundOf mroundFrom mouts nm mfromHour mtoHour ns (nI (NXT bt ktp (NXT bt ktp (NXT bt ktp ks)))) (nI (TKE bt ktp (NXT bt ktp (NXT bt ktp (NXT bt ktp ks))))) (nI (TKN bt ktp (NXT bt ktp (NXT bt ktp (NXT bt ktp ks))))) 0 (nI kc) (nI kl) nl nc nF np ntr nb mbestCost nso nsi nit nsh nsf nss nrc mtraced mdealer mnumber mwhose msize misParted ((by decide))) si_X12_248 [3] sm_3 fm_3 nd_3 rfl rfl rfl rfl rfl (Nat.le_of_ble_eq_true rfl) rm_32_5_4 ⟨by first | exact Nat.le_of_ble_eq_true rfl | exact Nat.zero_le _, by first | exact Nat.le_of_ble_eq_true rfl | exact Nat.zero_le _⟩ gX12_lineAt_9.2.2.1 (Keqr ?_)
          refine vV (wr := [(nc, iA G 100 fnc), (nl, iA G 54 (upd (upd (upd (upd (upd fnl (6 * kl) 0) (6 * kl + 1) (nI (NVL bt ktp (NXT bt ktp ks)))) (6 * kl + 2) (-9)) (6 * kl + 3) (-9)) (6 * kl + 2) r9402)), (nF, sA G 5 (FCT K)), (nt, iA G 240 fnt)]) hC hK hl hP hD hS hA (m_needF l G h0 0 nw nk mhasKept nt (nI ktp) nr mrowMany mroundOf mroundFrom mouts nm mfromHour mtoHour ns (nI (NXT bt ktp (NXT bt ktp (NXT bt ktp ks)))) (nI (TKE bt ktp (NXT bt ktp (NXT bt ktp (NXT bt ktp ks))))) (nI (TKN bt ktp (NXT bt ktp (NXT bt ktp (NXT bt ktp ks))))) 0 (nI kc) (nI kl) nl nc nF np ntr nb mbestCost nso nsi nit nsh nsf nss nrc mtraced mdealer mnumber mwhose msize misParted) si_X12_236 [3] [0, 1, 2, 4] sm_3 fm_3 nd_3 sm_0_1_2_4 nd_0_1_2_4 dj_3__0_1_2_4 rfl rfl rfl rfl rfl (Nat.le_of_ble_eq_true rfl) rm_32_4_2 ⟨Nat.le_of_ble_eq_true rfl, Nat.le_of_ble_eq_true rfl⟩ gX12_lineAt_9.2.2.2.1 (fun u9499 H locs hr9498 hP hD hS => ?_)
          refine Kpdr (ws := [(nc, iA G 100 fnc), (nl, iA G 54 (upd (upd (upd (upd (upd fnl (6 * kl) 0) (6 * kl + 1) (nI (NVL bt ktp (NXT bt ktp ks)))) (6 * kl + 2) (-9)) (6 * kl + 3) (-9)) (6 * kl + 2) r9402)), (nF, sA G 5 (FCT K)), (nt, iA G 240 fnt), (h0, oX12 nw nk mhasKept nt (nI ktp) nr mrowMany mroundOf mroundFrom mouts nm mfromHour mtoHour ns (nI (NXT bt ktp (NXT bt ktp (NXT bt ktp ks)))) (nI (TKE bt ktp (NXT bt ktp (NXT bt ktp (NXT bt ktp ks))))) (nI (TKN bt ktp (NXT bt ktp (NXT bt ktp (NXT bt ktp ks))))) 1 0 (nI kc) (nI kl) nl nc nF np ntr nb mbestCost nso nsi nit nsh nsf nss nrc mtraced mdealer mnumber mwhose msize misParted)]) hP hD (fun hP hD => ?_)
          refine lv_aload_n hx hb gX12_lineAt_9.2.2.2.2.1 rfl (lv_at1 hl) ?_
          refine gf_X12_32 hC rfl hK hP 4 rfl rfl gX12_lineAt_9.2.2.2.2.2.1 ?_
          refine lv_iload_n hx hb gX12_lineAt_9.2.2.2.2.2.2.1 rfl (lv_at2 hl) ?_
          refine lv_iconst (v := 3) hx hb gX12_lineAt_9.2.2.2.2.2.2.2.1 (by decide) ?_
          refine lv_iadd hx hb gX12_lineAt_9.2.2.2.2.2.2.2.2.1 ?_
          refine eqi (x1 := nI (6 * kl + 3)) (nI_add (6 * kl) 3) ?_
          refine lv_aload_n hx hb gX12_lineAt_9.2.2.2.2.2.2.2.2.2 rfl (lv_at1 hl) ?_
          refine lv_bipush (v := 7) hx hb gX12_lineAt_10.1 (by decide) ?_
          refine iV (wr := [(nc, iA G 100 fnc), (nl, iA G 54 (upd (upd (upd (upd (upd fnl (6 * kl) 0) (6 * kl + 1) (nI (NVL bt ktp (NXT bt ktp ks)))) (6 * kl + 2) (-9)) (6 * kl + 3) (-9)) (6 * kl + 2) r9402)), (nF, sA G 5 (FCT K)), (nt, iA G 240 fnt)]) hC hK hl hP hD hS hA (m_numberF l G h0 7 nw nk mhasKept nt (nI ktp) nr mrowMany mroundOf mroundFrom mouts nm mfromHour mtoHour ns (nI (NXT bt ktp (NXT bt ktp (NXT bt ktp ks)))) (nI (TKE bt ktp (NXT bt ktp (NXT bt ktp (NXT bt ktp ks))))) (nI (TKN bt ktp (NXT bt ktp (NXT bt ktp (NXT bt ktp ks))))) 0 (nI kc) (nI kl) nl nc nF np ntr nb mbestCost nso nsi nit nsh nsf nss nrc mtraced mdealer mnumber mwhose msize misParted) si_X12_271 [4] [0, 1, 2, 3] sm_4 fm_4 nd_4 sm_0_1_2_3 nd_0_1_2_3 dj_4__0_1_2_3 rfl rfl rfl rfl rfl (Nat.le_of_ble_eq_true rfl) rm_32_5_5 ⟨Nat.le_of_ble_eq_true rfl, Nat.le_of_ble_eq_true rfl⟩ gX12_lineAt_10.2.1 (fun r9500 u9501 H locs hr9500 hP hD hS => ?_)
          refine Kpdr (ws := [(nc, iA G 100 fnc), (nl, iA G 54 (upd (upd (upd (upd (upd fnl (6 * kl) 0) (6 * kl + 1) (nI (NVL bt ktp (NXT bt ktp ks)))) (6 * kl + 2) (-9)) (6 * kl + 3) (-9)) (6 * kl + 2) r9402)), (nF, sA G 5 (FCT K)), (nt, iA G 240 fnt), (h0, oX12 nw nk mhasKept nt (nI ktp) nr mrowMany mroundOf mroundFrom mouts nm mfromHour mtoHour ns (nI (NXT bt ktp (NXT bt ktp (NXT bt ktp ks)))) (nI (TKE bt ktp (NXT bt ktp (NXT bt ktp (NXT bt ktp ks))))) (nI (TKN bt ktp (NXT bt ktp (NXT bt ktp (NXT bt ktp ks))))) 1 0 (nI kc) (nI kl) nl nc nF np ntr nb mbestCost nso nsi nit nsh nsf nss nrc mtraced mdealer mnumber mwhose msize misParted)]) hP hD (fun hP hD => ?_)
          obtain rfl := hr9500
          refine astN hC hK hP hD hS 1 (ws' := [(nc, iA G 100 fnc), (nl, iA G 54 (upd (upd (upd (upd (upd (upd fnl (6 * kl) 0) (6 * kl + 1) (nI (NVL bt ktp (NXT bt ktp ks)))) (6 * kl + 2) (-9)) (6 * kl + 3) (-9)) (6 * kl + 2) r9402) (6 * kl + 3) 0)), (nF, sA G 5 (FCT K)), (nt, iA G 240 fnt), (h0, oX12 nw nk mhasKept nt (nI ktp) nr mrowMany mroundOf mroundFrom mouts nm mfromHour mtoHour ns (nI (NXT bt ktp (NXT bt ktp (NXT bt ktp ks)))) (nI (TKE bt ktp (NXT bt ktp (NXT bt ktp (NXT bt ktp ks))))) (nI (TKN bt ktp (NXT bt ktp (NXT bt ktp (NXT bt ktp ks))))) 1 0 (nI kc) (nI kl) nl nc nF np ntr nb mbestCost nso nsi nit nsh nsf nss nrc mtraced mdealer mnumber mwhose msize misParted)]) rfl (k := (6 * kl + 3)) (by omega) (Nat.le_of_ble_eq_true rfl) (rfl) gX12_lineAt_10.2.2.1 (fun H locs hP hD hS => ?_)
          refine lv_iload_n hx hb gX12_lineAt_10.2.2.2.1 rfl (lv_at0 hl) ?_
          refine lv_iconst (v := 2) hx hb gX12_lineAt_10.2.2.2.2.1 (by decide) ?_
          refine lv_icmp_ne (tgt := 221) hx hb gX12_lineAt_10.2.2.2.2.2.1 (by decide) (fun _ => ?_) (fun c9 => absurd c9 (by decide))
          refine lv_aload_n hx hb gX12_lineAt_12.1 rfl (lv_at1 hl) ?_
          refine gf_X12_32 hC rfl hK hP 4 rfl rfl gX12_lineAt_12.2.1 ?_
          refine lv_iload_n hx hb gX12_lineAt_12.2.2.1 rfl (lv_at2 hl) ?_
          refine lv_iconst (v := 4) hx hb gX12_lineAt_12.2.2.2.1 (by decide) ?_
          refine lv_iadd hx hb gX12_lineAt_12.2.2.2.2.1 ?_
          refine eqi (x1 := nI (6 * kl + 4)) (nI_add (6 * kl) 4) ?_
          refine lv_aload_n hx hb gX12_lineAt_12.2.2.2.2.2.1 rfl (lv_at1 hl) ?_
          refine gf_X12_240 hC rfl hK hP 4 rfl rfl gX12_lineAt_12.2.2.2.2.2.2.1 ?_
          refine astN hC hK hP hD hS 1 (ws' := [(nc, iA G 100 fnc), (nl, iA G 54 (upd (upd (upd (upd (upd (upd (upd fnl (6 * kl) 0) (6 * kl + 1) (nI (NVL bt ktp (NXT bt ktp ks)))) (6 * kl + 2) (-9)) (6 * kl + 3) (-9)) (6 * kl + 2) r9402) (6 * kl + 3) 0) (6 * kl + 4) (nI kc))), (nF, sA G 5 (FCT K)), (nt, iA G 240 fnt), (h0, oX12 nw nk mhasKept nt (nI ktp) nr mrowMany mroundOf mroundFrom mouts nm mfromHour mtoHour ns (nI (NXT bt ktp (NXT bt ktp (NXT bt ktp ks)))) (nI (TKE bt ktp (NXT bt ktp (NXT bt ktp (NXT bt ktp ks))))) (nI (TKN bt ktp (NXT bt ktp (NXT bt ktp (NXT bt ktp ks))))) 1 0 (nI kc) (nI kl) nl nc nF np ntr nb mbestCost nso nsi nit nsh nsf nss nrc mtraced mdealer mnumber mwhose msize misParted)]) rfl (k := (6 * kl + 4)) (by omega) (Nat.le_of_ble_eq_true rfl) (rfl) gX12_lineAt_12.2.2.2.2.2.2.2.1 (fun H locs hP hD hS => ?_)
          refine lv_iload_n hx hb gX12_lineAt_12.2.2.2.2.2.2.2.2.1 rfl (lv_at0 hl) ?_
          refine lv_iconst (v := 3) hx hb gX12_lineAt_12.2.2.2.2.2.2.2.2.2 (by decide) ?_
          refine lv_icmp_eq (tgt := 256) hx hb gX12_lineAt_13.1 (by decide) (fun c9 => absurd c9 (by decide)) (fun _ => ?_)
          refine lv_aload_n hx hb gX12_lineAt_13.2.1 rfl (lv_at1 hl) ?_
          refine va_ldcSw (index := 287) (tx := "if") hx hb hown (hO.2.2 0 (by decide)) gX12_lineAt_13.2.2.1 ?_
          refine pVo hO hS hC hK hl hP hD (m_isNameF l G K 0 h0 nw nk mhasKept nt (nI ktp) nr mrowMany mroundOf mroundFrom mouts nm mfromHour mtoHour ns (nI (NXT bt ktp (NXT bt ktp (NXT bt ktp ks)))) (nI (TKE bt ktp (NXT bt ktp (NXT bt ktp (NXT bt ktp ks))))) (nI (TKN bt ktp (NXT bt ktp (NXT bt ktp (NXT bt ktp ks))))) 0 (nI kc) (nI kl) nl nc nF np ntr nb mbestCost nso nsi nit nsh nsf nss nrc mtraced mdealer mnumber mwhose msize misParted ((by decide))) si_X12_248 [4] sm_4 fm_4 nd_4 rfl rfl rfl rfl rfl (Nat.le_of_ble_eq_true rfl) rm_32_5_4 ⟨by first | exact Nat.le_of_ble_eq_true rfl | exact Nat.zero_le _, by first | exact Nat.le_of_ble_eq_true rfl | exact Nat.zero_le _⟩ gX12_lineAt_13.2.2.2.1 (Keqr ?_)
          refine lv_if_eq (tgt := 256) hx hb gX12_lineAt_13.2.2.2.2.1 (by decide) (fun _ => ?_) (fun c9 => absurd (by decide) c9)
          refine lv_aload_n hx hb gX12_lineAt_13.2.2.2.2.2.2.2.2.2 rfl (lv_at1 hl) ?_
          refine gf_X12_32 hC rfl hK hP 4 rfl rfl gX12_lineAt_14.1 ?_
          refine lv_iload_n hx hb gX12_lineAt_14.2.1 rfl (lv_at2 hl) ?_
          refine lv_iconst (v := 5) hx hb gX12_lineAt_14.2.2.1 (by decide) ?_
          refine lv_iadd hx hb gX12_lineAt_14.2.2.2.1 ?_
          refine eqi (x1 := nI (6 * kl + 5)) (nI_add (6 * kl) 5) ?_
          refine lv_aload_n hx hb gX12_lineAt_14.2.2.2.2.1 rfl (lv_at1 hl) ?_
          refine gf_X12_240 hC rfl hK hP 4 rfl rfl gX12_lineAt_14.2.2.2.2.2.1 ?_
          refine astN hC hK hP hD hS 1 (ws' := [(nc, iA G 100 fnc), (nl, iA G 54 (upd (upd (upd (upd (upd (upd (upd (upd fnl (6 * kl) 0) (6 * kl + 1) (nI (NVL bt ktp (NXT bt ktp ks)))) (6 * kl + 2) (-9)) (6 * kl + 3) (-9)) (6 * kl + 2) r9402) (6 * kl + 3) 0) (6 * kl + 4) (nI kc)) (6 * kl + 5) (nI kc))), (nF, sA G 5 (FCT K)), (nt, iA G 240 fnt), (h0, oX12 nw nk mhasKept nt (nI ktp) nr mrowMany mroundOf mroundFrom mouts nm mfromHour mtoHour ns (nI (NXT bt ktp (NXT bt ktp (NXT bt ktp ks)))) (nI (TKE bt ktp (NXT bt ktp (NXT bt ktp (NXT bt ktp ks))))) (nI (TKN bt ktp (NXT bt ktp (NXT bt ktp (NXT bt ktp ks))))) 1 0 (nI kc) (nI kl) nl nc nF np ntr nb mbestCost nso nsi nit nsh nsf nss nrc mtraced mdealer mnumber mwhose msize misParted)]) rfl (k := (6 * kl + 5)) (by omega) (Nat.le_of_ble_eq_true rfl) (rfl) gX12_lineAt_14.2.2.2.2.2.2.1 (fun H locs hP hD hS => ?_)
          refine lv_aload_n hx hb gX12_lineAt_14.2.2.2.2.2.2.2.1 rfl (lv_at1 hl) ?_
          refine lv_aload_n hx hb gX12_lineAt_14.2.2.2.2.2.2.2.2.1 rfl (lv_at1 hl) ?_
          refine lv_bipush (v := 59) hx hb gX12_lineAt_14.2.2.2.2.2.2.2.2.2 (by decide) ?_
          refine pV hC hK hl hP hD (m_isSignF l G h0 59 nw nk mhasKept nt (nI ktp) nr mrowMany mroundOf mroundFrom mouts nm mfromHour mtoHour ns (nI (NXT bt ktp (NXT bt ktp (NXT bt ktp ks)))) (nI (TKE bt ktp (NXT bt ktp (NXT bt ktp (NXT bt ktp ks))))) (nI (TKN bt ktp (NXT bt ktp (NXT bt ktp (NXT bt ktp ks))))) 0 (nI kc) (nI kl) nl nc nF np ntr nb mbestCost nso nsi nit nsh nsf nss nrc mtraced mdealer mnumber mwhose msize misParted) si_X12_262 [4] sm_4 fm_4 nd_4 rfl rfl rfl rfl rfl (Nat.le_of_ble_eq_true rfl) rm_32_1_2 ⟨by first | exact Nat.le_of_ble_eq_true rfl | exact Nat.zero_le _, by first | exact Nat.le_of_ble_eq_true rfl | exact Nat.zero_le _⟩ gX12_lineAt_15.1 (Keqr ?_)
          refine vV (wr := [(nc, iA G 100 fnc), (nl, iA G 54 (upd (upd (upd (upd (upd (upd (upd (upd fnl (6 * kl) 0) (6 * kl + 1) (nI (NVL bt ktp (NXT bt ktp ks)))) (6 * kl + 2) (-9)) (6 * kl + 3) (-9)) (6 * kl + 2) r9402) (6 * kl + 3) 0) (6 * kl + 4) (nI kc)) (6 * kl + 5) (nI kc))), (nF, sA G 5 (FCT K)), (nt, iA G 240 fnt)]) hC hK hl hP hD hS hA (m_needF l G h0 0 nw nk mhasKept nt (nI ktp) nr mrowMany mroundOf mroundFrom mouts nm mfromHour mtoHour ns (nI (NXT bt ktp (NXT bt ktp (NXT bt ktp ks)))) (nI (TKE bt ktp (NXT bt ktp (NXT bt ktp (NXT bt ktp ks))))) (nI (TKN bt ktp (NXT bt ktp (NXT bt ktp (NXT bt ktp ks))))) 0 (nI kc) (nI kl) nl nc nF np ntr nb mbestCost nso nsi nit nsh nsf nss nrc mtraced mdealer mnumber mwhose msize misParted) si_X12_236 [4] [0, 1, 2, 3] sm_4 fm_4 nd_4 sm_0_1_2_3 nd_0_1_2_3 dj_4__0_1_2_3 rfl rfl rfl rfl rfl (Nat.le_of_ble_eq_true rfl) rm_32_4_2 ⟨Nat.le_of_ble_eq_true rfl, Nat.le_of_ble_eq_true rfl⟩ gX12_lineAt_15.2.1 (fun u9508 H locs hr9507 hP hD hS => ?_)
          refine Kpdr (ws := [(nc, iA G 100 fnc), (nl, iA G 54 (upd (upd (upd (upd (upd (upd (upd (upd fnl (6 * kl) 0) (6 * kl + 1) (nI (NVL bt ktp (NXT bt ktp ks)))) (6 * kl + 2) (-9)) (6 * kl + 3) (-9)) (6 * kl + 2) r9402) (6 * kl + 3) 0) (6 * kl + 4) (nI kc)) (6 * kl + 5) (nI kc))), (nF, sA G 5 (FCT K)), (nt, iA G 240 fnt), (h0, oX12 nw nk mhasKept nt (nI ktp) nr mrowMany mroundOf mroundFrom mouts nm mfromHour mtoHour ns (nI (NXT bt ktp (NXT bt ktp (NXT bt ktp ks)))) (nI (TKE bt ktp (NXT bt ktp (NXT bt ktp (NXT bt ktp ks))))) (nI (TKN bt ktp (NXT bt ktp (NXT bt ktp (NXT bt ktp ks))))) 1 0 (nI kc) (nI kl) nl nc nF np ntr nb mbestCost nso nsi nit nsh nsf nss nrc mtraced mdealer mnumber mwhose msize misParted)]) hP hD (fun hP hD => ?_)
          refine toQ hQ0 ?_
          exact RV hC hP hD hS [4, 3, 0, 1, 2] (1, (NXT bt ktp (NXT bt ktp (NXT bt ktp ks))), kc, fnc, upd (upd (upd (upd (upd (upd (upd (upd fnl (6 * kl) 0) (6 * kl + 1) (nI (NVL bt ktp (NXT bt ktp ks)))) (6 * kl + 2) (-9)) (6 * kl + 3) (-9)) (6 * kl + 2) r9402) (6 * kl + 3) 0) (6 * kl + 4) (nI kc)) (6 * kl + 5) (nI kc), LN0, [], []) rfl rfl (by decide) (Or.inr ⟨rfl, Or.inr ⟨0, SRT.y (k := 0) (by decide) hq9381, Or.inl ⟨_, HDQ.t2 hq9393 hq9397 hq9495, rfl⟩⟩, by (try dsimp only); omega⟩) gX12_lineAt_15.2.2
      · have hq9509 := a9396
        refine vV (wr := [(nc, iA G 100 fnc), (nl, iA G 54 (upd (upd (upd (upd fnl (6 * kl) 0) (6 * kl + 1) (nI (NVL bt ktp (NXT bt ktp ks)))) (6 * kl + 2) (-9)) (6 * kl + 3) (-9))), (nF, sA G 5 (FCT K)), (nt, iA G 240 fnt)]) hC hK hl hP hD hS hA (m_need0 l G h0 nw nk mhasKept nt (nI ktp) nr mrowMany mroundOf mroundFrom mouts nm mfromHour mtoHour ns (nI (NXT bt ktp (NXT bt ktp ks))) (nI (TKE bt ktp (NXT bt ktp (NXT bt ktp ks)))) (nI (TKN bt ktp (NXT bt ktp (NXT bt ktp ks)))) 0 (nI kc) (nI kl) nl nc nF np ntr nb mbestCost nso nsi nit nsh nsf nss nrc mtraced mdealer mnumber mwhose msize misParted) si_X12_236 [3] [0, 1, 2, 4] sm_3 fm_3 nd_3 sm_0_1_2_4 nd_0_1_2_4 dj_3__0_1_2_4 rfl rfl rfl rfl rfl (Nat.le_of_ble_eq_true rfl) rm_32_4_2 ⟨Nat.le_of_ble_eq_true rfl, Nat.le_of_ble_eq_true rfl⟩ gX12_lineAt_7.2.2.2.2.2.2.2.2.2 (fun u9511 H locs hr9510 hP hD hS => ?_)
        refine Kpdr (ws := [(nc, iA G 100 fnc), (nl, iA G 54 (upd (upd (upd (upd fnl (6 * kl) 0) (6 * kl + 1) (nI (NVL bt ktp (NXT bt ktp ks)))) (6 * kl + 2) (-9)) (6 * kl + 3) (-9))), (nF, sA G 5 (FCT K)), (nt, iA G 240 fnt), (h0, oX12 nw nk mhasKept nt (nI ktp) nr mrowMany mroundOf mroundFrom mouts nm mfromHour mtoHour ns (nI (NXT bt ktp (NXT bt ktp ks))) (nI (TKE bt ktp (NXT bt ktp (NXT bt ktp ks)))) (nI (TKN bt ktp (NXT bt ktp (NXT bt ktp ks)))) 1 0 (nI kc) (nI kl) nl nc nF np ntr nb mbestCost nso nsi nit nsh nsf nss nrc mtraced mdealer mnumber mwhose msize misParted)]) hP hD (fun hP hD => ?_)
        refine lv_aload_n hx hb gX12_lineAt_8.1 rfl (lv_at1 hl) ?_
        refine gf_X12_32 hC rfl hK hP 4 rfl rfl gX12_lineAt_8.2.1 ?_
        refine lv_iload_n hx hb gX12_lineAt_8.2.2.1 rfl (lv_at2 hl) ?_
        refine lv_iconst (v := 2) hx hb gX12_lineAt_8.2.2.2.1 (by decide) ?_
        refine lv_iadd hx hb gX12_lineAt_8.2.2.2.2.1 ?_
        refine eqi (x1 := nI (6 * kl + 2)) (nI_add (6 * kl) 2) ?_
        refine lv_aload_n hx hb gX12_lineAt_8.2.2.2.2.2.1 rfl (lv_at1 hl) ?_
        refine lv_bipush (v := 7) hx hb gX12_lineAt_8.2.2.2.2.2.2.1 (by decide) ?_
        refine iV (wr := [(nc, iA G 100 fnc), (nl, iA G 54 (upd (upd (upd (upd fnl (6 * kl) 0) (6 * kl + 1) (nI (NVL bt ktp (NXT bt ktp ks)))) (6 * kl + 2) (-9)) (6 * kl + 3) (-9))), (nF, sA G 5 (FCT K)), (nt, iA G 240 fnt)]) hC hK hl hP hD hS hA (m_numberF l G h0 7 nw nk mhasKept nt (nI ktp) nr mrowMany mroundOf mroundFrom mouts nm mfromHour mtoHour ns (nI (NXT bt ktp (NXT bt ktp ks))) (nI (TKE bt ktp (NXT bt ktp (NXT bt ktp ks)))) (nI (TKN bt ktp (NXT bt ktp (NXT bt ktp ks)))) 0 (nI kc) (nI kl) nl nc nF np ntr nb mbestCost nso nsi nit nsh nsf nss nrc mtraced mdealer mnumber mwhose msize misParted) si_X12_271 [4] [0, 1, 2, 3] sm_4 fm_4 nd_4 sm_0_1_2_3 nd_0_1_2_3 dj_4__0_1_2_3 rfl rfl rfl rfl rfl (Nat.le_of_ble_eq_true rfl) rm_32_5_5 ⟨Nat.le_of_ble_eq_true rfl, Nat.le_of_ble_eq_true rfl⟩ gX12_lineAt_8.2.2.2.2.2.2.2.1 (fun r9512 u9513 H locs hr9512 hP hD hS => ?_)
        refine Kpdr (ws := [(nc, iA G 100 fnc), (nl, iA G 54 (upd (upd (upd (upd fnl (6 * kl) 0) (6 * kl + 1) (nI (NVL bt ktp (NXT bt ktp ks)))) (6 * kl + 2) (-9)) (6 * kl + 3) (-9))), (nF, sA G 5 (FCT K)), (nt, iA G 240 fnt), (h0, oX12 nw nk mhasKept nt (nI ktp) nr mrowMany mroundOf mroundFrom mouts nm mfromHour mtoHour ns (nI (NXT bt ktp (NXT bt ktp ks))) (nI (TKE bt ktp (NXT bt ktp (NXT bt ktp ks)))) (nI (TKN bt ktp (NXT bt ktp (NXT bt ktp ks)))) 1 0 (nI kc) (nI kl) nl nc nF np ntr nb mbestCost nso nsi nit nsh nsf nss nrc mtraced mdealer mnumber mwhose msize misParted)]) hP hD (fun hP hD => ?_)
        obtain rfl := hr9512
        refine astN hC hK hP hD hS 1 (ws' := [(nc, iA G 100 fnc), (nl, iA G 54 (upd (upd (upd (upd (upd fnl (6 * kl) 0) (6 * kl + 1) (nI (NVL bt ktp (NXT bt ktp ks)))) (6 * kl + 2) (-9)) (6 * kl + 3) (-9)) (6 * kl + 2) 0)), (nF, sA G 5 (FCT K)), (nt, iA G 240 fnt), (h0, oX12 nw nk mhasKept nt (nI ktp) nr mrowMany mroundOf mroundFrom mouts nm mfromHour mtoHour ns (nI (NXT bt ktp (NXT bt ktp ks))) (nI (TKE bt ktp (NXT bt ktp (NXT bt ktp ks)))) (nI (TKN bt ktp (NXT bt ktp (NXT bt ktp ks)))) 1 0 (nI kc) (nI kl) nl nc nF np ntr nb mbestCost nso nsi nit nsh nsf nss nrc mtraced mdealer mnumber mwhose msize misParted)]) rfl (k := (6 * kl + 2)) (by omega) (Nat.le_of_ble_eq_true rfl) (rfl) gX12_lineAt_8.2.2.2.2.2.2.2.2.1 (fun H locs hP hD hS => ?_)
        refine lv_aload_n hx hb gX12_lineAt_8.2.2.2.2.2.2.2.2.2 rfl (lv_at1 hl) ?_
        refine lv_aload_n hx hb gX12_lineAt_9.1 rfl (lv_at1 hl) ?_
        refine va_ldcSw (index := 284) (tx := "from") hx hb hown (hO.2.2 6 (by decide)) gX12_lineAt_9.2.1 ?_
        refine pVo hO hS hC hK hl hP hD (m_isNameF l G K 6 h0 nw nk mhasKept nt (nI ktp) nr mrowMany mroundOf mroundFrom mouts nm mfromHour mtoHour ns (nI (NXT bt ktp (NXT bt ktp ks))) (nI (TKE bt ktp (NXT bt ktp (NXT bt ktp ks)))) (nI (TKN bt ktp (NXT bt ktp (NXT bt ktp ks)))) 0 (nI kc) (nI kl) nl nc nF np ntr nb mbestCost nso nsi nit nsh nsf nss nrc mtraced mdealer mnumber mwhose msize misParted ((by decide))) si_X12_248 [4] sm_4 fm_4 nd_4 rfl rfl rfl rfl rfl (Nat.le_of_ble_eq_true rfl) rm_32_5_4 ⟨by first | exact Nat.le_of_ble_eq_true rfl | exact Nat.zero_le _, by first | exact Nat.le_of_ble_eq_true rfl | exact Nat.zero_le _⟩ gX12_lineAt_9.2.2.1 (Keqr ?_)
        refine vV (wr := [(nc, iA G 100 fnc), (nl, iA G 54 (upd (upd (upd (upd (upd fnl (6 * kl) 0) (6 * kl + 1) (nI (NVL bt ktp (NXT bt ktp ks)))) (6 * kl + 2) (-9)) (6 * kl + 3) (-9)) (6 * kl + 2) 0)), (nF, sA G 5 (FCT K)), (nt, iA G 240 fnt)]) hC hK hl hP hD hS hA (m_needF l G h0 0 nw nk mhasKept nt (nI ktp) nr mrowMany mroundOf mroundFrom mouts nm mfromHour mtoHour ns (nI (NXT bt ktp (NXT bt ktp ks))) (nI (TKE bt ktp (NXT bt ktp (NXT bt ktp ks)))) (nI (TKN bt ktp (NXT bt ktp (NXT bt ktp ks)))) 0 (nI kc) (nI kl) nl nc nF np ntr nb mbestCost nso nsi nit nsh nsf nss nrc mtraced mdealer mnumber mwhose msize misParted) si_X12_236 [4] [0, 1, 2, 3] sm_4 fm_4 nd_4 sm_0_1_2_3 nd_0_1_2_3 dj_4__0_1_2_3 rfl rfl rfl rfl rfl (Nat.le_of_ble_eq_true rfl) rm_32_4_2 ⟨Nat.le_of_ble_eq_true rfl, Nat.le_of_ble_eq_true rfl⟩ gX12_lineAt_9.2.2.2.1 (fun u9518 H locs hr9517 hP hD hS => ?_)
        refine Kpdr (ws := [(nc, iA G 100 fnc), (nl, iA G 54 (upd (upd (upd (upd (upd fnl (6 * kl) 0) (6 * kl + 1) (nI (NVL bt ktp (NXT bt ktp ks)))) (6 * kl + 2) (-9)) (6 * kl + 3) (-9)) (6 * kl + 2) 0)), (nF, sA G 5 (FCT K)), (nt, iA G 240 fnt), (h0, oX12 nw nk mhasKept nt (nI ktp) nr mrowMany mroundOf mroundFrom mouts nm mfromHour mtoHour ns (nI (NXT bt ktp (NXT bt ktp ks))) (nI (TKE bt ktp (NXT bt ktp (NXT bt ktp ks)))) (nI (TKN bt ktp (NXT bt ktp (NXT bt ktp ks)))) 1 0 (nI kc) (nI kl) nl nc nF np ntr nb mbestCost nso nsi nit nsh nsf nss nrc mtraced mdealer mnumber mwhose msize misParted)]) hP hD (fun hP hD => ?_)
        refine lv_aload_n hx hb gX12_lineAt_9.2.2.2.2.1 rfl (lv_at1 hl) ?_
        refine gf_X12_32 hC rfl hK hP 4 rfl rfl gX12_lineAt_9.2.2.2.2.2.1 ?_
        refine lv_iload_n hx hb gX12_lineAt_9.2.2.2.2.2.2.1 rfl (lv_at2 hl) ?_
        refine lv_iconst (v := 3) hx hb gX12_lineAt_9.2.2.2.2.2.2.2.1 (by decide) ?_
        refine lv_iadd hx hb gX12_lineAt_9.2.2.2.2.2.2.2.2.1 ?_
        refine eqi (x1 := nI (6 * kl + 3)) (nI_add (6 * kl) 3) ?_
        refine lv_aload_n hx hb gX12_lineAt_9.2.2.2.2.2.2.2.2.2 rfl (lv_at1 hl) ?_
        refine lv_bipush (v := 7) hx hb gX12_lineAt_10.1 (by decide) ?_
        refine iV (wr := [(nc, iA G 100 fnc), (nl, iA G 54 (upd (upd (upd (upd (upd fnl (6 * kl) 0) (6 * kl + 1) (nI (NVL bt ktp (NXT bt ktp ks)))) (6 * kl + 2) (-9)) (6 * kl + 3) (-9)) (6 * kl + 2) 0)), (nF, sA G 5 (FCT K)), (nt, iA G 240 fnt)]) hC hK hl hP hD hS hA (m_numberF l G h0 7 nw nk mhasKept nt (nI ktp) nr mrowMany mroundOf mroundFrom mouts nm mfromHour mtoHour ns (nI (NXT bt ktp (NXT bt ktp ks))) (nI (TKE bt ktp (NXT bt ktp (NXT bt ktp ks)))) (nI (TKN bt ktp (NXT bt ktp (NXT bt ktp ks)))) 0 (nI kc) (nI kl) nl nc nF np ntr nb mbestCost nso nsi nit nsh nsf nss nrc mtraced mdealer mnumber mwhose msize misParted) si_X12_271 [4] [0, 1, 2, 3] sm_4 fm_4 nd_4 sm_0_1_2_3 nd_0_1_2_3 dj_4__0_1_2_3 rfl rfl rfl rfl rfl (Nat.le_of_ble_eq_true rfl) rm_32_5_5 ⟨Nat.le_of_ble_eq_true rfl, Nat.le_of_ble_eq_true rfl⟩ gX12_lineAt_10.2.1 (fun r9519 u9520 H locs hr9519 hP hD hS => ?_)
        refine Kpdr (ws := [(nc, iA G 100 fnc), (nl, iA G 54 (upd (upd (upd (upd (upd fnl (6 * kl) 0) (6 * kl + 1) (nI (NVL bt ktp (NXT bt ktp ks)))) (6 * kl + 2) (-9)) (6 * kl + 3) (-9)) (6 * kl + 2) 0)), (nF, sA G 5 (FCT K)), (nt, iA G 240 fnt), (h0, oX12 nw nk mhasKept nt (nI ktp) nr mrowMany mroundOf mroundFrom mouts nm mfromHour mtoHour ns (nI (NXT bt ktp (NXT bt ktp ks))) (nI (TKE bt ktp (NXT bt ktp (NXT bt ktp ks)))) (nI (TKN bt ktp (NXT bt ktp (NXT bt ktp ks)))) 1 0 (nI kc) (nI kl) nl nc nF np ntr nb mbestCost nso nsi nit nsh nsf nss nrc mtraced mdealer mnumber mwhose msize misParted)]) hP hD (fun hP hD => ?_)
        obtain rfl := hr9519
        refine astN hC hK hP hD hS 1 (ws' := [(nc, iA G 100 fnc), (nl, iA G 54 (upd (upd (upd (upd (upd (upd fnl (6 * kl) 0) (6 * kl + 1) (nI (NVL bt ktp (NXT bt ktp ks)))) (6 * kl + 2) (-9)) (6 * kl + 3) (-9)) (6 * kl + 2) 0) (6 * kl + 3) 0)), (nF, sA G 5 (FCT K)), (nt, iA G 240 fnt), (h0, oX12 nw nk mhasKept nt (nI ktp) nr mrowMany mroundOf mroundFrom mouts nm mfromHour mtoHour ns (nI (NXT bt ktp (NXT bt ktp ks))) (nI (TKE bt ktp (NXT bt ktp (NXT bt ktp ks)))) (nI (TKN bt ktp (NXT bt ktp (NXT bt ktp ks)))) 1 0 (nI kc) (nI kl) nl nc nF np ntr nb mbestCost nso nsi nit nsh nsf nss nrc mtraced mdealer mnumber mwhose msize misParted)]) rfl (k := (6 * kl + 3)) (by omega) (Nat.le_of_ble_eq_true rfl) (rfl) gX12_lineAt_10.2.2.1 (fun H locs hP hD hS => ?_)
        refine lv_iload_n hx hb gX12_lineAt_10.2.2.2.1 rfl (lv_at0 hl) ?_
        refine lv_iconst (v := 2) hx hb gX12_lineAt_10.2.2.2.2.1 (by decide) ?_
        refine lv_icmp_ne (tgt := 221) hx hb gX12_lineAt_10.2.2.2.2.2.1 (by decide) (fun _ => ?_) (fun c9 => absurd c9 (by decide))
        refine lv_aload_n hx hb gX12_lineAt_12.1 rfl (lv_at1 hl) ?_
        refine gf_X12_32 hC rfl hK hP 4 rfl rfl gX12_lineAt_12.2.1 ?_
        refine lv_iload_n hx hb gX12_lineAt_12.2.2.1 rfl (lv_at2 hl) ?_
        refine lv_iconst (v := 4) hx hb gX12_lineAt_12.2.2.2.1 (by decide) ?_
        refine lv_iadd hx hb gX12_lineAt_12.2.2.2.2.1 ?_
        refine eqi (x1 := nI (6 * kl + 4)) (nI_add (6 * kl) 4) ?_
        refine lv_aload_n hx hb gX12_lineAt_12.2.2.2.2.2.1 rfl (lv_at1 hl) ?_
        refine gf_X12_240 hC rfl hK hP 4 rfl rfl gX12_lineAt_12.2.2.2.2.2.2.1 ?_
        refine astN hC hK hP hD hS 1 (ws' := [(nc, iA G 100 fnc), (nl, iA G 54 (upd (upd (upd (upd (upd (upd (upd fnl (6 * kl) 0) (6 * kl + 1) (nI (NVL bt ktp (NXT bt ktp ks)))) (6 * kl + 2) (-9)) (6 * kl + 3) (-9)) (6 * kl + 2) 0) (6 * kl + 3) 0) (6 * kl + 4) (nI kc))), (nF, sA G 5 (FCT K)), (nt, iA G 240 fnt), (h0, oX12 nw nk mhasKept nt (nI ktp) nr mrowMany mroundOf mroundFrom mouts nm mfromHour mtoHour ns (nI (NXT bt ktp (NXT bt ktp ks))) (nI (TKE bt ktp (NXT bt ktp (NXT bt ktp ks)))) (nI (TKN bt ktp (NXT bt ktp (NXT bt ktp ks)))) 1 0 (nI kc) (nI kl) nl nc nF np ntr nb mbestCost nso nsi nit nsh nsf nss nrc mtraced mdealer mnumber mwhose msize misParted)]) rfl (k := (6 * kl + 4)) (by omega) (Nat.le_of_ble_eq_true rfl) (rfl) gX12_lineAt_12.2.2.2.2.2.2.2.1 (fun H locs hP hD hS => ?_)
        refine lv_iload_n hx hb gX12_lineAt_12.2.2.2.2.2.2.2.2.1 rfl (lv_at0 hl) ?_
        refine lv_iconst (v := 3) hx hb gX12_lineAt_12.2.2.2.2.2.2.2.2.2 (by decide) ?_
        refine lv_icmp_eq (tgt := 256) hx hb gX12_lineAt_13.1 (by decide) (fun c9 => absurd c9 (by decide)) (fun _ => ?_)
        refine lv_aload_n hx hb gX12_lineAt_13.2.1 rfl (lv_at1 hl) ?_
        refine va_ldcSw (index := 287) (tx := "if") hx hb hown (hO.2.2 0 (by decide)) gX12_lineAt_13.2.2.1 ?_
        refine pVo hO hS hC hK hl hP hD (m_isNameF l G K 0 h0 nw nk mhasKept nt (nI ktp) nr mrowMany mroundOf mroundFrom mouts nm mfromHour mtoHour ns (nI (NXT bt ktp (NXT bt ktp ks))) (nI (TKE bt ktp (NXT bt ktp (NXT bt ktp ks)))) (nI (TKN bt ktp (NXT bt ktp (NXT bt ktp ks)))) 0 (nI kc) (nI kl) nl nc nF np ntr nb mbestCost nso nsi nit nsh nsf nss nrc mtraced mdealer mnumber mwhose msize misParted ((by decide))) si_X12_248 [4] sm_4 fm_4 nd_4 rfl rfl rfl rfl rfl (Nat.le_of_ble_eq_true rfl) rm_32_5_4 ⟨by first | exact Nat.le_of_ble_eq_true rfl | exact Nat.zero_le _, by first | exact Nat.le_of_ble_eq_true rfl | exact Nat.zero_le _⟩ gX12_lineAt_13.2.2.2.1 (Keqr ?_)
        refine lv_if_eq (tgt := 256) hx hb gX12_lineAt_13.2.2.2.2.1 (by decide) (fun _ => ?_) (fun c9 => absurd (by decide) c9)
        refine lv_aload_n hx hb gX12_lineAt_13.2.2.2.2.2.2.2.2.2 rfl (lv_at1 hl) ?_
        refine gf_X12_32 hC rfl hK hP 4 rfl rfl gX12_lineAt_14.1 ?_
        refine lv_iload_n hx hb gX12_lineAt_14.2.1 rfl (lv_at2 hl) ?_
        refine lv_iconst (v := 5) hx hb gX12_lineAt_14.2.2.1 (by decide) ?_
        refine lv_iadd hx hb gX12_lineAt_14.2.2.2.1 ?_
        refine eqi (x1 := nI (6 * kl + 5)) (nI_add (6 * kl) 5) ?_
        refine lv_aload_n hx hb gX12_lineAt_14.2.2.2.2.1 rfl (lv_at1 hl) ?_
        refine gf_X12_240 hC rfl hK hP 4 rfl rfl gX12_lineAt_14.2.2.2.2.2.1 ?_
        refine astN hC hK hP hD hS 1 (ws' := [(nc, iA G 100 fnc), (nl, iA G 54 (upd (upd (upd (upd (upd (upd (upd (upd fnl (6 * kl) 0) (6 * kl + 1) (nI (NVL bt ktp (NXT bt ktp ks)))) (6 * kl + 2) (-9)) (6 * kl + 3) (-9)) (6 * kl + 2) 0) (6 * kl + 3) 0) (6 * kl + 4) (nI kc)) (6 * kl + 5) (nI kc))), (nF, sA G 5 (FCT K)), (nt, iA G 240 fnt), (h0, oX12 nw nk mhasKept nt (nI ktp) nr mrowMany mroundOf mroundFrom mouts nm mfromHour mtoHour ns (nI (NXT bt ktp (NXT bt ktp ks))) (nI (TKE bt ktp (NXT bt ktp (NXT bt ktp ks)))) (nI (TKN bt ktp (NXT bt ktp (NXT bt ktp ks)))) 1 0 (nI kc) (nI kl) nl nc nF np ntr nb mbestCost nso nsi nit nsh nsf nss nrc mtraced mdealer mnumber mwhose msize misParted)]) rfl (k := (6 * kl + 5)) (by omega) (Nat.le_of_ble_eq_true rfl) (rfl) gX12_lineAt_14.2.2.2.2.2.2.1 (fun H locs hP hD hS => ?_)
        refine lv_aload_n hx hb gX12_lineAt_14.2.2.2.2.2.2.2.1 rfl (lv_at1 hl) ?_
        refine lv_aload_n hx hb gX12_lineAt_14.2.2.2.2.2.2.2.2.1 rfl (lv_at1 hl) ?_
        refine lv_bipush (v := 59) hx hb gX12_lineAt_14.2.2.2.2.2.2.2.2.2 (by decide) ?_
        refine pV hC hK hl hP hD (m_isSignF l G h0 59 nw nk mhasKept nt (nI ktp) nr mrowMany mroundOf mroundFrom mouts nm mfromHour mtoHour ns (nI (NXT bt ktp (NXT bt ktp ks))) (nI (TKE bt ktp (NXT bt ktp (NXT bt ktp ks)))) (nI (TKN bt ktp (NXT bt ktp (NXT bt ktp ks)))) 0 (nI kc) (nI kl) nl nc nF np ntr nb mbestCost nso nsi nit nsh nsf nss nrc mtraced mdealer mnumber mwhose msize misParted) si_X12_262 [4] sm_4 fm_4 nd_4 rfl rfl rfl rfl rfl (Nat.le_of_ble_eq_true rfl) rm_32_1_2 ⟨by first | exact Nat.le_of_ble_eq_true rfl | exact Nat.zero_le _, by first | exact Nat.le_of_ble_eq_true rfl | exact Nat.zero_le _⟩ gX12_lineAt_15.1 (Keqr ?_)
        refine vV (wr := [(nc, iA G 100 fnc), (nl, iA G 54 (upd (upd (upd (upd (upd (upd (upd (upd fnl (6 * kl) 0) (6 * kl + 1) (nI (NVL bt ktp (NXT bt ktp ks)))) (6 * kl + 2) (-9)) (6 * kl + 3) (-9)) (6 * kl + 2) 0) (6 * kl + 3) 0) (6 * kl + 4) (nI kc)) (6 * kl + 5) (nI kc))), (nF, sA G 5 (FCT K)), (nt, iA G 240 fnt)]) hC hK hl hP hD hS hA (m_needF l G h0 0 nw nk mhasKept nt (nI ktp) nr mrowMany mroundOf mroundFrom mouts nm mfromHour mtoHour ns (nI (NXT bt ktp (NXT bt ktp ks))) (nI (TKE bt ktp (NXT bt ktp (NXT bt ktp ks)))) (nI (TKN bt ktp (NXT bt ktp (NXT bt ktp ks)))) 0 (nI kc) (nI kl) nl nc nF np ntr nb mbestCost nso nsi nit nsh nsf nss nrc mtraced mdealer mnumber mwhose msize misParted) si_X12_236 [4] [0, 1, 2, 3] sm_4 fm_4 nd_4 sm_0_1_2_3 nd_0_1_2_3 dj_4__0_1_2_3 rfl rfl rfl rfl rfl (Nat.le_of_ble_eq_true rfl) rm_32_4_2 ⟨Nat.le_of_ble_eq_true rfl, Nat.le_of_ble_eq_true rfl⟩ gX12_lineAt_15.2.1 (fun u9527 H locs hr9526 hP hD hS => ?_)
        refine Kpdr (ws := [(nc, iA G 100 fnc), (nl, iA G 54 (upd (upd (upd (upd (upd (upd (upd (upd fnl (6 * kl) 0) (6 * kl + 1) (nI (NVL bt ktp (NXT bt ktp ks)))) (6 * kl + 2) (-9)) (6 * kl + 3) (-9)) (6 * kl + 2) 0) (6 * kl + 3) 0) (6 * kl + 4) (nI kc)) (6 * kl + 5) (nI kc))), (nF, sA G 5 (FCT K)), (nt, iA G 240 fnt), (h0, oX12 nw nk mhasKept nt (nI ktp) nr mrowMany mroundOf mroundFrom mouts nm mfromHour mtoHour ns (nI (NXT bt ktp (NXT bt ktp ks))) (nI (TKE bt ktp (NXT bt ktp (NXT bt ktp ks)))) (nI (TKN bt ktp (NXT bt ktp (NXT bt ktp ks)))) 1 0 (nI kc) (nI kl) nl nc nF np ntr nb mbestCost nso nsi nit nsh nsf nss nrc mtraced mdealer mnumber mwhose msize misParted)]) hP hD (fun hP hD => ?_)
        refine toQ hQ0 ?_
        exact RV hC hP hD hS [4, 3, 0, 1, 2] (1, (NXT bt ktp (NXT bt ktp ks)), kc, fnc, upd (upd (upd (upd (upd (upd (upd (upd fnl (6 * kl) 0) (6 * kl + 1) (nI (NVL bt ktp (NXT bt ktp ks)))) (6 * kl + 2) (-9)) (6 * kl + 3) (-9)) (6 * kl + 2) 0) (6 * kl + 3) 0) (6 * kl + 4) (nI kc)) (6 * kl + 5) (nI kc), LN0, [], []) rfl rfl (by decide) (Or.inr ⟨rfl, Or.inr ⟨0, SRT.y (k := 0) (by decide) hq9381, Or.inl ⟨_, HDQ.t1 hq9393 hq9509, rfl⟩⟩, by (try dsimp only); omega⟩) gX12_lineAt_15.2.2
    · obtain ⟨rfl, rfl, hq9528⟩ := v9392
      refine astN hC hK hP hD hS 1 (ws' := [(nc, iA G 100 fnc), (nl, iA G 54 (upd (upd fnl (6 * kl) 0) (6 * kl + 1) r9386)), (nF, sA G 5 (FCT K)), (h0, oX12 nw nk mhasKept nt (nI ktp) nr mrowMany mroundOf mroundFrom mouts nm mfromHour mtoHour ns (nI (NXT bt ktp ks)) (nI (TKE bt ktp (NXT bt ktp ks))) (nI (TKN bt ktp (NXT bt ktp ks))) 1 0 (nI kc) (nI kl) nl nc nF np ntr nb mbestCost nso nsi nit nsh nsf nss nrc mtraced mdealer mnumber mwhose msize misParted), (nt, iA G 240 fnt)]) rfl (k := (6 * kl + 1)) (by omega) (Nat.le_of_ble_eq_true rfl) (rfl) gX12_lineAt_5.2.2.2.2.2.2.2.2.1 (fun H locs hP hD hS => ?_)
      refine lv_aload_n hx hb gX12_lineAt_5.2.2.2.2.2.2.2.2.2 rfl (lv_at1 hl) ?_
      refine gf_X12_32 hC rfl hK hP 3 rfl rfl gX12_lineAt_6.1 ?_
      refine lv_iload_n hx hb gX12_lineAt_6.2.1 rfl (lv_at2 hl) ?_
      refine lv_iconst (v := 2) hx hb gX12_lineAt_6.2.2.1 (by decide) ?_
      refine lv_iadd hx hb gX12_lineAt_6.2.2.2.1 ?_
      refine eqi (x1 := nI (6 * kl + 2)) (nI_add (6 * kl) 2) ?_
      refine lv_bipush (v := (-9)) hx hb gX12_lineAt_6.2.2.2.2.1 (by decide) ?_
      refine astN hC hK hP hD hS 1 (ws' := [(nc, iA G 100 fnc), (nl, iA G 54 (upd (upd (upd fnl (6 * kl) 0) (6 * kl + 1) r9386) (6 * kl + 2) (-9))), (nF, sA G 5 (FCT K)), (h0, oX12 nw nk mhasKept nt (nI ktp) nr mrowMany mroundOf mroundFrom mouts nm mfromHour mtoHour ns (nI (NXT bt ktp ks)) (nI (TKE bt ktp (NXT bt ktp ks))) (nI (TKN bt ktp (NXT bt ktp ks))) 1 0 (nI kc) (nI kl) nl nc nF np ntr nb mbestCost nso nsi nit nsh nsf nss nrc mtraced mdealer mnumber mwhose msize misParted), (nt, iA G 240 fnt)]) rfl (k := (6 * kl + 2)) (by omega) (Nat.le_of_ble_eq_true rfl) (rfl) gX12_lineAt_6.2.2.2.2.2.1 (fun H locs hP hD hS => ?_)
      refine lv_aload_n hx hb gX12_lineAt_6.2.2.2.2.2.2.1 rfl (lv_at1 hl) ?_
      refine gf_X12_32 hC rfl hK hP 3 rfl rfl gX12_lineAt_6.2.2.2.2.2.2.2.1 ?_
      refine lv_iload_n hx hb gX12_lineAt_6.2.2.2.2.2.2.2.2.1 rfl (lv_at2 hl) ?_
      refine lv_iconst (v := 3) hx hb gX12_lineAt_6.2.2.2.2.2.2.2.2.2 (by decide) ?_
      refine lv_iadd hx hb gX12_lineAt_7.1 ?_
      refine eqi (x1 := nI (6 * kl + 3)) (nI_add (6 * kl) 3) ?_
      refine lv_bipush (v := (-9)) hx hb gX12_lineAt_7.2.1 (by decide) ?_
      refine astN hC hK hP hD hS 1 (ws' := [(nc, iA G 100 fnc), (nl, iA G 54 (upd (upd (upd (upd fnl (6 * kl) 0) (6 * kl + 1) r9386) (6 * kl + 2) (-9)) (6 * kl + 3) (-9))), (nF, sA G 5 (FCT K)), (h0, oX12 nw nk mhasKept nt (nI ktp) nr mrowMany mroundOf mroundFrom mouts nm mfromHour mtoHour ns (nI (NXT bt ktp ks)) (nI (TKE bt ktp (NXT bt ktp ks))) (nI (TKN bt ktp (NXT bt ktp ks))) 1 0 (nI kc) (nI kl) nl nc nF np ntr nb mbestCost nso nsi nit nsh nsf nss nrc mtraced mdealer mnumber mwhose msize misParted), (nt, iA G 240 fnt)]) rfl (k := (6 * kl + 3)) (by omega) (Nat.le_of_ble_eq_true rfl) (rfl) gX12_lineAt_7.2.2.1 (fun H locs hP hD hS => ?_)
      refine lv_iload_n hx hb gX12_lineAt_7.2.2.2.1 rfl (lv_at0 hl) ?_
      refine lv_if_ne (tgt := 190) hx hb gX12_lineAt_7.2.2.2.2.1 (by decide) (fun c9 => absurd (by decide) c9) (fun _ => ?_)
      refine lv_aload_n hx hb gX12_lineAt_7.2.2.2.2.2.1 rfl (lv_at1 hl) ?_
      refine lv_aload_n hx hb gX12_lineAt_7.2.2.2.2.2.2.1 rfl (lv_at1 hl) ?_
      refine va_ldcSw (index := 282) (tx := "of") hx hb hown (hO.2.2 5 (by decide)) gX12_lineAt_7.2.2.2.2.2.2.2.1 ?_
      refine pVo hO hS hC hK hl hP hD (m_isNameF l G K 5 h0 nw nk mhasKept nt (nI ktp) nr mrowMany mroundOf mroundFrom mouts nm mfromHour mtoHour ns (nI (NXT bt ktp ks)) (nI (TKE bt ktp (NXT bt ktp ks))) (nI (TKN bt ktp (NXT bt ktp ks))) 0 (nI kc) (nI kl) nl nc nF np ntr nb mbestCost nso nsi nit nsh nsf nss nrc mtraced mdealer mnumber mwhose msize misParted ((by decide))) si_X12_248 [3] sm_3 fm_3 nd_3 rfl rfl rfl rfl rfl (Nat.le_of_ble_eq_true rfl) rm_32_5_4 ⟨by first | exact Nat.le_of_ble_eq_true rfl | exact Nat.zero_le _, by first | exact Nat.le_of_ble_eq_true rfl | exact Nat.zero_le _⟩ gX12_lineAt_7.2.2.2.2.2.2.2.2.1 (Keqr ?_)
      refine vV (wr := [(nc, iA G 100 fnc), (nl, iA G 54 (upd (upd (upd (upd fnl (6 * kl) 0) (6 * kl + 1) r9386) (6 * kl + 2) (-9)) (6 * kl + 3) (-9))), (nF, sA G 5 (FCT K)), (nt, iA G 240 fnt)]) hC hK hl hP hD hS hA (m_needF l G h0 0 nw nk mhasKept nt (nI ktp) nr mrowMany mroundOf mroundFrom mouts nm mfromHour mtoHour ns (nI (NXT bt ktp ks)) (nI (TKE bt ktp (NXT bt ktp ks))) (nI (TKN bt ktp (NXT bt ktp ks))) 0 (nI kc) (nI kl) nl nc nF np ntr nb mbestCost nso nsi nit nsh nsf nss nrc mtraced mdealer mnumber mwhose msize misParted) si_X12_236 [3] [0, 1, 2, 4] sm_3 fm_3 nd_3 sm_0_1_2_4 nd_0_1_2_4 dj_3__0_1_2_4 rfl rfl rfl rfl rfl (Nat.le_of_ble_eq_true rfl) rm_32_4_2 ⟨Nat.le_of_ble_eq_true rfl, Nat.le_of_ble_eq_true rfl⟩ gX12_lineAt_7.2.2.2.2.2.2.2.2.2 (fun u9532 H locs hr9531 hP hD hS => ?_)
      refine Kpdr (ws := [(nc, iA G 100 fnc), (nl, iA G 54 (upd (upd (upd (upd fnl (6 * kl) 0) (6 * kl + 1) r9386) (6 * kl + 2) (-9)) (6 * kl + 3) (-9))), (nF, sA G 5 (FCT K)), (nt, iA G 240 fnt), (h0, oX12 nw nk mhasKept nt (nI ktp) nr mrowMany mroundOf mroundFrom mouts nm mfromHour mtoHour ns (nI (NXT bt ktp ks)) (nI (TKE bt ktp (NXT bt ktp ks))) (nI (TKN bt ktp (NXT bt ktp ks))) 1 0 (nI kc) (nI kl) nl nc nF np ntr nb mbestCost nso nsi nit nsh nsf nss nrc mtraced mdealer mnumber mwhose msize misParted)]) hP hD (fun hP hD => ?_)
      refine lv_aload_n hx hb gX12_lineAt_8.1 rfl (lv_at1 hl) ?_
      refine gf_X12_32 hC rfl hK hP 4 rfl rfl gX12_lineAt_8.2.1 ?_
      refine lv_iload_n hx hb gX12_lineAt_8.2.2.1 rfl (lv_at2 hl) ?_
      refine lv_iconst (v := 2) hx hb gX12_lineAt_8.2.2.2.1 (by decide) ?_
      refine lv_iadd hx hb gX12_lineAt_8.2.2.2.2.1 ?_
      refine eqi (x1 := nI (6 * kl + 2)) (nI_add (6 * kl) 2) ?_
      refine lv_aload_n hx hb gX12_lineAt_8.2.2.2.2.2.1 rfl (lv_at1 hl) ?_
      refine lv_bipush (v := 7) hx hb gX12_lineAt_8.2.2.2.2.2.2.1 (by decide) ?_
      refine iV (wr := [(nc, iA G 100 fnc), (nl, iA G 54 (upd (upd (upd (upd fnl (6 * kl) 0) (6 * kl + 1) r9386) (6 * kl + 2) (-9)) (6 * kl + 3) (-9))), (nF, sA G 5 (FCT K)), (nt, iA G 240 fnt)]) hC hK hl hP hD hS hA (m_numberF l G h0 7 nw nk mhasKept nt (nI ktp) nr mrowMany mroundOf mroundFrom mouts nm mfromHour mtoHour ns (nI (NXT bt ktp ks)) (nI (TKE bt ktp (NXT bt ktp ks))) (nI (TKN bt ktp (NXT bt ktp ks))) 0 (nI kc) (nI kl) nl nc nF np ntr nb mbestCost nso nsi nit nsh nsf nss nrc mtraced mdealer mnumber mwhose msize misParted) si_X12_271 [4] [0, 1, 2, 3] sm_4 fm_4 nd_4 sm_0_1_2_3 nd_0_1_2_3 dj_4__0_1_2_3 rfl rfl rfl rfl rfl (Nat.le_of_ble_eq_true rfl) rm_32_5_5 ⟨Nat.le_of_ble_eq_true rfl, Nat.le_of_ble_eq_true rfl⟩ gX12_lineAt_8.2.2.2.2.2.2.2.1 (fun r9533 u9534 H locs hr9533 hP hD hS => ?_)
      refine Kpdr (ws := [(nc, iA G 100 fnc), (nl, iA G 54 (upd (upd (upd (upd fnl (6 * kl) 0) (6 * kl + 1) r9386) (6 * kl + 2) (-9)) (6 * kl + 3) (-9))), (nF, sA G 5 (FCT K)), (nt, iA G 240 fnt), (h0, oX12 nw nk mhasKept nt (nI ktp) nr mrowMany mroundOf mroundFrom mouts nm mfromHour mtoHour ns (nI (NXT bt ktp ks)) (nI (TKE bt ktp (NXT bt ktp ks))) (nI (TKN bt ktp (NXT bt ktp ks))) 1 0 (nI kc) (nI kl) nl nc nF np ntr nb mbestCost nso nsi nit nsh nsf nss nrc mtraced mdealer mnumber mwhose msize misParted)]) hP hD (fun hP hD => ?_)
      obtain rfl := hr9533
      refine astN hC hK hP hD hS 1 (ws' := [(nc, iA G 100 fnc), (nl, iA G 54 (upd (upd (upd (upd (upd fnl (6 * kl) 0) (6 * kl + 1) r9386) (6 * kl + 2) (-9)) (6 * kl + 3) (-9)) (6 * kl + 2) 0)), (nF, sA G 5 (FCT K)), (nt, iA G 240 fnt), (h0, oX12 nw nk mhasKept nt (nI ktp) nr mrowMany mroundOf mroundFrom mouts nm mfromHour mtoHour ns (nI (NXT bt ktp ks)) (nI (TKE bt ktp (NXT bt ktp ks))) (nI (TKN bt ktp (NXT bt ktp ks))) 1 0 (nI kc) (nI kl) nl nc nF np ntr nb mbestCost nso nsi nit nsh nsf nss nrc mtraced mdealer mnumber mwhose msize misParted)]) rfl (k := (6 * kl + 2)) (by omega) (Nat.le_of_ble_eq_true rfl) (rfl) gX12_lineAt_8.2.2.2.2.2.2.2.2.1 (fun H locs hP hD hS => ?_)
      refine lv_aload_n hx hb gX12_lineAt_8.2.2.2.2.2.2.2.2.2 rfl (lv_at1 hl) ?_
      refine lv_aload_n hx hb gX12_lineAt_9.1 rfl (lv_at1 hl) ?_
      refine va_ldcSw (index := 284) (tx := "from") hx hb hown (hO.2.2 6 (by decide)) gX12_lineAt_9.2.1 ?_
      refine pVo hO hS hC hK hl hP hD (m_isNameF l G K 6 h0 nw nk mhasKept nt (nI ktp) nr mrowMany mroundOf mroundFrom mouts nm mfromHour mtoHour ns (nI (NXT bt ktp ks)) (nI (TKE bt ktp (NXT bt ktp ks))) (nI (TKN bt ktp (NXT bt ktp ks))) 0 (nI kc) (nI kl) nl nc nF np ntr nb mbestCost nso nsi nit nsh nsf nss nrc mtraced mdealer mnumber mwhose msize misParted ((by decide))) si_X12_248 [4] sm_4 fm_4 nd_4 rfl rfl rfl rfl rfl (Nat.le_of_ble_eq_true rfl) rm_32_5_4 ⟨by first | exact Nat.le_of_ble_eq_true rfl | exact Nat.zero_le _, by first | exact Nat.le_of_ble_eq_true rfl | exact Nat.zero_le _⟩ gX12_lineAt_9.2.2.1 (Keqr ?_)
      refine vV (wr := [(nc, iA G 100 fnc), (nl, iA G 54 (upd (upd (upd (upd (upd fnl (6 * kl) 0) (6 * kl + 1) r9386) (6 * kl + 2) (-9)) (6 * kl + 3) (-9)) (6 * kl + 2) 0)), (nF, sA G 5 (FCT K)), (nt, iA G 240 fnt)]) hC hK hl hP hD hS hA (m_needF l G h0 0 nw nk mhasKept nt (nI ktp) nr mrowMany mroundOf mroundFrom mouts nm mfromHour mtoHour ns (nI (NXT bt ktp ks)) (nI (TKE bt ktp (NXT bt ktp ks))) (nI (TKN bt ktp (NXT bt ktp ks))) 0 (nI kc) (nI kl) nl nc nF np ntr nb mbestCost nso nsi nit nsh nsf nss nrc mtraced mdealer mnumber mwhose msize misParted) si_X12_236 [4] [0, 1, 2, 3] sm_4 fm_4 nd_4 sm_0_1_2_3 nd_0_1_2_3 dj_4__0_1_2_3 rfl rfl rfl rfl rfl (Nat.le_of_ble_eq_true rfl) rm_32_4_2 ⟨Nat.le_of_ble_eq_true rfl, Nat.le_of_ble_eq_true rfl⟩ gX12_lineAt_9.2.2.2.1 (fun u9539 H locs hr9538 hP hD hS => ?_)
      refine Kpdr (ws := [(nc, iA G 100 fnc), (nl, iA G 54 (upd (upd (upd (upd (upd fnl (6 * kl) 0) (6 * kl + 1) r9386) (6 * kl + 2) (-9)) (6 * kl + 3) (-9)) (6 * kl + 2) 0)), (nF, sA G 5 (FCT K)), (nt, iA G 240 fnt), (h0, oX12 nw nk mhasKept nt (nI ktp) nr mrowMany mroundOf mroundFrom mouts nm mfromHour mtoHour ns (nI (NXT bt ktp ks)) (nI (TKE bt ktp (NXT bt ktp ks))) (nI (TKN bt ktp (NXT bt ktp ks))) 1 0 (nI kc) (nI kl) nl nc nF np ntr nb mbestCost nso nsi nit nsh nsf nss nrc mtraced mdealer mnumber mwhose msize misParted)]) hP hD (fun hP hD => ?_)
      refine lv_aload_n hx hb gX12_lineAt_9.2.2.2.2.1 rfl (lv_at1 hl) ?_
      refine gf_X12_32 hC rfl hK hP 4 rfl rfl gX12_lineAt_9.2.2.2.2.2.1 ?_
      refine lv_iload_n hx hb gX12_lineAt_9.2.2.2.2.2.2.1 rfl (lv_at2 hl) ?_
      refine lv_iconst (v := 3) hx hb gX12_lineAt_9.2.2.2.2.2.2.2.1 (by decide) ?_
      refine lv_iadd hx hb gX12_lineAt_9.2.2.2.2.2.2.2.2.1 ?_
      refine eqi (x1 := nI (6 * kl + 3)) (nI_add (6 * kl) 3) ?_
      refine lv_aload_n hx hb gX12_lineAt_9.2.2.2.2.2.2.2.2.2 rfl (lv_at1 hl) ?_
      refine lv_bipush (v := 7) hx hb gX12_lineAt_10.1 (by decide) ?_
      refine iV (wr := [(nc, iA G 100 fnc), (nl, iA G 54 (upd (upd (upd (upd (upd fnl (6 * kl) 0) (6 * kl + 1) r9386) (6 * kl + 2) (-9)) (6 * kl + 3) (-9)) (6 * kl + 2) 0)), (nF, sA G 5 (FCT K)), (nt, iA G 240 fnt)]) hC hK hl hP hD hS hA (m_numberF l G h0 7 nw nk mhasKept nt (nI ktp) nr mrowMany mroundOf mroundFrom mouts nm mfromHour mtoHour ns (nI (NXT bt ktp ks)) (nI (TKE bt ktp (NXT bt ktp ks))) (nI (TKN bt ktp (NXT bt ktp ks))) 0 (nI kc) (nI kl) nl nc nF np ntr nb mbestCost nso nsi nit nsh nsf nss nrc mtraced mdealer mnumber mwhose msize misParted) si_X12_271 [4] [0, 1, 2, 3] sm_4 fm_4 nd_4 sm_0_1_2_3 nd_0_1_2_3 dj_4__0_1_2_3 rfl rfl rfl rfl rfl (Nat.le_of_ble_eq_true rfl) rm_32_5_5 ⟨Nat.le_of_ble_eq_true rfl, Nat.le_of_ble_eq_true rfl⟩ gX12_lineAt_10.2.1 (fun r9540 u9541 H locs hr9540 hP hD hS => ?_)
      refine Kpdr (ws := [(nc, iA G 100 fnc), (nl, iA G 54 (upd (upd (upd (upd (upd fnl (6 * kl) 0) (6 * kl + 1) r9386) (6 * kl + 2) (-9)) (6 * kl + 3) (-9)) (6 * kl + 2) 0)), (nF, sA G 5 (FCT K)), (nt, iA G 240 fnt), (h0, oX12 nw nk mhasKept nt (nI ktp) nr mrowMany mroundOf mroundFrom mouts nm mfromHour mtoHour ns (nI (NXT bt ktp ks)) (nI (TKE bt ktp (NXT bt ktp ks))) (nI (TKN bt ktp (NXT bt ktp ks))) 1 0 (nI kc) (nI kl) nl nc nF np ntr nb mbestCost nso nsi nit nsh nsf nss nrc mtraced mdealer mnumber mwhose msize misParted)]) hP hD (fun hP hD => ?_)
      obtain rfl := hr9540
      refine astN hC hK hP hD hS 1 (ws' := [(nc, iA G 100 fnc), (nl, iA G 54 (upd (upd (upd (upd (upd (upd fnl (6 * kl) 0) (6 * kl + 1) r9386) (6 * kl + 2) (-9)) (6 * kl + 3) (-9)) (6 * kl + 2) 0) (6 * kl + 3) 0)), (nF, sA G 5 (FCT K)), (nt, iA G 240 fnt), (h0, oX12 nw nk mhasKept nt (nI ktp) nr mrowMany mroundOf mroundFrom mouts nm mfromHour mtoHour ns (nI (NXT bt ktp ks)) (nI (TKE bt ktp (NXT bt ktp ks))) (nI (TKN bt ktp (NXT bt ktp ks))) 1 0 (nI kc) (nI kl) nl nc nF np ntr nb mbestCost nso nsi nit nsh nsf nss nrc mtraced mdealer mnumber mwhose msize misParted)]) rfl (k := (6 * kl + 3)) (by omega) (Nat.le_of_ble_eq_true rfl) (rfl) gX12_lineAt_10.2.2.1 (fun H locs hP hD hS => ?_)
      refine lv_iload_n hx hb gX12_lineAt_10.2.2.2.1 rfl (lv_at0 hl) ?_
      refine lv_iconst (v := 2) hx hb gX12_lineAt_10.2.2.2.2.1 (by decide) ?_
      refine lv_icmp_ne (tgt := 221) hx hb gX12_lineAt_10.2.2.2.2.2.1 (by decide) (fun _ => ?_) (fun c9 => absurd c9 (by decide))
      refine lv_aload_n hx hb gX12_lineAt_12.1 rfl (lv_at1 hl) ?_
      refine gf_X12_32 hC rfl hK hP 4 rfl rfl gX12_lineAt_12.2.1 ?_
      refine lv_iload_n hx hb gX12_lineAt_12.2.2.1 rfl (lv_at2 hl) ?_
      refine lv_iconst (v := 4) hx hb gX12_lineAt_12.2.2.2.1 (by decide) ?_
      refine lv_iadd hx hb gX12_lineAt_12.2.2.2.2.1 ?_
      refine eqi (x1 := nI (6 * kl + 4)) (nI_add (6 * kl) 4) ?_
      refine lv_aload_n hx hb gX12_lineAt_12.2.2.2.2.2.1 rfl (lv_at1 hl) ?_
      refine gf_X12_240 hC rfl hK hP 4 rfl rfl gX12_lineAt_12.2.2.2.2.2.2.1 ?_
      refine astN hC hK hP hD hS 1 (ws' := [(nc, iA G 100 fnc), (nl, iA G 54 (upd (upd (upd (upd (upd (upd (upd fnl (6 * kl) 0) (6 * kl + 1) r9386) (6 * kl + 2) (-9)) (6 * kl + 3) (-9)) (6 * kl + 2) 0) (6 * kl + 3) 0) (6 * kl + 4) (nI kc))), (nF, sA G 5 (FCT K)), (nt, iA G 240 fnt), (h0, oX12 nw nk mhasKept nt (nI ktp) nr mrowMany mroundOf mroundFrom mouts nm mfromHour mtoHour ns (nI (NXT bt ktp ks)) (nI (TKE bt ktp (NXT bt ktp ks))) (nI (TKN bt ktp (NXT bt ktp ks))) 1 0 (nI kc) (nI kl) nl nc nF np ntr nb mbestCost nso nsi nit nsh nsf nss nrc mtraced mdealer mnumber mwhose msize misParted)]) rfl (k := (6 * kl + 4)) (by omega) (Nat.le_of_ble_eq_true rfl) (rfl) gX12_lineAt_12.2.2.2.2.2.2.2.1 (fun H locs hP hD hS => ?_)
      refine lv_iload_n hx hb gX12_lineAt_12.2.2.2.2.2.2.2.2.1 rfl (lv_at0 hl) ?_
      refine lv_iconst (v := 3) hx hb gX12_lineAt_12.2.2.2.2.2.2.2.2.2 (by decide) ?_
      refine lv_icmp_eq (tgt := 256) hx hb gX12_lineAt_13.1 (by decide) (fun c9 => absurd c9 (by decide)) (fun _ => ?_)
      refine lv_aload_n hx hb gX12_lineAt_13.2.1 rfl (lv_at1 hl) ?_
      refine va_ldcSw (index := 287) (tx := "if") hx hb hown (hO.2.2 0 (by decide)) gX12_lineAt_13.2.2.1 ?_
      refine pVo hO hS hC hK hl hP hD (m_isNameF l G K 0 h0 nw nk mhasKept nt (nI ktp) nr mrowMany mroundOf mroundFrom mouts nm mfromHour mtoHour ns (nI (NXT bt ktp ks)) (nI (TKE bt ktp (NXT bt ktp ks))) (nI (TKN bt ktp (NXT bt ktp ks))) 0 (nI kc) (nI kl) nl nc nF np ntr nb mbestCost nso nsi nit nsh nsf nss nrc mtraced mdealer mnumber mwhose msize misParted ((by decide))) si_X12_248 [4] sm_4 fm_4 nd_4 rfl rfl rfl rfl rfl (Nat.le_of_ble_eq_true rfl) rm_32_5_4 ⟨by first | exact Nat.le_of_ble_eq_true rfl | exact Nat.zero_le _, by first | exact Nat.le_of_ble_eq_true rfl | exact Nat.zero_le _⟩ gX12_lineAt_13.2.2.2.1 (Keqr ?_)
      refine lv_if_eq (tgt := 256) hx hb gX12_lineAt_13.2.2.2.2.1 (by decide) (fun _ => ?_) (fun c9 => absurd (by decide) c9)
      refine lv_aload_n hx hb gX12_lineAt_13.2.2.2.2.2.2.2.2.2 rfl (lv_at1 hl) ?_
      refine gf_X12_32 hC rfl hK hP 4 rfl rfl gX12_lineAt_14.1 ?_
      refine lv_iload_n hx hb gX12_lineAt_14.2.1 rfl (lv_at2 hl) ?_
      refine lv_iconst (v := 5) hx hb gX12_lineAt_14.2.2.1 (by decide) ?_
      refine lv_iadd hx hb gX12_lineAt_14.2.2.2.1 ?_
      refine eqi (x1 := nI (6 * kl + 5)) (nI_add (6 * kl) 5) ?_
      refine lv_aload_n hx hb gX12_lineAt_14.2.2.2.2.1 rfl (lv_at1 hl) ?_
      refine gf_X12_240 hC rfl hK hP 4 rfl rfl gX12_lineAt_14.2.2.2.2.2.1 ?_
      refine astN hC hK hP hD hS 1 (ws' := [(nc, iA G 100 fnc), (nl, iA G 54 (upd (upd (upd (upd (upd (upd (upd (upd fnl (6 * kl) 0) (6 * kl + 1) r9386) (6 * kl + 2) (-9)) (6 * kl + 3) (-9)) (6 * kl + 2) 0) (6 * kl + 3) 0) (6 * kl + 4) (nI kc)) (6 * kl + 5) (nI kc))), (nF, sA G 5 (FCT K)), (nt, iA G 240 fnt), (h0, oX12 nw nk mhasKept nt (nI ktp) nr mrowMany mroundOf mroundFrom mouts nm mfromHour mtoHour ns (nI (NXT bt ktp ks)) (nI (TKE bt ktp (NXT bt ktp ks))) (nI (TKN bt ktp (NXT bt ktp ks))) 1 0 (nI kc) (nI kl) nl nc nF np ntr nb mbestCost nso nsi nit nsh nsf nss nrc mtraced mdealer mnumber mwhose msize misParted)]) rfl (k := (6 * kl + 5)) (by omega) (Nat.le_of_ble_eq_true rfl) (rfl) gX12_lineAt_14.2.2.2.2.2.2.1 (fun H locs hP hD hS => ?_)
      refine lv_aload_n hx hb gX12_lineAt_14.2.2.2.2.2.2.2.1 rfl (lv_at1 hl) ?_
      refine lv_aload_n hx hb gX12_lineAt_14.2.2.2.2.2.2.2.2.1 rfl (lv_at1 hl) ?_
      refine lv_bipush (v := 59) hx hb gX12_lineAt_14.2.2.2.2.2.2.2.2.2 (by decide) ?_
      refine pV hC hK hl hP hD (m_isSignF l G h0 59 nw nk mhasKept nt (nI ktp) nr mrowMany mroundOf mroundFrom mouts nm mfromHour mtoHour ns (nI (NXT bt ktp ks)) (nI (TKE bt ktp (NXT bt ktp ks))) (nI (TKN bt ktp (NXT bt ktp ks))) 0 (nI kc) (nI kl) nl nc nF np ntr nb mbestCost nso nsi nit nsh nsf nss nrc mtraced mdealer mnumber mwhose msize misParted) si_X12_262 [4] sm_4 fm_4 nd_4 rfl rfl rfl rfl rfl (Nat.le_of_ble_eq_true rfl) rm_32_1_2 ⟨by first | exact Nat.le_of_ble_eq_true rfl | exact Nat.zero_le _, by first | exact Nat.le_of_ble_eq_true rfl | exact Nat.zero_le _⟩ gX12_lineAt_15.1 (Keqr ?_)
      refine vV (wr := [(nc, iA G 100 fnc), (nl, iA G 54 (upd (upd (upd (upd (upd (upd (upd (upd fnl (6 * kl) 0) (6 * kl + 1) r9386) (6 * kl + 2) (-9)) (6 * kl + 3) (-9)) (6 * kl + 2) 0) (6 * kl + 3) 0) (6 * kl + 4) (nI kc)) (6 * kl + 5) (nI kc))), (nF, sA G 5 (FCT K)), (nt, iA G 240 fnt)]) hC hK hl hP hD hS hA (m_needF l G h0 0 nw nk mhasKept nt (nI ktp) nr mrowMany mroundOf mroundFrom mouts nm mfromHour mtoHour ns (nI (NXT bt ktp ks)) (nI (TKE bt ktp (NXT bt ktp ks))) (nI (TKN bt ktp (NXT bt ktp ks))) 0 (nI kc) (nI kl) nl nc nF np ntr nb mbestCost nso nsi nit nsh nsf nss nrc mtraced mdealer mnumber mwhose msize misParted) si_X12_236 [4] [0, 1, 2, 3] sm_4 fm_4 nd_4 sm_0_1_2_3 nd_0_1_2_3 dj_4__0_1_2_3 rfl rfl rfl rfl rfl (Nat.le_of_ble_eq_true rfl) rm_32_4_2 ⟨Nat.le_of_ble_eq_true rfl, Nat.le_of_ble_eq_true rfl⟩ gX12_lineAt_15.2.1 (fun u9548 H locs hr9547 hP hD hS => ?_)
      refine Kpdr (ws := [(nc, iA G 100 fnc), (nl, iA G 54 (upd (upd (upd (upd (upd (upd (upd (upd fnl (6 * kl) 0) (6 * kl + 1) r9386) (6 * kl + 2) (-9)) (6 * kl + 3) (-9)) (6 * kl + 2) 0) (6 * kl + 3) 0) (6 * kl + 4) (nI kc)) (6 * kl + 5) (nI kc))), (nF, sA G 5 (FCT K)), (nt, iA G 240 fnt), (h0, oX12 nw nk mhasKept nt (nI ktp) nr mrowMany mroundOf mroundFrom mouts nm mfromHour mtoHour ns (nI (NXT bt ktp ks)) (nI (TKE bt ktp (NXT bt ktp ks))) (nI (TKN bt ktp (NXT bt ktp ks))) 1 0 (nI kc) (nI kl) nl nc nF np ntr nb mbestCost nso nsi nit nsh nsf nss nrc mtraced mdealer mnumber mwhose msize misParted)]) hP hD (fun hP hD => ?_)
      refine toQ hQ0 ?_
      exact RV hC hP hD hS [4, 3, 0, 1, 2] (1, (NXT bt ktp ks), kc, fnc, upd (upd (upd (upd (upd (upd (upd (upd fnl (6 * kl) 0) (6 * kl + 1) r9386) (6 * kl + 2) (-9)) (6 * kl + 3) (-9)) (6 * kl + 2) 0) (6 * kl + 3) 0) (6 * kl + 4) (nI kc)) (6 * kl + 5) (nI kc), LN0, [], []) rfl rfl (by decide) (Or.inr ⟨rfl, Or.inr ⟨0, SRT.y (k := 0) (by decide) hq9381, Or.inl ⟨_, HDQ.a0 (so := 0) (M := 99) rfl hq9528, rfl⟩⟩, by (try dsimp only); omega⟩) gX12_lineAt_15.2.2
  · have hq9549 := a9380
    refine lv_if_eq (tgt := 14) hx hb gX12_lineAt_0.2.2.2.1 (by decide) (fun _ => ?_) (fun c9 => absurd (by decide) c9)
    refine lv_aload_n hx hb gX12_lineAt_0.2.2.2.2.2.2.1 rfl (lv_at0 hl) ?_
    refine va_ldcSw (index := 276) (tx := "warn") hx hb hown (hO.2.2 2 (by decide)) gX12_lineAt_0.2.2.2.2.2.2.2.1 ?_
    refine pVo hO hS hC hK hl hP hD (m_isNameX l G K 2 h0 nw nk mhasKept nt ktp nr mrowMany mroundOf mroundFrom mouts nm mfromHour mtoHour ns ks 0 (nI kc) (nI kl) nl nc nF np ntr nb mbestCost nso nsi nit nsh nsf nss nrc mtraced mdealer mnumber mwhose msize misParted fnt bt (htp) (hks) (hFB) ((by decide))) si_X12_248 [0, 1] sm_0_1 fm_0_1 nd_0_1 rfl rfl rfl rfl rfl (Nat.le_of_ble_eq_true rfl) rm_32_5_4 ⟨by first | exact Nat.le_of_ble_eq_true rfl | exact Nat.zero_le _, by first | exact Nat.le_of_ble_eq_true rfl | exact Nat.zero_le _⟩ gX12_lineAt_0.2.2.2.2.2.2.2.2.1 (Kors (Keqa fun a9551 => ?_) (Keqa fun a9551 => ?_))
    · have hq9552 := a9551
      have xl9553 : ks + 4 ≤ NXT bt ktp ks ∧ NXT bt ktp ks ≤ ktp := WRD.len hq9552 (by omega)
      refine lv_if_eq (tgt := 28) hx hb gX12_lineAt_0.2.2.2.2.2.2.2.2.2 (by decide) (fun c9 => absurd c9 (by decide)) (fun _ => ?_)
      refine lv_iconst (v := 1) hx hb gX12_lineAt_1.1 (by decide) ?_
      refine lv_goto (tgt := 57) hx hb gX12_lineAt_1.2.1 (by decide) ?_
      refine lv_istore_n (lv' := [(2, .int 1), (0, .ref h0), (1, .int (nI (6 * kl)))]) hx hb gX12_lineAt_2.2.2.2.2.2.1 rfl hl (by decide) rfl (fun ls hl => ?_)
      refine lv_aload_n hx hb gX12_lineAt_2.2.2.2.2.2.2.1 rfl (lv_at1 hl) ?_
      refine lv_iload_n hx hb gX12_lineAt_2.2.2.2.2.2.2.2.1 rfl (lv_at0 hl) ?_
      refine lv_if_lt (tgt := 67) hx hb gX12_lineAt_2.2.2.2.2.2.2.2.2.1 (by decide) (fun c9 => absurd c9 (by decide)) (fun _ => ?_)
      refine lv_iconst (v := 1) hx hb gX12_lineAt_2.2.2.2.2.2.2.2.2.2 (by decide) ?_
      refine lv_goto (tgt := 68) hx hb gX12_lineAt_3.1 (by decide) ?_
      refine vV (wr := [(nc, iA G 100 fnc), (nl, iA G 54 fnl), (nF, sA G 5 (FCT K))]) hC hK hl hP hD hS hA (m_need1X l G h0 nw nk mhasKept nt ktp nr mrowMany mroundOf mroundFrom mouts nm mfromHour mtoHour ns ks 0 (nI kc) (nI kl) nl nc nF np ntr nb mbestCost nso nsi nit nsh nsf nss nrc mtraced mdealer mnumber mwhose msize misParted fnt bt (htp) (hks) (hFB)) si_X12_236 [0, 1] [2, 3, 4] sm_0_1 fm_0_1 nd_0_1 sm_2_3_4 nd_2_3_4 dj_0_1__2_3_4 rfl rfl rfl rfl rfl (Nat.le_of_ble_eq_true rfl) rm_32_4_2 ⟨Nat.le_of_ble_eq_true rfl, Nat.le_of_ble_eq_true rfl⟩ gX12_lineAt_3.2.2.1 (fun u9555 H locs hr9554 hP hD hS => ?_)
      refine Kpdr (ws := [(nc, iA G 100 fnc), (nl, iA G 54 fnl), (nF, sA G 5 (FCT K)), (h0, oX12 nw nk mhasKept nt (nI ktp) nr mrowMany mroundOf mroundFrom mouts nm mfromHour mtoHour ns (nI (NXT bt ktp ks)) (nI (TKE bt ktp (NXT bt ktp ks))) (nI (TKN bt ktp (NXT bt ktp ks))) 0 0 (nI kc) (nI kl) nl nc nF np ntr nb mbestCost nso nsi nit nsh nsf nss nrc mtraced mdealer mnumber mwhose msize misParted), (nt, iA G 240 fnt)]) hP hD (fun hP hD => ?_)
      have xn9556 := NXT.ge (bt := bt) (n := ktp) (s := ks) (by omega)
      refine lv_aload_n hx hb gX12_lineAt_3.2.2.2.1 rfl (lv_at1 hl) ?_
      refine gf_X12_32 hC rfl hK hP 3 rfl rfl gX12_lineAt_3.2.2.2.2.1 ?_
      refine lv_iload_n hx hb gX12_lineAt_3.2.2.2.2.2.1 rfl (lv_at2 hl) ?_
      refine lv_iload_n hx hb gX12_lineAt_3.2.2.2.2.2.2.1 rfl (lv_at0 hl) ?_
      refine astN hC hK hP hD hS 1 (ws' := [(nc, iA G 100 fnc), (nl, iA G 54 (upd fnl (6 * kl) 1)), (nF, sA G 5 (FCT K)), (h0, oX12 nw nk mhasKept nt (nI ktp) nr mrowMany mroundOf mroundFrom mouts nm mfromHour mtoHour ns (nI (NXT bt ktp ks)) (nI (TKE bt ktp (NXT bt ktp ks))) (nI (TKN bt ktp (NXT bt ktp ks))) 0 0 (nI kc) (nI kl) nl nc nF np ntr nb mbestCost nso nsi nit nsh nsf nss nrc mtraced mdealer mnumber mwhose msize misParted), (nt, iA G 240 fnt)]) rfl (k := (6 * kl)) (by omega) (Nat.le_of_ble_eq_true rfl) (rfl) gX12_lineAt_3.2.2.2.2.2.2.2.1 (fun H locs hP hD hS => ?_)
      refine lv_aload_n hx hb gX12_lineAt_3.2.2.2.2.2.2.2.2.1 rfl (lv_at1 hl) ?_
      refine gf_X12_32 hC rfl hK hP 3 rfl rfl gX12_lineAt_3.2.2.2.2.2.2.2.2.2 ?_
      refine lv_iload_n hx hb gX12_lineAt_4.1 rfl (lv_at2 hl) ?_
      refine lv_iconst (v := 1) hx hb gX12_lineAt_4.2.1 (by decide) ?_
      refine lv_iadd hx hb gX12_lineAt_4.2.2.1 ?_
      refine eqi (x1 := nI (6 * kl + 1)) (nI_add (6 * kl) 1) ?_
      refine lv_aload_n hx hb gX12_lineAt_4.2.2.2.1 rfl (lv_at1 hl) ?_
      refine lv_iload_n hx hb gX12_lineAt_4.2.2.2.2.1 rfl (lv_at0 hl) ?_
      refine lv_if_eq (tgt := 95) hx hb gX12_lineAt_4.2.2.2.2.2.1 (by decide) (fun c9 => absurd c9 (by decide)) (fun _ => ?_)
      refine lv_iload_n hx hb gX12_lineAt_4.2.2.2.2.2.2.1 rfl (lv_at0 hl) ?_
      refine lv_iconst (v := 1) hx hb gX12_lineAt_4.2.2.2.2.2.2.2.1 (by decide) ?_
      refine lv_icmp_ne (tgt := 100) hx hb gX12_lineAt_4.2.2.2.2.2.2.2.2.1 (by decide) (fun c9 => absurd (by decide) c9) (fun _ => ?_)
      refine lv_bipush (v := 99) hx hb gX12_lineAt_4.2.2.2.2.2.2.2.2.2 (by decide) ?_
      refine lv_goto (tgt := 112) hx hb gX12_lineAt_5.1 (by decide) ?_
      refine iV (wr := [(nc, iA G 100 fnc), (nl, iA G 54 (upd fnl (6 * kl) 1)), (nF, sA G 5 (FCT K))]) hC hK hl hP hD hS hA (m_numberX l G h0 99 nw nk mhasKept nt ktp nr mrowMany mroundOf mroundFrom mouts nm mfromHour mtoHour ns (NXT bt ktp ks) 0 (nI kc) (nI kl) nl nc nF np ntr nb mbestCost nso nsi nit nsh nsf nss nrc mtraced mdealer mnumber mwhose msize misParted fnt bt (htp) (by omega) (hFB) (by omega)) si_X12_271 [3, 4] [0, 1, 2] sm_3_4 fm_3_4 nd_3_4 sm_0_1_2 nd_0_1_2 dj_3_4__0_1_2 rfl rfl rfl rfl rfl (Nat.le_of_ble_eq_true rfl) rm_32_5_5 ⟨Nat.le_of_ble_eq_true rfl, Nat.le_of_ble_eq_true rfl⟩ gX12_lineAt_5.2.2.2.2.2.2.2.1 (fun r9557 => Ktu2 fun ff19559 ks19560 => ?_)
      intro H locs hr9557 hP hD hS
      try dsimp only at hr9557
      refine Kpdr (ws := [(nc, iA G 100 fnc), (nl, iA G 54 (upd fnl (6 * kl) 1)), (nF, sA G 5 (FCT K)), (h0, oX12 nw nk mhasKept nt (nI ktp) nr mrowMany mroundOf mroundFrom mouts nm mfromHour mtoHour ns (nI ks19560) (nI (TKE bt ktp ks19560)) (nI (TKN bt ktp ks19560)) ff19559 0 (nI kc) (nI kl) nl nc nF np ntr nb mbestCost nso nsi nit nsh nsf nss nrc mtraced mdealer mnumber mwhose msize misParted), (nt, iA G 240 fnt)]) hP hD (fun hP hD => ?_)
      obtain ⟨hr9557, w9561⟩ := hr9557
      rcases w9561 with v9562 | v9563
      · obtain ⟨rfl, rfl, rfl, hq9564⟩ := v9562
        have xl9565 := NML.len hq9564 (by omega)
        refine astN hC hK hP hD hS 1 (ws' := [(nc, iA G 100 fnc), (nl, iA G 54 (upd (upd fnl (6 * kl) 1) (6 * kl + 1) (nI (NVL bt ktp (NXT bt ktp ks))))), (nF, sA G 5 (FCT K)), (h0, oX12 nw nk mhasKept nt (nI ktp) nr mrowMany mroundOf mroundFrom mouts nm mfromHour mtoHour ns (nI (NXT bt ktp (NXT bt ktp ks))) (nI (TKE bt ktp (NXT bt ktp (NXT bt ktp ks)))) (nI (TKN bt ktp (NXT bt ktp (NXT bt ktp ks)))) 0 0 (nI kc) (nI kl) nl nc nF np ntr nb mbestCost nso nsi nit nsh nsf nss nrc mtraced mdealer mnumber mwhose msize misParted), (nt, iA G 240 fnt)]) rfl (k := (6 * kl + 1)) (by omega) (Nat.le_of_ble_eq_true rfl) (rfl) gX12_lineAt_5.2.2.2.2.2.2.2.2.1 (fun H locs hP hD hS => ?_)
        refine lv_aload_n hx hb gX12_lineAt_5.2.2.2.2.2.2.2.2.2 rfl (lv_at1 hl) ?_
        refine gf_X12_32 hC rfl hK hP 3 rfl rfl gX12_lineAt_6.1 ?_
        refine lv_iload_n hx hb gX12_lineAt_6.2.1 rfl (lv_at2 hl) ?_
        refine lv_iconst (v := 2) hx hb gX12_lineAt_6.2.2.1 (by decide) ?_
        refine lv_iadd hx hb gX12_lineAt_6.2.2.2.1 ?_
        refine eqi (x1 := nI (6 * kl + 2)) (nI_add (6 * kl) 2) ?_
        refine lv_bipush (v := (-9)) hx hb gX12_lineAt_6.2.2.2.2.1 (by decide) ?_
        refine astN hC hK hP hD hS 1 (ws' := [(nc, iA G 100 fnc), (nl, iA G 54 (upd (upd (upd fnl (6 * kl) 1) (6 * kl + 1) (nI (NVL bt ktp (NXT bt ktp ks)))) (6 * kl + 2) (-9))), (nF, sA G 5 (FCT K)), (h0, oX12 nw nk mhasKept nt (nI ktp) nr mrowMany mroundOf mroundFrom mouts nm mfromHour mtoHour ns (nI (NXT bt ktp (NXT bt ktp ks))) (nI (TKE bt ktp (NXT bt ktp (NXT bt ktp ks)))) (nI (TKN bt ktp (NXT bt ktp (NXT bt ktp ks)))) 0 0 (nI kc) (nI kl) nl nc nF np ntr nb mbestCost nso nsi nit nsh nsf nss nrc mtraced mdealer mnumber mwhose msize misParted), (nt, iA G 240 fnt)]) rfl (k := (6 * kl + 2)) (by omega) (Nat.le_of_ble_eq_true rfl) (rfl) gX12_lineAt_6.2.2.2.2.2.1 (fun H locs hP hD hS => ?_)
        refine lv_aload_n hx hb gX12_lineAt_6.2.2.2.2.2.2.1 rfl (lv_at1 hl) ?_
        refine gf_X12_32 hC rfl hK hP 3 rfl rfl gX12_lineAt_6.2.2.2.2.2.2.2.1 ?_
        refine lv_iload_n hx hb gX12_lineAt_6.2.2.2.2.2.2.2.2.1 rfl (lv_at2 hl) ?_
        refine lv_iconst (v := 3) hx hb gX12_lineAt_6.2.2.2.2.2.2.2.2.2 (by decide) ?_
        refine lv_iadd hx hb gX12_lineAt_7.1 ?_
        refine eqi (x1 := nI (6 * kl + 3)) (nI_add (6 * kl) 3) ?_
        refine lv_bipush (v := (-9)) hx hb gX12_lineAt_7.2.1 (by decide) ?_
        refine astN hC hK hP hD hS 1 (ws' := [(nc, iA G 100 fnc), (nl, iA G 54 (upd (upd (upd (upd fnl (6 * kl) 1) (6 * kl + 1) (nI (NVL bt ktp (NXT bt ktp ks)))) (6 * kl + 2) (-9)) (6 * kl + 3) (-9))), (nF, sA G 5 (FCT K)), (h0, oX12 nw nk mhasKept nt (nI ktp) nr mrowMany mroundOf mroundFrom mouts nm mfromHour mtoHour ns (nI (NXT bt ktp (NXT bt ktp ks))) (nI (TKE bt ktp (NXT bt ktp (NXT bt ktp ks)))) (nI (TKN bt ktp (NXT bt ktp (NXT bt ktp ks)))) 0 0 (nI kc) (nI kl) nl nc nF np ntr nb mbestCost nso nsi nit nsh nsf nss nrc mtraced mdealer mnumber mwhose msize misParted), (nt, iA G 240 fnt)]) rfl (k := (6 * kl + 3)) (by omega) (Nat.le_of_ble_eq_true rfl) (rfl) gX12_lineAt_7.2.2.1 (fun H locs hP hD hS => ?_)
        refine lv_iload_n hx hb gX12_lineAt_7.2.2.2.1 rfl (lv_at0 hl) ?_
        refine lv_if_ne (tgt := 190) hx hb gX12_lineAt_7.2.2.2.2.1 (by decide) (fun _ => ?_) (fun c9 => absurd c9 (by decide))
        refine lv_iload_n hx hb gX12_lineAt_10.2.2.2.1 rfl (lv_at0 hl) ?_
        refine lv_iconst (v := 2) hx hb gX12_lineAt_10.2.2.2.2.1 (by decide) ?_
        refine lv_icmp_ne (tgt := 221) hx hb gX12_lineAt_10.2.2.2.2.2.1 (by decide) (fun _ => ?_) (fun c9 => absurd c9 (by decide))
        refine lv_aload_n hx hb gX12_lineAt_12.1 rfl (lv_at1 hl) ?_
        refine gf_X12_32 hC rfl hK hP 3 rfl rfl gX12_lineAt_12.2.1 ?_
        refine lv_iload_n hx hb gX12_lineAt_12.2.2.1 rfl (lv_at2 hl) ?_
        refine lv_iconst (v := 4) hx hb gX12_lineAt_12.2.2.2.1 (by decide) ?_
        refine lv_iadd hx hb gX12_lineAt_12.2.2.2.2.1 ?_
        refine eqi (x1 := nI (6 * kl + 4)) (nI_add (6 * kl) 4) ?_
        refine lv_aload_n hx hb gX12_lineAt_12.2.2.2.2.2.1 rfl (lv_at1 hl) ?_
        refine gf_X12_240 hC rfl hK hP 3 rfl rfl gX12_lineAt_12.2.2.2.2.2.2.1 ?_
        refine astN hC hK hP hD hS 1 (ws' := [(nc, iA G 100 fnc), (nl, iA G 54 (upd (upd (upd (upd (upd fnl (6 * kl) 1) (6 * kl + 1) (nI (NVL bt ktp (NXT bt ktp ks)))) (6 * kl + 2) (-9)) (6 * kl + 3) (-9)) (6 * kl + 4) (nI kc))), (nF, sA G 5 (FCT K)), (h0, oX12 nw nk mhasKept nt (nI ktp) nr mrowMany mroundOf mroundFrom mouts nm mfromHour mtoHour ns (nI (NXT bt ktp (NXT bt ktp ks))) (nI (TKE bt ktp (NXT bt ktp (NXT bt ktp ks)))) (nI (TKN bt ktp (NXT bt ktp (NXT bt ktp ks)))) 0 0 (nI kc) (nI kl) nl nc nF np ntr nb mbestCost nso nsi nit nsh nsf nss nrc mtraced mdealer mnumber mwhose msize misParted), (nt, iA G 240 fnt)]) rfl (k := (6 * kl + 4)) (by omega) (Nat.le_of_ble_eq_true rfl) (rfl) gX12_lineAt_12.2.2.2.2.2.2.2.1 (fun H locs hP hD hS => ?_)
        refine lv_iload_n hx hb gX12_lineAt_12.2.2.2.2.2.2.2.2.1 rfl (lv_at0 hl) ?_
        refine lv_iconst (v := 3) hx hb gX12_lineAt_12.2.2.2.2.2.2.2.2.2 (by decide) ?_
        refine lv_icmp_eq (tgt := 256) hx hb gX12_lineAt_13.1 (by decide) (fun c9 => absurd c9 (by decide)) (fun _ => ?_)
        refine lv_aload_n hx hb gX12_lineAt_13.2.1 rfl (lv_at1 hl) ?_
        refine va_ldcSw (index := 287) (tx := "if") hx hb hown (hO.2.2 0 (by decide)) gX12_lineAt_13.2.2.1 ?_
        refine pVo hO hS hC hK hl hP hD (m_isNameX l G K 0 h0 nw nk mhasKept nt ktp nr mrowMany mroundOf mroundFrom mouts nm mfromHour mtoHour ns (NXT bt ktp (NXT bt ktp ks)) 0 (nI kc) (nI kl) nl nc nF np ntr nb mbestCost nso nsi nit nsh nsf nss nrc mtraced mdealer mnumber mwhose msize misParted fnt bt (htp) (by omega) (hFB) ((by decide))) si_X12_248 [3, 4] sm_3_4 fm_3_4 nd_3_4 rfl rfl rfl rfl rfl (Nat.le_of_ble_eq_true rfl) rm_32_5_4 ⟨by first | exact Nat.le_of_ble_eq_true rfl | exact Nat.zero_le _, by first | exact Nat.le_of_ble_eq_true rfl | exact Nat.zero_le _⟩ gX12_lineAt_13.2.2.2.1 (Kors (Keqa fun a9567 => ?_) (Keqa fun a9567 => ?_))
        · have hq9568 := a9567
          have xl9569 : (NXT bt ktp (NXT bt ktp ks)) + 2 ≤ NXT bt ktp (NXT bt ktp (NXT bt ktp ks)) ∧ NXT bt ktp (NXT bt ktp (NXT bt ktp ks)) ≤ ktp := WRD.len hq9568 (by omega)
          refine lv_if_eq (tgt := 256) hx hb gX12_lineAt_13.2.2.2.2.1 (by decide) (fun c9 => absurd c9 (by decide)) (fun _ => ?_)
          refine lv_aload_n hx hb gX12_lineAt_13.2.2.2.2.2.1 rfl (lv_at1 hl) ?_
          refine vV (wr := [(nc, iA G 100 fnc), (nl, iA G 54 (upd (upd (upd (upd (upd fnl (6 * kl) 1) (6 * kl + 1) (nI (NVL bt ktp (NXT bt ktp ks)))) (6 * kl + 2) (-9)) (6 * kl + 3) (-9)) (6 * kl + 4) (nI kc))), (nF, sA G 5 (FCT K))]) hC hK hl hP hD hS hA (m_nextT l G h0 nw nk mhasKept nt ktp nr mrowMany mroundOf mroundFrom mouts nm mfromHour mtoHour ns (NXT bt ktp (NXT bt ktp ks)) 0 0 (nI kc) (nI kl) nl nc nF np ntr nb mbestCost nso nsi nit nsh nsf nss nrc mtraced mdealer mnumber mwhose msize misParted fnt bt (htp) (by omega) (hFB)) si_X12_233 [3, 4] [0, 1, 2] sm_3_4 fm_3_4 nd_3_4 sm_0_1_2 nd_0_1_2 dj_3_4__0_1_2 rfl rfl rfl rfl rfl (Nat.le_of_ble_eq_true rfl) rm_32_3_1 ⟨Nat.le_of_ble_eq_true rfl, Nat.le_of_ble_eq_true rfl⟩ gX12_lineAt_13.2.2.2.2.2.2.1 (fun u9571 H locs hr9570 hP hD hS => ?_)
          refine Kpdr (ws := [(nc, iA G 100 fnc), (nl, iA G 54 (upd (upd (upd (upd (upd fnl (6 * kl) 1) (6 * kl + 1) (nI (NVL bt ktp (NXT bt ktp ks)))) (6 * kl + 2) (-9)) (6 * kl + 3) (-9)) (6 * kl + 4) (nI kc))), (nF, sA G 5 (FCT K)), (h0, oX12 nw nk mhasKept nt (nI ktp) nr mrowMany mroundOf mroundFrom mouts nm mfromHour mtoHour ns (nI (NXT bt ktp (NXT bt ktp (NXT bt ktp ks)))) (nI (TKE bt ktp (NXT bt ktp (NXT bt ktp (NXT bt ktp ks))))) (nI (TKN bt ktp (NXT bt ktp (NXT bt ktp (NXT bt ktp ks))))) 0 0 (nI kc) (nI kl) nl nc nF np ntr nb mbestCost nso nsi nit nsh nsf nss nrc mtraced mdealer mnumber mwhose msize misParted), (nt, iA G 240 fnt)]) hP hD (fun hP hD => ?_)
          have xn9572 := NXT.ge (bt := bt) (n := ktp) (s := (NXT bt ktp (NXT bt ktp ks))) (by omega)
          refine lv_aload_n hx hb gX12_lineAt_13.2.2.2.2.2.2.2.1 rfl (lv_at1 hl) ?_
          refine vVo (wr := [(nl, iA G 54 (upd (upd (upd (upd (upd fnl (6 * kl) 1) (6 * kl + 1) (nI (NVL bt ktp (NXT bt ktp ks)))) (6 * kl + 2) (-9)) (6 * kl + 3) (-9)) (6 * kl + 4) (nI kc)))]) hO hC hK hl hP hD hS hA (m_either l G K 4 h0 nw nk mhasKept nt ktp nr mrowMany mroundOf mroundFrom mouts nm mfromHour mtoHour ns (NXT bt ktp (NXT bt ktp (NXT bt ktp ks))) 0 kc (nI kl) nl nc nF np ntr nb mbestCost nso nsi nit nsh nsf nss nrc mtraced mdealer mnumber mwhose msize misParted fnt fnc bt cs rs (by omega) (by omega) (hFB) (hST) (by omega) (by omega)) si_X12_268 [3, 4, 0, 2] [1] sm_3_4_0_2 fm_3_4_0_2 nd_3_4_0_2 sm_1 nd_1 dj_3_4_0_2__1 rfl rfl rfl rfl rfl (Nat.le_of_ble_eq_true rfl) ⟨Nat.le_of_ble_eq_true rfl, Nat.le_of_ble_eq_true rfl⟩ ⟨Nat.le_of_ble_eq_true rfl, Nat.le_of_ble_eq_true rfl⟩ gX12_lineAt_13.2.2.2.2.2.2.2.2.1 (Ktu6 fun ff19575 ks19576 kc19577 gnc9578 c19579 r19580 => ?_)
          intro H locs hr9573 hP hD hS
          try dsimp only at hr9573
          refine Kpdr (ws := [(nl, iA G 54 (upd (upd (upd (upd (upd fnl (6 * kl) 1) (6 * kl + 1) (nI (NVL bt ktp (NXT bt ktp ks)))) (6 * kl + 2) (-9)) (6 * kl + 3) (-9)) (6 * kl + 4) (nI kc))), (h0, oX12 nw nk mhasKept nt (nI ktp) nr mrowMany mroundOf mroundFrom mouts nm mfromHour mtoHour ns (nI ks19576) (nI (TKE bt ktp ks19576)) (nI (TKN bt ktp ks19576)) ff19575 0 (nI kc19577) (nI kl) nl nc nF np ntr nb mbestCost nso nsi nit nsh nsf nss nrc mtraced mdealer mnumber mwhose msize misParted), (nt, iA G 240 fnt), (nc, iA G 100 gnc9578), (nF, sA G 5 (FCT K))]) hP hD (fun hP hD => ?_)
          have w9581 := hr9573
          rcases w9581 with v9582 | v9583
          · obtain ⟨rfl, hq9584, hq9585⟩ := v9582
            have xl9586 := RT.lem hq9584 (by decide) (by omega)
            have xl9587 := hq9585.1
            refine lv_aload_n hx hb gX12_lineAt_13.2.2.2.2.2.2.2.2.2 rfl (lv_at1 hl) ?_
            refine gf_X12_32 hC rfl hK hP 1 rfl rfl gX12_lineAt_14.1 ?_
            refine lv_iload_n hx hb gX12_lineAt_14.2.1 rfl (lv_at2 hl) ?_
            refine lv_iconst (v := 5) hx hb gX12_lineAt_14.2.2.1 (by decide) ?_
            refine lv_iadd hx hb gX12_lineAt_14.2.2.2.1 ?_
            refine eqi (x1 := nI (6 * kl + 5)) (nI_add (6 * kl) 5) ?_
            refine lv_aload_n hx hb gX12_lineAt_14.2.2.2.2.1 rfl (lv_at1 hl) ?_
            refine gf_X12_240 hC rfl hK hP 1 rfl rfl gX12_lineAt_14.2.2.2.2.2.1 ?_
            refine astN hC hK hP hD hS 0 (ws' := [(nl, iA G 54 (upd (upd (upd (upd (upd (upd fnl (6 * kl) 1) (6 * kl + 1) (nI (NVL bt ktp (NXT bt ktp ks)))) (6 * kl + 2) (-9)) (6 * kl + 3) (-9)) (6 * kl + 4) (nI kc)) (6 * kl + 5) (nI kc19577))), (h0, oX12 nw nk mhasKept nt (nI ktp) nr mrowMany mroundOf mroundFrom mouts nm mfromHour mtoHour ns (nI ks19576) (nI (TKE bt ktp ks19576)) (nI (TKN bt ktp ks19576)) 0 0 (nI kc19577) (nI kl) nl nc nF np ntr nb mbestCost nso nsi nit nsh nsf nss nrc mtraced mdealer mnumber mwhose msize misParted), (nt, iA G 240 fnt), (nc, iA G 100 gnc9578), (nF, sA G 5 (FCT K))]) rfl (k := (6 * kl + 5)) (by omega) (Nat.le_of_ble_eq_true rfl) (rfl) gX12_lineAt_14.2.2.2.2.2.2.1 (fun H locs hP hD hS => ?_)
            refine lv_aload_n hx hb gX12_lineAt_14.2.2.2.2.2.2.2.1 rfl (lv_at1 hl) ?_
            refine lv_aload_n hx hb gX12_lineAt_14.2.2.2.2.2.2.2.2.1 rfl (lv_at1 hl) ?_
            refine lv_bipush (v := 59) hx hb gX12_lineAt_14.2.2.2.2.2.2.2.2.2 (by decide) ?_
            refine pV hC hK hl hP hD (m_isSignX l G h0 59 nw nk mhasKept nt ktp nr mrowMany mroundOf mroundFrom mouts nm mfromHour mtoHour ns ks19576 0 (nI kc19577) (nI kl) nl nc nF np ntr nb mbestCost nso nsi nit nsh nsf nss nrc mtraced mdealer mnumber mwhose msize misParted fnt bt (htp) (by omega) (hFB)) si_X12_262 [1, 2] sm_1_2 fm_1_2 nd_1_2 rfl rfl rfl rfl rfl (Nat.le_of_ble_eq_true rfl) rm_32_1_2 ⟨by first | exact Nat.le_of_ble_eq_true rfl | exact Nat.zero_le _, by first | exact Nat.le_of_ble_eq_true rfl | exact Nat.zero_le _⟩ gX12_lineAt_15.1 (Kors (Keqa fun a9589 => ?_) (Keqa fun a9589 => ?_))
            · have hq9590 := a9589
              have xl9591 := SGN.len hq9590 (by omega)
              refine vV (wr := [(nl, iA G 54 (upd (upd (upd (upd (upd (upd fnl (6 * kl) 1) (6 * kl + 1) (nI (NVL bt ktp (NXT bt ktp ks)))) (6 * kl + 2) (-9)) (6 * kl + 3) (-9)) (6 * kl + 4) (nI kc)) (6 * kl + 5) (nI kc19577))), (nc, iA G 100 gnc9578), (nF, sA G 5 (FCT K))]) hC hK hl hP hD hS hA (m_need1X l G h0 nw nk mhasKept nt ktp nr mrowMany mroundOf mroundFrom mouts nm mfromHour mtoHour ns ks19576 0 (nI kc19577) (nI kl) nl nc nF np ntr nb mbestCost nso nsi nit nsh nsf nss nrc mtraced mdealer mnumber mwhose msize misParted fnt bt (htp) (by omega) (hFB)) si_X12_236 [1, 2] [0, 3, 4] sm_1_2 fm_1_2 nd_1_2 sm_0_3_4 nd_0_3_4 dj_1_2__0_3_4 rfl rfl rfl rfl rfl (Nat.le_of_ble_eq_true rfl) rm_32_4_2 ⟨Nat.le_of_ble_eq_true rfl, Nat.le_of_ble_eq_true rfl⟩ gX12_lineAt_15.2.1 (fun u9593 H locs hr9592 hP hD hS => ?_)
              refine Kpdr (ws := [(nl, iA G 54 (upd (upd (upd (upd (upd (upd fnl (6 * kl) 1) (6 * kl + 1) (nI (NVL bt ktp (NXT bt ktp ks)))) (6 * kl + 2) (-9)) (6 * kl + 3) (-9)) (6 * kl + 4) (nI kc)) (6 * kl + 5) (nI kc19577))), (nc, iA G 100 gnc9578), (nF, sA G 5 (FCT K)), (h0, oX12 nw nk mhasKept nt (nI ktp) nr mrowMany mroundOf mroundFrom mouts nm mfromHour mtoHour ns (nI (NXT bt ktp ks19576)) (nI (TKE bt ktp (NXT bt ktp ks19576))) (nI (TKN bt ktp (NXT bt ktp ks19576))) 0 0 (nI kc19577) (nI kl) nl nc nF np ntr nb mbestCost nso nsi nit nsh nsf nss nrc mtraced mdealer mnumber mwhose msize misParted), (nt, iA G 240 fnt)]) hP hD (fun hP hD => ?_)
              have xn9594 := NXT.ge (bt := bt) (n := ktp) (s := ks19576) (by omega)
              refine toQ hQ0 ?_
              exact RV hC hP hD hS [3, 4, 1, 0, 2] (0, (NXT bt ktp ks19576), kc19577, gnc9578, upd (upd (upd (upd (upd (upd fnl (6 * kl) 1) (6 * kl + 1) (nI (NVL bt ktp (NXT bt ktp ks)))) (6 * kl + 2) (-9)) (6 * kl + 3) (-9)) (6 * kl + 4) (nI kc)) (6 * kl + 5) (nI kc19577), (1, (nI (NVL bt ktp (NXT bt ktp ks))), (-9), (-9), 1, cs.length, c19579.length, rs.length, r19580.length), c19579, r19580) rfl rfl (by decide) (Or.inl ⟨rfl, Or.inr ⟨1, SRT.y (k := 1) (by decide) hq9552, Or.inr ⟨(NXT bt ktp (NXT bt ktp ks)), (nI (NVL bt ktp (NXT bt ktp ks))), (-9), (-9), HDQ.a1 (so := 1) (M := 99) rfl (by decide) hq9564, Or.inr ⟨⟨by decide, hq9568⟩, Or.inr ⟨ks19576, c19579, r19580, hq9584, Or.inr ⟨hq9590, rfl⟩⟩⟩⟩⟩, hq9585, (by rw [hs1, hq9585.1]; exact ⟨fun j hj => (upd_ne (by omega)).trans ((upd_ne (by omega)).trans ((upd_ne (by omega)).trans ((upd_ne (by omega)).trans ((upd_ne (by omega)).trans ((upd_ne (by omega)).trans (rfl)))))), (upd_ne (by omega)).trans ((upd_ne (by omega)).trans ((upd_ne (by omega)).trans ((upd_ne (by omega)).trans ((upd_ne (by omega)).trans (upd_eq (by omega)))))), (upd_ne (by omega)).trans ((upd_ne (by omega)).trans ((upd_ne (by omega)).trans ((upd_ne (by omega)).trans (upd_eq (by omega))))), (upd_ne (by omega)).trans ((upd_ne (by omega)).trans ((upd_ne (by omega)).trans (upd_eq (by omega)))), (upd_ne (by omega)).trans ((upd_ne (by omega)).trans (upd_eq (by omega))), (upd_ne (by omega)).trans (upd_eq (by omega)), upd_eq (by omega), fun h9 => absurd (show (1 : Nat) = 0 from h9) (by decide), fun _ => (by (try dsimp only); omega), Nat.le_refl _, (by (try dsimp only); omega)⟩), by (try dsimp only); omega, by (try dsimp only); omega⟩) gX12_lineAt_15.2.2
            · have hq9595 := a9589
              refine vV (wr := [(nl, iA G 54 (upd (upd (upd (upd (upd (upd fnl (6 * kl) 1) (6 * kl + 1) (nI (NVL bt ktp (NXT bt ktp ks)))) (6 * kl + 2) (-9)) (6 * kl + 3) (-9)) (6 * kl + 4) (nI kc)) (6 * kl + 5) (nI kc19577))), (nt, iA G 240 fnt), (nc, iA G 100 gnc9578), (nF, sA G 5 (FCT K))]) hC hK hl hP hD hS hA (m_need0 l G h0 nw nk mhasKept nt (nI ktp) nr mrowMany mroundOf mroundFrom mouts nm mfromHour mtoHour ns (nI ks19576) (nI (TKE bt ktp ks19576)) (nI (TKN bt ktp ks19576)) 0 (nI kc19577) (nI kl) nl nc nF np ntr nb mbestCost nso nsi nit nsh nsf nss nrc mtraced mdealer mnumber mwhose msize misParted) si_X12_236 [1] [0, 2, 3, 4] sm_1 fm_1 nd_1 sm_0_2_3_4 nd_0_2_3_4 dj_1__0_2_3_4 rfl rfl rfl rfl rfl (Nat.le_of_ble_eq_true rfl) rm_32_4_2 ⟨Nat.le_of_ble_eq_true rfl, Nat.le_of_ble_eq_true rfl⟩ gX12_lineAt_15.2.1 (fun u9597 H locs hr9596 hP hD hS => ?_)
              refine Kpdr (ws := [(nl, iA G 54 (upd (upd (upd (upd (upd (upd fnl (6 * kl) 1) (6 * kl + 1) (nI (NVL bt ktp (NXT bt ktp ks)))) (6 * kl + 2) (-9)) (6 * kl + 3) (-9)) (6 * kl + 4) (nI kc)) (6 * kl + 5) (nI kc19577))), (nt, iA G 240 fnt), (nc, iA G 100 gnc9578), (nF, sA G 5 (FCT K)), (h0, oX12 nw nk mhasKept nt (nI ktp) nr mrowMany mroundOf mroundFrom mouts nm mfromHour mtoHour ns (nI ks19576) (nI (TKE bt ktp ks19576)) (nI (TKN bt ktp ks19576)) 1 0 (nI kc19577) (nI kl) nl nc nF np ntr nb mbestCost nso nsi nit nsh nsf nss nrc mtraced mdealer mnumber mwhose msize misParted)]) hP hD (fun hP hD => ?_)
              refine toQ hQ0 ?_
              exact RV hC hP hD hS [4, 1, 2, 0, 3] (1, ks19576, kc19577, gnc9578, upd (upd (upd (upd (upd (upd fnl (6 * kl) 1) (6 * kl + 1) (nI (NVL bt ktp (NXT bt ktp ks)))) (6 * kl + 2) (-9)) (6 * kl + 3) (-9)) (6 * kl + 4) (nI kc)) (6 * kl + 5) (nI kc19577), LN0, [], []) rfl rfl (by decide) (Or.inr ⟨rfl, Or.inr ⟨1, SRT.y (k := 1) (by decide) hq9552, Or.inr ⟨(NXT bt ktp (NXT bt ktp ks)), (nI (NVL bt ktp (NXT bt ktp ks))), (-9), (-9), HDQ.a1 (so := 1) (M := 99) rfl (by decide) hq9564, Or.inr ⟨⟨by decide, hq9568⟩, Or.inr ⟨ks19576, c19579, r19580, hq9584, Or.inl ⟨hq9595, rfl⟩⟩⟩⟩⟩, by (try dsimp only); omega⟩) gX12_lineAt_15.2.2
          · obtain ⟨rfl, hq9598, hq9599⟩ := v9583
            refine lv_aload_n hx hb gX12_lineAt_13.2.2.2.2.2.2.2.2.2 rfl (lv_at1 hl) ?_
            refine gf_X12_32 hC rfl hK hP 1 rfl rfl gX12_lineAt_14.1 ?_
            refine lv_iload_n hx hb gX12_lineAt_14.2.1 rfl (lv_at2 hl) ?_
            refine lv_iconst (v := 5) hx hb gX12_lineAt_14.2.2.1 (by decide) ?_
            refine lv_iadd hx hb gX12_lineAt_14.2.2.2.1 ?_
            refine eqi (x1 := nI (6 * kl + 5)) (nI_add (6 * kl) 5) ?_
            refine lv_aload_n hx hb gX12_lineAt_14.2.2.2.2.1 rfl (lv_at1 hl) ?_
            refine gf_X12_240 hC rfl hK hP 1 rfl rfl gX12_lineAt_14.2.2.2.2.2.1 ?_
            refine astN hC hK hP hD hS 0 (ws' := [(nl, iA G 54 (upd (upd (upd (upd (upd (upd fnl (6 * kl) 1) (6 * kl + 1) (nI (NVL bt ktp (NXT bt ktp ks)))) (6 * kl + 2) (-9)) (6 * kl + 3) (-9)) (6 * kl + 4) (nI kc)) (6 * kl + 5) (nI kc19577))), (h0, oX12 nw nk mhasKept nt (nI ktp) nr mrowMany mroundOf mroundFrom mouts nm mfromHour mtoHour ns (nI ks19576) (nI (TKE bt ktp ks19576)) (nI (TKN bt ktp ks19576)) 1 0 (nI kc19577) (nI kl) nl nc nF np ntr nb mbestCost nso nsi nit nsh nsf nss nrc mtraced mdealer mnumber mwhose msize misParted), (nt, iA G 240 fnt), (nc, iA G 100 gnc9578), (nF, sA G 5 (FCT K))]) rfl (k := (6 * kl + 5)) (by omega) (Nat.le_of_ble_eq_true rfl) (rfl) gX12_lineAt_14.2.2.2.2.2.2.1 (fun H locs hP hD hS => ?_)
            refine lv_aload_n hx hb gX12_lineAt_14.2.2.2.2.2.2.2.1 rfl (lv_at1 hl) ?_
            refine lv_aload_n hx hb gX12_lineAt_14.2.2.2.2.2.2.2.2.1 rfl (lv_at1 hl) ?_
            refine lv_bipush (v := 59) hx hb gX12_lineAt_14.2.2.2.2.2.2.2.2.2 (by decide) ?_
            refine pV hC hK hl hP hD (m_isSignF l G h0 59 nw nk mhasKept nt (nI ktp) nr mrowMany mroundOf mroundFrom mouts nm mfromHour mtoHour ns (nI ks19576) (nI (TKE bt ktp ks19576)) (nI (TKN bt ktp ks19576)) 0 (nI kc19577) (nI kl) nl nc nF np ntr nb mbestCost nso nsi nit nsh nsf nss nrc mtraced mdealer mnumber mwhose msize misParted) si_X12_262 [1] sm_1 fm_1 nd_1 rfl rfl rfl rfl rfl (Nat.le_of_ble_eq_true rfl) rm_32_1_2 ⟨by first | exact Nat.le_of_ble_eq_true rfl | exact Nat.zero_le _, by first | exact Nat.le_of_ble_eq_true rfl | exact Nat.zero_le _⟩ gX12_lineAt_15.1 (Keqr ?_)
            refine vV (wr := [(nl, iA G 54 (upd (upd (upd (upd (upd (upd fnl (6 * kl) 1) (6 * kl + 1) (nI (NVL bt ktp (NXT bt ktp ks)))) (6 * kl + 2) (-9)) (6 * kl + 3) (-9)) (6 * kl + 4) (nI kc)) (6 * kl + 5) (nI kc19577))), (nt, iA G 240 fnt), (nc, iA G 100 gnc9578), (nF, sA G 5 (FCT K))]) hC hK hl hP hD hS hA (m_needF l G h0 0 nw nk mhasKept nt (nI ktp) nr mrowMany mroundOf mroundFrom mouts nm mfromHour mtoHour ns (nI ks19576) (nI (TKE bt ktp ks19576)) (nI (TKN bt ktp ks19576)) 0 (nI kc19577) (nI kl) nl nc nF np ntr nb mbestCost nso nsi nit nsh nsf nss nrc mtraced mdealer mnumber mwhose msize misParted) si_X12_236 [1] [0, 2, 3, 4] sm_1 fm_1 nd_1 sm_0_2_3_4 nd_0_2_3_4 dj_1__0_2_3_4 rfl rfl rfl rfl rfl (Nat.le_of_ble_eq_true rfl) rm_32_4_2 ⟨Nat.le_of_ble_eq_true rfl, Nat.le_of_ble_eq_true rfl⟩ gX12_lineAt_15.2.1 (fun u9603 H locs hr9602 hP hD hS => ?_)
            refine Kpdr (ws := [(nl, iA G 54 (upd (upd (upd (upd (upd (upd fnl (6 * kl) 1) (6 * kl + 1) (nI (NVL bt ktp (NXT bt ktp ks)))) (6 * kl + 2) (-9)) (6 * kl + 3) (-9)) (6 * kl + 4) (nI kc)) (6 * kl + 5) (nI kc19577))), (nt, iA G 240 fnt), (nc, iA G 100 gnc9578), (nF, sA G 5 (FCT K)), (h0, oX12 nw nk mhasKept nt (nI ktp) nr mrowMany mroundOf mroundFrom mouts nm mfromHour mtoHour ns (nI ks19576) (nI (TKE bt ktp ks19576)) (nI (TKN bt ktp ks19576)) 1 0 (nI kc19577) (nI kl) nl nc nF np ntr nb mbestCost nso nsi nit nsh nsf nss nrc mtraced mdealer mnumber mwhose msize misParted)]) hP hD (fun hP hD => ?_)
            refine toQ hQ0 ?_
            exact RV hC hP hD hS [4, 1, 2, 0, 3] (1, ks19576, kc19577, gnc9578, upd (upd (upd (upd (upd (upd fnl (6 * kl) 1) (6 * kl + 1) (nI (NVL bt ktp (NXT bt ktp ks)))) (6 * kl + 2) (-9)) (6 * kl + 3) (-9)) (6 * kl + 4) (nI kc)) (6 * kl + 5) (nI kc19577), LN0, [], []) rfl rfl (by decide) (Or.inr ⟨rfl, Or.inr ⟨1, SRT.y (k := 1) (by decide) hq9552, Or.inr ⟨(NXT bt ktp (NXT bt ktp ks)), (nI (NVL bt ktp (NXT bt ktp ks))), (-9), (-9), HDQ.a1 (so := 1) (M := 99) rfl (by decide) hq9564, Or.inr ⟨⟨by decide, hq9568⟩, Or.inl ⟨_, hq9598, rfl⟩⟩⟩⟩, by (try dsimp only); omega⟩) gX12_lineAt_15.2.2
        · have hq9604 := a9567
          refine lv_if_eq (tgt := 256) hx hb gX12_lineAt_13.2.2.2.2.1 (by decide) (fun _ => ?_) (fun c9 => absurd (by decide) c9)
          refine lv_aload_n hx hb gX12_lineAt_13.2.2.2.2.2.2.2.2.2 rfl (lv_at1 hl) ?_
          refine gf_X12_32 hC rfl hK hP 3 rfl rfl gX12_lineAt_14.1 ?_
          refine lv_iload_n hx hb gX12_lineAt_14.2.1 rfl (lv_at2 hl) ?_
          refine lv_iconst (v := 5) hx hb gX12_lineAt_14.2.2.1 (by decide) ?_
          refine lv_iadd hx hb gX12_lineAt_14.2.2.2.1 ?_
          refine eqi (x1 := nI (6 * kl + 5)) (nI_add (6 * kl) 5) ?_
          refine lv_aload_n hx hb gX12_lineAt_14.2.2.2.2.1 rfl (lv_at1 hl) ?_
          refine gf_X12_240 hC rfl hK hP 3 rfl rfl gX12_lineAt_14.2.2.2.2.2.1 ?_
          refine astN hC hK hP hD hS 1 (ws' := [(nc, iA G 100 fnc), (nl, iA G 54 (upd (upd (upd (upd (upd (upd fnl (6 * kl) 1) (6 * kl + 1) (nI (NVL bt ktp (NXT bt ktp ks)))) (6 * kl + 2) (-9)) (6 * kl + 3) (-9)) (6 * kl + 4) (nI kc)) (6 * kl + 5) (nI kc))), (nF, sA G 5 (FCT K)), (h0, oX12 nw nk mhasKept nt (nI ktp) nr mrowMany mroundOf mroundFrom mouts nm mfromHour mtoHour ns (nI (NXT bt ktp (NXT bt ktp ks))) (nI (TKE bt ktp (NXT bt ktp (NXT bt ktp ks)))) (nI (TKN bt ktp (NXT bt ktp (NXT bt ktp ks)))) 0 0 (nI kc) (nI kl) nl nc nF np ntr nb mbestCost nso nsi nit nsh nsf nss nrc mtraced mdealer mnumber mwhose msize misParted), (nt, iA G 240 fnt)]) rfl (k := (6 * kl + 5)) (by omega) (Nat.le_of_ble_eq_true rfl) (rfl) gX12_lineAt_14.2.2.2.2.2.2.1 (fun H locs hP hD hS => ?_)
          refine lv_aload_n hx hb gX12_lineAt_14.2.2.2.2.2.2.2.1 rfl (lv_at1 hl) ?_
          refine lv_aload_n hx hb gX12_lineAt_14.2.2.2.2.2.2.2.2.1 rfl (lv_at1 hl) ?_
          refine lv_bipush (v := 59) hx hb gX12_lineAt_14.2.2.2.2.2.2.2.2.2 (by decide) ?_
          refine pV hC hK hl hP hD (m_isSignX l G h0 59 nw nk mhasKept nt ktp nr mrowMany mroundOf mroundFrom mouts nm mfromHour mtoHour ns (NXT bt ktp (NXT bt ktp ks)) 0 (nI kc) (nI kl) nl nc nF np ntr nb mbestCost nso nsi nit nsh nsf nss nrc mtraced mdealer mnumber mwhose msize misParted fnt bt (htp) (by omega) (hFB)) si_X12_262 [3, 4] sm_3_4 fm_3_4 nd_3_4 rfl rfl rfl rfl rfl (Nat.le_of_ble_eq_true rfl) rm_32_1_2 ⟨by first | exact Nat.le_of_ble_eq_true rfl | exact Nat.zero_le _, by first | exact Nat.le_of_ble_eq_true rfl | exact Nat.zero_le _⟩ gX12_lineAt_15.1 (Kors (Keqa fun a9606 => ?_) (Keqa fun a9606 => ?_))
          · have hq9607 := a9606
            have xl9608 := SGN.len hq9607 (by omega)
            refine vV (wr := [(nc, iA G 100 fnc), (nl, iA G 54 (upd (upd (upd (upd (upd (upd fnl (6 * kl) 1) (6 * kl + 1) (nI (NVL bt ktp (NXT bt ktp ks)))) (6 * kl + 2) (-9)) (6 * kl + 3) (-9)) (6 * kl + 4) (nI kc)) (6 * kl + 5) (nI kc))), (nF, sA G 5 (FCT K))]) hC hK hl hP hD hS hA (m_need1X l G h0 nw nk mhasKept nt ktp nr mrowMany mroundOf mroundFrom mouts nm mfromHour mtoHour ns (NXT bt ktp (NXT bt ktp ks)) 0 (nI kc) (nI kl) nl nc nF np ntr nb mbestCost nso nsi nit nsh nsf nss nrc mtraced mdealer mnumber mwhose msize misParted fnt bt (htp) (by omega) (hFB)) si_X12_236 [3, 4] [0, 1, 2] sm_3_4 fm_3_4 nd_3_4 sm_0_1_2 nd_0_1_2 dj_3_4__0_1_2 rfl rfl rfl rfl rfl (Nat.le_of_ble_eq_true rfl) rm_32_4_2 ⟨Nat.le_of_ble_eq_true rfl, Nat.le_of_ble_eq_true rfl⟩ gX12_lineAt_15.2.1 (fun u9610 H locs hr9609 hP hD hS => ?_)
            refine Kpdr (ws := [(nc, iA G 100 fnc), (nl, iA G 54 (upd (upd (upd (upd (upd (upd fnl (6 * kl) 1) (6 * kl + 1) (nI (NVL bt ktp (NXT bt ktp ks)))) (6 * kl + 2) (-9)) (6 * kl + 3) (-9)) (6 * kl + 4) (nI kc)) (6 * kl + 5) (nI kc))), (nF, sA G 5 (FCT K)), (h0, oX12 nw nk mhasKept nt (nI ktp) nr mrowMany mroundOf mroundFrom mouts nm mfromHour mtoHour ns (nI (NXT bt ktp (NXT bt ktp (NXT bt ktp ks)))) (nI (TKE bt ktp (NXT bt ktp (NXT bt ktp (NXT bt ktp ks))))) (nI (TKN bt ktp (NXT bt ktp (NXT bt ktp (NXT bt ktp ks))))) 0 0 (nI kc) (nI kl) nl nc nF np ntr nb mbestCost nso nsi nit nsh nsf nss nrc mtraced mdealer mnumber mwhose msize misParted), (nt, iA G 240 fnt)]) hP hD (fun hP hD => ?_)
            have xn9611 := NXT.ge (bt := bt) (n := ktp) (s := (NXT bt ktp (NXT bt ktp ks))) (by omega)
            refine toQ hQ0 ?_
            exact RV hC hP hD hS [3, 4, 0, 1, 2] (0, (NXT bt ktp (NXT bt ktp (NXT bt ktp ks))), kc, fnc, upd (upd (upd (upd (upd (upd fnl (6 * kl) 1) (6 * kl + 1) (nI (NVL bt ktp (NXT bt ktp ks)))) (6 * kl + 2) (-9)) (6 * kl + 3) (-9)) (6 * kl + 4) (nI kc)) (6 * kl + 5) (nI kc), (1, (nI (NVL bt ktp (NXT bt ktp ks))), (-9), (-9), 0, cs.length, cs.length, rs.length, rs.length), cs, rs) rfl rfl (by decide) (Or.inl ⟨rfl, Or.inr ⟨1, SRT.y (k := 1) (by decide) hq9552, Or.inr ⟨(NXT bt ktp (NXT bt ktp ks)), (nI (NVL bt ktp (NXT bt ktp ks))), (-9), (-9), HDQ.a1 (so := 1) (M := 99) rfl (by decide) hq9564, Or.inl ⟨(fun h9 => hq9604 h9.2), Or.inr ⟨hq9607, rfl⟩⟩⟩⟩, hST, (by rw [hs1]; exact ⟨fun j hj => (upd_ne (by omega)).trans ((upd_ne (by omega)).trans ((upd_ne (by omega)).trans ((upd_ne (by omega)).trans ((upd_ne (by omega)).trans ((upd_ne (by omega)).trans (rfl)))))), (upd_ne (by omega)).trans ((upd_ne (by omega)).trans ((upd_ne (by omega)).trans ((upd_ne (by omega)).trans ((upd_ne (by omega)).trans (upd_eq (by omega)))))), (upd_ne (by omega)).trans ((upd_ne (by omega)).trans ((upd_ne (by omega)).trans ((upd_ne (by omega)).trans (upd_eq (by omega))))), (upd_ne (by omega)).trans ((upd_ne (by omega)).trans ((upd_ne (by omega)).trans (upd_eq (by omega)))), (upd_ne (by omega)).trans ((upd_ne (by omega)).trans (upd_eq (by omega))), (upd_ne (by omega)).trans (upd_eq (by omega)), upd_eq (by omega), fun _ => rfl, fun h9 => absurd (show (0 : Nat) = 1 from h9) (by decide), Nat.zero_le _, (by (try dsimp only); omega)⟩), by (try dsimp only); omega, by (try dsimp only); omega⟩) gX12_lineAt_15.2.2
          · have hq9612 := a9606
            refine vV (wr := [(nc, iA G 100 fnc), (nl, iA G 54 (upd (upd (upd (upd (upd (upd fnl (6 * kl) 1) (6 * kl + 1) (nI (NVL bt ktp (NXT bt ktp ks)))) (6 * kl + 2) (-9)) (6 * kl + 3) (-9)) (6 * kl + 4) (nI kc)) (6 * kl + 5) (nI kc))), (nF, sA G 5 (FCT K)), (nt, iA G 240 fnt)]) hC hK hl hP hD hS hA (m_need0 l G h0 nw nk mhasKept nt (nI ktp) nr mrowMany mroundOf mroundFrom mouts nm mfromHour mtoHour ns (nI (NXT bt ktp (NXT bt ktp ks))) (nI (TKE bt ktp (NXT bt ktp (NXT bt ktp ks)))) (nI (TKN bt ktp (NXT bt ktp (NXT bt ktp ks)))) 0 (nI kc) (nI kl) nl nc nF np ntr nb mbestCost nso nsi nit nsh nsf nss nrc mtraced mdealer mnumber mwhose msize misParted) si_X12_236 [3] [0, 1, 2, 4] sm_3 fm_3 nd_3 sm_0_1_2_4 nd_0_1_2_4 dj_3__0_1_2_4 rfl rfl rfl rfl rfl (Nat.le_of_ble_eq_true rfl) rm_32_4_2 ⟨Nat.le_of_ble_eq_true rfl, Nat.le_of_ble_eq_true rfl⟩ gX12_lineAt_15.2.1 (fun u9614 H locs hr9613 hP hD hS => ?_)
            refine Kpdr (ws := [(nc, iA G 100 fnc), (nl, iA G 54 (upd (upd (upd (upd (upd (upd fnl (6 * kl) 1) (6 * kl + 1) (nI (NVL bt ktp (NXT bt ktp ks)))) (6 * kl + 2) (-9)) (6 * kl + 3) (-9)) (6 * kl + 4) (nI kc)) (6 * kl + 5) (nI kc))), (nF, sA G 5 (FCT K)), (nt, iA G 240 fnt), (h0, oX12 nw nk mhasKept nt (nI ktp) nr mrowMany mroundOf mroundFrom mouts nm mfromHour mtoHour ns (nI (NXT bt ktp (NXT bt ktp ks))) (nI (TKE bt ktp (NXT bt ktp (NXT bt ktp ks)))) (nI (TKN bt ktp (NXT bt ktp (NXT bt ktp ks)))) 1 0 (nI kc) (nI kl) nl nc nF np ntr nb mbestCost nso nsi nit nsh nsf nss nrc mtraced mdealer mnumber mwhose msize misParted)]) hP hD (fun hP hD => ?_)
            refine toQ hQ0 ?_
            exact RV hC hP hD hS [4, 3, 0, 1, 2] (1, (NXT bt ktp (NXT bt ktp ks)), kc, fnc, upd (upd (upd (upd (upd (upd fnl (6 * kl) 1) (6 * kl + 1) (nI (NVL bt ktp (NXT bt ktp ks)))) (6 * kl + 2) (-9)) (6 * kl + 3) (-9)) (6 * kl + 4) (nI kc)) (6 * kl + 5) (nI kc), LN0, [], []) rfl rfl (by decide) (Or.inr ⟨rfl, Or.inr ⟨1, SRT.y (k := 1) (by decide) hq9552, Or.inr ⟨(NXT bt ktp (NXT bt ktp ks)), (nI (NVL bt ktp (NXT bt ktp ks))), (-9), (-9), HDQ.a1 (so := 1) (M := 99) rfl (by decide) hq9564, Or.inl ⟨(fun h9 => hq9604 h9.2), Or.inl ⟨hq9612, rfl⟩⟩⟩⟩, by (try dsimp only); omega⟩) gX12_lineAt_15.2.2
      · obtain ⟨rfl, rfl, hq9615⟩ := v9563
        refine astN hC hK hP hD hS 1 (ws' := [(nc, iA G 100 fnc), (nl, iA G 54 (upd (upd fnl (6 * kl) 1) (6 * kl + 1) r9557)), (nF, sA G 5 (FCT K)), (h0, oX12 nw nk mhasKept nt (nI ktp) nr mrowMany mroundOf mroundFrom mouts nm mfromHour mtoHour ns (nI (NXT bt ktp ks)) (nI (TKE bt ktp (NXT bt ktp ks))) (nI (TKN bt ktp (NXT bt ktp ks))) 1 0 (nI kc) (nI kl) nl nc nF np ntr nb mbestCost nso nsi nit nsh nsf nss nrc mtraced mdealer mnumber mwhose msize misParted), (nt, iA G 240 fnt)]) rfl (k := (6 * kl + 1)) (by omega) (Nat.le_of_ble_eq_true rfl) (rfl) gX12_lineAt_5.2.2.2.2.2.2.2.2.1 (fun H locs hP hD hS => ?_)
        refine lv_aload_n hx hb gX12_lineAt_5.2.2.2.2.2.2.2.2.2 rfl (lv_at1 hl) ?_
        refine gf_X12_32 hC rfl hK hP 3 rfl rfl gX12_lineAt_6.1 ?_
        refine lv_iload_n hx hb gX12_lineAt_6.2.1 rfl (lv_at2 hl) ?_
        refine lv_iconst (v := 2) hx hb gX12_lineAt_6.2.2.1 (by decide) ?_
        refine lv_iadd hx hb gX12_lineAt_6.2.2.2.1 ?_
        refine eqi (x1 := nI (6 * kl + 2)) (nI_add (6 * kl) 2) ?_
        refine lv_bipush (v := (-9)) hx hb gX12_lineAt_6.2.2.2.2.1 (by decide) ?_
        refine astN hC hK hP hD hS 1 (ws' := [(nc, iA G 100 fnc), (nl, iA G 54 (upd (upd (upd fnl (6 * kl) 1) (6 * kl + 1) r9557) (6 * kl + 2) (-9))), (nF, sA G 5 (FCT K)), (h0, oX12 nw nk mhasKept nt (nI ktp) nr mrowMany mroundOf mroundFrom mouts nm mfromHour mtoHour ns (nI (NXT bt ktp ks)) (nI (TKE bt ktp (NXT bt ktp ks))) (nI (TKN bt ktp (NXT bt ktp ks))) 1 0 (nI kc) (nI kl) nl nc nF np ntr nb mbestCost nso nsi nit nsh nsf nss nrc mtraced mdealer mnumber mwhose msize misParted), (nt, iA G 240 fnt)]) rfl (k := (6 * kl + 2)) (by omega) (Nat.le_of_ble_eq_true rfl) (rfl) gX12_lineAt_6.2.2.2.2.2.1 (fun H locs hP hD hS => ?_)
        refine lv_aload_n hx hb gX12_lineAt_6.2.2.2.2.2.2.1 rfl (lv_at1 hl) ?_
        refine gf_X12_32 hC rfl hK hP 3 rfl rfl gX12_lineAt_6.2.2.2.2.2.2.2.1 ?_
        refine lv_iload_n hx hb gX12_lineAt_6.2.2.2.2.2.2.2.2.1 rfl (lv_at2 hl) ?_
        refine lv_iconst (v := 3) hx hb gX12_lineAt_6.2.2.2.2.2.2.2.2.2 (by decide) ?_
        refine lv_iadd hx hb gX12_lineAt_7.1 ?_
        refine eqi (x1 := nI (6 * kl + 3)) (nI_add (6 * kl) 3) ?_
        refine lv_bipush (v := (-9)) hx hb gX12_lineAt_7.2.1 (by decide) ?_
        refine astN hC hK hP hD hS 1 (ws' := [(nc, iA G 100 fnc), (nl, iA G 54 (upd (upd (upd (upd fnl (6 * kl) 1) (6 * kl + 1) r9557) (6 * kl + 2) (-9)) (6 * kl + 3) (-9))), (nF, sA G 5 (FCT K)), (h0, oX12 nw nk mhasKept nt (nI ktp) nr mrowMany mroundOf mroundFrom mouts nm mfromHour mtoHour ns (nI (NXT bt ktp ks)) (nI (TKE bt ktp (NXT bt ktp ks))) (nI (TKN bt ktp (NXT bt ktp ks))) 1 0 (nI kc) (nI kl) nl nc nF np ntr nb mbestCost nso nsi nit nsh nsf nss nrc mtraced mdealer mnumber mwhose msize misParted), (nt, iA G 240 fnt)]) rfl (k := (6 * kl + 3)) (by omega) (Nat.le_of_ble_eq_true rfl) (rfl) gX12_lineAt_7.2.2.1 (fun H locs hP hD hS => ?_)
        refine lv_iload_n hx hb gX12_lineAt_7.2.2.2.1 rfl (lv_at0 hl) ?_
        refine lv_if_ne (tgt := 190) hx hb gX12_lineAt_7.2.2.2.2.1 (by decide) (fun _ => ?_) (fun c9 => absurd c9 (by decide))
        refine lv_iload_n hx hb gX12_lineAt_10.2.2.2.1 rfl (lv_at0 hl) ?_
        refine lv_iconst (v := 2) hx hb gX12_lineAt_10.2.2.2.2.1 (by decide) ?_
        refine lv_icmp_ne (tgt := 221) hx hb gX12_lineAt_10.2.2.2.2.2.1 (by decide) (fun _ => ?_) (fun c9 => absurd c9 (by decide))
        refine lv_aload_n hx hb gX12_lineAt_12.1 rfl (lv_at1 hl) ?_
        refine gf_X12_32 hC rfl hK hP 3 rfl rfl gX12_lineAt_12.2.1 ?_
        refine lv_iload_n hx hb gX12_lineAt_12.2.2.1 rfl (lv_at2 hl) ?_
        refine lv_iconst (v := 4) hx hb gX12_lineAt_12.2.2.2.1 (by decide) ?_
        refine lv_iadd hx hb gX12_lineAt_12.2.2.2.2.1 ?_
        refine eqi (x1 := nI (6 * kl + 4)) (nI_add (6 * kl) 4) ?_
        refine lv_aload_n hx hb gX12_lineAt_12.2.2.2.2.2.1 rfl (lv_at1 hl) ?_
        refine gf_X12_240 hC rfl hK hP 3 rfl rfl gX12_lineAt_12.2.2.2.2.2.2.1 ?_
        refine astN hC hK hP hD hS 1 (ws' := [(nc, iA G 100 fnc), (nl, iA G 54 (upd (upd (upd (upd (upd fnl (6 * kl) 1) (6 * kl + 1) r9557) (6 * kl + 2) (-9)) (6 * kl + 3) (-9)) (6 * kl + 4) (nI kc))), (nF, sA G 5 (FCT K)), (h0, oX12 nw nk mhasKept nt (nI ktp) nr mrowMany mroundOf mroundFrom mouts nm mfromHour mtoHour ns (nI (NXT bt ktp ks)) (nI (TKE bt ktp (NXT bt ktp ks))) (nI (TKN bt ktp (NXT bt ktp ks))) 1 0 (nI kc) (nI kl) nl nc nF np ntr nb mbestCost nso nsi nit nsh nsf nss nrc mtraced mdealer mnumber mwhose msize misParted), (nt, iA G 240 fnt)]) rfl (k := (6 * kl + 4)) (by omega) (Nat.le_of_ble_eq_true rfl) (rfl) gX12_lineAt_12.2.2.2.2.2.2.2.1 (fun H locs hP hD hS => ?_)
        refine lv_iload_n hx hb gX12_lineAt_12.2.2.2.2.2.2.2.2.1 rfl (lv_at0 hl) ?_
        refine lv_iconst (v := 3) hx hb gX12_lineAt_12.2.2.2.2.2.2.2.2.2 (by decide) ?_
        refine lv_icmp_eq (tgt := 256) hx hb gX12_lineAt_13.1 (by decide) (fun c9 => absurd c9 (by decide)) (fun _ => ?_)
        refine lv_aload_n hx hb gX12_lineAt_13.2.1 rfl (lv_at1 hl) ?_
        refine va_ldcSw (index := 287) (tx := "if") hx hb hown (hO.2.2 0 (by decide)) gX12_lineAt_13.2.2.1 ?_
        refine pVo hO hS hC hK hl hP hD (m_isNameF l G K 0 h0 nw nk mhasKept nt (nI ktp) nr mrowMany mroundOf mroundFrom mouts nm mfromHour mtoHour ns (nI (NXT bt ktp ks)) (nI (TKE bt ktp (NXT bt ktp ks))) (nI (TKN bt ktp (NXT bt ktp ks))) 0 (nI kc) (nI kl) nl nc nF np ntr nb mbestCost nso nsi nit nsh nsf nss nrc mtraced mdealer mnumber mwhose msize misParted ((by decide))) si_X12_248 [3] sm_3 fm_3 nd_3 rfl rfl rfl rfl rfl (Nat.le_of_ble_eq_true rfl) rm_32_5_4 ⟨by first | exact Nat.le_of_ble_eq_true rfl | exact Nat.zero_le _, by first | exact Nat.le_of_ble_eq_true rfl | exact Nat.zero_le _⟩ gX12_lineAt_13.2.2.2.1 (Keqr ?_)
        refine lv_if_eq (tgt := 256) hx hb gX12_lineAt_13.2.2.2.2.1 (by decide) (fun _ => ?_) (fun c9 => absurd (by decide) c9)
        refine lv_aload_n hx hb gX12_lineAt_13.2.2.2.2.2.2.2.2.2 rfl (lv_at1 hl) ?_
        refine gf_X12_32 hC rfl hK hP 3 rfl rfl gX12_lineAt_14.1 ?_
        refine lv_iload_n hx hb gX12_lineAt_14.2.1 rfl (lv_at2 hl) ?_
        refine lv_iconst (v := 5) hx hb gX12_lineAt_14.2.2.1 (by decide) ?_
        refine lv_iadd hx hb gX12_lineAt_14.2.2.2.1 ?_
        refine eqi (x1 := nI (6 * kl + 5)) (nI_add (6 * kl) 5) ?_
        refine lv_aload_n hx hb gX12_lineAt_14.2.2.2.2.1 rfl (lv_at1 hl) ?_
        refine gf_X12_240 hC rfl hK hP 3 rfl rfl gX12_lineAt_14.2.2.2.2.2.1 ?_
        refine astN hC hK hP hD hS 1 (ws' := [(nc, iA G 100 fnc), (nl, iA G 54 (upd (upd (upd (upd (upd (upd fnl (6 * kl) 1) (6 * kl + 1) r9557) (6 * kl + 2) (-9)) (6 * kl + 3) (-9)) (6 * kl + 4) (nI kc)) (6 * kl + 5) (nI kc))), (nF, sA G 5 (FCT K)), (h0, oX12 nw nk mhasKept nt (nI ktp) nr mrowMany mroundOf mroundFrom mouts nm mfromHour mtoHour ns (nI (NXT bt ktp ks)) (nI (TKE bt ktp (NXT bt ktp ks))) (nI (TKN bt ktp (NXT bt ktp ks))) 1 0 (nI kc) (nI kl) nl nc nF np ntr nb mbestCost nso nsi nit nsh nsf nss nrc mtraced mdealer mnumber mwhose msize misParted), (nt, iA G 240 fnt)]) rfl (k := (6 * kl + 5)) (by omega) (Nat.le_of_ble_eq_true rfl) (rfl) gX12_lineAt_14.2.2.2.2.2.2.1 (fun H locs hP hD hS => ?_)
        refine lv_aload_n hx hb gX12_lineAt_14.2.2.2.2.2.2.2.1 rfl (lv_at1 hl) ?_
        refine lv_aload_n hx hb gX12_lineAt_14.2.2.2.2.2.2.2.2.1 rfl (lv_at1 hl) ?_
        refine lv_bipush (v := 59) hx hb gX12_lineAt_14.2.2.2.2.2.2.2.2.2 (by decide) ?_
        refine pV hC hK hl hP hD (m_isSignF l G h0 59 nw nk mhasKept nt (nI ktp) nr mrowMany mroundOf mroundFrom mouts nm mfromHour mtoHour ns (nI (NXT bt ktp ks)) (nI (TKE bt ktp (NXT bt ktp ks))) (nI (TKN bt ktp (NXT bt ktp ks))) 0 (nI kc) (nI kl) nl nc nF np ntr nb mbestCost nso nsi nit nsh nsf nss nrc mtraced mdealer mnumber mwhose msize misParted) si_X12_262 [3] sm_3 fm_3 nd_3 rfl rfl rfl rfl rfl (Nat.le_of_ble_eq_true rfl) rm_32_1_2 ⟨by first | exact Nat.le_of_ble_eq_true rfl | exact Nat.zero_le _, by first | exact Nat.le_of_ble_eq_true rfl | exact Nat.zero_le _⟩ gX12_lineAt_15.1 (Keqr ?_)
        refine vV (wr := [(nc, iA G 100 fnc), (nl, iA G 54 (upd (upd (upd (upd (upd (upd fnl (6 * kl) 1) (6 * kl + 1) r9557) (6 * kl + 2) (-9)) (6 * kl + 3) (-9)) (6 * kl + 4) (nI kc)) (6 * kl + 5) (nI kc))), (nF, sA G 5 (FCT K)), (nt, iA G 240 fnt)]) hC hK hl hP hD hS hA (m_needF l G h0 0 nw nk mhasKept nt (nI ktp) nr mrowMany mroundOf mroundFrom mouts nm mfromHour mtoHour ns (nI (NXT bt ktp ks)) (nI (TKE bt ktp (NXT bt ktp ks))) (nI (TKN bt ktp (NXT bt ktp ks))) 0 (nI kc) (nI kl) nl nc nF np ntr nb mbestCost nso nsi nit nsh nsf nss nrc mtraced mdealer mnumber mwhose msize misParted) si_X12_236 [3] [0, 1, 2, 4] sm_3 fm_3 nd_3 sm_0_1_2_4 nd_0_1_2_4 dj_3__0_1_2_4 rfl rfl rfl rfl rfl (Nat.le_of_ble_eq_true rfl) rm_32_4_2 ⟨Nat.le_of_ble_eq_true rfl, Nat.le_of_ble_eq_true rfl⟩ gX12_lineAt_15.2.1 (fun u9621 H locs hr9620 hP hD hS => ?_)
        refine Kpdr (ws := [(nc, iA G 100 fnc), (nl, iA G 54 (upd (upd (upd (upd (upd (upd fnl (6 * kl) 1) (6 * kl + 1) r9557) (6 * kl + 2) (-9)) (6 * kl + 3) (-9)) (6 * kl + 4) (nI kc)) (6 * kl + 5) (nI kc))), (nF, sA G 5 (FCT K)), (nt, iA G 240 fnt), (h0, oX12 nw nk mhasKept nt (nI ktp) nr mrowMany mroundOf mroundFrom mouts nm mfromHour mtoHour ns (nI (NXT bt ktp ks)) (nI (TKE bt ktp (NXT bt ktp ks))) (nI (TKN bt ktp (NXT bt ktp ks))) 1 0 (nI kc) (nI kl) nl nc nF np ntr nb mbestCost nso nsi nit nsh nsf nss nrc mtraced mdealer mnumber mwhose msize misParted)]) hP hD (fun hP hD => ?_)
        refine toQ hQ0 ?_
        exact RV hC hP hD hS [4, 3, 0, 1, 2] (1, (NXT bt ktp ks), kc, fnc, upd (upd (upd (upd (upd (upd fnl (6 * kl) 1) (6 * kl + 1) r9557) (6 * kl + 2) (-9)) (6 * kl + 3) (-9)) (6 * kl + 4) (nI kc)) (6 * kl + 5) (nI kc), LN0, [], []) rfl rfl (by decide) (Or.inr ⟨rfl, Or.inr ⟨1, SRT.y (k := 1) (by decide) hq9552, Or.inl ⟨_, HDQ.a0 (so := 1) (M := 99) rfl hq9615, rfl⟩⟩, by (try dsimp only); omega⟩) gX12_lineAt_15.2.2
    · have hq9622 := a9551
      refine lv_if_eq (tgt := 28) hx hb gX12_lineAt_0.2.2.2.2.2.2.2.2.2 (by decide) (fun _ => ?_) (fun c9 => absurd (by decide) c9)
      refine lv_aload_n hx hb gX12_lineAt_1.2.2.1 rfl (lv_at0 hl) ?_
      refine va_ldcSw (index := 278) (tx := "ask") hx hb hown (hO.2.2 3 (by decide)) gX12_lineAt_1.2.2.2.1 ?_
      refine pVo hO hS hC hK hl hP hD (m_isNameX l G K 3 h0 nw nk mhasKept nt ktp nr mrowMany mroundOf mroundFrom mouts nm mfromHour mtoHour ns ks 0 (nI kc) (nI kl) nl nc nF np ntr nb mbestCost nso nsi nit nsh nsf nss nrc mtraced mdealer mnumber mwhose msize misParted fnt bt (htp) (hks) (hFB) ((by decide))) si_X12_248 [0, 1] sm_0_1 fm_0_1 nd_0_1 rfl rfl rfl rfl rfl (Nat.le_of_ble_eq_true rfl) rm_32_5_4 ⟨by first | exact Nat.le_of_ble_eq_true rfl | exact Nat.zero_le _, by first | exact Nat.le_of_ble_eq_true rfl | exact Nat.zero_le _⟩ gX12_lineAt_1.2.2.2.2.1 (Kors (Keqa fun a9624 => ?_) (Keqa fun a9624 => ?_))
      · have hq9625 := a9624
        have xl9626 : ks + 3 ≤ NXT bt ktp ks ∧ NXT bt ktp ks ≤ ktp := WRD.len hq9625 (by omega)
        refine lv_if_eq (tgt := 42) hx hb gX12_lineAt_1.2.2.2.2.2.1 (by decide) (fun c9 => absurd c9 (by decide)) (fun _ => ?_)
        refine lv_iconst (v := 2) hx hb gX12_lineAt_1.2.2.2.2.2.2.1 (by decide) ?_
        refine lv_goto (tgt := 57) hx hb gX12_lineAt_1.2.2.2.2.2.2.2.1 (by decide) ?_
        refine lv_istore_n (lv' := [(2, .int 2), (0, .ref h0), (1, .int (nI (6 * kl)))]) hx hb gX12_lineAt_2.2.2.2.2.2.1 rfl hl (by decide) rfl (fun ls hl => ?_)
        refine lv_aload_n hx hb gX12_lineAt_2.2.2.2.2.2.2.1 rfl (lv_at1 hl) ?_
        refine lv_iload_n hx hb gX12_lineAt_2.2.2.2.2.2.2.2.1 rfl (lv_at0 hl) ?_
        refine lv_if_lt (tgt := 67) hx hb gX12_lineAt_2.2.2.2.2.2.2.2.2.1 (by decide) (fun c9 => absurd c9 (by decide)) (fun _ => ?_)
        refine lv_iconst (v := 1) hx hb gX12_lineAt_2.2.2.2.2.2.2.2.2.2 (by decide) ?_
        refine lv_goto (tgt := 68) hx hb gX12_lineAt_3.1 (by decide) ?_
        refine vV (wr := [(nc, iA G 100 fnc), (nl, iA G 54 fnl), (nF, sA G 5 (FCT K))]) hC hK hl hP hD hS hA (m_need1X l G h0 nw nk mhasKept nt ktp nr mrowMany mroundOf mroundFrom mouts nm mfromHour mtoHour ns ks 0 (nI kc) (nI kl) nl nc nF np ntr nb mbestCost nso nsi nit nsh nsf nss nrc mtraced mdealer mnumber mwhose msize misParted fnt bt (htp) (hks) (hFB)) si_X12_236 [0, 1] [2, 3, 4] sm_0_1 fm_0_1 nd_0_1 sm_2_3_4 nd_2_3_4 dj_0_1__2_3_4 rfl rfl rfl rfl rfl (Nat.le_of_ble_eq_true rfl) rm_32_4_2 ⟨Nat.le_of_ble_eq_true rfl, Nat.le_of_ble_eq_true rfl⟩ gX12_lineAt_3.2.2.1 (fun u9628 H locs hr9627 hP hD hS => ?_)
        refine Kpdr (ws := [(nc, iA G 100 fnc), (nl, iA G 54 fnl), (nF, sA G 5 (FCT K)), (h0, oX12 nw nk mhasKept nt (nI ktp) nr mrowMany mroundOf mroundFrom mouts nm mfromHour mtoHour ns (nI (NXT bt ktp ks)) (nI (TKE bt ktp (NXT bt ktp ks))) (nI (TKN bt ktp (NXT bt ktp ks))) 0 0 (nI kc) (nI kl) nl nc nF np ntr nb mbestCost nso nsi nit nsh nsf nss nrc mtraced mdealer mnumber mwhose msize misParted), (nt, iA G 240 fnt)]) hP hD (fun hP hD => ?_)
        have xn9629 := NXT.ge (bt := bt) (n := ktp) (s := ks) (by omega)
        refine lv_aload_n hx hb gX12_lineAt_3.2.2.2.1 rfl (lv_at1 hl) ?_
        refine gf_X12_32 hC rfl hK hP 3 rfl rfl gX12_lineAt_3.2.2.2.2.1 ?_
        refine lv_iload_n hx hb gX12_lineAt_3.2.2.2.2.2.1 rfl (lv_at2 hl) ?_
        refine lv_iload_n hx hb gX12_lineAt_3.2.2.2.2.2.2.1 rfl (lv_at0 hl) ?_
        refine astN hC hK hP hD hS 1 (ws' := [(nc, iA G 100 fnc), (nl, iA G 54 (upd fnl (6 * kl) 2)), (nF, sA G 5 (FCT K)), (h0, oX12 nw nk mhasKept nt (nI ktp) nr mrowMany mroundOf mroundFrom mouts nm mfromHour mtoHour ns (nI (NXT bt ktp ks)) (nI (TKE bt ktp (NXT bt ktp ks))) (nI (TKN bt ktp (NXT bt ktp ks))) 0 0 (nI kc) (nI kl) nl nc nF np ntr nb mbestCost nso nsi nit nsh nsf nss nrc mtraced mdealer mnumber mwhose msize misParted), (nt, iA G 240 fnt)]) rfl (k := (6 * kl)) (by omega) (Nat.le_of_ble_eq_true rfl) (rfl) gX12_lineAt_3.2.2.2.2.2.2.2.1 (fun H locs hP hD hS => ?_)
        refine lv_aload_n hx hb gX12_lineAt_3.2.2.2.2.2.2.2.2.1 rfl (lv_at1 hl) ?_
        refine gf_X12_32 hC rfl hK hP 3 rfl rfl gX12_lineAt_3.2.2.2.2.2.2.2.2.2 ?_
        refine lv_iload_n hx hb gX12_lineAt_4.1 rfl (lv_at2 hl) ?_
        refine lv_iconst (v := 1) hx hb gX12_lineAt_4.2.1 (by decide) ?_
        refine lv_iadd hx hb gX12_lineAt_4.2.2.1 ?_
        refine eqi (x1 := nI (6 * kl + 1)) (nI_add (6 * kl) 1) ?_
        refine lv_aload_n hx hb gX12_lineAt_4.2.2.2.1 rfl (lv_at1 hl) ?_
        refine lv_iload_n hx hb gX12_lineAt_4.2.2.2.2.1 rfl (lv_at0 hl) ?_
        refine lv_if_eq (tgt := 95) hx hb gX12_lineAt_4.2.2.2.2.2.1 (by decide) (fun c9 => absurd c9 (by decide)) (fun _ => ?_)
        refine lv_iload_n hx hb gX12_lineAt_4.2.2.2.2.2.2.1 rfl (lv_at0 hl) ?_
        refine lv_iconst (v := 1) hx hb gX12_lineAt_4.2.2.2.2.2.2.2.1 (by decide) ?_
        refine lv_icmp_ne (tgt := 100) hx hb gX12_lineAt_4.2.2.2.2.2.2.2.2.1 (by decide) (fun _ => ?_) (fun c9 => absurd c9 (by decide))
        refine lv_iload_n hx hb gX12_lineAt_5.2.1 rfl (lv_at0 hl) ?_
        refine lv_iconst (v := 2) hx hb gX12_lineAt_5.2.2.1 (by decide) ?_
        refine lv_icmp_ne (tgt := 110) hx hb gX12_lineAt_5.2.2.2.1 (by decide) (fun c9 => absurd (by decide) c9) (fun _ => ?_)
        refine lv_bipush (v := 7) hx hb gX12_lineAt_5.2.2.2.2.1 (by decide) ?_
        refine lv_goto (tgt := 112) hx hb gX12_lineAt_5.2.2.2.2.2.1 (by decide) ?_
        refine iV (wr := [(nc, iA G 100 fnc), (nl, iA G 54 (upd fnl (6 * kl) 2)), (nF, sA G 5 (FCT K))]) hC hK hl hP hD hS hA (m_numberX l G h0 7 nw nk mhasKept nt ktp nr mrowMany mroundOf mroundFrom mouts nm mfromHour mtoHour ns (NXT bt ktp ks) 0 (nI kc) (nI kl) nl nc nF np ntr nb mbestCost nso nsi nit nsh nsf nss nrc mtraced mdealer mnumber mwhose msize misParted fnt bt (htp) (by omega) (hFB) (by omega)) si_X12_271 [3, 4] [0, 1, 2] sm_3_4 fm_3_4 nd_3_4 sm_0_1_2 nd_0_1_2 dj_3_4__0_1_2 rfl rfl rfl rfl rfl (Nat.le_of_ble_eq_true rfl) rm_32_5_5 ⟨Nat.le_of_ble_eq_true rfl, Nat.le_of_ble_eq_true rfl⟩ gX12_lineAt_5.2.2.2.2.2.2.2.1 (fun r9630 => Ktu2 fun ff19632 ks19633 => ?_)
        intro H locs hr9630 hP hD hS
        try dsimp only at hr9630
        refine Kpdr (ws := [(nc, iA G 100 fnc), (nl, iA G 54 (upd fnl (6 * kl) 2)), (nF, sA G 5 (FCT K)), (h0, oX12 nw nk mhasKept nt (nI ktp) nr mrowMany mroundOf mroundFrom mouts nm mfromHour mtoHour ns (nI ks19633) (nI (TKE bt ktp ks19633)) (nI (TKN bt ktp ks19633)) ff19632 0 (nI kc) (nI kl) nl nc nF np ntr nb mbestCost nso nsi nit nsh nsf nss nrc mtraced mdealer mnumber mwhose msize misParted), (nt, iA G 240 fnt)]) hP hD (fun hP hD => ?_)
        obtain ⟨hr9630, w9634⟩ := hr9630
        rcases w9634 with v9635 | v9636
        · obtain ⟨rfl, rfl, rfl, hq9637⟩ := v9635
          have xl9638 := NML.len hq9637 (by omega)
          refine astN hC hK hP hD hS 1 (ws' := [(nc, iA G 100 fnc), (nl, iA G 54 (upd (upd fnl (6 * kl) 2) (6 * kl + 1) (nI (NVL bt ktp (NXT bt ktp ks))))), (nF, sA G 5 (FCT K)), (h0, oX12 nw nk mhasKept nt (nI ktp) nr mrowMany mroundOf mroundFrom mouts nm mfromHour mtoHour ns (nI (NXT bt ktp (NXT bt ktp ks))) (nI (TKE bt ktp (NXT bt ktp (NXT bt ktp ks)))) (nI (TKN bt ktp (NXT bt ktp (NXT bt ktp ks)))) 0 0 (nI kc) (nI kl) nl nc nF np ntr nb mbestCost nso nsi nit nsh nsf nss nrc mtraced mdealer mnumber mwhose msize misParted), (nt, iA G 240 fnt)]) rfl (k := (6 * kl + 1)) (by omega) (Nat.le_of_ble_eq_true rfl) (rfl) gX12_lineAt_5.2.2.2.2.2.2.2.2.1 (fun H locs hP hD hS => ?_)
          refine lv_aload_n hx hb gX12_lineAt_5.2.2.2.2.2.2.2.2.2 rfl (lv_at1 hl) ?_
          refine gf_X12_32 hC rfl hK hP 3 rfl rfl gX12_lineAt_6.1 ?_
          refine lv_iload_n hx hb gX12_lineAt_6.2.1 rfl (lv_at2 hl) ?_
          refine lv_iconst (v := 2) hx hb gX12_lineAt_6.2.2.1 (by decide) ?_
          refine lv_iadd hx hb gX12_lineAt_6.2.2.2.1 ?_
          refine eqi (x1 := nI (6 * kl + 2)) (nI_add (6 * kl) 2) ?_
          refine lv_bipush (v := (-9)) hx hb gX12_lineAt_6.2.2.2.2.1 (by decide) ?_
          refine astN hC hK hP hD hS 1 (ws' := [(nc, iA G 100 fnc), (nl, iA G 54 (upd (upd (upd fnl (6 * kl) 2) (6 * kl + 1) (nI (NVL bt ktp (NXT bt ktp ks)))) (6 * kl + 2) (-9))), (nF, sA G 5 (FCT K)), (h0, oX12 nw nk mhasKept nt (nI ktp) nr mrowMany mroundOf mroundFrom mouts nm mfromHour mtoHour ns (nI (NXT bt ktp (NXT bt ktp ks))) (nI (TKE bt ktp (NXT bt ktp (NXT bt ktp ks)))) (nI (TKN bt ktp (NXT bt ktp (NXT bt ktp ks)))) 0 0 (nI kc) (nI kl) nl nc nF np ntr nb mbestCost nso nsi nit nsh nsf nss nrc mtraced mdealer mnumber mwhose msize misParted), (nt, iA G 240 fnt)]) rfl (k := (6 * kl + 2)) (by omega) (Nat.le_of_ble_eq_true rfl) (rfl) gX12_lineAt_6.2.2.2.2.2.1 (fun H locs hP hD hS => ?_)
          refine lv_aload_n hx hb gX12_lineAt_6.2.2.2.2.2.2.1 rfl (lv_at1 hl) ?_
          refine gf_X12_32 hC rfl hK hP 3 rfl rfl gX12_lineAt_6.2.2.2.2.2.2.2.1 ?_
          refine lv_iload_n hx hb gX12_lineAt_6.2.2.2.2.2.2.2.2.1 rfl (lv_at2 hl) ?_
          refine lv_iconst (v := 3) hx hb gX12_lineAt_6.2.2.2.2.2.2.2.2.2 (by decide) ?_
          refine lv_iadd hx hb gX12_lineAt_7.1 ?_
          refine eqi (x1 := nI (6 * kl + 3)) (nI_add (6 * kl) 3) ?_
          refine lv_bipush (v := (-9)) hx hb gX12_lineAt_7.2.1 (by decide) ?_
          refine astN hC hK hP hD hS 1 (ws' := [(nc, iA G 100 fnc), (nl, iA G 54 (upd (upd (upd (upd fnl (6 * kl) 2) (6 * kl + 1) (nI (NVL bt ktp (NXT bt ktp ks)))) (6 * kl + 2) (-9)) (6 * kl + 3) (-9))), (nF, sA G 5 (FCT K)), (h0, oX12 nw nk mhasKept nt (nI ktp) nr mrowMany mroundOf mroundFrom mouts nm mfromHour mtoHour ns (nI (NXT bt ktp (NXT bt ktp ks))) (nI (TKE bt ktp (NXT bt ktp (NXT bt ktp ks)))) (nI (TKN bt ktp (NXT bt ktp (NXT bt ktp ks)))) 0 0 (nI kc) (nI kl) nl nc nF np ntr nb mbestCost nso nsi nit nsh nsf nss nrc mtraced mdealer mnumber mwhose msize misParted), (nt, iA G 240 fnt)]) rfl (k := (6 * kl + 3)) (by omega) (Nat.le_of_ble_eq_true rfl) (rfl) gX12_lineAt_7.2.2.1 (fun H locs hP hD hS => ?_)
          refine lv_iload_n hx hb gX12_lineAt_7.2.2.2.1 rfl (lv_at0 hl) ?_
          refine lv_if_ne (tgt := 190) hx hb gX12_lineAt_7.2.2.2.2.1 (by decide) (fun _ => ?_) (fun c9 => absurd c9 (by decide))
          refine lv_iload_n hx hb gX12_lineAt_10.2.2.2.1 rfl (lv_at0 hl) ?_
          refine lv_iconst (v := 2) hx hb gX12_lineAt_10.2.2.2.2.1 (by decide) ?_
          refine lv_icmp_ne (tgt := 221) hx hb gX12_lineAt_10.2.2.2.2.2.1 (by decide) (fun c9 => absurd (by decide) c9) (fun _ => ?_)
          refine lv_aload_n hx hb gX12_lineAt_10.2.2.2.2.2.2.1 rfl (lv_at1 hl) ?_
          refine lv_aload_n hx hb gX12_lineAt_10.2.2.2.2.2.2.2.1 rfl (lv_at1 hl) ?_
          refine va_ldcSw (index := 285) (tx := "by") hx hb hown (hO.2.2 7 (by decide)) gX12_lineAt_10.2.2.2.2.2.2.2.2.1 ?_
          refine pVo hO hS hC hK hl hP hD (m_isNameX l G K 7 h0 nw nk mhasKept nt ktp nr mrowMany mroundOf mroundFrom mouts nm mfromHour mtoHour ns (NXT bt ktp (NXT bt ktp ks)) 0 (nI kc) (nI kl) nl nc nF np ntr nb mbestCost nso nsi nit nsh nsf nss nrc mtraced mdealer mnumber mwhose msize misParted fnt bt (htp) (by omega) (hFB) ((by decide))) si_X12_248 [3, 4] sm_3_4 fm_3_4 nd_3_4 rfl rfl rfl rfl rfl (Nat.le_of_ble_eq_true rfl) rm_32_5_4 ⟨by first | exact Nat.le_of_ble_eq_true rfl | exact Nat.zero_le _, by first | exact Nat.le_of_ble_eq_true rfl | exact Nat.zero_le _⟩ gX12_lineAt_10.2.2.2.2.2.2.2.2.2 (Kors (Keqa fun a9640 => ?_) (Keqa fun a9640 => ?_))
          · have hq9641 := a9640
            have xl9642 : (NXT bt ktp (NXT bt ktp ks)) + 2 ≤ NXT bt ktp (NXT bt ktp (NXT bt ktp ks)) ∧ NXT bt ktp (NXT bt ktp (NXT bt ktp ks)) ≤ ktp := WRD.len hq9641 (by omega)
            refine vV (wr := [(nc, iA G 100 fnc), (nl, iA G 54 (upd (upd (upd (upd fnl (6 * kl) 2) (6 * kl + 1) (nI (NVL bt ktp (NXT bt ktp ks)))) (6 * kl + 2) (-9)) (6 * kl + 3) (-9))), (nF, sA G 5 (FCT K))]) hC hK hl hP hD hS hA (m_need1X l G h0 nw nk mhasKept nt ktp nr mrowMany mroundOf mroundFrom mouts nm mfromHour mtoHour ns (NXT bt ktp (NXT bt ktp ks)) 0 (nI kc) (nI kl) nl nc nF np ntr nb mbestCost nso nsi nit nsh nsf nss nrc mtraced mdealer mnumber mwhose msize misParted fnt bt (htp) (by omega) (hFB)) si_X12_236 [3, 4] [0, 1, 2] sm_3_4 fm_3_4 nd_3_4 sm_0_1_2 nd_0_1_2 dj_3_4__0_1_2 rfl rfl rfl rfl rfl (Nat.le_of_ble_eq_true rfl) rm_32_4_2 ⟨Nat.le_of_ble_eq_true rfl, Nat.le_of_ble_eq_true rfl⟩ gX12_lineAt_11.1 (fun u9644 H locs hr9643 hP hD hS => ?_)
            refine Kpdr (ws := [(nc, iA G 100 fnc), (nl, iA G 54 (upd (upd (upd (upd fnl (6 * kl) 2) (6 * kl + 1) (nI (NVL bt ktp (NXT bt ktp ks)))) (6 * kl + 2) (-9)) (6 * kl + 3) (-9))), (nF, sA G 5 (FCT K)), (h0, oX12 nw nk mhasKept nt (nI ktp) nr mrowMany mroundOf mroundFrom mouts nm mfromHour mtoHour ns (nI (NXT bt ktp (NXT bt ktp (NXT bt ktp ks)))) (nI (TKE bt ktp (NXT bt ktp (NXT bt ktp (NXT bt ktp ks))))) (nI (TKN bt ktp (NXT bt ktp (NXT bt ktp (NXT bt ktp ks))))) 0 0 (nI kc) (nI kl) nl nc nF np ntr nb mbestCost nso nsi nit nsh nsf nss nrc mtraced mdealer mnumber mwhose msize misParted), (nt, iA G 240 fnt)]) hP hD (fun hP hD => ?_)
            have xn9645 := NXT.ge (bt := bt) (n := ktp) (s := (NXT bt ktp (NXT bt ktp ks))) (by omega)
            refine lv_aload_n hx hb gX12_lineAt_11.2.1 rfl (lv_at1 hl) ?_
            refine gf_X12_32 hC rfl hK hP 3 rfl rfl gX12_lineAt_11.2.2.1 ?_
            refine lv_iload_n hx hb gX12_lineAt_11.2.2.2.1 rfl (lv_at2 hl) ?_
            refine lv_iconst (v := 2) hx hb gX12_lineAt_11.2.2.2.2.1 (by decide) ?_
            refine lv_iadd hx hb gX12_lineAt_11.2.2.2.2.2.1 ?_
            refine eqi (x1 := nI (6 * kl + 2)) (nI_add (6 * kl) 2) ?_
            refine lv_aload_n hx hb gX12_lineAt_11.2.2.2.2.2.2.1 rfl (lv_at1 hl) ?_
            refine lv_sipush (v := 999) hx hb gX12_lineAt_11.2.2.2.2.2.2.2.1 (by decide) ?_
            refine iV (wr := [(nc, iA G 100 fnc), (nl, iA G 54 (upd (upd (upd (upd fnl (6 * kl) 2) (6 * kl + 1) (nI (NVL bt ktp (NXT bt ktp ks)))) (6 * kl + 2) (-9)) (6 * kl + 3) (-9))), (nF, sA G 5 (FCT K))]) hC hK hl hP hD hS hA (m_numberX l G h0 999 nw nk mhasKept nt ktp nr mrowMany mroundOf mroundFrom mouts nm mfromHour mtoHour ns (NXT bt ktp (NXT bt ktp (NXT bt ktp ks))) 0 (nI kc) (nI kl) nl nc nF np ntr nb mbestCost nso nsi nit nsh nsf nss nrc mtraced mdealer mnumber mwhose msize misParted fnt bt (htp) (by omega) (hFB) (by omega)) si_X12_271 [3, 4] [0, 1, 2] sm_3_4 fm_3_4 nd_3_4 sm_0_1_2 nd_0_1_2 dj_3_4__0_1_2 rfl rfl rfl rfl rfl (Nat.le_of_ble_eq_true rfl) rm_32_5_5 ⟨Nat.le_of_ble_eq_true rfl, Nat.le_of_ble_eq_true rfl⟩ gX12_lineAt_11.2.2.2.2.2.2.2.2.1 (fun r9646 => Ktu2 fun ff19648 ks19649 => ?_)
            intro H locs hr9646 hP hD hS
            try dsimp only at hr9646
            refine Kpdr (ws := [(nc, iA G 100 fnc), (nl, iA G 54 (upd (upd (upd (upd fnl (6 * kl) 2) (6 * kl + 1) (nI (NVL bt ktp (NXT bt ktp ks)))) (6 * kl + 2) (-9)) (6 * kl + 3) (-9))), (nF, sA G 5 (FCT K)), (h0, oX12 nw nk mhasKept nt (nI ktp) nr mrowMany mroundOf mroundFrom mouts nm mfromHour mtoHour ns (nI ks19649) (nI (TKE bt ktp ks19649)) (nI (TKN bt ktp ks19649)) ff19648 0 (nI kc) (nI kl) nl nc nF np ntr nb mbestCost nso nsi nit nsh nsf nss nrc mtraced mdealer mnumber mwhose msize misParted), (nt, iA G 240 fnt)]) hP hD (fun hP hD => ?_)
            obtain ⟨hr9646, w9650⟩ := hr9646
            rcases w9650 with v9651 | v9652
            · obtain ⟨rfl, rfl, rfl, hq9653⟩ := v9651
              have xl9654 := NML.len hq9653 (by omega)
              refine astN hC hK hP hD hS 1 (ws' := [(nc, iA G 100 fnc), (nl, iA G 54 (upd (upd (upd (upd (upd fnl (6 * kl) 2) (6 * kl + 1) (nI (NVL bt ktp (NXT bt ktp ks)))) (6 * kl + 2) (-9)) (6 * kl + 3) (-9)) (6 * kl + 2) (nI (NVL bt ktp (NXT bt ktp (NXT bt ktp (NXT bt ktp ks))))))), (nF, sA G 5 (FCT K)), (h0, oX12 nw nk mhasKept nt (nI ktp) nr mrowMany mroundOf mroundFrom mouts nm mfromHour mtoHour ns (nI (NXT bt ktp (NXT bt ktp (NXT bt ktp (NXT bt ktp ks))))) (nI (TKE bt ktp (NXT bt ktp (NXT bt ktp (NXT bt ktp (NXT bt ktp ks)))))) (nI (TKN bt ktp (NXT bt ktp (NXT bt ktp (NXT bt ktp (NXT bt ktp ks)))))) 0 0 (nI kc) (nI kl) nl nc nF np ntr nb mbestCost nso nsi nit nsh nsf nss nrc mtraced mdealer mnumber mwhose msize misParted), (nt, iA G 240 fnt)]) rfl (k := (6 * kl + 2)) (by omega) (Nat.le_of_ble_eq_true rfl) (rfl) gX12_lineAt_11.2.2.2.2.2.2.2.2.2 (fun H locs hP hD hS => ?_)
              refine lv_aload_n hx hb gX12_lineAt_12.1 rfl (lv_at1 hl) ?_
              refine gf_X12_32 hC rfl hK hP 3 rfl rfl gX12_lineAt_12.2.1 ?_
              refine lv_iload_n hx hb gX12_lineAt_12.2.2.1 rfl (lv_at2 hl) ?_
              refine lv_iconst (v := 4) hx hb gX12_lineAt_12.2.2.2.1 (by decide) ?_
              refine lv_iadd hx hb gX12_lineAt_12.2.2.2.2.1 ?_
              refine eqi (x1 := nI (6 * kl + 4)) (nI_add (6 * kl) 4) ?_
              refine lv_aload_n hx hb gX12_lineAt_12.2.2.2.2.2.1 rfl (lv_at1 hl) ?_
              refine gf_X12_240 hC rfl hK hP 3 rfl rfl gX12_lineAt_12.2.2.2.2.2.2.1 ?_
              refine astN hC hK hP hD hS 1 (ws' := [(nc, iA G 100 fnc), (nl, iA G 54 (upd (upd (upd (upd (upd (upd fnl (6 * kl) 2) (6 * kl + 1) (nI (NVL bt ktp (NXT bt ktp ks)))) (6 * kl + 2) (-9)) (6 * kl + 3) (-9)) (6 * kl + 2) (nI (NVL bt ktp (NXT bt ktp (NXT bt ktp (NXT bt ktp ks)))))) (6 * kl + 4) (nI kc))), (nF, sA G 5 (FCT K)), (h0, oX12 nw nk mhasKept nt (nI ktp) nr mrowMany mroundOf mroundFrom mouts nm mfromHour mtoHour ns (nI (NXT bt ktp (NXT bt ktp (NXT bt ktp (NXT bt ktp ks))))) (nI (TKE bt ktp (NXT bt ktp (NXT bt ktp (NXT bt ktp (NXT bt ktp ks)))))) (nI (TKN bt ktp (NXT bt ktp (NXT bt ktp (NXT bt ktp (NXT bt ktp ks)))))) 0 0 (nI kc) (nI kl) nl nc nF np ntr nb mbestCost nso nsi nit nsh nsf nss nrc mtraced mdealer mnumber mwhose msize misParted), (nt, iA G 240 fnt)]) rfl (k := (6 * kl + 4)) (by omega) (Nat.le_of_ble_eq_true rfl) (rfl) gX12_lineAt_12.2.2.2.2.2.2.2.1 (fun H locs hP hD hS => ?_)
              refine lv_iload_n hx hb gX12_lineAt_12.2.2.2.2.2.2.2.2.1 rfl (lv_at0 hl) ?_
              refine lv_iconst (v := 3) hx hb gX12_lineAt_12.2.2.2.2.2.2.2.2.2 (by decide) ?_
              refine lv_icmp_eq (tgt := 256) hx hb gX12_lineAt_13.1 (by decide) (fun c9 => absurd c9 (by decide)) (fun _ => ?_)
              refine lv_aload_n hx hb gX12_lineAt_13.2.1 rfl (lv_at1 hl) ?_
              refine va_ldcSw (index := 287) (tx := "if") hx hb hown (hO.2.2 0 (by decide)) gX12_lineAt_13.2.2.1 ?_
              refine pVo hO hS hC hK hl hP hD (m_isNameX l G K 0 h0 nw nk mhasKept nt ktp nr mrowMany mroundOf mroundFrom mouts nm mfromHour mtoHour ns (NXT bt ktp (NXT bt ktp (NXT bt ktp (NXT bt ktp ks)))) 0 (nI kc) (nI kl) nl nc nF np ntr nb mbestCost nso nsi nit nsh nsf nss nrc mtraced mdealer mnumber mwhose msize misParted fnt bt (htp) (by omega) (hFB) ((by decide))) si_X12_248 [3, 4] sm_3_4 fm_3_4 nd_3_4 rfl rfl rfl rfl rfl (Nat.le_of_ble_eq_true rfl) rm_32_5_4 ⟨by first | exact Nat.le_of_ble_eq_true rfl | exact Nat.zero_le _, by first | exact Nat.le_of_ble_eq_true rfl | exact Nat.zero_le _⟩ gX12_lineAt_13.2.2.2.1 (Kors (Keqa fun a9656 => ?_) (Keqa fun a9656 => ?_))
              · have hq9657 := a9656
                have xl9658 : (NXT bt ktp (NXT bt ktp (NXT bt ktp (NXT bt ktp ks)))) + 2 ≤ NXT bt ktp (NXT bt ktp (NXT bt ktp (NXT bt ktp (NXT bt ktp ks)))) ∧ NXT bt ktp (NXT bt ktp (NXT bt ktp (NXT bt ktp (NXT bt ktp ks)))) ≤ ktp := WRD.len hq9657 (by omega)
                refine lv_if_eq (tgt := 256) hx hb gX12_lineAt_13.2.2.2.2.1 (by decide) (fun c9 => absurd c9 (by decide)) (fun _ => ?_)
                refine lv_aload_n hx hb gX12_lineAt_13.2.2.2.2.2.1 rfl (lv_at1 hl) ?_
                refine vV (wr := [(nc, iA G 100 fnc), (nl, iA G 54 (upd (upd (upd (upd (upd (upd fnl (6 * kl) 2) (6 * kl + 1) (nI (NVL bt ktp (NXT bt ktp ks)))) (6 * kl + 2) (-9)) (6 * kl + 3) (-9)) (6 * kl + 2) (nI (NVL bt ktp (NXT bt ktp (NXT bt ktp (NXT bt ktp ks)))))) (6 * kl + 4) (nI kc))), (nF, sA G 5 (FCT K))]) hC hK hl hP hD hS hA (m_nextT l G h0 nw nk mhasKept nt ktp nr mrowMany mroundOf mroundFrom mouts nm mfromHour mtoHour ns (NXT bt ktp (NXT bt ktp (NXT bt ktp (NXT bt ktp ks)))) 0 0 (nI kc) (nI kl) nl nc nF np ntr nb mbestCost nso nsi nit nsh nsf nss nrc mtraced mdealer mnumber mwhose msize misParted fnt bt (htp) (by omega) (hFB)) si_X12_233 [3, 4] [0, 1, 2] sm_3_4 fm_3_4 nd_3_4 sm_0_1_2 nd_0_1_2 dj_3_4__0_1_2 rfl rfl rfl rfl rfl (Nat.le_of_ble_eq_true rfl) rm_32_3_1 ⟨Nat.le_of_ble_eq_true rfl, Nat.le_of_ble_eq_true rfl⟩ gX12_lineAt_13.2.2.2.2.2.2.1 (fun u9660 H locs hr9659 hP hD hS => ?_)
                refine Kpdr (ws := [(nc, iA G 100 fnc), (nl, iA G 54 (upd (upd (upd (upd (upd (upd fnl (6 * kl) 2) (6 * kl + 1) (nI (NVL bt ktp (NXT bt ktp ks)))) (6 * kl + 2) (-9)) (6 * kl + 3) (-9)) (6 * kl + 2) (nI (NVL bt ktp (NXT bt ktp (NXT bt ktp (NXT bt ktp ks)))))) (6 * kl + 4) (nI kc))), (nF, sA G 5 (FCT K)), (h0, oX12 nw nk mhasKept nt (nI ktp) nr mrowMany mroundOf mroundFrom mouts nm mfromHour mtoHour ns (nI (NXT bt ktp (NXT bt ktp (NXT bt ktp (NXT bt ktp (NXT bt ktp ks)))))) (nI (TKE bt ktp (NXT bt ktp (NXT bt ktp (NXT bt ktp (NXT bt ktp (NXT bt ktp ks))))))) (nI (TKN bt ktp (NXT bt ktp (NXT bt ktp (NXT bt ktp (NXT bt ktp (NXT bt ktp ks))))))) 0 0 (nI kc) (nI kl) nl nc nF np ntr nb mbestCost nso nsi nit nsh nsf nss nrc mtraced mdealer mnumber mwhose msize misParted), (nt, iA G 240 fnt)]) hP hD (fun hP hD => ?_)
                have xn9661 := NXT.ge (bt := bt) (n := ktp) (s := (NXT bt ktp (NXT bt ktp (NXT bt ktp (NXT bt ktp ks))))) (by omega)
                refine lv_aload_n hx hb gX12_lineAt_13.2.2.2.2.2.2.2.1 rfl (lv_at1 hl) ?_
                refine vVo (wr := [(nl, iA G 54 (upd (upd (upd (upd (upd (upd fnl (6 * kl) 2) (6 * kl + 1) (nI (NVL bt ktp (NXT bt ktp ks)))) (6 * kl + 2) (-9)) (6 * kl + 3) (-9)) (6 * kl + 2) (nI (NVL bt ktp (NXT bt ktp (NXT bt ktp (NXT bt ktp ks)))))) (6 * kl + 4) (nI kc)))]) hO hC hK hl hP hD hS hA (m_either l G K 4 h0 nw nk mhasKept nt ktp nr mrowMany mroundOf mroundFrom mouts nm mfromHour mtoHour ns (NXT bt ktp (NXT bt ktp (NXT bt ktp (NXT bt ktp (NXT bt ktp ks))))) 0 kc (nI kl) nl nc nF np ntr nb mbestCost nso nsi nit nsh nsf nss nrc mtraced mdealer mnumber mwhose msize misParted fnt fnc bt cs rs (by omega) (by omega) (hFB) (hST) (by omega) (by omega)) si_X12_268 [3, 4, 0, 2] [1] sm_3_4_0_2 fm_3_4_0_2 nd_3_4_0_2 sm_1 nd_1 dj_3_4_0_2__1 rfl rfl rfl rfl rfl (Nat.le_of_ble_eq_true rfl) ⟨Nat.le_of_ble_eq_true rfl, Nat.le_of_ble_eq_true rfl⟩ ⟨Nat.le_of_ble_eq_true rfl, Nat.le_of_ble_eq_true rfl⟩ gX12_lineAt_13.2.2.2.2.2.2.2.2.1 (Ktu6 fun ff19664 ks19665 kc19666 gnc9667 c19668 r19669 => ?_)
                intro H locs hr9662 hP hD hS
                try dsimp only at hr9662
                refine Kpdr (ws := [(nl, iA G 54 (upd (upd (upd (upd (upd (upd fnl (6 * kl) 2) (6 * kl + 1) (nI (NVL bt ktp (NXT bt ktp ks)))) (6 * kl + 2) (-9)) (6 * kl + 3) (-9)) (6 * kl + 2) (nI (NVL bt ktp (NXT bt ktp (NXT bt ktp (NXT bt ktp ks)))))) (6 * kl + 4) (nI kc))), (h0, oX12 nw nk mhasKept nt (nI ktp) nr mrowMany mroundOf mroundFrom mouts nm mfromHour mtoHour ns (nI ks19665) (nI (TKE bt ktp ks19665)) (nI (TKN bt ktp ks19665)) ff19664 0 (nI kc19666) (nI kl) nl nc nF np ntr nb mbestCost nso nsi nit nsh nsf nss nrc mtraced mdealer mnumber mwhose msize misParted), (nt, iA G 240 fnt), (nc, iA G 100 gnc9667), (nF, sA G 5 (FCT K))]) hP hD (fun hP hD => ?_)
                have w9670 := hr9662
                rcases w9670 with v9671 | v9672
                · obtain ⟨rfl, hq9673, hq9674⟩ := v9671
                  have xl9675 := RT.lem hq9673 (by decide) (by omega)
                  have xl9676 := hq9674.1
                  refine lv_aload_n hx hb gX12_lineAt_13.2.2.2.2.2.2.2.2.2 rfl (lv_at1 hl) ?_
                  refine gf_X12_32 hC rfl hK hP 1 rfl rfl gX12_lineAt_14.1 ?_
                  refine lv_iload_n hx hb gX12_lineAt_14.2.1 rfl (lv_at2 hl) ?_
                  refine lv_iconst (v := 5) hx hb gX12_lineAt_14.2.2.1 (by decide) ?_
                  refine lv_iadd hx hb gX12_lineAt_14.2.2.2.1 ?_
                  refine eqi (x1 := nI (6 * kl + 5)) (nI_add (6 * kl) 5) ?_
                  refine lv_aload_n hx hb gX12_lineAt_14.2.2.2.2.1 rfl (lv_at1 hl) ?_
                  refine gf_X12_240 hC rfl hK hP 1 rfl rfl gX12_lineAt_14.2.2.2.2.2.1 ?_
                  refine astN hC hK hP hD hS 0 (ws' := [(nl, iA G 54 (upd (upd (upd (upd (upd (upd (upd fnl (6 * kl) 2) (6 * kl + 1) (nI (NVL bt ktp (NXT bt ktp ks)))) (6 * kl + 2) (-9)) (6 * kl + 3) (-9)) (6 * kl + 2) (nI (NVL bt ktp (NXT bt ktp (NXT bt ktp (NXT bt ktp ks)))))) (6 * kl + 4) (nI kc)) (6 * kl + 5) (nI kc19666))), (h0, oX12 nw nk mhasKept nt (nI ktp) nr mrowMany mroundOf mroundFrom mouts nm mfromHour mtoHour ns (nI ks19665) (nI (TKE bt ktp ks19665)) (nI (TKN bt ktp ks19665)) 0 0 (nI kc19666) (nI kl) nl nc nF np ntr nb mbestCost nso nsi nit nsh nsf nss nrc mtraced mdealer mnumber mwhose msize misParted), (nt, iA G 240 fnt), (nc, iA G 100 gnc9667), (nF, sA G 5 (FCT K))]) rfl (k := (6 * kl + 5)) (by omega) (Nat.le_of_ble_eq_true rfl) (rfl) gX12_lineAt_14.2.2.2.2.2.2.1 (fun H locs hP hD hS => ?_)
                  refine lv_aload_n hx hb gX12_lineAt_14.2.2.2.2.2.2.2.1 rfl (lv_at1 hl) ?_
                  refine lv_aload_n hx hb gX12_lineAt_14.2.2.2.2.2.2.2.2.1 rfl (lv_at1 hl) ?_
                  refine lv_bipush (v := 59) hx hb gX12_lineAt_14.2.2.2.2.2.2.2.2.2 (by decide) ?_
                  refine pV hC hK hl hP hD (m_isSignX l G h0 59 nw nk mhasKept nt ktp nr mrowMany mroundOf mroundFrom mouts nm mfromHour mtoHour ns ks19665 0 (nI kc19666) (nI kl) nl nc nF np ntr nb mbestCost nso nsi nit nsh nsf nss nrc mtraced mdealer mnumber mwhose msize misParted fnt bt (htp) (by omega) (hFB)) si_X12_262 [1, 2] sm_1_2 fm_1_2 nd_1_2 rfl rfl rfl rfl rfl (Nat.le_of_ble_eq_true rfl) rm_32_1_2 ⟨by first | exact Nat.le_of_ble_eq_true rfl | exact Nat.zero_le _, by first | exact Nat.le_of_ble_eq_true rfl | exact Nat.zero_le _⟩ gX12_lineAt_15.1 (Kors (Keqa fun a9678 => ?_) (Keqa fun a9678 => ?_))
                  · have hq9679 := a9678
                    have xl9680 := SGN.len hq9679 (by omega)
                    refine vV (wr := [(nl, iA G 54 (upd (upd (upd (upd (upd (upd (upd fnl (6 * kl) 2) (6 * kl + 1) (nI (NVL bt ktp (NXT bt ktp ks)))) (6 * kl + 2) (-9)) (6 * kl + 3) (-9)) (6 * kl + 2) (nI (NVL bt ktp (NXT bt ktp (NXT bt ktp (NXT bt ktp ks)))))) (6 * kl + 4) (nI kc)) (6 * kl + 5) (nI kc19666))), (nc, iA G 100 gnc9667), (nF, sA G 5 (FCT K))]) hC hK hl hP hD hS hA (m_need1X l G h0 nw nk mhasKept nt ktp nr mrowMany mroundOf mroundFrom mouts nm mfromHour mtoHour ns ks19665 0 (nI kc19666) (nI kl) nl nc nF np ntr nb mbestCost nso nsi nit nsh nsf nss nrc mtraced mdealer mnumber mwhose msize misParted fnt bt (htp) (by omega) (hFB)) si_X12_236 [1, 2] [0, 3, 4] sm_1_2 fm_1_2 nd_1_2 sm_0_3_4 nd_0_3_4 dj_1_2__0_3_4 rfl rfl rfl rfl rfl (Nat.le_of_ble_eq_true rfl) rm_32_4_2 ⟨Nat.le_of_ble_eq_true rfl, Nat.le_of_ble_eq_true rfl⟩ gX12_lineAt_15.2.1 (fun u9682 H locs hr9681 hP hD hS => ?_)
                    refine Kpdr (ws := [(nl, iA G 54 (upd (upd (upd (upd (upd (upd (upd fnl (6 * kl) 2) (6 * kl + 1) (nI (NVL bt ktp (NXT bt ktp ks)))) (6 * kl + 2) (-9)) (6 * kl + 3) (-9)) (6 * kl + 2) (nI (NVL bt ktp (NXT bt ktp (NXT bt ktp (NXT bt ktp ks)))))) (6 * kl + 4) (nI kc)) (6 * kl + 5) (nI kc19666))), (nc, iA G 100 gnc9667), (nF, sA G 5 (FCT K)), (h0, oX12 nw nk mhasKept nt (nI ktp) nr mrowMany mroundOf mroundFrom mouts nm mfromHour mtoHour ns (nI (NXT bt ktp ks19665)) (nI (TKE bt ktp (NXT bt ktp ks19665))) (nI (TKN bt ktp (NXT bt ktp ks19665))) 0 0 (nI kc19666) (nI kl) nl nc nF np ntr nb mbestCost nso nsi nit nsh nsf nss nrc mtraced mdealer mnumber mwhose msize misParted), (nt, iA G 240 fnt)]) hP hD (fun hP hD => ?_)
                    have xn9683 := NXT.ge (bt := bt) (n := ktp) (s := ks19665) (by omega)
                    refine toQ hQ0 ?_
                    exact RV hC hP hD hS [3, 4, 1, 0, 2] (0, (NXT bt ktp ks19665), kc19666, gnc9667, upd (upd (upd (upd (upd (upd (upd fnl (6 * kl) 2) (6 * kl + 1) (nI (NVL bt ktp (NXT bt ktp ks)))) (6 * kl + 2) (-9)) (6 * kl + 3) (-9)) (6 * kl + 2) (nI (NVL bt ktp (NXT bt ktp (NXT bt ktp (NXT bt ktp ks)))))) (6 * kl + 4) (nI kc)) (6 * kl + 5) (nI kc19666), (2, (nI (NVL bt ktp (NXT bt ktp ks))), (nI (NVL bt ktp (NXT bt ktp (NXT bt ktp (NXT bt ktp ks))))), (-9), 1, cs.length, c19668.length, rs.length, r19669.length), c19668, r19669) rfl rfl (by decide) (Or.inl ⟨rfl, Or.inr ⟨2, SRT.y (k := 2) (by decide) hq9625, Or.inr ⟨(NXT bt ktp (NXT bt ktp (NXT bt ktp (NXT bt ktp ks)))), (nI (NVL bt ktp (NXT bt ktp ks))), (nI (NVL bt ktp (NXT bt ktp (NXT bt ktp (NXT bt ktp ks))))), (-9), HDQ.q3 hq9637 hq9641 hq9653, Or.inr ⟨⟨by decide, hq9657⟩, Or.inr ⟨ks19665, c19668, r19669, hq9673, Or.inr ⟨hq9679, rfl⟩⟩⟩⟩⟩, hq9674, (by rw [hs1, hq9674.1]; exact ⟨fun j hj => (upd_ne (by omega)).trans ((upd_ne (by omega)).trans ((upd_ne (by omega)).trans ((upd_ne (by omega)).trans ((upd_ne (by omega)).trans ((upd_ne (by omega)).trans ((upd_ne (by omega)).trans (rfl))))))), (upd_ne (by omega)).trans ((upd_ne (by omega)).trans ((upd_ne (by omega)).trans ((upd_ne (by omega)).trans ((upd_ne (by omega)).trans ((upd_ne (by omega)).trans (upd_eq (by omega))))))), (upd_ne (by omega)).trans ((upd_ne (by omega)).trans ((upd_ne (by omega)).trans ((upd_ne (by omega)).trans ((upd_ne (by omega)).trans (upd_eq (by omega)))))), (upd_ne (by omega)).trans ((upd_ne (by omega)).trans (upd_eq (by omega))), (upd_ne (by omega)).trans ((upd_ne (by omega)).trans ((upd_ne (by omega)).trans (upd_eq (by omega)))), (upd_ne (by omega)).trans (upd_eq (by omega)), upd_eq (by omega), fun h9 => absurd (show (1 : Nat) = 0 from h9) (by decide), fun _ => (by (try dsimp only); omega), Nat.le_refl _, (by (try dsimp only); omega)⟩), by (try dsimp only); omega, by (try dsimp only); omega⟩) gX12_lineAt_15.2.2
                  · have hq9684 := a9678
                    refine vV (wr := [(nl, iA G 54 (upd (upd (upd (upd (upd (upd (upd fnl (6 * kl) 2) (6 * kl + 1) (nI (NVL bt ktp (NXT bt ktp ks)))) (6 * kl + 2) (-9)) (6 * kl + 3) (-9)) (6 * kl + 2) (nI (NVL bt ktp (NXT bt ktp (NXT bt ktp (NXT bt ktp ks)))))) (6 * kl + 4) (nI kc)) (6 * kl + 5) (nI kc19666))), (nt, iA G 240 fnt), (nc, iA G 100 gnc9667), (nF, sA G 5 (FCT K))]) hC hK hl hP hD hS hA (m_need0 l G h0 nw nk mhasKept nt (nI ktp) nr mrowMany mroundOf mroundFrom mouts nm mfromHour mtoHour ns (nI ks19665) (nI (TKE bt ktp ks19665)) (nI (TKN bt ktp ks19665)) 0 (nI kc19666) (nI kl) nl nc nF np ntr nb mbestCost nso nsi nit nsh nsf nss nrc mtraced mdealer mnumber mwhose msize misParted) si_X12_236 [1] [0, 2, 3, 4] sm_1 fm_1 nd_1 sm_0_2_3_4 nd_0_2_3_4 dj_1__0_2_3_4 rfl rfl rfl rfl rfl (Nat.le_of_ble_eq_true rfl) rm_32_4_2 ⟨Nat.le_of_ble_eq_true rfl, Nat.le_of_ble_eq_true rfl⟩ gX12_lineAt_15.2.1 (fun u9686 H locs hr9685 hP hD hS => ?_)
                    refine Kpdr (ws := [(nl, iA G 54 (upd (upd (upd (upd (upd (upd (upd fnl (6 * kl) 2) (6 * kl + 1) (nI (NVL bt ktp (NXT bt ktp ks)))) (6 * kl + 2) (-9)) (6 * kl + 3) (-9)) (6 * kl + 2) (nI (NVL bt ktp (NXT bt ktp (NXT bt ktp (NXT bt ktp ks)))))) (6 * kl + 4) (nI kc)) (6 * kl + 5) (nI kc19666))), (nt, iA G 240 fnt), (nc, iA G 100 gnc9667), (nF, sA G 5 (FCT K)), (h0, oX12 nw nk mhasKept nt (nI ktp) nr mrowMany mroundOf mroundFrom mouts nm mfromHour mtoHour ns (nI ks19665) (nI (TKE bt ktp ks19665)) (nI (TKN bt ktp ks19665)) 1 0 (nI kc19666) (nI kl) nl nc nF np ntr nb mbestCost nso nsi nit nsh nsf nss nrc mtraced mdealer mnumber mwhose msize misParted)]) hP hD (fun hP hD => ?_)
                    refine toQ hQ0 ?_
                    exact RV hC hP hD hS [4, 1, 2, 0, 3] (1, ks19665, kc19666, gnc9667, upd (upd (upd (upd (upd (upd (upd fnl (6 * kl) 2) (6 * kl + 1) (nI (NVL bt ktp (NXT bt ktp ks)))) (6 * kl + 2) (-9)) (6 * kl + 3) (-9)) (6 * kl + 2) (nI (NVL bt ktp (NXT bt ktp (NXT bt ktp (NXT bt ktp ks)))))) (6 * kl + 4) (nI kc)) (6 * kl + 5) (nI kc19666), LN0, [], []) rfl rfl (by decide) (Or.inr ⟨rfl, Or.inr ⟨2, SRT.y (k := 2) (by decide) hq9625, Or.inr ⟨(NXT bt ktp (NXT bt ktp (NXT bt ktp (NXT bt ktp ks)))), (nI (NVL bt ktp (NXT bt ktp ks))), (nI (NVL bt ktp (NXT bt ktp (NXT bt ktp (NXT bt ktp ks))))), (-9), HDQ.q3 hq9637 hq9641 hq9653, Or.inr ⟨⟨by decide, hq9657⟩, Or.inr ⟨ks19665, c19668, r19669, hq9673, Or.inl ⟨hq9684, rfl⟩⟩⟩⟩⟩, by (try dsimp only); omega⟩) gX12_lineAt_15.2.2
                · obtain ⟨rfl, hq9687, hq9688⟩ := v9672
                  refine lv_aload_n hx hb gX12_lineAt_13.2.2.2.2.2.2.2.2.2 rfl (lv_at1 hl) ?_
                  refine gf_X12_32 hC rfl hK hP 1 rfl rfl gX12_lineAt_14.1 ?_
                  refine lv_iload_n hx hb gX12_lineAt_14.2.1 rfl (lv_at2 hl) ?_
                  refine lv_iconst (v := 5) hx hb gX12_lineAt_14.2.2.1 (by decide) ?_
                  refine lv_iadd hx hb gX12_lineAt_14.2.2.2.1 ?_
                  refine eqi (x1 := nI (6 * kl + 5)) (nI_add (6 * kl) 5) ?_
                  refine lv_aload_n hx hb gX12_lineAt_14.2.2.2.2.1 rfl (lv_at1 hl) ?_
                  refine gf_X12_240 hC rfl hK hP 1 rfl rfl gX12_lineAt_14.2.2.2.2.2.1 ?_
                  refine astN hC hK hP hD hS 0 (ws' := [(nl, iA G 54 (upd (upd (upd (upd (upd (upd (upd fnl (6 * kl) 2) (6 * kl + 1) (nI (NVL bt ktp (NXT bt ktp ks)))) (6 * kl + 2) (-9)) (6 * kl + 3) (-9)) (6 * kl + 2) (nI (NVL bt ktp (NXT bt ktp (NXT bt ktp (NXT bt ktp ks)))))) (6 * kl + 4) (nI kc)) (6 * kl + 5) (nI kc19666))), (h0, oX12 nw nk mhasKept nt (nI ktp) nr mrowMany mroundOf mroundFrom mouts nm mfromHour mtoHour ns (nI ks19665) (nI (TKE bt ktp ks19665)) (nI (TKN bt ktp ks19665)) 1 0 (nI kc19666) (nI kl) nl nc nF np ntr nb mbestCost nso nsi nit nsh nsf nss nrc mtraced mdealer mnumber mwhose msize misParted), (nt, iA G 240 fnt), (nc, iA G 100 gnc9667), (nF, sA G 5 (FCT K))]) rfl (k := (6 * kl + 5)) (by omega) (Nat.le_of_ble_eq_true rfl) (rfl) gX12_lineAt_14.2.2.2.2.2.2.1 (fun H locs hP hD hS => ?_)
                  refine lv_aload_n hx hb gX12_lineAt_14.2.2.2.2.2.2.2.1 rfl (lv_at1 hl) ?_
                  refine lv_aload_n hx hb gX12_lineAt_14.2.2.2.2.2.2.2.2.1 rfl (lv_at1 hl) ?_
                  refine lv_bipush (v := 59) hx hb gX12_lineAt_14.2.2.2.2.2.2.2.2.2 (by decide) ?_
                  refine pV hC hK hl hP hD (m_isSignF l G h0 59 nw nk mhasKept nt (nI ktp) nr mrowMany mroundOf mroundFrom mouts nm mfromHour mtoHour ns (nI ks19665) (nI (TKE bt ktp ks19665)) (nI (TKN bt ktp ks19665)) 0 (nI kc19666) (nI kl) nl nc nF np ntr nb mbestCost nso nsi nit nsh nsf nss nrc mtraced mdealer mnumber mwhose msize misParted) si_X12_262 [1] sm_1 fm_1 nd_1 rfl rfl rfl rfl rfl (Nat.le_of_ble_eq_true rfl) rm_32_1_2 ⟨by first | exact Nat.le_of_ble_eq_true rfl | exact Nat.zero_le _, by first | exact Nat.le_of_ble_eq_true rfl | exact Nat.zero_le _⟩ gX12_lineAt_15.1 (Keqr ?_)
                  refine vV (wr := [(nl, iA G 54 (upd (upd (upd (upd (upd (upd (upd fnl (6 * kl) 2) (6 * kl + 1) (nI (NVL bt ktp (NXT bt ktp ks)))) (6 * kl + 2) (-9)) (6 * kl + 3) (-9)) (6 * kl + 2) (nI (NVL bt ktp (NXT bt ktp (NXT bt ktp (NXT bt ktp ks)))))) (6 * kl + 4) (nI kc)) (6 * kl + 5) (nI kc19666))), (nt, iA G 240 fnt), (nc, iA G 100 gnc9667), (nF, sA G 5 (FCT K))]) hC hK hl hP hD hS hA (m_needF l G h0 0 nw nk mhasKept nt (nI ktp) nr mrowMany mroundOf mroundFrom mouts nm mfromHour mtoHour ns (nI ks19665) (nI (TKE bt ktp ks19665)) (nI (TKN bt ktp ks19665)) 0 (nI kc19666) (nI kl) nl nc nF np ntr nb mbestCost nso nsi nit nsh nsf nss nrc mtraced mdealer mnumber mwhose msize misParted) si_X12_236 [1] [0, 2, 3, 4] sm_1 fm_1 nd_1 sm_0_2_3_4 nd_0_2_3_4 dj_1__0_2_3_4 rfl rfl rfl rfl rfl (Nat.le_of_ble_eq_true rfl) rm_32_4_2 ⟨Nat.le_of_ble_eq_true rfl, Nat.le_of_ble_eq_true rfl⟩ gX12_lineAt_15.2.1 (fun u9692 H locs hr9691 hP hD hS => ?_)
                  refine Kpdr (ws := [(nl, iA G 54 (upd (upd (upd (upd (upd (upd (upd fnl (6 * kl) 2) (6 * kl + 1) (nI (NVL bt ktp (NXT bt ktp ks)))) (6 * kl + 2) (-9)) (6 * kl + 3) (-9)) (6 * kl + 2) (nI (NVL bt ktp (NXT bt ktp (NXT bt ktp (NXT bt ktp ks)))))) (6 * kl + 4) (nI kc)) (6 * kl + 5) (nI kc19666))), (nt, iA G 240 fnt), (nc, iA G 100 gnc9667), (nF, sA G 5 (FCT K)), (h0, oX12 nw nk mhasKept nt (nI ktp) nr mrowMany mroundOf mroundFrom mouts nm mfromHour mtoHour ns (nI ks19665) (nI (TKE bt ktp ks19665)) (nI (TKN bt ktp ks19665)) 1 0 (nI kc19666) (nI kl) nl nc nF np ntr nb mbestCost nso nsi nit nsh nsf nss nrc mtraced mdealer mnumber mwhose msize misParted)]) hP hD (fun hP hD => ?_)
                  refine toQ hQ0 ?_
                  exact RV hC hP hD hS [4, 1, 2, 0, 3] (1, ks19665, kc19666, gnc9667, upd (upd (upd (upd (upd (upd (upd fnl (6 * kl) 2) (6 * kl + 1) (nI (NVL bt ktp (NXT bt ktp ks)))) (6 * kl + 2) (-9)) (6 * kl + 3) (-9)) (6 * kl + 2) (nI (NVL bt ktp (NXT bt ktp (NXT bt ktp (NXT bt ktp ks)))))) (6 * kl + 4) (nI kc)) (6 * kl + 5) (nI kc19666), LN0, [], []) rfl rfl (by decide) (Or.inr ⟨rfl, Or.inr ⟨2, SRT.y (k := 2) (by decide) hq9625, Or.inr ⟨(NXT bt ktp (NXT bt ktp (NXT bt ktp (NXT bt ktp ks)))), (nI (NVL bt ktp (NXT bt ktp ks))), (nI (NVL bt ktp (NXT bt ktp (NXT bt ktp (NXT bt ktp ks))))), (-9), HDQ.q3 hq9637 hq9641 hq9653, Or.inr ⟨⟨by decide, hq9657⟩, Or.inl ⟨_, hq9687, rfl⟩⟩⟩⟩, by (try dsimp only); omega⟩) gX12_lineAt_15.2.2
              · have hq9693 := a9656
                refine lv_if_eq (tgt := 256) hx hb gX12_lineAt_13.2.2.2.2.1 (by decide) (fun _ => ?_) (fun c9 => absurd (by decide) c9)
                refine lv_aload_n hx hb gX12_lineAt_13.2.2.2.2.2.2.2.2.2 rfl (lv_at1 hl) ?_
                refine gf_X12_32 hC rfl hK hP 3 rfl rfl gX12_lineAt_14.1 ?_
                refine lv_iload_n hx hb gX12_lineAt_14.2.1 rfl (lv_at2 hl) ?_
                refine lv_iconst (v := 5) hx hb gX12_lineAt_14.2.2.1 (by decide) ?_
                refine lv_iadd hx hb gX12_lineAt_14.2.2.2.1 ?_
                refine eqi (x1 := nI (6 * kl + 5)) (nI_add (6 * kl) 5) ?_
                refine lv_aload_n hx hb gX12_lineAt_14.2.2.2.2.1 rfl (lv_at1 hl) ?_
                refine gf_X12_240 hC rfl hK hP 3 rfl rfl gX12_lineAt_14.2.2.2.2.2.1 ?_
                refine astN hC hK hP hD hS 1 (ws' := [(nc, iA G 100 fnc), (nl, iA G 54 (upd (upd (upd (upd (upd (upd (upd fnl (6 * kl) 2) (6 * kl + 1) (nI (NVL bt ktp (NXT bt ktp ks)))) (6 * kl + 2) (-9)) (6 * kl + 3) (-9)) (6 * kl + 2) (nI (NVL bt ktp (NXT bt ktp (NXT bt ktp (NXT bt ktp ks)))))) (6 * kl + 4) (nI kc)) (6 * kl + 5) (nI kc))), (nF, sA G 5 (FCT K)), (h0, oX12 nw nk mhasKept nt (nI ktp) nr mrowMany mroundOf mroundFrom mouts nm mfromHour mtoHour ns (nI (NXT bt ktp (NXT bt ktp (NXT bt ktp (NXT bt ktp ks))))) (nI (TKE bt ktp (NXT bt ktp (NXT bt ktp (NXT bt ktp (NXT bt ktp ks)))))) (nI (TKN bt ktp (NXT bt ktp (NXT bt ktp (NXT bt ktp (NXT bt ktp ks)))))) 0 0 (nI kc) (nI kl) nl nc nF np ntr nb mbestCost nso nsi nit nsh nsf nss nrc mtraced mdealer mnumber mwhose msize misParted), (nt, iA G 240 fnt)]) rfl (k := (6 * kl + 5)) (by omega) (Nat.le_of_ble_eq_true rfl) (rfl) gX12_lineAt_14.2.2.2.2.2.2.1 (fun H locs hP hD hS => ?_)
                refine lv_aload_n hx hb gX12_lineAt_14.2.2.2.2.2.2.2.1 rfl (lv_at1 hl) ?_
                refine lv_aload_n hx hb gX12_lineAt_14.2.2.2.2.2.2.2.2.1 rfl (lv_at1 hl) ?_
                refine lv_bipush (v := 59) hx hb gX12_lineAt_14.2.2.2.2.2.2.2.2.2 (by decide) ?_
                refine pV hC hK hl hP hD (m_isSignX l G h0 59 nw nk mhasKept nt ktp nr mrowMany mroundOf mroundFrom mouts nm mfromHour mtoHour ns (NXT bt ktp (NXT bt ktp (NXT bt ktp (NXT bt ktp ks)))) 0 (nI kc) (nI kl) nl nc nF np ntr nb mbestCost nso nsi nit nsh nsf nss nrc mtraced mdealer mnumber mwhose msize misParted fnt bt (htp) (by omega) (hFB)) si_X12_262 [3, 4] sm_3_4 fm_3_4 nd_3_4 rfl rfl rfl rfl rfl (Nat.le_of_ble_eq_true rfl) rm_32_1_2 ⟨by first | exact Nat.le_of_ble_eq_true rfl | exact Nat.zero_le _, by first | exact Nat.le_of_ble_eq_true rfl | exact Nat.zero_le _⟩ gX12_lineAt_15.1 (Kors (Keqa fun a9695 => ?_) (Keqa fun a9695 => ?_))
                · have hq9696 := a9695
                  have xl9697 := SGN.len hq9696 (by omega)
                  refine vV (wr := [(nc, iA G 100 fnc), (nl, iA G 54 (upd (upd (upd (upd (upd (upd (upd fnl (6 * kl) 2) (6 * kl + 1) (nI (NVL bt ktp (NXT bt ktp ks)))) (6 * kl + 2) (-9)) (6 * kl + 3) (-9)) (6 * kl + 2) (nI (NVL bt ktp (NXT bt ktp (NXT bt ktp (NXT bt ktp ks)))))) (6 * kl + 4) (nI kc)) (6 * kl + 5) (nI kc))), (nF, sA G 5 (FCT K))]) hC hK hl hP hD hS hA (m_need1X l G h0 nw nk mhasKept nt ktp nr mrowMany mroundOf mroundFrom mouts nm mfromHour mtoHour ns (NXT bt ktp (NXT bt ktp (NXT bt ktp (NXT bt ktp ks)))) 0 (nI kc) (nI kl) nl nc nF np ntr nb mbestCost nso nsi nit nsh nsf nss nrc mtraced mdealer mnumber mwhose msize misParted fnt bt (htp) (by omega) (hFB)) si_X12_236 [3, 4] [0, 1, 2] sm_3_4 fm_3_4 nd_3_4 sm_0_1_2 nd_0_1_2 dj_3_4__0_1_2 rfl rfl rfl rfl rfl (Nat.le_of_ble_eq_true rfl) rm_32_4_2 ⟨Nat.le_of_ble_eq_true rfl, Nat.le_of_ble_eq_true rfl⟩ gX12_lineAt_15.2.1 (fun u9699 H locs hr9698 hP hD hS => ?_)
                  refine Kpdr (ws := [(nc, iA G 100 fnc), (nl, iA G 54 (upd (upd (upd (upd (upd (upd (upd fnl (6 * kl) 2) (6 * kl + 1) (nI (NVL bt ktp (NXT bt ktp ks)))) (6 * kl + 2) (-9)) (6 * kl + 3) (-9)) (6 * kl + 2) (nI (NVL bt ktp (NXT bt ktp (NXT bt ktp (NXT bt ktp ks)))))) (6 * kl + 4) (nI kc)) (6 * kl + 5) (nI kc))), (nF, sA G 5 (FCT K)), (h0, oX12 nw nk mhasKept nt (nI ktp) nr mrowMany mroundOf mroundFrom mouts nm mfromHour mtoHour ns (nI (NXT bt ktp (NXT bt ktp (NXT bt ktp (NXT bt ktp (NXT bt ktp ks)))))) (nI (TKE bt ktp (NXT bt ktp (NXT bt ktp (NXT bt ktp (NXT bt ktp (NXT bt ktp ks))))))) (nI (TKN bt ktp (NXT bt ktp (NXT bt ktp (NXT bt ktp (NXT bt ktp (NXT bt ktp ks))))))) 0 0 (nI kc) (nI kl) nl nc nF np ntr nb mbestCost nso nsi nit nsh nsf nss nrc mtraced mdealer mnumber mwhose msize misParted), (nt, iA G 240 fnt)]) hP hD (fun hP hD => ?_)
                  have xn9700 := NXT.ge (bt := bt) (n := ktp) (s := (NXT bt ktp (NXT bt ktp (NXT bt ktp (NXT bt ktp ks))))) (by omega)
                  refine toQ hQ0 ?_
                  exact RV hC hP hD hS [3, 4, 0, 1, 2] (0, (NXT bt ktp (NXT bt ktp (NXT bt ktp (NXT bt ktp (NXT bt ktp ks))))), kc, fnc, upd (upd (upd (upd (upd (upd (upd fnl (6 * kl) 2) (6 * kl + 1) (nI (NVL bt ktp (NXT bt ktp ks)))) (6 * kl + 2) (-9)) (6 * kl + 3) (-9)) (6 * kl + 2) (nI (NVL bt ktp (NXT bt ktp (NXT bt ktp (NXT bt ktp ks)))))) (6 * kl + 4) (nI kc)) (6 * kl + 5) (nI kc), (2, (nI (NVL bt ktp (NXT bt ktp ks))), (nI (NVL bt ktp (NXT bt ktp (NXT bt ktp (NXT bt ktp ks))))), (-9), 0, cs.length, cs.length, rs.length, rs.length), cs, rs) rfl rfl (by decide) (Or.inl ⟨rfl, Or.inr ⟨2, SRT.y (k := 2) (by decide) hq9625, Or.inr ⟨(NXT bt ktp (NXT bt ktp (NXT bt ktp (NXT bt ktp ks)))), (nI (NVL bt ktp (NXT bt ktp ks))), (nI (NVL bt ktp (NXT bt ktp (NXT bt ktp (NXT bt ktp ks))))), (-9), HDQ.q3 hq9637 hq9641 hq9653, Or.inl ⟨(fun h9 => hq9693 h9.2), Or.inr ⟨hq9696, rfl⟩⟩⟩⟩, hST, (by rw [hs1]; exact ⟨fun j hj => (upd_ne (by omega)).trans ((upd_ne (by omega)).trans ((upd_ne (by omega)).trans ((upd_ne (by omega)).trans ((upd_ne (by omega)).trans ((upd_ne (by omega)).trans ((upd_ne (by omega)).trans (rfl))))))), (upd_ne (by omega)).trans ((upd_ne (by omega)).trans ((upd_ne (by omega)).trans ((upd_ne (by omega)).trans ((upd_ne (by omega)).trans ((upd_ne (by omega)).trans (upd_eq (by omega))))))), (upd_ne (by omega)).trans ((upd_ne (by omega)).trans ((upd_ne (by omega)).trans ((upd_ne (by omega)).trans ((upd_ne (by omega)).trans (upd_eq (by omega)))))), (upd_ne (by omega)).trans ((upd_ne (by omega)).trans (upd_eq (by omega))), (upd_ne (by omega)).trans ((upd_ne (by omega)).trans ((upd_ne (by omega)).trans (upd_eq (by omega)))), (upd_ne (by omega)).trans (upd_eq (by omega)), upd_eq (by omega), fun _ => rfl, fun h9 => absurd (show (0 : Nat) = 1 from h9) (by decide), Nat.zero_le _, (by (try dsimp only); omega)⟩), by (try dsimp only); omega, by (try dsimp only); omega⟩) gX12_lineAt_15.2.2
                · have hq9701 := a9695
                  refine vV (wr := [(nc, iA G 100 fnc), (nl, iA G 54 (upd (upd (upd (upd (upd (upd (upd fnl (6 * kl) 2) (6 * kl + 1) (nI (NVL bt ktp (NXT bt ktp ks)))) (6 * kl + 2) (-9)) (6 * kl + 3) (-9)) (6 * kl + 2) (nI (NVL bt ktp (NXT bt ktp (NXT bt ktp (NXT bt ktp ks)))))) (6 * kl + 4) (nI kc)) (6 * kl + 5) (nI kc))), (nF, sA G 5 (FCT K)), (nt, iA G 240 fnt)]) hC hK hl hP hD hS hA (m_need0 l G h0 nw nk mhasKept nt (nI ktp) nr mrowMany mroundOf mroundFrom mouts nm mfromHour mtoHour ns (nI (NXT bt ktp (NXT bt ktp (NXT bt ktp (NXT bt ktp ks))))) (nI (TKE bt ktp (NXT bt ktp (NXT bt ktp (NXT bt ktp (NXT bt ktp ks)))))) (nI (TKN bt ktp (NXT bt ktp (NXT bt ktp (NXT bt ktp (NXT bt ktp ks)))))) 0 (nI kc) (nI kl) nl nc nF np ntr nb mbestCost nso nsi nit nsh nsf nss nrc mtraced mdealer mnumber mwhose msize misParted) si_X12_236 [3] [0, 1, 2, 4] sm_3 fm_3 nd_3 sm_0_1_2_4 nd_0_1_2_4 dj_3__0_1_2_4 rfl rfl rfl rfl rfl (Nat.le_of_ble_eq_true rfl) rm_32_4_2 ⟨Nat.le_of_ble_eq_true rfl, Nat.le_of_ble_eq_true rfl⟩ gX12_lineAt_15.2.1 (fun u9703 H locs hr9702 hP hD hS => ?_)
                  refine Kpdr (ws := [(nc, iA G 100 fnc), (nl, iA G 54 (upd (upd (upd (upd (upd (upd (upd fnl (6 * kl) 2) (6 * kl + 1) (nI (NVL bt ktp (NXT bt ktp ks)))) (6 * kl + 2) (-9)) (6 * kl + 3) (-9)) (6 * kl + 2) (nI (NVL bt ktp (NXT bt ktp (NXT bt ktp (NXT bt ktp ks)))))) (6 * kl + 4) (nI kc)) (6 * kl + 5) (nI kc))), (nF, sA G 5 (FCT K)), (nt, iA G 240 fnt), (h0, oX12 nw nk mhasKept nt (nI ktp) nr mrowMany mroundOf mroundFrom mouts nm mfromHour mtoHour ns (nI (NXT bt ktp (NXT bt ktp (NXT bt ktp (NXT bt ktp ks))))) (nI (TKE bt ktp (NXT bt ktp (NXT bt ktp (NXT bt ktp (NXT bt ktp ks)))))) (nI (TKN bt ktp (NXT bt ktp (NXT bt ktp (NXT bt ktp (NXT bt ktp ks)))))) 1 0 (nI kc) (nI kl) nl nc nF np ntr nb mbestCost nso nsi nit nsh nsf nss nrc mtraced mdealer mnumber mwhose msize misParted)]) hP hD (fun hP hD => ?_)
                  refine toQ hQ0 ?_
                  exact RV hC hP hD hS [4, 3, 0, 1, 2] (1, (NXT bt ktp (NXT bt ktp (NXT bt ktp (NXT bt ktp ks)))), kc, fnc, upd (upd (upd (upd (upd (upd (upd fnl (6 * kl) 2) (6 * kl + 1) (nI (NVL bt ktp (NXT bt ktp ks)))) (6 * kl + 2) (-9)) (6 * kl + 3) (-9)) (6 * kl + 2) (nI (NVL bt ktp (NXT bt ktp (NXT bt ktp (NXT bt ktp ks)))))) (6 * kl + 4) (nI kc)) (6 * kl + 5) (nI kc), LN0, [], []) rfl rfl (by decide) (Or.inr ⟨rfl, Or.inr ⟨2, SRT.y (k := 2) (by decide) hq9625, Or.inr ⟨(NXT bt ktp (NXT bt ktp (NXT bt ktp (NXT bt ktp ks)))), (nI (NVL bt ktp (NXT bt ktp ks))), (nI (NVL bt ktp (NXT bt ktp (NXT bt ktp (NXT bt ktp ks))))), (-9), HDQ.q3 hq9637 hq9641 hq9653, Or.inl ⟨(fun h9 => hq9693 h9.2), Or.inl ⟨hq9701, rfl⟩⟩⟩⟩, by (try dsimp only); omega⟩) gX12_lineAt_15.2.2
            · obtain ⟨rfl, rfl, hq9704⟩ := v9652
              refine astN hC hK hP hD hS 1 (ws' := [(nc, iA G 100 fnc), (nl, iA G 54 (upd (upd (upd (upd (upd fnl (6 * kl) 2) (6 * kl + 1) (nI (NVL bt ktp (NXT bt ktp ks)))) (6 * kl + 2) (-9)) (6 * kl + 3) (-9)) (6 * kl + 2) r9646)), (nF, sA G 5 (FCT K)), (h0, oX12 nw nk mhasKept nt (nI ktp) nr mrowMany mroundOf mroundFrom mouts nm mfromHour mtoHour ns (nI (NXT bt ktp (NXT bt ktp (NXT bt ktp ks)))) (nI (TKE bt ktp (NXT bt ktp (NXT bt ktp (NXT bt ktp ks))))) (nI (TKN bt ktp (NXT bt ktp (NXT bt ktp (NXT bt ktp ks))))) 1 0 (nI kc) (nI kl) nl nc nF np ntr nb mbestCost nso nsi nit nsh nsf nss nrc mtraced mdealer mnumber mwhose msize misParted), (nt, iA G 240 fnt)]) rfl (k := (6 * kl + 2)) (by omega) (Nat.le_of_ble_eq_true rfl) (rfl) gX12_lineAt_11.2.2.2.2.2.2.2.2.2 (fun H locs hP hD hS => ?_)
              refine lv_aload_n hx hb gX12_lineAt_12.1 rfl (lv_at1 hl) ?_
              refine gf_X12_32 hC rfl hK hP 3 rfl rfl gX12_lineAt_12.2.1 ?_
              refine lv_iload_n hx hb gX12_lineAt_12.2.2.1 rfl (lv_at2 hl) ?_
              refine lv_iconst (v := 4) hx hb gX12_lineAt_12.2.2.2.1 (by decide) ?_
              refine lv_iadd hx hb gX12_lineAt_12.2.2.2.2.1 ?_
              refine eqi (x1 := nI (6 * kl + 4)) (nI_add (6 * kl) 4) ?_
              refine lv_aload_n hx hb gX12_lineAt_12.2.2.2.2.2.1 rfl (lv_at1 hl) ?_
              refine gf_X12_240 hC rfl hK hP 3 rfl rfl gX12_lineAt_12.2.2.2.2.2.2.1 ?_
              refine astN hC hK hP hD hS 1 (ws' := [(nc, iA G 100 fnc), (nl, iA G 54 (upd (upd (upd (upd (upd (upd fnl (6 * kl) 2) (6 * kl + 1) (nI (NVL bt ktp (NXT bt ktp ks)))) (6 * kl + 2) (-9)) (6 * kl + 3) (-9)) (6 * kl + 2) r9646) (6 * kl + 4) (nI kc))), (nF, sA G 5 (FCT K)), (h0, oX12 nw nk mhasKept nt (nI ktp) nr mrowMany mroundOf mroundFrom mouts nm mfromHour mtoHour ns (nI (NXT bt ktp (NXT bt ktp (NXT bt ktp ks)))) (nI (TKE bt ktp (NXT bt ktp (NXT bt ktp (NXT bt ktp ks))))) (nI (TKN bt ktp (NXT bt ktp (NXT bt ktp (NXT bt ktp ks))))) 1 0 (nI kc) (nI kl) nl nc nF np ntr nb mbestCost nso nsi nit nsh nsf nss nrc mtraced mdealer mnumber mwhose msize misParted), (nt, iA G 240 fnt)]) rfl (k := (6 * kl + 4)) (by omega) (Nat.le_of_ble_eq_true rfl) (rfl) gX12_lineAt_12.2.2.2.2.2.2.2.1 (fun H locs hP hD hS => ?_)
              refine lv_iload_n hx hb gX12_lineAt_12.2.2.2.2.2.2.2.2.1 rfl (lv_at0 hl) ?_
              refine lv_iconst (v := 3) hx hb gX12_lineAt_12.2.2.2.2.2.2.2.2.2 (by decide) ?_
              refine lv_icmp_eq (tgt := 256) hx hb gX12_lineAt_13.1 (by decide) (fun c9 => absurd c9 (by decide)) (fun _ => ?_)
              refine lv_aload_n hx hb gX12_lineAt_13.2.1 rfl (lv_at1 hl) ?_
              refine va_ldcSw (index := 287) (tx := "if") hx hb hown (hO.2.2 0 (by decide)) gX12_lineAt_13.2.2.1 ?_
              refine pVo hO hS hC hK hl hP hD (m_isNameF l G K 0 h0 nw nk mhasKept nt (nI ktp) nr mrowMany mroundOf mroundFrom mouts nm mfromHour mtoHour ns (nI (NXT bt ktp (NXT bt ktp (NXT bt ktp ks)))) (nI (TKE bt ktp (NXT bt ktp (NXT bt ktp (NXT bt ktp ks))))) (nI (TKN bt ktp (NXT bt ktp (NXT bt ktp (NXT bt ktp ks))))) 0 (nI kc) (nI kl) nl nc nF np ntr nb mbestCost nso nsi nit nsh nsf nss nrc mtraced mdealer mnumber mwhose msize misParted ((by decide))) si_X12_248 [3] sm_3 fm_3 nd_3 rfl rfl rfl rfl rfl (Nat.le_of_ble_eq_true rfl) rm_32_5_4 ⟨by first | exact Nat.le_of_ble_eq_true rfl | exact Nat.zero_le _, by first | exact Nat.le_of_ble_eq_true rfl | exact Nat.zero_le _⟩ gX12_lineAt_13.2.2.2.1 (Keqr ?_)
              refine lv_if_eq (tgt := 256) hx hb gX12_lineAt_13.2.2.2.2.1 (by decide) (fun _ => ?_) (fun c9 => absurd (by decide) c9)
              refine lv_aload_n hx hb gX12_lineAt_13.2.2.2.2.2.2.2.2.2 rfl (lv_at1 hl) ?_
              refine gf_X12_32 hC rfl hK hP 3 rfl rfl gX12_lineAt_14.1 ?_
              refine lv_iload_n hx hb gX12_lineAt_14.2.1 rfl (lv_at2 hl) ?_
              refine lv_iconst (v := 5) hx hb gX12_lineAt_14.2.2.1 (by decide) ?_
              refine lv_iadd hx hb gX12_lineAt_14.2.2.2.1 ?_
              refine eqi (x1 := nI (6 * kl + 5)) (nI_add (6 * kl) 5) ?_
              refine lv_aload_n hx hb gX12_lineAt_14.2.2.2.2.1 rfl (lv_at1 hl) ?_
              refine gf_X12_240 hC rfl hK hP 3 rfl rfl gX12_lineAt_14.2.2.2.2.2.1 ?_
              refine astN hC hK hP hD hS 1 (ws' := [(nc, iA G 100 fnc), (nl, iA G 54 (upd (upd (upd (upd (upd (upd (upd fnl (6 * kl) 2) (6 * kl + 1) (nI (NVL bt ktp (NXT bt ktp ks)))) (6 * kl + 2) (-9)) (6 * kl + 3) (-9)) (6 * kl + 2) r9646) (6 * kl + 4) (nI kc)) (6 * kl + 5) (nI kc))), (nF, sA G 5 (FCT K)), (h0, oX12 nw nk mhasKept nt (nI ktp) nr mrowMany mroundOf mroundFrom mouts nm mfromHour mtoHour ns (nI (NXT bt ktp (NXT bt ktp (NXT bt ktp ks)))) (nI (TKE bt ktp (NXT bt ktp (NXT bt ktp (NXT bt ktp ks))))) (nI (TKN bt ktp (NXT bt ktp (NXT bt ktp (NXT bt ktp ks))))) 1 0 (nI kc) (nI kl) nl nc nF np ntr nb mbestCost nso nsi nit nsh nsf nss nrc mtraced mdealer mnumber mwhose msize misParted), (nt, iA G 240 fnt)]) rfl (k := (6 * kl + 5)) (by omega) (Nat.le_of_ble_eq_true rfl) (rfl) gX12_lineAt_14.2.2.2.2.2.2.1 (fun H locs hP hD hS => ?_)
              refine lv_aload_n hx hb gX12_lineAt_14.2.2.2.2.2.2.2.1 rfl (lv_at1 hl) ?_
              refine lv_aload_n hx hb gX12_lineAt_14.2.2.2.2.2.2.2.2.1 rfl (lv_at1 hl) ?_
              refine lv_bipush (v := 59) hx hb gX12_lineAt_14.2.2.2.2.2.2.2.2.2 (by decide) ?_
              refine pV hC hK hl hP hD (m_isSignF l G h0 59 nw nk mhasKept nt (nI ktp) nr mrowMany mroundOf mroundFrom mouts nm mfromHour mtoHour ns (nI (NXT bt ktp (NXT bt ktp (NXT bt ktp ks)))) (nI (TKE bt ktp (NXT bt ktp (NXT bt ktp (NXT bt ktp ks))))) (nI (TKN bt ktp (NXT bt ktp (NXT bt ktp (NXT bt ktp ks))))) 0 (nI kc) (nI kl) nl nc nF np ntr nb mbestCost nso nsi nit nsh nsf nss nrc mtraced mdealer mnumber mwhose msize misParted) si_X12_262 [3] sm_3 fm_3 nd_3 rfl rfl rfl rfl rfl (Nat.le_of_ble_eq_true rfl) rm_32_1_2 ⟨by first | exact Nat.le_of_ble_eq_true rfl | exact Nat.zero_le _, by first | exact Nat.le_of_ble_eq_true rfl | exact Nat.zero_le _⟩ gX12_lineAt_15.1 (Keqr ?_)
              refine vV (wr := [(nc, iA G 100 fnc), (nl, iA G 54 (upd (upd (upd (upd (upd (upd (upd fnl (6 * kl) 2) (6 * kl + 1) (nI (NVL bt ktp (NXT bt ktp ks)))) (6 * kl + 2) (-9)) (6 * kl + 3) (-9)) (6 * kl + 2) r9646) (6 * kl + 4) (nI kc)) (6 * kl + 5) (nI kc))), (nF, sA G 5 (FCT K)), (nt, iA G 240 fnt)]) hC hK hl hP hD hS hA (m_needF l G h0 0 nw nk mhasKept nt (nI ktp) nr mrowMany mroundOf mroundFrom mouts nm mfromHour mtoHour ns (nI (NXT bt ktp (NXT bt ktp (NXT bt ktp ks)))) (nI (TKE bt ktp (NXT bt ktp (NXT bt ktp (NXT bt ktp ks))))) (nI (TKN bt ktp (NXT bt ktp (NXT bt ktp (NXT bt ktp ks))))) 0 (nI kc) (nI kl) nl nc nF np ntr nb mbestCost nso nsi nit nsh nsf nss nrc mtraced mdealer mnumber mwhose msize misParted) si_X12_236 [3] [0, 1, 2, 4] sm_3 fm_3 nd_3 sm_0_1_2_4 nd_0_1_2_4 dj_3__0_1_2_4 rfl rfl rfl rfl rfl (Nat.le_of_ble_eq_true rfl) rm_32_4_2 ⟨Nat.le_of_ble_eq_true rfl, Nat.le_of_ble_eq_true rfl⟩ gX12_lineAt_15.2.1 (fun u9710 H locs hr9709 hP hD hS => ?_)
              refine Kpdr (ws := [(nc, iA G 100 fnc), (nl, iA G 54 (upd (upd (upd (upd (upd (upd (upd fnl (6 * kl) 2) (6 * kl + 1) (nI (NVL bt ktp (NXT bt ktp ks)))) (6 * kl + 2) (-9)) (6 * kl + 3) (-9)) (6 * kl + 2) r9646) (6 * kl + 4) (nI kc)) (6 * kl + 5) (nI kc))), (nF, sA G 5 (FCT K)), (nt, iA G 240 fnt), (h0, oX12 nw nk mhasKept nt (nI ktp) nr mrowMany mroundOf mroundFrom mouts nm mfromHour mtoHour ns (nI (NXT bt ktp (NXT bt ktp (NXT bt ktp ks)))) (nI (TKE bt ktp (NXT bt ktp (NXT bt ktp (NXT bt ktp ks))))) (nI (TKN bt ktp (NXT bt ktp (NXT bt ktp (NXT bt ktp ks))))) 1 0 (nI kc) (nI kl) nl nc nF np ntr nb mbestCost nso nsi nit nsh nsf nss nrc mtraced mdealer mnumber mwhose msize misParted)]) hP hD (fun hP hD => ?_)
              refine toQ hQ0 ?_
              exact RV hC hP hD hS [4, 3, 0, 1, 2] (1, (NXT bt ktp (NXT bt ktp (NXT bt ktp ks))), kc, fnc, upd (upd (upd (upd (upd (upd (upd fnl (6 * kl) 2) (6 * kl + 1) (nI (NVL bt ktp (NXT bt ktp ks)))) (6 * kl + 2) (-9)) (6 * kl + 3) (-9)) (6 * kl + 2) r9646) (6 * kl + 4) (nI kc)) (6 * kl + 5) (nI kc), LN0, [], []) rfl rfl (by decide) (Or.inr ⟨rfl, Or.inr ⟨2, SRT.y (k := 2) (by decide) hq9625, Or.inl ⟨_, HDQ.q2 hq9637 hq9641 hq9704, rfl⟩⟩, by (try dsimp only); omega⟩) gX12_lineAt_15.2.2
          · have hq9711 := a9640
            refine vV (wr := [(nc, iA G 100 fnc), (nl, iA G 54 (upd (upd (upd (upd fnl (6 * kl) 2) (6 * kl + 1) (nI (NVL bt ktp (NXT bt ktp ks)))) (6 * kl + 2) (-9)) (6 * kl + 3) (-9))), (nF, sA G 5 (FCT K)), (nt, iA G 240 fnt)]) hC hK hl hP hD hS hA (m_need0 l G h0 nw nk mhasKept nt (nI ktp) nr mrowMany mroundOf mroundFrom mouts nm mfromHour mtoHour ns (nI (NXT bt ktp (NXT bt ktp ks))) (nI (TKE bt ktp (NXT bt ktp (NXT bt ktp ks)))) (nI (TKN bt ktp (NXT bt ktp (NXT bt ktp ks)))) 0 (nI kc) (nI kl) nl nc nF np ntr nb mbestCost nso nsi nit nsh nsf nss nrc mtraced mdealer mnumber mwhose msize misParted) si_X12_236 [3] [0, 1, 2, 4] sm_3 fm_3 nd_3 sm_0_1_2_4 nd_0_1_2_4 dj_3__0_1_2_4 rfl rfl rfl rfl rfl (Nat.le_of_ble_eq_true rfl) rm_32_4_2 ⟨Nat.le_of_ble_eq_true rfl, Nat.le_of_ble_eq_true rfl⟩ gX12_lineAt_11.1 (fun u9713 H locs hr9712 hP hD hS => ?_)
            refine Kpdr (ws := [(nc, iA G 100 fnc), (nl, iA G 54 (upd (upd (upd (upd fnl (6 * kl) 2) (6 * kl + 1) (nI (NVL bt ktp (NXT bt ktp ks)))) (6 * kl + 2) (-9)) (6 * kl + 3) (-9))), (nF, sA G 5 (FCT K)), (nt, iA G 240 fnt), (h0, oX12 nw nk mhasKept nt (nI ktp) nr mrowMany mroundOf mroundFrom mouts nm mfromHour mtoHour ns (nI (NXT bt ktp (NXT bt ktp ks))) (nI (TKE bt ktp (NXT bt ktp (NXT bt ktp ks)))) (nI (TKN bt ktp (NXT bt ktp (NXT bt ktp ks)))) 1 0 (nI kc) (nI kl) nl nc nF np ntr nb mbestCost nso nsi nit nsh nsf nss nrc mtraced mdealer mnumber mwhose msize misParted)]) hP hD (fun hP hD => ?_)
            refine lv_aload_n hx hb gX12_lineAt_11.2.1 rfl (lv_at1 hl) ?_
            refine gf_X12_32 hC rfl hK hP 4 rfl rfl gX12_lineAt_11.2.2.1 ?_
            refine lv_iload_n hx hb gX12_lineAt_11.2.2.2.1 rfl (lv_at2 hl) ?_
            refine lv_iconst (v := 2) hx hb gX12_lineAt_11.2.2.2.2.1 (by decide) ?_
            refine lv_iadd hx hb gX12_lineAt_11.2.2.2.2.2.1 ?_
            refine eqi (x1 := nI (6 * kl + 2)) (nI_add (6 * kl) 2) ?_
            refine lv_aload_n hx hb gX12_lineAt_11.2.2.2.2.2.2.1 rfl (lv_at1 hl) ?_
            refine lv_sipush (v := 999) hx hb gX12_lineAt_11.2.2.2.2.2.2.2.1 (by decide) ?_
            refine iV (wr := [(nc, iA G 100 fnc), (nl, iA G 54 (upd (upd (upd (upd fnl (6 * kl) 2) (6 * kl + 1) (nI (NVL bt ktp (NXT bt ktp ks)))) (6 * kl + 2) (-9)) (6 * kl + 3) (-9))), (nF, sA G 5 (FCT K)), (nt, iA G 240 fnt)]) hC hK hl hP hD hS hA (m_numberF l G h0 999 nw nk mhasKept nt (nI ktp) nr mrowMany mroundOf mroundFrom mouts nm mfromHour mtoHour ns (nI (NXT bt ktp (NXT bt ktp ks))) (nI (TKE bt ktp (NXT bt ktp (NXT bt ktp ks)))) (nI (TKN bt ktp (NXT bt ktp (NXT bt ktp ks)))) 0 (nI kc) (nI kl) nl nc nF np ntr nb mbestCost nso nsi nit nsh nsf nss nrc mtraced mdealer mnumber mwhose msize misParted) si_X12_271 [4] [0, 1, 2, 3] sm_4 fm_4 nd_4 sm_0_1_2_3 nd_0_1_2_3 dj_4__0_1_2_3 rfl rfl rfl rfl rfl (Nat.le_of_ble_eq_true rfl) rm_32_5_5 ⟨Nat.le_of_ble_eq_true rfl, Nat.le_of_ble_eq_true rfl⟩ gX12_lineAt_11.2.2.2.2.2.2.2.2.1 (fun r9714 u9715 H locs hr9714 hP hD hS => ?_)
            refine Kpdr (ws := [(nc, iA G 100 fnc), (nl, iA G 54 (upd (upd (upd (upd fnl (6 * kl) 2) (6 * kl + 1) (nI (NVL bt ktp (NXT bt ktp ks)))) (6 * kl + 2) (-9)) (6 * kl + 3) (-9))), (nF, sA G 5 (FCT K)), (nt, iA G 240 fnt), (h0, oX12 nw nk mhasKept nt (nI ktp) nr mrowMany mroundOf mroundFrom mouts nm mfromHour mtoHour ns (nI (NXT bt ktp (NXT bt ktp ks))) (nI (TKE bt ktp (NXT bt ktp (NXT bt ktp ks)))) (nI (TKN bt ktp (NXT bt ktp (NXT bt ktp ks)))) 1 0 (nI kc) (nI kl) nl nc nF np ntr nb mbestCost nso nsi nit nsh nsf nss nrc mtraced mdealer mnumber mwhose msize misParted)]) hP hD (fun hP hD => ?_)
            obtain rfl := hr9714
            refine astN hC hK hP hD hS 1 (ws' := [(nc, iA G 100 fnc), (nl, iA G 54 (upd (upd (upd (upd (upd fnl (6 * kl) 2) (6 * kl + 1) (nI (NVL bt ktp (NXT bt ktp ks)))) (6 * kl + 2) (-9)) (6 * kl + 3) (-9)) (6 * kl + 2) 0)), (nF, sA G 5 (FCT K)), (nt, iA G 240 fnt), (h0, oX12 nw nk mhasKept nt (nI ktp) nr mrowMany mroundOf mroundFrom mouts nm mfromHour mtoHour ns (nI (NXT bt ktp (NXT bt ktp ks))) (nI (TKE bt ktp (NXT bt ktp (NXT bt ktp ks)))) (nI (TKN bt ktp (NXT bt ktp (NXT bt ktp ks)))) 1 0 (nI kc) (nI kl) nl nc nF np ntr nb mbestCost nso nsi nit nsh nsf nss nrc mtraced mdealer mnumber mwhose msize misParted)]) rfl (k := (6 * kl + 2)) (by omega) (Nat.le_of_ble_eq_true rfl) (rfl) gX12_lineAt_11.2.2.2.2.2.2.2.2.2 (fun H locs hP hD hS => ?_)
            refine lv_aload_n hx hb gX12_lineAt_12.1 rfl (lv_at1 hl) ?_
            refine gf_X12_32 hC rfl hK hP 4 rfl rfl gX12_lineAt_12.2.1 ?_
            refine lv_iload_n hx hb gX12_lineAt_12.2.2.1 rfl (lv_at2 hl) ?_
            refine lv_iconst (v := 4) hx hb gX12_lineAt_12.2.2.2.1 (by decide) ?_
            refine lv_iadd hx hb gX12_lineAt_12.2.2.2.2.1 ?_
            refine eqi (x1 := nI (6 * kl + 4)) (nI_add (6 * kl) 4) ?_
            refine lv_aload_n hx hb gX12_lineAt_12.2.2.2.2.2.1 rfl (lv_at1 hl) ?_
            refine gf_X12_240 hC rfl hK hP 4 rfl rfl gX12_lineAt_12.2.2.2.2.2.2.1 ?_
            refine astN hC hK hP hD hS 1 (ws' := [(nc, iA G 100 fnc), (nl, iA G 54 (upd (upd (upd (upd (upd (upd fnl (6 * kl) 2) (6 * kl + 1) (nI (NVL bt ktp (NXT bt ktp ks)))) (6 * kl + 2) (-9)) (6 * kl + 3) (-9)) (6 * kl + 2) 0) (6 * kl + 4) (nI kc))), (nF, sA G 5 (FCT K)), (nt, iA G 240 fnt), (h0, oX12 nw nk mhasKept nt (nI ktp) nr mrowMany mroundOf mroundFrom mouts nm mfromHour mtoHour ns (nI (NXT bt ktp (NXT bt ktp ks))) (nI (TKE bt ktp (NXT bt ktp (NXT bt ktp ks)))) (nI (TKN bt ktp (NXT bt ktp (NXT bt ktp ks)))) 1 0 (nI kc) (nI kl) nl nc nF np ntr nb mbestCost nso nsi nit nsh nsf nss nrc mtraced mdealer mnumber mwhose msize misParted)]) rfl (k := (6 * kl + 4)) (by omega) (Nat.le_of_ble_eq_true rfl) (rfl) gX12_lineAt_12.2.2.2.2.2.2.2.1 (fun H locs hP hD hS => ?_)
            refine lv_iload_n hx hb gX12_lineAt_12.2.2.2.2.2.2.2.2.1 rfl (lv_at0 hl) ?_
            refine lv_iconst (v := 3) hx hb gX12_lineAt_12.2.2.2.2.2.2.2.2.2 (by decide) ?_
            refine lv_icmp_eq (tgt := 256) hx hb gX12_lineAt_13.1 (by decide) (fun c9 => absurd c9 (by decide)) (fun _ => ?_)
            refine lv_aload_n hx hb gX12_lineAt_13.2.1 rfl (lv_at1 hl) ?_
            refine va_ldcSw (index := 287) (tx := "if") hx hb hown (hO.2.2 0 (by decide)) gX12_lineAt_13.2.2.1 ?_
            refine pVo hO hS hC hK hl hP hD (m_isNameF l G K 0 h0 nw nk mhasKept nt (nI ktp) nr mrowMany mroundOf mroundFrom mouts nm mfromHour mtoHour ns (nI (NXT bt ktp (NXT bt ktp ks))) (nI (TKE bt ktp (NXT bt ktp (NXT bt ktp ks)))) (nI (TKN bt ktp (NXT bt ktp (NXT bt ktp ks)))) 0 (nI kc) (nI kl) nl nc nF np ntr nb mbestCost nso nsi nit nsh nsf nss nrc mtraced mdealer mnumber mwhose msize misParted ((by decide))) si_X12_248 [4] sm_4 fm_4 nd_4 rfl rfl rfl rfl rfl (Nat.le_of_ble_eq_true rfl) rm_32_5_4 ⟨by first | exact Nat.le_of_ble_eq_true rfl | exact Nat.zero_le _, by first | exact Nat.le_of_ble_eq_true rfl | exact Nat.zero_le _⟩ gX12_lineAt_13.2.2.2.1 (Keqr ?_)
            refine lv_if_eq (tgt := 256) hx hb gX12_lineAt_13.2.2.2.2.1 (by decide) (fun _ => ?_) (fun c9 => absurd (by decide) c9)
            refine lv_aload_n hx hb gX12_lineAt_13.2.2.2.2.2.2.2.2.2 rfl (lv_at1 hl) ?_
            refine gf_X12_32 hC rfl hK hP 4 rfl rfl gX12_lineAt_14.1 ?_
            refine lv_iload_n hx hb gX12_lineAt_14.2.1 rfl (lv_at2 hl) ?_
            refine lv_iconst (v := 5) hx hb gX12_lineAt_14.2.2.1 (by decide) ?_
            refine lv_iadd hx hb gX12_lineAt_14.2.2.2.1 ?_
            refine eqi (x1 := nI (6 * kl + 5)) (nI_add (6 * kl) 5) ?_
            refine lv_aload_n hx hb gX12_lineAt_14.2.2.2.2.1 rfl (lv_at1 hl) ?_
            refine gf_X12_240 hC rfl hK hP 4 rfl rfl gX12_lineAt_14.2.2.2.2.2.1 ?_
            refine astN hC hK hP hD hS 1 (ws' := [(nc, iA G 100 fnc), (nl, iA G 54 (upd (upd (upd (upd (upd (upd (upd fnl (6 * kl) 2) (6 * kl + 1) (nI (NVL bt ktp (NXT bt ktp ks)))) (6 * kl + 2) (-9)) (6 * kl + 3) (-9)) (6 * kl + 2) 0) (6 * kl + 4) (nI kc)) (6 * kl + 5) (nI kc))), (nF, sA G 5 (FCT K)), (nt, iA G 240 fnt), (h0, oX12 nw nk mhasKept nt (nI ktp) nr mrowMany mroundOf mroundFrom mouts nm mfromHour mtoHour ns (nI (NXT bt ktp (NXT bt ktp ks))) (nI (TKE bt ktp (NXT bt ktp (NXT bt ktp ks)))) (nI (TKN bt ktp (NXT bt ktp (NXT bt ktp ks)))) 1 0 (nI kc) (nI kl) nl nc nF np ntr nb mbestCost nso nsi nit nsh nsf nss nrc mtraced mdealer mnumber mwhose msize misParted)]) rfl (k := (6 * kl + 5)) (by omega) (Nat.le_of_ble_eq_true rfl) (rfl) gX12_lineAt_14.2.2.2.2.2.2.1 (fun H locs hP hD hS => ?_)
            refine lv_aload_n hx hb gX12_lineAt_14.2.2.2.2.2.2.2.1 rfl (lv_at1 hl) ?_
            refine lv_aload_n hx hb gX12_lineAt_14.2.2.2.2.2.2.2.2.1 rfl (lv_at1 hl) ?_
            refine lv_bipush (v := 59) hx hb gX12_lineAt_14.2.2.2.2.2.2.2.2.2 (by decide) ?_
            refine pV hC hK hl hP hD (m_isSignF l G h0 59 nw nk mhasKept nt (nI ktp) nr mrowMany mroundOf mroundFrom mouts nm mfromHour mtoHour ns (nI (NXT bt ktp (NXT bt ktp ks))) (nI (TKE bt ktp (NXT bt ktp (NXT bt ktp ks)))) (nI (TKN bt ktp (NXT bt ktp (NXT bt ktp ks)))) 0 (nI kc) (nI kl) nl nc nF np ntr nb mbestCost nso nsi nit nsh nsf nss nrc mtraced mdealer mnumber mwhose msize misParted) si_X12_262 [4] sm_4 fm_4 nd_4 rfl rfl rfl rfl rfl (Nat.le_of_ble_eq_true rfl) rm_32_1_2 ⟨by first | exact Nat.le_of_ble_eq_true rfl | exact Nat.zero_le _, by first | exact Nat.le_of_ble_eq_true rfl | exact Nat.zero_le _⟩ gX12_lineAt_15.1 (Keqr ?_)
            refine vV (wr := [(nc, iA G 100 fnc), (nl, iA G 54 (upd (upd (upd (upd (upd (upd (upd fnl (6 * kl) 2) (6 * kl + 1) (nI (NVL bt ktp (NXT bt ktp ks)))) (6 * kl + 2) (-9)) (6 * kl + 3) (-9)) (6 * kl + 2) 0) (6 * kl + 4) (nI kc)) (6 * kl + 5) (nI kc))), (nF, sA G 5 (FCT K)), (nt, iA G 240 fnt)]) hC hK hl hP hD hS hA (m_needF l G h0 0 nw nk mhasKept nt (nI ktp) nr mrowMany mroundOf mroundFrom mouts nm mfromHour mtoHour ns (nI (NXT bt ktp (NXT bt ktp ks))) (nI (TKE bt ktp (NXT bt ktp (NXT bt ktp ks)))) (nI (TKN bt ktp (NXT bt ktp (NXT bt ktp ks)))) 0 (nI kc) (nI kl) nl nc nF np ntr nb mbestCost nso nsi nit nsh nsf nss nrc mtraced mdealer mnumber mwhose msize misParted) si_X12_236 [4] [0, 1, 2, 3] sm_4 fm_4 nd_4 sm_0_1_2_3 nd_0_1_2_3 dj_4__0_1_2_3 rfl rfl rfl rfl rfl (Nat.le_of_ble_eq_true rfl) rm_32_4_2 ⟨Nat.le_of_ble_eq_true rfl, Nat.le_of_ble_eq_true rfl⟩ gX12_lineAt_15.2.1 (fun u9722 H locs hr9721 hP hD hS => ?_)
            refine Kpdr (ws := [(nc, iA G 100 fnc), (nl, iA G 54 (upd (upd (upd (upd (upd (upd (upd fnl (6 * kl) 2) (6 * kl + 1) (nI (NVL bt ktp (NXT bt ktp ks)))) (6 * kl + 2) (-9)) (6 * kl + 3) (-9)) (6 * kl + 2) 0) (6 * kl + 4) (nI kc)) (6 * kl + 5) (nI kc))), (nF, sA G 5 (FCT K)), (nt, iA G 240 fnt), (h0, oX12 nw nk mhasKept nt (nI ktp) nr mrowMany mroundOf mroundFrom mouts nm mfromHour mtoHour ns (nI (NXT bt ktp (NXT bt ktp ks))) (nI (TKE bt ktp (NXT bt ktp (NXT bt ktp ks)))) (nI (TKN bt ktp (NXT bt ktp (NXT bt ktp ks)))) 1 0 (nI kc) (nI kl) nl nc nF np ntr nb mbestCost nso nsi nit nsh nsf nss nrc mtraced mdealer mnumber mwhose msize misParted)]) hP hD (fun hP hD => ?_)
            refine toQ hQ0 ?_
            exact RV hC hP hD hS [4, 3, 0, 1, 2] (1, (NXT bt ktp (NXT bt ktp ks)), kc, fnc, upd (upd (upd (upd (upd (upd (upd fnl (6 * kl) 2) (6 * kl + 1) (nI (NVL bt ktp (NXT bt ktp ks)))) (6 * kl + 2) (-9)) (6 * kl + 3) (-9)) (6 * kl + 2) 0) (6 * kl + 4) (nI kc)) (6 * kl + 5) (nI kc), LN0, [], []) rfl rfl (by decide) (Or.inr ⟨rfl, Or.inr ⟨2, SRT.y (k := 2) (by decide) hq9625, Or.inl ⟨_, HDQ.q1 hq9637 hq9711, rfl⟩⟩, by (try dsimp only); omega⟩) gX12_lineAt_15.2.2
        · obtain ⟨rfl, rfl, hq9723⟩ := v9636
          refine astN hC hK hP hD hS 1 (ws' := [(nc, iA G 100 fnc), (nl, iA G 54 (upd (upd fnl (6 * kl) 2) (6 * kl + 1) r9630)), (nF, sA G 5 (FCT K)), (h0, oX12 nw nk mhasKept nt (nI ktp) nr mrowMany mroundOf mroundFrom mouts nm mfromHour mtoHour ns (nI (NXT bt ktp ks)) (nI (TKE bt ktp (NXT bt ktp ks))) (nI (TKN bt ktp (NXT bt ktp ks))) 1 0 (nI kc) (nI kl) nl nc nF np ntr nb mbestCost nso nsi nit nsh nsf nss nrc mtraced mdealer mnumber mwhose msize misParted), (nt, iA G 240 fnt)]) rfl (k := (6 * kl + 1)) (by omega) (Nat.le_of_ble_eq_true rfl) (rfl) gX12_lineAt_5.2.2.2.2.2.2.2.2.1 (fun H locs hP hD hS => ?_)
          refine lv_aload_n hx hb gX12_lineAt_5.2.2.2.2.2.2.2.2.2 rfl (lv_at1 hl) ?_
          refine gf_X12_32 hC rfl hK hP 3 rfl rfl gX12_lineAt_6.1 ?_
          refine lv_iload_n hx hb gX12_lineAt_6.2.1 rfl (lv_at2 hl) ?_
          refine lv_iconst (v := 2) hx hb gX12_lineAt_6.2.2.1 (by decide) ?_
          refine lv_iadd hx hb gX12_lineAt_6.2.2.2.1 ?_
          refine eqi (x1 := nI (6 * kl + 2)) (nI_add (6 * kl) 2) ?_
          refine lv_bipush (v := (-9)) hx hb gX12_lineAt_6.2.2.2.2.1 (by decide) ?_
          refine astN hC hK hP hD hS 1 (ws' := [(nc, iA G 100 fnc), (nl, iA G 54 (upd (upd (upd fnl (6 * kl) 2) (6 * kl + 1) r9630) (6 * kl + 2) (-9))), (nF, sA G 5 (FCT K)), (h0, oX12 nw nk mhasKept nt (nI ktp) nr mrowMany mroundOf mroundFrom mouts nm mfromHour mtoHour ns (nI (NXT bt ktp ks)) (nI (TKE bt ktp (NXT bt ktp ks))) (nI (TKN bt ktp (NXT bt ktp ks))) 1 0 (nI kc) (nI kl) nl nc nF np ntr nb mbestCost nso nsi nit nsh nsf nss nrc mtraced mdealer mnumber mwhose msize misParted), (nt, iA G 240 fnt)]) rfl (k := (6 * kl + 2)) (by omega) (Nat.le_of_ble_eq_true rfl) (rfl) gX12_lineAt_6.2.2.2.2.2.1 (fun H locs hP hD hS => ?_)
          refine lv_aload_n hx hb gX12_lineAt_6.2.2.2.2.2.2.1 rfl (lv_at1 hl) ?_
          refine gf_X12_32 hC rfl hK hP 3 rfl rfl gX12_lineAt_6.2.2.2.2.2.2.2.1 ?_
          refine lv_iload_n hx hb gX12_lineAt_6.2.2.2.2.2.2.2.2.1 rfl (lv_at2 hl) ?_
          refine lv_iconst (v := 3) hx hb gX12_lineAt_6.2.2.2.2.2.2.2.2.2 (by decide) ?_
          refine lv_iadd hx hb gX12_lineAt_7.1 ?_
          refine eqi (x1 := nI (6 * kl + 3)) (nI_add (6 * kl) 3) ?_
          refine lv_bipush (v := (-9)) hx hb gX12_lineAt_7.2.1 (by decide) ?_
          refine astN hC hK hP hD hS 1 (ws' := [(nc, iA G 100 fnc), (nl, iA G 54 (upd (upd (upd (upd fnl (6 * kl) 2) (6 * kl + 1) r9630) (6 * kl + 2) (-9)) (6 * kl + 3) (-9))), (nF, sA G 5 (FCT K)), (h0, oX12 nw nk mhasKept nt (nI ktp) nr mrowMany mroundOf mroundFrom mouts nm mfromHour mtoHour ns (nI (NXT bt ktp ks)) (nI (TKE bt ktp (NXT bt ktp ks))) (nI (TKN bt ktp (NXT bt ktp ks))) 1 0 (nI kc) (nI kl) nl nc nF np ntr nb mbestCost nso nsi nit nsh nsf nss nrc mtraced mdealer mnumber mwhose msize misParted), (nt, iA G 240 fnt)]) rfl (k := (6 * kl + 3)) (by omega) (Nat.le_of_ble_eq_true rfl) (rfl) gX12_lineAt_7.2.2.1 (fun H locs hP hD hS => ?_)
          refine lv_iload_n hx hb gX12_lineAt_7.2.2.2.1 rfl (lv_at0 hl) ?_
          refine lv_if_ne (tgt := 190) hx hb gX12_lineAt_7.2.2.2.2.1 (by decide) (fun _ => ?_) (fun c9 => absurd c9 (by decide))
          refine lv_iload_n hx hb gX12_lineAt_10.2.2.2.1 rfl (lv_at0 hl) ?_
          refine lv_iconst (v := 2) hx hb gX12_lineAt_10.2.2.2.2.1 (by decide) ?_
          refine lv_icmp_ne (tgt := 221) hx hb gX12_lineAt_10.2.2.2.2.2.1 (by decide) (fun c9 => absurd (by decide) c9) (fun _ => ?_)
          refine lv_aload_n hx hb gX12_lineAt_10.2.2.2.2.2.2.1 rfl (lv_at1 hl) ?_
          refine lv_aload_n hx hb gX12_lineAt_10.2.2.2.2.2.2.2.1 rfl (lv_at1 hl) ?_
          refine va_ldcSw (index := 285) (tx := "by") hx hb hown (hO.2.2 7 (by decide)) gX12_lineAt_10.2.2.2.2.2.2.2.2.1 ?_
          refine pVo hO hS hC hK hl hP hD (m_isNameF l G K 7 h0 nw nk mhasKept nt (nI ktp) nr mrowMany mroundOf mroundFrom mouts nm mfromHour mtoHour ns (nI (NXT bt ktp ks)) (nI (TKE bt ktp (NXT bt ktp ks))) (nI (TKN bt ktp (NXT bt ktp ks))) 0 (nI kc) (nI kl) nl nc nF np ntr nb mbestCost nso nsi nit nsh nsf nss nrc mtraced mdealer mnumber mwhose msize misParted ((by decide))) si_X12_248 [3] sm_3 fm_3 nd_3 rfl rfl rfl rfl rfl (Nat.le_of_ble_eq_true rfl) rm_32_5_4 ⟨by first | exact Nat.le_of_ble_eq_true rfl | exact Nat.zero_le _, by first | exact Nat.le_of_ble_eq_true rfl | exact Nat.zero_le _⟩ gX12_lineAt_10.2.2.2.2.2.2.2.2.2 (Keqr ?_)
          refine vV (wr := [(nc, iA G 100 fnc), (nl, iA G 54 (upd (upd (upd (upd fnl (6 * kl) 2) (6 * kl + 1) r9630) (6 * kl + 2) (-9)) (6 * kl + 3) (-9))), (nF, sA G 5 (FCT K)), (nt, iA G 240 fnt)]) hC hK hl hP hD hS hA (m_needF l G h0 0 nw nk mhasKept nt (nI ktp) nr mrowMany mroundOf mroundFrom mouts nm mfromHour mtoHour ns (nI (NXT bt ktp ks)) (nI (TKE bt ktp (NXT bt ktp ks))) (nI (TKN bt ktp (NXT bt ktp ks))) 0 (nI kc) (nI kl) nl nc nF np ntr nb mbestCost nso nsi nit nsh nsf nss nrc mtraced mdealer mnumber mwhose msize misParted) si_X12_236 [3] [0, 1, 2, 4] sm_3 fm_3 nd_3 sm_0_1_2_4 nd_0_1_2_4 dj_3__0_1_2_4 rfl rfl rfl rfl rfl (Nat.le_of_ble_eq_true rfl) rm_32_4_2 ⟨Nat.le_of_ble_eq_true rfl, Nat.le_of_ble_eq_true rfl⟩ gX12_lineAt_11.1 (fun u9727 H locs hr9726 hP hD hS => ?_)
          refine Kpdr (ws := [(nc, iA G 100 fnc), (nl, iA G 54 (upd (upd (upd (upd fnl (6 * kl) 2) (6 * kl + 1) r9630) (6 * kl + 2) (-9)) (6 * kl + 3) (-9))), (nF, sA G 5 (FCT K)), (nt, iA G 240 fnt), (h0, oX12 nw nk mhasKept nt (nI ktp) nr mrowMany mroundOf mroundFrom mouts nm mfromHour mtoHour ns (nI (NXT bt ktp ks)) (nI (TKE bt ktp (NXT bt ktp ks))) (nI (TKN bt ktp (NXT bt ktp ks))) 1 0 (nI kc) (nI kl) nl nc nF np ntr nb mbestCost nso nsi nit nsh nsf nss nrc mtraced mdealer mnumber mwhose msize misParted)]) hP hD (fun hP hD => ?_)
          refine lv_aload_n hx hb gX12_lineAt_11.2.1 rfl (lv_at1 hl) ?_
          refine gf_X12_32 hC rfl hK hP 4 rfl rfl gX12_lineAt_11.2.2.1 ?_
          refine lv_iload_n hx hb gX12_lineAt_11.2.2.2.1 rfl (lv_at2 hl) ?_
          refine lv_iconst (v := 2) hx hb gX12_lineAt_11.2.2.2.2.1 (by decide) ?_
          refine lv_iadd hx hb gX12_lineAt_11.2.2.2.2.2.1 ?_
          refine eqi (x1 := nI (6 * kl + 2)) (nI_add (6 * kl) 2) ?_
          refine lv_aload_n hx hb gX12_lineAt_11.2.2.2.2.2.2.1 rfl (lv_at1 hl) ?_
          refine lv_sipush (v := 999) hx hb gX12_lineAt_11.2.2.2.2.2.2.2.1 (by decide) ?_
          refine iV (wr := [(nc, iA G 100 fnc), (nl, iA G 54 (upd (upd (upd (upd fnl (6 * kl) 2) (6 * kl + 1) r9630) (6 * kl + 2) (-9)) (6 * kl + 3) (-9))), (nF, sA G 5 (FCT K)), (nt, iA G 240 fnt)]) hC hK hl hP hD hS hA (m_numberF l G h0 999 nw nk mhasKept nt (nI ktp) nr mrowMany mroundOf mroundFrom mouts nm mfromHour mtoHour ns (nI (NXT bt ktp ks)) (nI (TKE bt ktp (NXT bt ktp ks))) (nI (TKN bt ktp (NXT bt ktp ks))) 0 (nI kc) (nI kl) nl nc nF np ntr nb mbestCost nso nsi nit nsh nsf nss nrc mtraced mdealer mnumber mwhose msize misParted) si_X12_271 [4] [0, 1, 2, 3] sm_4 fm_4 nd_4 sm_0_1_2_3 nd_0_1_2_3 dj_4__0_1_2_3 rfl rfl rfl rfl rfl (Nat.le_of_ble_eq_true rfl) rm_32_5_5 ⟨Nat.le_of_ble_eq_true rfl, Nat.le_of_ble_eq_true rfl⟩ gX12_lineAt_11.2.2.2.2.2.2.2.2.1 (fun r9728 u9729 H locs hr9728 hP hD hS => ?_)
          refine Kpdr (ws := [(nc, iA G 100 fnc), (nl, iA G 54 (upd (upd (upd (upd fnl (6 * kl) 2) (6 * kl + 1) r9630) (6 * kl + 2) (-9)) (6 * kl + 3) (-9))), (nF, sA G 5 (FCT K)), (nt, iA G 240 fnt), (h0, oX12 nw nk mhasKept nt (nI ktp) nr mrowMany mroundOf mroundFrom mouts nm mfromHour mtoHour ns (nI (NXT bt ktp ks)) (nI (TKE bt ktp (NXT bt ktp ks))) (nI (TKN bt ktp (NXT bt ktp ks))) 1 0 (nI kc) (nI kl) nl nc nF np ntr nb mbestCost nso nsi nit nsh nsf nss nrc mtraced mdealer mnumber mwhose msize misParted)]) hP hD (fun hP hD => ?_)
          obtain rfl := hr9728
          refine astN hC hK hP hD hS 1 (ws' := [(nc, iA G 100 fnc), (nl, iA G 54 (upd (upd (upd (upd (upd fnl (6 * kl) 2) (6 * kl + 1) r9630) (6 * kl + 2) (-9)) (6 * kl + 3) (-9)) (6 * kl + 2) 0)), (nF, sA G 5 (FCT K)), (nt, iA G 240 fnt), (h0, oX12 nw nk mhasKept nt (nI ktp) nr mrowMany mroundOf mroundFrom mouts nm mfromHour mtoHour ns (nI (NXT bt ktp ks)) (nI (TKE bt ktp (NXT bt ktp ks))) (nI (TKN bt ktp (NXT bt ktp ks))) 1 0 (nI kc) (nI kl) nl nc nF np ntr nb mbestCost nso nsi nit nsh nsf nss nrc mtraced mdealer mnumber mwhose msize misParted)]) rfl (k := (6 * kl + 2)) (by omega) (Nat.le_of_ble_eq_true rfl) (rfl) gX12_lineAt_11.2.2.2.2.2.2.2.2.2 (fun H locs hP hD hS => ?_)
          refine lv_aload_n hx hb gX12_lineAt_12.1 rfl (lv_at1 hl) ?_
          refine gf_X12_32 hC rfl hK hP 4 rfl rfl gX12_lineAt_12.2.1 ?_
          refine lv_iload_n hx hb gX12_lineAt_12.2.2.1 rfl (lv_at2 hl) ?_
          refine lv_iconst (v := 4) hx hb gX12_lineAt_12.2.2.2.1 (by decide) ?_
          refine lv_iadd hx hb gX12_lineAt_12.2.2.2.2.1 ?_
          refine eqi (x1 := nI (6 * kl + 4)) (nI_add (6 * kl) 4) ?_
          refine lv_aload_n hx hb gX12_lineAt_12.2.2.2.2.2.1 rfl (lv_at1 hl) ?_
          refine gf_X12_240 hC rfl hK hP 4 rfl rfl gX12_lineAt_12.2.2.2.2.2.2.1 ?_
          refine astN hC hK hP hD hS 1 (ws' := [(nc, iA G 100 fnc), (nl, iA G 54 (upd (upd (upd (upd (upd (upd fnl (6 * kl) 2) (6 * kl + 1) r9630) (6 * kl + 2) (-9)) (6 * kl + 3) (-9)) (6 * kl + 2) 0) (6 * kl + 4) (nI kc))), (nF, sA G 5 (FCT K)), (nt, iA G 240 fnt), (h0, oX12 nw nk mhasKept nt (nI ktp) nr mrowMany mroundOf mroundFrom mouts nm mfromHour mtoHour ns (nI (NXT bt ktp ks)) (nI (TKE bt ktp (NXT bt ktp ks))) (nI (TKN bt ktp (NXT bt ktp ks))) 1 0 (nI kc) (nI kl) nl nc nF np ntr nb mbestCost nso nsi nit nsh nsf nss nrc mtraced mdealer mnumber mwhose msize misParted)]) rfl (k := (6 * kl + 4)) (by omega) (Nat.le_of_ble_eq_true rfl) (rfl) gX12_lineAt_12.2.2.2.2.2.2.2.1 (fun H locs hP hD hS => ?_)
          refine lv_iload_n hx hb gX12_lineAt_12.2.2.2.2.2.2.2.2.1 rfl (lv_at0 hl) ?_
          refine lv_iconst (v := 3) hx hb gX12_lineAt_12.2.2.2.2.2.2.2.2.2 (by decide) ?_
          refine lv_icmp_eq (tgt := 256) hx hb gX12_lineAt_13.1 (by decide) (fun c9 => absurd c9 (by decide)) (fun _ => ?_)
          refine lv_aload_n hx hb gX12_lineAt_13.2.1 rfl (lv_at1 hl) ?_
          refine va_ldcSw (index := 287) (tx := "if") hx hb hown (hO.2.2 0 (by decide)) gX12_lineAt_13.2.2.1 ?_
          refine pVo hO hS hC hK hl hP hD (m_isNameF l G K 0 h0 nw nk mhasKept nt (nI ktp) nr mrowMany mroundOf mroundFrom mouts nm mfromHour mtoHour ns (nI (NXT bt ktp ks)) (nI (TKE bt ktp (NXT bt ktp ks))) (nI (TKN bt ktp (NXT bt ktp ks))) 0 (nI kc) (nI kl) nl nc nF np ntr nb mbestCost nso nsi nit nsh nsf nss nrc mtraced mdealer mnumber mwhose msize misParted ((by decide))) si_X12_248 [4] sm_4 fm_4 nd_4 rfl rfl rfl rfl rfl (Nat.le_of_ble_eq_true rfl) rm_32_5_4 ⟨by first | exact Nat.le_of_ble_eq_true rfl | exact Nat.zero_le _, by first | exact Nat.le_of_ble_eq_true rfl | exact Nat.zero_le _⟩ gX12_lineAt_13.2.2.2.1 (Keqr ?_)
          refine lv_if_eq (tgt := 256) hx hb gX12_lineAt_13.2.2.2.2.1 (by decide) (fun _ => ?_) (fun c9 => absurd (by decide) c9)
          refine lv_aload_n hx hb gX12_lineAt_13.2.2.2.2.2.2.2.2.2 rfl (lv_at1 hl) ?_
          refine gf_X12_32 hC rfl hK hP 4 rfl rfl gX12_lineAt_14.1 ?_
          refine lv_iload_n hx hb gX12_lineAt_14.2.1 rfl (lv_at2 hl) ?_
          refine lv_iconst (v := 5) hx hb gX12_lineAt_14.2.2.1 (by decide) ?_
          refine lv_iadd hx hb gX12_lineAt_14.2.2.2.1 ?_
          refine eqi (x1 := nI (6 * kl + 5)) (nI_add (6 * kl) 5) ?_
          refine lv_aload_n hx hb gX12_lineAt_14.2.2.2.2.1 rfl (lv_at1 hl) ?_
          refine gf_X12_240 hC rfl hK hP 4 rfl rfl gX12_lineAt_14.2.2.2.2.2.1 ?_
          refine astN hC hK hP hD hS 1 (ws' := [(nc, iA G 100 fnc), (nl, iA G 54 (upd (upd (upd (upd (upd (upd (upd fnl (6 * kl) 2) (6 * kl + 1) r9630) (6 * kl + 2) (-9)) (6 * kl + 3) (-9)) (6 * kl + 2) 0) (6 * kl + 4) (nI kc)) (6 * kl + 5) (nI kc))), (nF, sA G 5 (FCT K)), (nt, iA G 240 fnt), (h0, oX12 nw nk mhasKept nt (nI ktp) nr mrowMany mroundOf mroundFrom mouts nm mfromHour mtoHour ns (nI (NXT bt ktp ks)) (nI (TKE bt ktp (NXT bt ktp ks))) (nI (TKN bt ktp (NXT bt ktp ks))) 1 0 (nI kc) (nI kl) nl nc nF np ntr nb mbestCost nso nsi nit nsh nsf nss nrc mtraced mdealer mnumber mwhose msize misParted)]) rfl (k := (6 * kl + 5)) (by omega) (Nat.le_of_ble_eq_true rfl) (rfl) gX12_lineAt_14.2.2.2.2.2.2.1 (fun H locs hP hD hS => ?_)
          refine lv_aload_n hx hb gX12_lineAt_14.2.2.2.2.2.2.2.1 rfl (lv_at1 hl) ?_
          refine lv_aload_n hx hb gX12_lineAt_14.2.2.2.2.2.2.2.2.1 rfl (lv_at1 hl) ?_
          refine lv_bipush (v := 59) hx hb gX12_lineAt_14.2.2.2.2.2.2.2.2.2 (by decide) ?_
          refine pV hC hK hl hP hD (m_isSignF l G h0 59 nw nk mhasKept nt (nI ktp) nr mrowMany mroundOf mroundFrom mouts nm mfromHour mtoHour ns (nI (NXT bt ktp ks)) (nI (TKE bt ktp (NXT bt ktp ks))) (nI (TKN bt ktp (NXT bt ktp ks))) 0 (nI kc) (nI kl) nl nc nF np ntr nb mbestCost nso nsi nit nsh nsf nss nrc mtraced mdealer mnumber mwhose msize misParted) si_X12_262 [4] sm_4 fm_4 nd_4 rfl rfl rfl rfl rfl (Nat.le_of_ble_eq_true rfl) rm_32_1_2 ⟨by first | exact Nat.le_of_ble_eq_true rfl | exact Nat.zero_le _, by first | exact Nat.le_of_ble_eq_true rfl | exact Nat.zero_le _⟩ gX12_lineAt_15.1 (Keqr ?_)
          refine vV (wr := [(nc, iA G 100 fnc), (nl, iA G 54 (upd (upd (upd (upd (upd (upd (upd fnl (6 * kl) 2) (6 * kl + 1) r9630) (6 * kl + 2) (-9)) (6 * kl + 3) (-9)) (6 * kl + 2) 0) (6 * kl + 4) (nI kc)) (6 * kl + 5) (nI kc))), (nF, sA G 5 (FCT K)), (nt, iA G 240 fnt)]) hC hK hl hP hD hS hA (m_needF l G h0 0 nw nk mhasKept nt (nI ktp) nr mrowMany mroundOf mroundFrom mouts nm mfromHour mtoHour ns (nI (NXT bt ktp ks)) (nI (TKE bt ktp (NXT bt ktp ks))) (nI (TKN bt ktp (NXT bt ktp ks))) 0 (nI kc) (nI kl) nl nc nF np ntr nb mbestCost nso nsi nit nsh nsf nss nrc mtraced mdealer mnumber mwhose msize misParted) si_X12_236 [4] [0, 1, 2, 3] sm_4 fm_4 nd_4 sm_0_1_2_3 nd_0_1_2_3 dj_4__0_1_2_3 rfl rfl rfl rfl rfl (Nat.le_of_ble_eq_true rfl) rm_32_4_2 ⟨Nat.le_of_ble_eq_true rfl, Nat.le_of_ble_eq_true rfl⟩ gX12_lineAt_15.2.1 (fun u9736 H locs hr9735 hP hD hS => ?_)
          refine Kpdr (ws := [(nc, iA G 100 fnc), (nl, iA G 54 (upd (upd (upd (upd (upd (upd (upd fnl (6 * kl) 2) (6 * kl + 1) r9630) (6 * kl + 2) (-9)) (6 * kl + 3) (-9)) (6 * kl + 2) 0) (6 * kl + 4) (nI kc)) (6 * kl + 5) (nI kc))), (nF, sA G 5 (FCT K)), (nt, iA G 240 fnt), (h0, oX12 nw nk mhasKept nt (nI ktp) nr mrowMany mroundOf mroundFrom mouts nm mfromHour mtoHour ns (nI (NXT bt ktp ks)) (nI (TKE bt ktp (NXT bt ktp ks))) (nI (TKN bt ktp (NXT bt ktp ks))) 1 0 (nI kc) (nI kl) nl nc nF np ntr nb mbestCost nso nsi nit nsh nsf nss nrc mtraced mdealer mnumber mwhose msize misParted)]) hP hD (fun hP hD => ?_)
          refine toQ hQ0 ?_
          exact RV hC hP hD hS [4, 3, 0, 1, 2] (1, (NXT bt ktp ks), kc, fnc, upd (upd (upd (upd (upd (upd (upd fnl (6 * kl) 2) (6 * kl + 1) r9630) (6 * kl + 2) (-9)) (6 * kl + 3) (-9)) (6 * kl + 2) 0) (6 * kl + 4) (nI kc)) (6 * kl + 5) (nI kc), LN0, [], []) rfl rfl (by decide) (Or.inr ⟨rfl, Or.inr ⟨2, SRT.y (k := 2) (by decide) hq9625, Or.inl ⟨_, HDQ.a0 (so := 2) (M := 7) rfl hq9723, rfl⟩⟩, by (try dsimp only); omega⟩) gX12_lineAt_15.2.2
      · have hq9737 := a9624
        refine lv_if_eq (tgt := 42) hx hb gX12_lineAt_1.2.2.2.2.2.1 (by decide) (fun _ => ?_) (fun c9 => absurd (by decide) c9)
        refine lv_aload_n hx hb gX12_lineAt_1.2.2.2.2.2.2.2.2.1 rfl (lv_at0 hl) ?_
        refine va_ldcSw (index := 280) (tx := "heard") hx hb hown (hO.2.2 4 (by decide)) gX12_lineAt_1.2.2.2.2.2.2.2.2.2 ?_
        refine pVo hO hS hC hK hl hP hD (m_isNameX l G K 4 h0 nw nk mhasKept nt ktp nr mrowMany mroundOf mroundFrom mouts nm mfromHour mtoHour ns ks 0 (nI kc) (nI kl) nl nc nF np ntr nb mbestCost nso nsi nit nsh nsf nss nrc mtraced mdealer mnumber mwhose msize misParted fnt bt (htp) (hks) (hFB) ((by decide))) si_X12_248 [0, 1] sm_0_1 fm_0_1 nd_0_1 rfl rfl rfl rfl rfl (Nat.le_of_ble_eq_true rfl) rm_32_5_4 ⟨by first | exact Nat.le_of_ble_eq_true rfl | exact Nat.zero_le _, by first | exact Nat.le_of_ble_eq_true rfl | exact Nat.zero_le _⟩ gX12_lineAt_2.1 (Kors (Keqa fun a9739 => ?_) (Keqa fun a9739 => ?_))
        · have hq9740 := a9739
          have xl9741 : ks + 5 ≤ NXT bt ktp ks ∧ NXT bt ktp ks ≤ ktp := WRD.len hq9740 (by omega)
          refine lv_if_eq (tgt := 56) hx hb gX12_lineAt_2.2.1 (by decide) (fun c9 => absurd c9 (by decide)) (fun _ => ?_)
          refine lv_iconst (v := 3) hx hb gX12_lineAt_2.2.2.1 (by decide) ?_
          refine lv_goto (tgt := 57) hx hb gX12_lineAt_2.2.2.2.1 (by decide) ?_
          refine lv_istore_n (lv' := [(2, .int 3), (0, .ref h0), (1, .int (nI (6 * kl)))]) hx hb gX12_lineAt_2.2.2.2.2.2.1 rfl hl (by decide) rfl (fun ls hl => ?_)
          refine lv_aload_n hx hb gX12_lineAt_2.2.2.2.2.2.2.1 rfl (lv_at1 hl) ?_
          refine lv_iload_n hx hb gX12_lineAt_2.2.2.2.2.2.2.2.1 rfl (lv_at0 hl) ?_
          refine lv_if_lt (tgt := 67) hx hb gX12_lineAt_2.2.2.2.2.2.2.2.2.1 (by decide) (fun c9 => absurd c9 (by decide)) (fun _ => ?_)
          refine lv_iconst (v := 1) hx hb gX12_lineAt_2.2.2.2.2.2.2.2.2.2 (by decide) ?_
          refine lv_goto (tgt := 68) hx hb gX12_lineAt_3.1 (by decide) ?_
          refine vV (wr := [(nc, iA G 100 fnc), (nl, iA G 54 fnl), (nF, sA G 5 (FCT K))]) hC hK hl hP hD hS hA (m_need1X l G h0 nw nk mhasKept nt ktp nr mrowMany mroundOf mroundFrom mouts nm mfromHour mtoHour ns ks 0 (nI kc) (nI kl) nl nc nF np ntr nb mbestCost nso nsi nit nsh nsf nss nrc mtraced mdealer mnumber mwhose msize misParted fnt bt (htp) (hks) (hFB)) si_X12_236 [0, 1] [2, 3, 4] sm_0_1 fm_0_1 nd_0_1 sm_2_3_4 nd_2_3_4 dj_0_1__2_3_4 rfl rfl rfl rfl rfl (Nat.le_of_ble_eq_true rfl) rm_32_4_2 ⟨Nat.le_of_ble_eq_true rfl, Nat.le_of_ble_eq_true rfl⟩ gX12_lineAt_3.2.2.1 (fun u9743 H locs hr9742 hP hD hS => ?_)
          refine Kpdr (ws := [(nc, iA G 100 fnc), (nl, iA G 54 fnl), (nF, sA G 5 (FCT K)), (h0, oX12 nw nk mhasKept nt (nI ktp) nr mrowMany mroundOf mroundFrom mouts nm mfromHour mtoHour ns (nI (NXT bt ktp ks)) (nI (TKE bt ktp (NXT bt ktp ks))) (nI (TKN bt ktp (NXT bt ktp ks))) 0 0 (nI kc) (nI kl) nl nc nF np ntr nb mbestCost nso nsi nit nsh nsf nss nrc mtraced mdealer mnumber mwhose msize misParted), (nt, iA G 240 fnt)]) hP hD (fun hP hD => ?_)
          have xn9744 := NXT.ge (bt := bt) (n := ktp) (s := ks) (by omega)
          refine lv_aload_n hx hb gX12_lineAt_3.2.2.2.1 rfl (lv_at1 hl) ?_
          refine gf_X12_32 hC rfl hK hP 3 rfl rfl gX12_lineAt_3.2.2.2.2.1 ?_
          refine lv_iload_n hx hb gX12_lineAt_3.2.2.2.2.2.1 rfl (lv_at2 hl) ?_
          refine lv_iload_n hx hb gX12_lineAt_3.2.2.2.2.2.2.1 rfl (lv_at0 hl) ?_
          refine astN hC hK hP hD hS 1 (ws' := [(nc, iA G 100 fnc), (nl, iA G 54 (upd fnl (6 * kl) 3)), (nF, sA G 5 (FCT K)), (h0, oX12 nw nk mhasKept nt (nI ktp) nr mrowMany mroundOf mroundFrom mouts nm mfromHour mtoHour ns (nI (NXT bt ktp ks)) (nI (TKE bt ktp (NXT bt ktp ks))) (nI (TKN bt ktp (NXT bt ktp ks))) 0 0 (nI kc) (nI kl) nl nc nF np ntr nb mbestCost nso nsi nit nsh nsf nss nrc mtraced mdealer mnumber mwhose msize misParted), (nt, iA G 240 fnt)]) rfl (k := (6 * kl)) (by omega) (Nat.le_of_ble_eq_true rfl) (rfl) gX12_lineAt_3.2.2.2.2.2.2.2.1 (fun H locs hP hD hS => ?_)
          refine lv_aload_n hx hb gX12_lineAt_3.2.2.2.2.2.2.2.2.1 rfl (lv_at1 hl) ?_
          refine gf_X12_32 hC rfl hK hP 3 rfl rfl gX12_lineAt_3.2.2.2.2.2.2.2.2.2 ?_
          refine lv_iload_n hx hb gX12_lineAt_4.1 rfl (lv_at2 hl) ?_
          refine lv_iconst (v := 1) hx hb gX12_lineAt_4.2.1 (by decide) ?_
          refine lv_iadd hx hb gX12_lineAt_4.2.2.1 ?_
          refine eqi (x1 := nI (6 * kl + 1)) (nI_add (6 * kl) 1) ?_
          refine lv_aload_n hx hb gX12_lineAt_4.2.2.2.1 rfl (lv_at1 hl) ?_
          refine lv_iload_n hx hb gX12_lineAt_4.2.2.2.2.1 rfl (lv_at0 hl) ?_
          refine lv_if_eq (tgt := 95) hx hb gX12_lineAt_4.2.2.2.2.2.1 (by decide) (fun c9 => absurd c9 (by decide)) (fun _ => ?_)
          refine lv_iload_n hx hb gX12_lineAt_4.2.2.2.2.2.2.1 rfl (lv_at0 hl) ?_
          refine lv_iconst (v := 1) hx hb gX12_lineAt_4.2.2.2.2.2.2.2.1 (by decide) ?_
          refine lv_icmp_ne (tgt := 100) hx hb gX12_lineAt_4.2.2.2.2.2.2.2.2.1 (by decide) (fun _ => ?_) (fun c9 => absurd c9 (by decide))
          refine lv_iload_n hx hb gX12_lineAt_5.2.1 rfl (lv_at0 hl) ?_
          refine lv_iconst (v := 2) hx hb gX12_lineAt_5.2.2.1 (by decide) ?_
          refine lv_icmp_ne (tgt := 110) hx hb gX12_lineAt_5.2.2.2.1 (by decide) (fun _ => ?_) (fun c9 => absurd c9 (by decide))
          refine lv_bipush (v := 9) hx hb gX12_lineAt_5.2.2.2.2.2.2.1 (by decide) ?_
          refine iV (wr := [(nc, iA G 100 fnc), (nl, iA G 54 (upd fnl (6 * kl) 3)), (nF, sA G 5 (FCT K))]) hC hK hl hP hD hS hA (m_numberX l G h0 9 nw nk mhasKept nt ktp nr mrowMany mroundOf mroundFrom mouts nm mfromHour mtoHour ns (NXT bt ktp ks) 0 (nI kc) (nI kl) nl nc nF np ntr nb mbestCost nso nsi nit nsh nsf nss nrc mtraced mdealer mnumber mwhose msize misParted fnt bt (htp) (by omega) (hFB) (by omega)) si_X12_271 [3, 4] [0, 1, 2] sm_3_4 fm_3_4 nd_3_4 sm_0_1_2 nd_0_1_2 dj_3_4__0_1_2 rfl rfl rfl rfl rfl (Nat.le_of_ble_eq_true rfl) rm_32_5_5 ⟨Nat.le_of_ble_eq_true rfl, Nat.le_of_ble_eq_true rfl⟩ gX12_lineAt_5.2.2.2.2.2.2.2.1 (fun r9745 => Ktu2 fun ff19747 ks19748 => ?_)
          intro H locs hr9745 hP hD hS
          try dsimp only at hr9745
          refine Kpdr (ws := [(nc, iA G 100 fnc), (nl, iA G 54 (upd fnl (6 * kl) 3)), (nF, sA G 5 (FCT K)), (h0, oX12 nw nk mhasKept nt (nI ktp) nr mrowMany mroundOf mroundFrom mouts nm mfromHour mtoHour ns (nI ks19748) (nI (TKE bt ktp ks19748)) (nI (TKN bt ktp ks19748)) ff19747 0 (nI kc) (nI kl) nl nc nF np ntr nb mbestCost nso nsi nit nsh nsf nss nrc mtraced mdealer mnumber mwhose msize misParted), (nt, iA G 240 fnt)]) hP hD (fun hP hD => ?_)
          obtain ⟨hr9745, w9749⟩ := hr9745
          rcases w9749 with v9750 | v9751
          · obtain ⟨rfl, rfl, rfl, hq9752⟩ := v9750
            have xl9753 := NML.len hq9752 (by omega)
            refine astN hC hK hP hD hS 1 (ws' := [(nc, iA G 100 fnc), (nl, iA G 54 (upd (upd fnl (6 * kl) 3) (6 * kl + 1) (nI (NVL bt ktp (NXT bt ktp ks))))), (nF, sA G 5 (FCT K)), (h0, oX12 nw nk mhasKept nt (nI ktp) nr mrowMany mroundOf mroundFrom mouts nm mfromHour mtoHour ns (nI (NXT bt ktp (NXT bt ktp ks))) (nI (TKE bt ktp (NXT bt ktp (NXT bt ktp ks)))) (nI (TKN bt ktp (NXT bt ktp (NXT bt ktp ks)))) 0 0 (nI kc) (nI kl) nl nc nF np ntr nb mbestCost nso nsi nit nsh nsf nss nrc mtraced mdealer mnumber mwhose msize misParted), (nt, iA G 240 fnt)]) rfl (k := (6 * kl + 1)) (by omega) (Nat.le_of_ble_eq_true rfl) (rfl) gX12_lineAt_5.2.2.2.2.2.2.2.2.1 (fun H locs hP hD hS => ?_)
            refine lv_aload_n hx hb gX12_lineAt_5.2.2.2.2.2.2.2.2.2 rfl (lv_at1 hl) ?_
            refine gf_X12_32 hC rfl hK hP 3 rfl rfl gX12_lineAt_6.1 ?_
            refine lv_iload_n hx hb gX12_lineAt_6.2.1 rfl (lv_at2 hl) ?_
            refine lv_iconst (v := 2) hx hb gX12_lineAt_6.2.2.1 (by decide) ?_
            refine lv_iadd hx hb gX12_lineAt_6.2.2.2.1 ?_
            refine eqi (x1 := nI (6 * kl + 2)) (nI_add (6 * kl) 2) ?_
            refine lv_bipush (v := (-9)) hx hb gX12_lineAt_6.2.2.2.2.1 (by decide) ?_
            refine astN hC hK hP hD hS 1 (ws' := [(nc, iA G 100 fnc), (nl, iA G 54 (upd (upd (upd fnl (6 * kl) 3) (6 * kl + 1) (nI (NVL bt ktp (NXT bt ktp ks)))) (6 * kl + 2) (-9))), (nF, sA G 5 (FCT K)), (h0, oX12 nw nk mhasKept nt (nI ktp) nr mrowMany mroundOf mroundFrom mouts nm mfromHour mtoHour ns (nI (NXT bt ktp (NXT bt ktp ks))) (nI (TKE bt ktp (NXT bt ktp (NXT bt ktp ks)))) (nI (TKN bt ktp (NXT bt ktp (NXT bt ktp ks)))) 0 0 (nI kc) (nI kl) nl nc nF np ntr nb mbestCost nso nsi nit nsh nsf nss nrc mtraced mdealer mnumber mwhose msize misParted), (nt, iA G 240 fnt)]) rfl (k := (6 * kl + 2)) (by omega) (Nat.le_of_ble_eq_true rfl) (rfl) gX12_lineAt_6.2.2.2.2.2.1 (fun H locs hP hD hS => ?_)
            refine lv_aload_n hx hb gX12_lineAt_6.2.2.2.2.2.2.1 rfl (lv_at1 hl) ?_
            refine gf_X12_32 hC rfl hK hP 3 rfl rfl gX12_lineAt_6.2.2.2.2.2.2.2.1 ?_
            refine lv_iload_n hx hb gX12_lineAt_6.2.2.2.2.2.2.2.2.1 rfl (lv_at2 hl) ?_
            refine lv_iconst (v := 3) hx hb gX12_lineAt_6.2.2.2.2.2.2.2.2.2 (by decide) ?_
            refine lv_iadd hx hb gX12_lineAt_7.1 ?_
            refine eqi (x1 := nI (6 * kl + 3)) (nI_add (6 * kl) 3) ?_
            refine lv_bipush (v := (-9)) hx hb gX12_lineAt_7.2.1 (by decide) ?_
            refine astN hC hK hP hD hS 1 (ws' := [(nc, iA G 100 fnc), (nl, iA G 54 (upd (upd (upd (upd fnl (6 * kl) 3) (6 * kl + 1) (nI (NVL bt ktp (NXT bt ktp ks)))) (6 * kl + 2) (-9)) (6 * kl + 3) (-9))), (nF, sA G 5 (FCT K)), (h0, oX12 nw nk mhasKept nt (nI ktp) nr mrowMany mroundOf mroundFrom mouts nm mfromHour mtoHour ns (nI (NXT bt ktp (NXT bt ktp ks))) (nI (TKE bt ktp (NXT bt ktp (NXT bt ktp ks)))) (nI (TKN bt ktp (NXT bt ktp (NXT bt ktp ks)))) 0 0 (nI kc) (nI kl) nl nc nF np ntr nb mbestCost nso nsi nit nsh nsf nss nrc mtraced mdealer mnumber mwhose msize misParted), (nt, iA G 240 fnt)]) rfl (k := (6 * kl + 3)) (by omega) (Nat.le_of_ble_eq_true rfl) (rfl) gX12_lineAt_7.2.2.1 (fun H locs hP hD hS => ?_)
            refine lv_iload_n hx hb gX12_lineAt_7.2.2.2.1 rfl (lv_at0 hl) ?_
            refine lv_if_ne (tgt := 190) hx hb gX12_lineAt_7.2.2.2.2.1 (by decide) (fun _ => ?_) (fun c9 => absurd c9 (by decide))
            refine lv_iload_n hx hb gX12_lineAt_10.2.2.2.1 rfl (lv_at0 hl) ?_
            refine lv_iconst (v := 2) hx hb gX12_lineAt_10.2.2.2.2.1 (by decide) ?_
            refine lv_icmp_ne (tgt := 221) hx hb gX12_lineAt_10.2.2.2.2.2.1 (by decide) (fun _ => ?_) (fun c9 => absurd c9 (by decide))
            refine lv_aload_n hx hb gX12_lineAt_12.1 rfl (lv_at1 hl) ?_
            refine gf_X12_32 hC rfl hK hP 3 rfl rfl gX12_lineAt_12.2.1 ?_
            refine lv_iload_n hx hb gX12_lineAt_12.2.2.1 rfl (lv_at2 hl) ?_
            refine lv_iconst (v := 4) hx hb gX12_lineAt_12.2.2.2.1 (by decide) ?_
            refine lv_iadd hx hb gX12_lineAt_12.2.2.2.2.1 ?_
            refine eqi (x1 := nI (6 * kl + 4)) (nI_add (6 * kl) 4) ?_
            refine lv_aload_n hx hb gX12_lineAt_12.2.2.2.2.2.1 rfl (lv_at1 hl) ?_
            refine gf_X12_240 hC rfl hK hP 3 rfl rfl gX12_lineAt_12.2.2.2.2.2.2.1 ?_
            refine astN hC hK hP hD hS 1 (ws' := [(nc, iA G 100 fnc), (nl, iA G 54 (upd (upd (upd (upd (upd fnl (6 * kl) 3) (6 * kl + 1) (nI (NVL bt ktp (NXT bt ktp ks)))) (6 * kl + 2) (-9)) (6 * kl + 3) (-9)) (6 * kl + 4) (nI kc))), (nF, sA G 5 (FCT K)), (h0, oX12 nw nk mhasKept nt (nI ktp) nr mrowMany mroundOf mroundFrom mouts nm mfromHour mtoHour ns (nI (NXT bt ktp (NXT bt ktp ks))) (nI (TKE bt ktp (NXT bt ktp (NXT bt ktp ks)))) (nI (TKN bt ktp (NXT bt ktp (NXT bt ktp ks)))) 0 0 (nI kc) (nI kl) nl nc nF np ntr nb mbestCost nso nsi nit nsh nsf nss nrc mtraced mdealer mnumber mwhose msize misParted), (nt, iA G 240 fnt)]) rfl (k := (6 * kl + 4)) (by omega) (Nat.le_of_ble_eq_true rfl) (rfl) gX12_lineAt_12.2.2.2.2.2.2.2.1 (fun H locs hP hD hS => ?_)
            refine lv_iload_n hx hb gX12_lineAt_12.2.2.2.2.2.2.2.2.1 rfl (lv_at0 hl) ?_
            refine lv_iconst (v := 3) hx hb gX12_lineAt_12.2.2.2.2.2.2.2.2.2 (by decide) ?_
            refine lv_icmp_eq (tgt := 256) hx hb gX12_lineAt_13.1 (by decide) (fun _ => ?_) (fun c9 => absurd (by decide) c9)
            refine lv_aload_n hx hb gX12_lineAt_13.2.2.2.2.2.2.2.2.2 rfl (lv_at1 hl) ?_
            refine gf_X12_32 hC rfl hK hP 3 rfl rfl gX12_lineAt_14.1 ?_
            refine lv_iload_n hx hb gX12_lineAt_14.2.1 rfl (lv_at2 hl) ?_
            refine lv_iconst (v := 5) hx hb gX12_lineAt_14.2.2.1 (by decide) ?_
            refine lv_iadd hx hb gX12_lineAt_14.2.2.2.1 ?_
            refine eqi (x1 := nI (6 * kl + 5)) (nI_add (6 * kl) 5) ?_
            refine lv_aload_n hx hb gX12_lineAt_14.2.2.2.2.1 rfl (lv_at1 hl) ?_
            refine gf_X12_240 hC rfl hK hP 3 rfl rfl gX12_lineAt_14.2.2.2.2.2.1 ?_
            refine astN hC hK hP hD hS 1 (ws' := [(nc, iA G 100 fnc), (nl, iA G 54 (upd (upd (upd (upd (upd (upd fnl (6 * kl) 3) (6 * kl + 1) (nI (NVL bt ktp (NXT bt ktp ks)))) (6 * kl + 2) (-9)) (6 * kl + 3) (-9)) (6 * kl + 4) (nI kc)) (6 * kl + 5) (nI kc))), (nF, sA G 5 (FCT K)), (h0, oX12 nw nk mhasKept nt (nI ktp) nr mrowMany mroundOf mroundFrom mouts nm mfromHour mtoHour ns (nI (NXT bt ktp (NXT bt ktp ks))) (nI (TKE bt ktp (NXT bt ktp (NXT bt ktp ks)))) (nI (TKN bt ktp (NXT bt ktp (NXT bt ktp ks)))) 0 0 (nI kc) (nI kl) nl nc nF np ntr nb mbestCost nso nsi nit nsh nsf nss nrc mtraced mdealer mnumber mwhose msize misParted), (nt, iA G 240 fnt)]) rfl (k := (6 * kl + 5)) (by omega) (Nat.le_of_ble_eq_true rfl) (rfl) gX12_lineAt_14.2.2.2.2.2.2.1 (fun H locs hP hD hS => ?_)
            refine lv_aload_n hx hb gX12_lineAt_14.2.2.2.2.2.2.2.1 rfl (lv_at1 hl) ?_
            refine lv_aload_n hx hb gX12_lineAt_14.2.2.2.2.2.2.2.2.1 rfl (lv_at1 hl) ?_
            refine lv_bipush (v := 59) hx hb gX12_lineAt_14.2.2.2.2.2.2.2.2.2 (by decide) ?_
            refine pV hC hK hl hP hD (m_isSignX l G h0 59 nw nk mhasKept nt ktp nr mrowMany mroundOf mroundFrom mouts nm mfromHour mtoHour ns (NXT bt ktp (NXT bt ktp ks)) 0 (nI kc) (nI kl) nl nc nF np ntr nb mbestCost nso nsi nit nsh nsf nss nrc mtraced mdealer mnumber mwhose msize misParted fnt bt (htp) (by omega) (hFB)) si_X12_262 [3, 4] sm_3_4 fm_3_4 nd_3_4 rfl rfl rfl rfl rfl (Nat.le_of_ble_eq_true rfl) rm_32_1_2 ⟨by first | exact Nat.le_of_ble_eq_true rfl | exact Nat.zero_le _, by first | exact Nat.le_of_ble_eq_true rfl | exact Nat.zero_le _⟩ gX12_lineAt_15.1 (Kors (Keqa fun a9755 => ?_) (Keqa fun a9755 => ?_))
            · have hq9756 := a9755
              have xl9757 := SGN.len hq9756 (by omega)
              refine vV (wr := [(nc, iA G 100 fnc), (nl, iA G 54 (upd (upd (upd (upd (upd (upd fnl (6 * kl) 3) (6 * kl + 1) (nI (NVL bt ktp (NXT bt ktp ks)))) (6 * kl + 2) (-9)) (6 * kl + 3) (-9)) (6 * kl + 4) (nI kc)) (6 * kl + 5) (nI kc))), (nF, sA G 5 (FCT K))]) hC hK hl hP hD hS hA (m_need1X l G h0 nw nk mhasKept nt ktp nr mrowMany mroundOf mroundFrom mouts nm mfromHour mtoHour ns (NXT bt ktp (NXT bt ktp ks)) 0 (nI kc) (nI kl) nl nc nF np ntr nb mbestCost nso nsi nit nsh nsf nss nrc mtraced mdealer mnumber mwhose msize misParted fnt bt (htp) (by omega) (hFB)) si_X12_236 [3, 4] [0, 1, 2] sm_3_4 fm_3_4 nd_3_4 sm_0_1_2 nd_0_1_2 dj_3_4__0_1_2 rfl rfl rfl rfl rfl (Nat.le_of_ble_eq_true rfl) rm_32_4_2 ⟨Nat.le_of_ble_eq_true rfl, Nat.le_of_ble_eq_true rfl⟩ gX12_lineAt_15.2.1 (fun u9759 H locs hr9758 hP hD hS => ?_)
              refine Kpdr (ws := [(nc, iA G 100 fnc), (nl, iA G 54 (upd (upd (upd (upd (upd (upd fnl (6 * kl) 3) (6 * kl + 1) (nI (NVL bt ktp (NXT bt ktp ks)))) (6 * kl + 2) (-9)) (6 * kl + 3) (-9)) (6 * kl + 4) (nI kc)) (6 * kl + 5) (nI kc))), (nF, sA G 5 (FCT K)), (h0, oX12 nw nk mhasKept nt (nI ktp) nr mrowMany mroundOf mroundFrom mouts nm mfromHour mtoHour ns (nI (NXT bt ktp (NXT bt ktp (NXT bt ktp ks)))) (nI (TKE bt ktp (NXT bt ktp (NXT bt ktp (NXT bt ktp ks))))) (nI (TKN bt ktp (NXT bt ktp (NXT bt ktp (NXT bt ktp ks))))) 0 0 (nI kc) (nI kl) nl nc nF np ntr nb mbestCost nso nsi nit nsh nsf nss nrc mtraced mdealer mnumber mwhose msize misParted), (nt, iA G 240 fnt)]) hP hD (fun hP hD => ?_)
              have xn9760 := NXT.ge (bt := bt) (n := ktp) (s := (NXT bt ktp (NXT bt ktp ks))) (by omega)
              refine toQ hQ0 ?_
              exact RV hC hP hD hS [3, 4, 0, 1, 2] (0, (NXT bt ktp (NXT bt ktp (NXT bt ktp ks))), kc, fnc, upd (upd (upd (upd (upd (upd fnl (6 * kl) 3) (6 * kl + 1) (nI (NVL bt ktp (NXT bt ktp ks)))) (6 * kl + 2) (-9)) (6 * kl + 3) (-9)) (6 * kl + 4) (nI kc)) (6 * kl + 5) (nI kc), (3, (nI (NVL bt ktp (NXT bt ktp ks))), (-9), (-9), 0, cs.length, cs.length, rs.length, rs.length), cs, rs) rfl rfl (by decide) (Or.inl ⟨rfl, Or.inr ⟨3, SRT.y (k := 3) (by decide) hq9740, Or.inr ⟨(NXT bt ktp (NXT bt ktp ks)), (nI (NVL bt ktp (NXT bt ktp ks))), (-9), (-9), HDQ.a1 (so := 3) (M := 9) rfl (by decide) hq9752, Or.inl ⟨(fun h9 => h9.1 rfl), Or.inr ⟨hq9756, rfl⟩⟩⟩⟩, hST, (by rw [hs1]; exact ⟨fun j hj => (upd_ne (by omega)).trans ((upd_ne (by omega)).trans ((upd_ne (by omega)).trans ((upd_ne (by omega)).trans ((upd_ne (by omega)).trans ((upd_ne (by omega)).trans (rfl)))))), (upd_ne (by omega)).trans ((upd_ne (by omega)).trans ((upd_ne (by omega)).trans ((upd_ne (by omega)).trans ((upd_ne (by omega)).trans (upd_eq (by omega)))))), (upd_ne (by omega)).trans ((upd_ne (by omega)).trans ((upd_ne (by omega)).trans ((upd_ne (by omega)).trans (upd_eq (by omega))))), (upd_ne (by omega)).trans ((upd_ne (by omega)).trans ((upd_ne (by omega)).trans (upd_eq (by omega)))), (upd_ne (by omega)).trans ((upd_ne (by omega)).trans (upd_eq (by omega))), (upd_ne (by omega)).trans (upd_eq (by omega)), upd_eq (by omega), fun _ => rfl, fun h9 => absurd (show (0 : Nat) = 1 from h9) (by decide), Nat.zero_le _, (by (try dsimp only); omega)⟩), by (try dsimp only); omega, by (try dsimp only); omega⟩) gX12_lineAt_15.2.2
            · have hq9761 := a9755
              refine vV (wr := [(nc, iA G 100 fnc), (nl, iA G 54 (upd (upd (upd (upd (upd (upd fnl (6 * kl) 3) (6 * kl + 1) (nI (NVL bt ktp (NXT bt ktp ks)))) (6 * kl + 2) (-9)) (6 * kl + 3) (-9)) (6 * kl + 4) (nI kc)) (6 * kl + 5) (nI kc))), (nF, sA G 5 (FCT K)), (nt, iA G 240 fnt)]) hC hK hl hP hD hS hA (m_need0 l G h0 nw nk mhasKept nt (nI ktp) nr mrowMany mroundOf mroundFrom mouts nm mfromHour mtoHour ns (nI (NXT bt ktp (NXT bt ktp ks))) (nI (TKE bt ktp (NXT bt ktp (NXT bt ktp ks)))) (nI (TKN bt ktp (NXT bt ktp (NXT bt ktp ks)))) 0 (nI kc) (nI kl) nl nc nF np ntr nb mbestCost nso nsi nit nsh nsf nss nrc mtraced mdealer mnumber mwhose msize misParted) si_X12_236 [3] [0, 1, 2, 4] sm_3 fm_3 nd_3 sm_0_1_2_4 nd_0_1_2_4 dj_3__0_1_2_4 rfl rfl rfl rfl rfl (Nat.le_of_ble_eq_true rfl) rm_32_4_2 ⟨Nat.le_of_ble_eq_true rfl, Nat.le_of_ble_eq_true rfl⟩ gX12_lineAt_15.2.1 (fun u9763 H locs hr9762 hP hD hS => ?_)
              refine Kpdr (ws := [(nc, iA G 100 fnc), (nl, iA G 54 (upd (upd (upd (upd (upd (upd fnl (6 * kl) 3) (6 * kl + 1) (nI (NVL bt ktp (NXT bt ktp ks)))) (6 * kl + 2) (-9)) (6 * kl + 3) (-9)) (6 * kl + 4) (nI kc)) (6 * kl + 5) (nI kc))), (nF, sA G 5 (FCT K)), (nt, iA G 240 fnt), (h0, oX12 nw nk mhasKept nt (nI ktp) nr mrowMany mroundOf mroundFrom mouts nm mfromHour mtoHour ns (nI (NXT bt ktp (NXT bt ktp ks))) (nI (TKE bt ktp (NXT bt ktp (NXT bt ktp ks)))) (nI (TKN bt ktp (NXT bt ktp (NXT bt ktp ks)))) 1 0 (nI kc) (nI kl) nl nc nF np ntr nb mbestCost nso nsi nit nsh nsf nss nrc mtraced mdealer mnumber mwhose msize misParted)]) hP hD (fun hP hD => ?_)
              refine toQ hQ0 ?_
              exact RV hC hP hD hS [4, 3, 0, 1, 2] (1, (NXT bt ktp (NXT bt ktp ks)), kc, fnc, upd (upd (upd (upd (upd (upd fnl (6 * kl) 3) (6 * kl + 1) (nI (NVL bt ktp (NXT bt ktp ks)))) (6 * kl + 2) (-9)) (6 * kl + 3) (-9)) (6 * kl + 4) (nI kc)) (6 * kl + 5) (nI kc), LN0, [], []) rfl rfl (by decide) (Or.inr ⟨rfl, Or.inr ⟨3, SRT.y (k := 3) (by decide) hq9740, Or.inr ⟨(NXT bt ktp (NXT bt ktp ks)), (nI (NVL bt ktp (NXT bt ktp ks))), (-9), (-9), HDQ.a1 (so := 3) (M := 9) rfl (by decide) hq9752, Or.inl ⟨(fun h9 => h9.1 rfl), Or.inl ⟨hq9761, rfl⟩⟩⟩⟩, by (try dsimp only); omega⟩) gX12_lineAt_15.2.2
          · obtain ⟨rfl, rfl, hq9764⟩ := v9751
            refine astN hC hK hP hD hS 1 (ws' := [(nc, iA G 100 fnc), (nl, iA G 54 (upd (upd fnl (6 * kl) 3) (6 * kl + 1) r9745)), (nF, sA G 5 (FCT K)), (h0, oX12 nw nk mhasKept nt (nI ktp) nr mrowMany mroundOf mroundFrom mouts nm mfromHour mtoHour ns (nI (NXT bt ktp ks)) (nI (TKE bt ktp (NXT bt ktp ks))) (nI (TKN bt ktp (NXT bt ktp ks))) 1 0 (nI kc) (nI kl) nl nc nF np ntr nb mbestCost nso nsi nit nsh nsf nss nrc mtraced mdealer mnumber mwhose msize misParted), (nt, iA G 240 fnt)]) rfl (k := (6 * kl + 1)) (by omega) (Nat.le_of_ble_eq_true rfl) (rfl) gX12_lineAt_5.2.2.2.2.2.2.2.2.1 (fun H locs hP hD hS => ?_)
            refine lv_aload_n hx hb gX12_lineAt_5.2.2.2.2.2.2.2.2.2 rfl (lv_at1 hl) ?_
            refine gf_X12_32 hC rfl hK hP 3 rfl rfl gX12_lineAt_6.1 ?_
            refine lv_iload_n hx hb gX12_lineAt_6.2.1 rfl (lv_at2 hl) ?_
            refine lv_iconst (v := 2) hx hb gX12_lineAt_6.2.2.1 (by decide) ?_
            refine lv_iadd hx hb gX12_lineAt_6.2.2.2.1 ?_
            refine eqi (x1 := nI (6 * kl + 2)) (nI_add (6 * kl) 2) ?_
            refine lv_bipush (v := (-9)) hx hb gX12_lineAt_6.2.2.2.2.1 (by decide) ?_
            refine astN hC hK hP hD hS 1 (ws' := [(nc, iA G 100 fnc), (nl, iA G 54 (upd (upd (upd fnl (6 * kl) 3) (6 * kl + 1) r9745) (6 * kl + 2) (-9))), (nF, sA G 5 (FCT K)), (h0, oX12 nw nk mhasKept nt (nI ktp) nr mrowMany mroundOf mroundFrom mouts nm mfromHour mtoHour ns (nI (NXT bt ktp ks)) (nI (TKE bt ktp (NXT bt ktp ks))) (nI (TKN bt ktp (NXT bt ktp ks))) 1 0 (nI kc) (nI kl) nl nc nF np ntr nb mbestCost nso nsi nit nsh nsf nss nrc mtraced mdealer mnumber mwhose msize misParted), (nt, iA G 240 fnt)]) rfl (k := (6 * kl + 2)) (by omega) (Nat.le_of_ble_eq_true rfl) (rfl) gX12_lineAt_6.2.2.2.2.2.1 (fun H locs hP hD hS => ?_)
            refine lv_aload_n hx hb gX12_lineAt_6.2.2.2.2.2.2.1 rfl (lv_at1 hl) ?_
            refine gf_X12_32 hC rfl hK hP 3 rfl rfl gX12_lineAt_6.2.2.2.2.2.2.2.1 ?_
            refine lv_iload_n hx hb gX12_lineAt_6.2.2.2.2.2.2.2.2.1 rfl (lv_at2 hl) ?_
            refine lv_iconst (v := 3) hx hb gX12_lineAt_6.2.2.2.2.2.2.2.2.2 (by decide) ?_
            refine lv_iadd hx hb gX12_lineAt_7.1 ?_
            refine eqi (x1 := nI (6 * kl + 3)) (nI_add (6 * kl) 3) ?_
            refine lv_bipush (v := (-9)) hx hb gX12_lineAt_7.2.1 (by decide) ?_
            refine astN hC hK hP hD hS 1 (ws' := [(nc, iA G 100 fnc), (nl, iA G 54 (upd (upd (upd (upd fnl (6 * kl) 3) (6 * kl + 1) r9745) (6 * kl + 2) (-9)) (6 * kl + 3) (-9))), (nF, sA G 5 (FCT K)), (h0, oX12 nw nk mhasKept nt (nI ktp) nr mrowMany mroundOf mroundFrom mouts nm mfromHour mtoHour ns (nI (NXT bt ktp ks)) (nI (TKE bt ktp (NXT bt ktp ks))) (nI (TKN bt ktp (NXT bt ktp ks))) 1 0 (nI kc) (nI kl) nl nc nF np ntr nb mbestCost nso nsi nit nsh nsf nss nrc mtraced mdealer mnumber mwhose msize misParted), (nt, iA G 240 fnt)]) rfl (k := (6 * kl + 3)) (by omega) (Nat.le_of_ble_eq_true rfl) (rfl) gX12_lineAt_7.2.2.1 (fun H locs hP hD hS => ?_)
            refine lv_iload_n hx hb gX12_lineAt_7.2.2.2.1 rfl (lv_at0 hl) ?_
            refine lv_if_ne (tgt := 190) hx hb gX12_lineAt_7.2.2.2.2.1 (by decide) (fun _ => ?_) (fun c9 => absurd c9 (by decide))
            refine lv_iload_n hx hb gX12_lineAt_10.2.2.2.1 rfl (lv_at0 hl) ?_
            refine lv_iconst (v := 2) hx hb gX12_lineAt_10.2.2.2.2.1 (by decide) ?_
            refine lv_icmp_ne (tgt := 221) hx hb gX12_lineAt_10.2.2.2.2.2.1 (by decide) (fun _ => ?_) (fun c9 => absurd c9 (by decide))
            refine lv_aload_n hx hb gX12_lineAt_12.1 rfl (lv_at1 hl) ?_
            refine gf_X12_32 hC rfl hK hP 3 rfl rfl gX12_lineAt_12.2.1 ?_
            refine lv_iload_n hx hb gX12_lineAt_12.2.2.1 rfl (lv_at2 hl) ?_
            refine lv_iconst (v := 4) hx hb gX12_lineAt_12.2.2.2.1 (by decide) ?_
            refine lv_iadd hx hb gX12_lineAt_12.2.2.2.2.1 ?_
            refine eqi (x1 := nI (6 * kl + 4)) (nI_add (6 * kl) 4) ?_
            refine lv_aload_n hx hb gX12_lineAt_12.2.2.2.2.2.1 rfl (lv_at1 hl) ?_
            refine gf_X12_240 hC rfl hK hP 3 rfl rfl gX12_lineAt_12.2.2.2.2.2.2.1 ?_
            refine astN hC hK hP hD hS 1 (ws' := [(nc, iA G 100 fnc), (nl, iA G 54 (upd (upd (upd (upd (upd fnl (6 * kl) 3) (6 * kl + 1) r9745) (6 * kl + 2) (-9)) (6 * kl + 3) (-9)) (6 * kl + 4) (nI kc))), (nF, sA G 5 (FCT K)), (h0, oX12 nw nk mhasKept nt (nI ktp) nr mrowMany mroundOf mroundFrom mouts nm mfromHour mtoHour ns (nI (NXT bt ktp ks)) (nI (TKE bt ktp (NXT bt ktp ks))) (nI (TKN bt ktp (NXT bt ktp ks))) 1 0 (nI kc) (nI kl) nl nc nF np ntr nb mbestCost nso nsi nit nsh nsf nss nrc mtraced mdealer mnumber mwhose msize misParted), (nt, iA G 240 fnt)]) rfl (k := (6 * kl + 4)) (by omega) (Nat.le_of_ble_eq_true rfl) (rfl) gX12_lineAt_12.2.2.2.2.2.2.2.1 (fun H locs hP hD hS => ?_)
            refine lv_iload_n hx hb gX12_lineAt_12.2.2.2.2.2.2.2.2.1 rfl (lv_at0 hl) ?_
            refine lv_iconst (v := 3) hx hb gX12_lineAt_12.2.2.2.2.2.2.2.2.2 (by decide) ?_
            refine lv_icmp_eq (tgt := 256) hx hb gX12_lineAt_13.1 (by decide) (fun _ => ?_) (fun c9 => absurd (by decide) c9)
            refine lv_aload_n hx hb gX12_lineAt_13.2.2.2.2.2.2.2.2.2 rfl (lv_at1 hl) ?_
            refine gf_X12_32 hC rfl hK hP 3 rfl rfl gX12_lineAt_14.1 ?_
            refine lv_iload_n hx hb gX12_lineAt_14.2.1 rfl (lv_at2 hl) ?_
            refine lv_iconst (v := 5) hx hb gX12_lineAt_14.2.2.1 (by decide) ?_
            refine lv_iadd hx hb gX12_lineAt_14.2.2.2.1 ?_
            refine eqi (x1 := nI (6 * kl + 5)) (nI_add (6 * kl) 5) ?_
            refine lv_aload_n hx hb gX12_lineAt_14.2.2.2.2.1 rfl (lv_at1 hl) ?_
            refine gf_X12_240 hC rfl hK hP 3 rfl rfl gX12_lineAt_14.2.2.2.2.2.1 ?_
            refine astN hC hK hP hD hS 1 (ws' := [(nc, iA G 100 fnc), (nl, iA G 54 (upd (upd (upd (upd (upd (upd fnl (6 * kl) 3) (6 * kl + 1) r9745) (6 * kl + 2) (-9)) (6 * kl + 3) (-9)) (6 * kl + 4) (nI kc)) (6 * kl + 5) (nI kc))), (nF, sA G 5 (FCT K)), (h0, oX12 nw nk mhasKept nt (nI ktp) nr mrowMany mroundOf mroundFrom mouts nm mfromHour mtoHour ns (nI (NXT bt ktp ks)) (nI (TKE bt ktp (NXT bt ktp ks))) (nI (TKN bt ktp (NXT bt ktp ks))) 1 0 (nI kc) (nI kl) nl nc nF np ntr nb mbestCost nso nsi nit nsh nsf nss nrc mtraced mdealer mnumber mwhose msize misParted), (nt, iA G 240 fnt)]) rfl (k := (6 * kl + 5)) (by omega) (Nat.le_of_ble_eq_true rfl) (rfl) gX12_lineAt_14.2.2.2.2.2.2.1 (fun H locs hP hD hS => ?_)
            refine lv_aload_n hx hb gX12_lineAt_14.2.2.2.2.2.2.2.1 rfl (lv_at1 hl) ?_
            refine lv_aload_n hx hb gX12_lineAt_14.2.2.2.2.2.2.2.2.1 rfl (lv_at1 hl) ?_
            refine lv_bipush (v := 59) hx hb gX12_lineAt_14.2.2.2.2.2.2.2.2.2 (by decide) ?_
            refine pV hC hK hl hP hD (m_isSignF l G h0 59 nw nk mhasKept nt (nI ktp) nr mrowMany mroundOf mroundFrom mouts nm mfromHour mtoHour ns (nI (NXT bt ktp ks)) (nI (TKE bt ktp (NXT bt ktp ks))) (nI (TKN bt ktp (NXT bt ktp ks))) 0 (nI kc) (nI kl) nl nc nF np ntr nb mbestCost nso nsi nit nsh nsf nss nrc mtraced mdealer mnumber mwhose msize misParted) si_X12_262 [3] sm_3 fm_3 nd_3 rfl rfl rfl rfl rfl (Nat.le_of_ble_eq_true rfl) rm_32_1_2 ⟨by first | exact Nat.le_of_ble_eq_true rfl | exact Nat.zero_le _, by first | exact Nat.le_of_ble_eq_true rfl | exact Nat.zero_le _⟩ gX12_lineAt_15.1 (Keqr ?_)
            refine vV (wr := [(nc, iA G 100 fnc), (nl, iA G 54 (upd (upd (upd (upd (upd (upd fnl (6 * kl) 3) (6 * kl + 1) r9745) (6 * kl + 2) (-9)) (6 * kl + 3) (-9)) (6 * kl + 4) (nI kc)) (6 * kl + 5) (nI kc))), (nF, sA G 5 (FCT K)), (nt, iA G 240 fnt)]) hC hK hl hP hD hS hA (m_needF l G h0 0 nw nk mhasKept nt (nI ktp) nr mrowMany mroundOf mroundFrom mouts nm mfromHour mtoHour ns (nI (NXT bt ktp ks)) (nI (TKE bt ktp (NXT bt ktp ks))) (nI (TKN bt ktp (NXT bt ktp ks))) 0 (nI kc) (nI kl) nl nc nF np ntr nb mbestCost nso nsi nit nsh nsf nss nrc mtraced mdealer mnumber mwhose msize misParted) si_X12_236 [3] [0, 1, 2, 4] sm_3 fm_3 nd_3 sm_0_1_2_4 nd_0_1_2_4 dj_3__0_1_2_4 rfl rfl rfl rfl rfl (Nat.le_of_ble_eq_true rfl) rm_32_4_2 ⟨Nat.le_of_ble_eq_true rfl, Nat.le_of_ble_eq_true rfl⟩ gX12_lineAt_15.2.1 (fun u9768 H locs hr9767 hP hD hS => ?_)
            refine Kpdr (ws := [(nc, iA G 100 fnc), (nl, iA G 54 (upd (upd (upd (upd (upd (upd fnl (6 * kl) 3) (6 * kl + 1) r9745) (6 * kl + 2) (-9)) (6 * kl + 3) (-9)) (6 * kl + 4) (nI kc)) (6 * kl + 5) (nI kc))), (nF, sA G 5 (FCT K)), (nt, iA G 240 fnt), (h0, oX12 nw nk mhasKept nt (nI ktp) nr mrowMany mroundOf mroundFrom mouts nm mfromHour mtoHour ns (nI (NXT bt ktp ks)) (nI (TKE bt ktp (NXT bt ktp ks))) (nI (TKN bt ktp (NXT bt ktp ks))) 1 0 (nI kc) (nI kl) nl nc nF np ntr nb mbestCost nso nsi nit nsh nsf nss nrc mtraced mdealer mnumber mwhose msize misParted)]) hP hD (fun hP hD => ?_)
            refine toQ hQ0 ?_
            exact RV hC hP hD hS [4, 3, 0, 1, 2] (1, (NXT bt ktp ks), kc, fnc, upd (upd (upd (upd (upd (upd fnl (6 * kl) 3) (6 * kl + 1) r9745) (6 * kl + 2) (-9)) (6 * kl + 3) (-9)) (6 * kl + 4) (nI kc)) (6 * kl + 5) (nI kc), LN0, [], []) rfl rfl (by decide) (Or.inr ⟨rfl, Or.inr ⟨3, SRT.y (k := 3) (by decide) hq9740, Or.inl ⟨_, HDQ.a0 (so := 3) (M := 9) rfl hq9764, rfl⟩⟩, by (try dsimp only); omega⟩) gX12_lineAt_15.2.2
        · have hq9769 := a9739
          refine lv_if_eq (tgt := 56) hx hb gX12_lineAt_2.2.1 (by decide) (fun _ => ?_) (fun c9 => absurd (by decide) c9)
          refine lv_iconst (v := (-1)) hx hb gX12_lineAt_2.2.2.2.2.1 (by decide) ?_
          refine lv_istore_n (lv' := [(2, .int (-1)), (0, .ref h0), (1, .int (nI (6 * kl)))]) hx hb gX12_lineAt_2.2.2.2.2.2.1 rfl hl (by decide) rfl (fun ls hl => ?_)
          refine lv_aload_n hx hb gX12_lineAt_2.2.2.2.2.2.2.1 rfl (lv_at1 hl) ?_
          refine lv_iload_n hx hb gX12_lineAt_2.2.2.2.2.2.2.2.1 rfl (lv_at0 hl) ?_
          refine lv_if_lt (tgt := 67) hx hb gX12_lineAt_2.2.2.2.2.2.2.2.2.1 (by decide) (fun _ => ?_) (fun c9 => absurd (by decide) c9)
          refine lv_iconst (v := 0) hx hb gX12_lineAt_3.2.1 (by decide) ?_
          refine vV (wr := [(nt, iA G 240 fnt), (nc, iA G 100 fnc), (nl, iA G 54 fnl), (nF, sA G 5 (FCT K))]) hC hK hl hP hD hS hA (m_need0 l G h0 nw nk mhasKept nt (nI ktp) nr mrowMany mroundOf mroundFrom mouts nm mfromHour mtoHour ns (nI ks) (nI (TKE bt ktp ks)) (nI (TKN bt ktp ks)) 0 (nI kc) (nI kl) nl nc nF np ntr nb mbestCost nso nsi nit nsh nsf nss nrc mtraced mdealer mnumber mwhose msize misParted) si_X12_236 [0] [1, 2, 3, 4] sm_0 fm_0 nd_0 sm_1_2_3_4 nd_1_2_3_4 dj_0__1_2_3_4 rfl rfl rfl rfl rfl (Nat.le_of_ble_eq_true rfl) rm_32_4_2 ⟨Nat.le_of_ble_eq_true rfl, Nat.le_of_ble_eq_true rfl⟩ gX12_lineAt_3.2.2.1 (fun u9771 H locs hr9770 hP hD hS => ?_)
          refine Kpdr (ws := [(nt, iA G 240 fnt), (nc, iA G 100 fnc), (nl, iA G 54 fnl), (nF, sA G 5 (FCT K)), (h0, oX12 nw nk mhasKept nt (nI ktp) nr mrowMany mroundOf mroundFrom mouts nm mfromHour mtoHour ns (nI ks) (nI (TKE bt ktp ks)) (nI (TKN bt ktp ks)) 1 0 (nI kc) (nI kl) nl nc nF np ntr nb mbestCost nso nsi nit nsh nsf nss nrc mtraced mdealer mnumber mwhose msize misParted)]) hP hD (fun hP hD => ?_)
          refine lv_aload_n hx hb gX12_lineAt_3.2.2.2.1 rfl (lv_at1 hl) ?_
          refine gf_X12_32 hC rfl hK hP 4 rfl rfl gX12_lineAt_3.2.2.2.2.1 ?_
          refine lv_iload_n hx hb gX12_lineAt_3.2.2.2.2.2.1 rfl (lv_at2 hl) ?_
          refine lv_iload_n hx hb gX12_lineAt_3.2.2.2.2.2.2.1 rfl (lv_at0 hl) ?_
          refine astN hC hK hP hD hS 2 (ws' := [(nt, iA G 240 fnt), (nc, iA G 100 fnc), (nl, iA G 54 (upd fnl (6 * kl) (-1))), (nF, sA G 5 (FCT K)), (h0, oX12 nw nk mhasKept nt (nI ktp) nr mrowMany mroundOf mroundFrom mouts nm mfromHour mtoHour ns (nI ks) (nI (TKE bt ktp ks)) (nI (TKN bt ktp ks)) 1 0 (nI kc) (nI kl) nl nc nF np ntr nb mbestCost nso nsi nit nsh nsf nss nrc mtraced mdealer mnumber mwhose msize misParted)]) rfl (k := (6 * kl)) (by omega) (Nat.le_of_ble_eq_true rfl) (rfl) gX12_lineAt_3.2.2.2.2.2.2.2.1 (fun H locs hP hD hS => ?_)
          refine lv_aload_n hx hb gX12_lineAt_3.2.2.2.2.2.2.2.2.1 rfl (lv_at1 hl) ?_
          refine gf_X12_32 hC rfl hK hP 4 rfl rfl gX12_lineAt_3.2.2.2.2.2.2.2.2.2 ?_
          refine lv_iload_n hx hb gX12_lineAt_4.1 rfl (lv_at2 hl) ?_
          refine lv_iconst (v := 1) hx hb gX12_lineAt_4.2.1 (by decide) ?_
          refine lv_iadd hx hb gX12_lineAt_4.2.2.1 ?_
          refine eqi (x1 := nI (6 * kl + 1)) (nI_add (6 * kl) 1) ?_
          refine lv_aload_n hx hb gX12_lineAt_4.2.2.2.1 rfl (lv_at1 hl) ?_
          refine lv_iload_n hx hb gX12_lineAt_4.2.2.2.2.1 rfl (lv_at0 hl) ?_
          refine lv_if_eq (tgt := 95) hx hb gX12_lineAt_4.2.2.2.2.2.1 (by decide) (fun c9 => absurd c9 (by decide)) (fun _ => ?_)
          refine lv_iload_n hx hb gX12_lineAt_4.2.2.2.2.2.2.1 rfl (lv_at0 hl) ?_
          refine lv_iconst (v := 1) hx hb gX12_lineAt_4.2.2.2.2.2.2.2.1 (by decide) ?_
          refine lv_icmp_ne (tgt := 100) hx hb gX12_lineAt_4.2.2.2.2.2.2.2.2.1 (by decide) (fun _ => ?_) (fun c9 => absurd c9 (by decide))
          refine lv_iload_n hx hb gX12_lineAt_5.2.1 rfl (lv_at0 hl) ?_
          refine lv_iconst (v := 2) hx hb gX12_lineAt_5.2.2.1 (by decide) ?_
          refine lv_icmp_ne (tgt := 110) hx hb gX12_lineAt_5.2.2.2.1 (by decide) (fun _ => ?_) (fun c9 => absurd c9 (by decide))
          refine lv_bipush (v := 9) hx hb gX12_lineAt_5.2.2.2.2.2.2.1 (by decide) ?_
          refine iV (wr := [(nt, iA G 240 fnt), (nc, iA G 100 fnc), (nl, iA G 54 (upd fnl (6 * kl) (-1))), (nF, sA G 5 (FCT K))]) hC hK hl hP hD hS hA (m_numberF l G h0 9 nw nk mhasKept nt (nI ktp) nr mrowMany mroundOf mroundFrom mouts nm mfromHour mtoHour ns (nI ks) (nI (TKE bt ktp ks)) (nI (TKN bt ktp ks)) 0 (nI kc) (nI kl) nl nc nF np ntr nb mbestCost nso nsi nit nsh nsf nss nrc mtraced mdealer mnumber mwhose msize misParted) si_X12_271 [4] [0, 1, 2, 3] sm_4 fm_4 nd_4 sm_0_1_2_3 nd_0_1_2_3 dj_4__0_1_2_3 rfl rfl rfl rfl rfl (Nat.le_of_ble_eq_true rfl) rm_32_5_5 ⟨Nat.le_of_ble_eq_true rfl, Nat.le_of_ble_eq_true rfl⟩ gX12_lineAt_5.2.2.2.2.2.2.2.1 (fun r9772 u9773 H locs hr9772 hP hD hS => ?_)
          refine Kpdr (ws := [(nt, iA G 240 fnt), (nc, iA G 100 fnc), (nl, iA G 54 (upd fnl (6 * kl) (-1))), (nF, sA G 5 (FCT K)), (h0, oX12 nw nk mhasKept nt (nI ktp) nr mrowMany mroundOf mroundFrom mouts nm mfromHour mtoHour ns (nI ks) (nI (TKE bt ktp ks)) (nI (TKN bt ktp ks)) 1 0 (nI kc) (nI kl) nl nc nF np ntr nb mbestCost nso nsi nit nsh nsf nss nrc mtraced mdealer mnumber mwhose msize misParted)]) hP hD (fun hP hD => ?_)
          obtain rfl := hr9772
          refine astN hC hK hP hD hS 2 (ws' := [(nt, iA G 240 fnt), (nc, iA G 100 fnc), (nl, iA G 54 (upd (upd fnl (6 * kl) (-1)) (6 * kl + 1) 0)), (nF, sA G 5 (FCT K)), (h0, oX12 nw nk mhasKept nt (nI ktp) nr mrowMany mroundOf mroundFrom mouts nm mfromHour mtoHour ns (nI ks) (nI (TKE bt ktp ks)) (nI (TKN bt ktp ks)) 1 0 (nI kc) (nI kl) nl nc nF np ntr nb mbestCost nso nsi nit nsh nsf nss nrc mtraced mdealer mnumber mwhose msize misParted)]) rfl (k := (6 * kl + 1)) (by omega) (Nat.le_of_ble_eq_true rfl) (rfl) gX12_lineAt_5.2.2.2.2.2.2.2.2.1 (fun H locs hP hD hS => ?_)
          refine lv_aload_n hx hb gX12_lineAt_5.2.2.2.2.2.2.2.2.2 rfl (lv_at1 hl) ?_
          refine gf_X12_32 hC rfl hK hP 4 rfl rfl gX12_lineAt_6.1 ?_
          refine lv_iload_n hx hb gX12_lineAt_6.2.1 rfl (lv_at2 hl) ?_
          refine lv_iconst (v := 2) hx hb gX12_lineAt_6.2.2.1 (by decide) ?_
          refine lv_iadd hx hb gX12_lineAt_6.2.2.2.1 ?_
          refine eqi (x1 := nI (6 * kl + 2)) (nI_add (6 * kl) 2) ?_
          refine lv_bipush (v := (-9)) hx hb gX12_lineAt_6.2.2.2.2.1 (by decide) ?_
          refine astN hC hK hP hD hS 2 (ws' := [(nt, iA G 240 fnt), (nc, iA G 100 fnc), (nl, iA G 54 (upd (upd (upd fnl (6 * kl) (-1)) (6 * kl + 1) 0) (6 * kl + 2) (-9))), (nF, sA G 5 (FCT K)), (h0, oX12 nw nk mhasKept nt (nI ktp) nr mrowMany mroundOf mroundFrom mouts nm mfromHour mtoHour ns (nI ks) (nI (TKE bt ktp ks)) (nI (TKN bt ktp ks)) 1 0 (nI kc) (nI kl) nl nc nF np ntr nb mbestCost nso nsi nit nsh nsf nss nrc mtraced mdealer mnumber mwhose msize misParted)]) rfl (k := (6 * kl + 2)) (by omega) (Nat.le_of_ble_eq_true rfl) (rfl) gX12_lineAt_6.2.2.2.2.2.1 (fun H locs hP hD hS => ?_)
          refine lv_aload_n hx hb gX12_lineAt_6.2.2.2.2.2.2.1 rfl (lv_at1 hl) ?_
          refine gf_X12_32 hC rfl hK hP 4 rfl rfl gX12_lineAt_6.2.2.2.2.2.2.2.1 ?_
          refine lv_iload_n hx hb gX12_lineAt_6.2.2.2.2.2.2.2.2.1 rfl (lv_at2 hl) ?_
          refine lv_iconst (v := 3) hx hb gX12_lineAt_6.2.2.2.2.2.2.2.2.2 (by decide) ?_
          refine lv_iadd hx hb gX12_lineAt_7.1 ?_
          refine eqi (x1 := nI (6 * kl + 3)) (nI_add (6 * kl) 3) ?_
          refine lv_bipush (v := (-9)) hx hb gX12_lineAt_7.2.1 (by decide) ?_
          refine astN hC hK hP hD hS 2 (ws' := [(nt, iA G 240 fnt), (nc, iA G 100 fnc), (nl, iA G 54 (upd (upd (upd (upd fnl (6 * kl) (-1)) (6 * kl + 1) 0) (6 * kl + 2) (-9)) (6 * kl + 3) (-9))), (nF, sA G 5 (FCT K)), (h0, oX12 nw nk mhasKept nt (nI ktp) nr mrowMany mroundOf mroundFrom mouts nm mfromHour mtoHour ns (nI ks) (nI (TKE bt ktp ks)) (nI (TKN bt ktp ks)) 1 0 (nI kc) (nI kl) nl nc nF np ntr nb mbestCost nso nsi nit nsh nsf nss nrc mtraced mdealer mnumber mwhose msize misParted)]) rfl (k := (6 * kl + 3)) (by omega) (Nat.le_of_ble_eq_true rfl) (rfl) gX12_lineAt_7.2.2.1 (fun H locs hP hD hS => ?_)
          refine lv_iload_n hx hb gX12_lineAt_7.2.2.2.1 rfl (lv_at0 hl) ?_
          refine lv_if_ne (tgt := 190) hx hb gX12_lineAt_7.2.2.2.2.1 (by decide) (fun _ => ?_) (fun c9 => absurd c9 (by decide))
          refine lv_iload_n hx hb gX12_lineAt_10.2.2.2.1 rfl (lv_at0 hl) ?_
          refine lv_iconst (v := 2) hx hb gX12_lineAt_10.2.2.2.2.1 (by decide) ?_
          refine lv_icmp_ne (tgt := 221) hx hb gX12_lineAt_10.2.2.2.2.2.1 (by decide) (fun _ => ?_) (fun c9 => absurd c9 (by decide))
          refine lv_aload_n hx hb gX12_lineAt_12.1 rfl (lv_at1 hl) ?_
          refine gf_X12_32 hC rfl hK hP 4 rfl rfl gX12_lineAt_12.2.1 ?_
          refine lv_iload_n hx hb gX12_lineAt_12.2.2.1 rfl (lv_at2 hl) ?_
          refine lv_iconst (v := 4) hx hb gX12_lineAt_12.2.2.2.1 (by decide) ?_
          refine lv_iadd hx hb gX12_lineAt_12.2.2.2.2.1 ?_
          refine eqi (x1 := nI (6 * kl + 4)) (nI_add (6 * kl) 4) ?_
          refine lv_aload_n hx hb gX12_lineAt_12.2.2.2.2.2.1 rfl (lv_at1 hl) ?_
          refine gf_X12_240 hC rfl hK hP 4 rfl rfl gX12_lineAt_12.2.2.2.2.2.2.1 ?_
          refine astN hC hK hP hD hS 2 (ws' := [(nt, iA G 240 fnt), (nc, iA G 100 fnc), (nl, iA G 54 (upd (upd (upd (upd (upd fnl (6 * kl) (-1)) (6 * kl + 1) 0) (6 * kl + 2) (-9)) (6 * kl + 3) (-9)) (6 * kl + 4) (nI kc))), (nF, sA G 5 (FCT K)), (h0, oX12 nw nk mhasKept nt (nI ktp) nr mrowMany mroundOf mroundFrom mouts nm mfromHour mtoHour ns (nI ks) (nI (TKE bt ktp ks)) (nI (TKN bt ktp ks)) 1 0 (nI kc) (nI kl) nl nc nF np ntr nb mbestCost nso nsi nit nsh nsf nss nrc mtraced mdealer mnumber mwhose msize misParted)]) rfl (k := (6 * kl + 4)) (by omega) (Nat.le_of_ble_eq_true rfl) (rfl) gX12_lineAt_12.2.2.2.2.2.2.2.1 (fun H locs hP hD hS => ?_)
          refine lv_iload_n hx hb gX12_lineAt_12.2.2.2.2.2.2.2.2.1 rfl (lv_at0 hl) ?_
          refine lv_iconst (v := 3) hx hb gX12_lineAt_12.2.2.2.2.2.2.2.2.2 (by decide) ?_
          refine lv_icmp_eq (tgt := 256) hx hb gX12_lineAt_13.1 (by decide) (fun c9 => absurd c9 (by decide)) (fun _ => ?_)
          refine lv_aload_n hx hb gX12_lineAt_13.2.1 rfl (lv_at1 hl) ?_
          refine va_ldcSw (index := 287) (tx := "if") hx hb hown (hO.2.2 0 (by decide)) gX12_lineAt_13.2.2.1 ?_
          refine pVo hO hS hC hK hl hP hD (m_isNameF l G K 0 h0 nw nk mhasKept nt (nI ktp) nr mrowMany mroundOf mroundFrom mouts nm mfromHour mtoHour ns (nI ks) (nI (TKE bt ktp ks)) (nI (TKN bt ktp ks)) 0 (nI kc) (nI kl) nl nc nF np ntr nb mbestCost nso nsi nit nsh nsf nss nrc mtraced mdealer mnumber mwhose msize misParted ((by decide))) si_X12_248 [4] sm_4 fm_4 nd_4 rfl rfl rfl rfl rfl (Nat.le_of_ble_eq_true rfl) rm_32_5_4 ⟨by first | exact Nat.le_of_ble_eq_true rfl | exact Nat.zero_le _, by first | exact Nat.le_of_ble_eq_true rfl | exact Nat.zero_le _⟩ gX12_lineAt_13.2.2.2.1 (Keqr ?_)
          refine lv_if_eq (tgt := 256) hx hb gX12_lineAt_13.2.2.2.2.1 (by decide) (fun _ => ?_) (fun c9 => absurd (by decide) c9)
          refine lv_aload_n hx hb gX12_lineAt_13.2.2.2.2.2.2.2.2.2 rfl (lv_at1 hl) ?_
          refine gf_X12_32 hC rfl hK hP 4 rfl rfl gX12_lineAt_14.1 ?_
          refine lv_iload_n hx hb gX12_lineAt_14.2.1 rfl (lv_at2 hl) ?_
          refine lv_iconst (v := 5) hx hb gX12_lineAt_14.2.2.1 (by decide) ?_
          refine lv_iadd hx hb gX12_lineAt_14.2.2.2.1 ?_
          refine eqi (x1 := nI (6 * kl + 5)) (nI_add (6 * kl) 5) ?_
          refine lv_aload_n hx hb gX12_lineAt_14.2.2.2.2.1 rfl (lv_at1 hl) ?_
          refine gf_X12_240 hC rfl hK hP 4 rfl rfl gX12_lineAt_14.2.2.2.2.2.1 ?_
          refine astN hC hK hP hD hS 2 (ws' := [(nt, iA G 240 fnt), (nc, iA G 100 fnc), (nl, iA G 54 (upd (upd (upd (upd (upd (upd fnl (6 * kl) (-1)) (6 * kl + 1) 0) (6 * kl + 2) (-9)) (6 * kl + 3) (-9)) (6 * kl + 4) (nI kc)) (6 * kl + 5) (nI kc))), (nF, sA G 5 (FCT K)), (h0, oX12 nw nk mhasKept nt (nI ktp) nr mrowMany mroundOf mroundFrom mouts nm mfromHour mtoHour ns (nI ks) (nI (TKE bt ktp ks)) (nI (TKN bt ktp ks)) 1 0 (nI kc) (nI kl) nl nc nF np ntr nb mbestCost nso nsi nit nsh nsf nss nrc mtraced mdealer mnumber mwhose msize misParted)]) rfl (k := (6 * kl + 5)) (by omega) (Nat.le_of_ble_eq_true rfl) (rfl) gX12_lineAt_14.2.2.2.2.2.2.1 (fun H locs hP hD hS => ?_)
          refine lv_aload_n hx hb gX12_lineAt_14.2.2.2.2.2.2.2.1 rfl (lv_at1 hl) ?_
          refine lv_aload_n hx hb gX12_lineAt_14.2.2.2.2.2.2.2.2.1 rfl (lv_at1 hl) ?_
          refine lv_bipush (v := 59) hx hb gX12_lineAt_14.2.2.2.2.2.2.2.2.2 (by decide) ?_
          refine pV hC hK hl hP hD (m_isSignF l G h0 59 nw nk mhasKept nt (nI ktp) nr mrowMany mroundOf mroundFrom mouts nm mfromHour mtoHour ns (nI ks) (nI (TKE bt ktp ks)) (nI (TKN bt ktp ks)) 0 (nI kc) (nI kl) nl nc nF np ntr nb mbestCost nso nsi nit nsh nsf nss nrc mtraced mdealer mnumber mwhose msize misParted) si_X12_262 [4] sm_4 fm_4 nd_4 rfl rfl rfl rfl rfl (Nat.le_of_ble_eq_true rfl) rm_32_1_2 ⟨by first | exact Nat.le_of_ble_eq_true rfl | exact Nat.zero_le _, by first | exact Nat.le_of_ble_eq_true rfl | exact Nat.zero_le _⟩ gX12_lineAt_15.1 (Keqr ?_)
          refine vV (wr := [(nt, iA G 240 fnt), (nc, iA G 100 fnc), (nl, iA G 54 (upd (upd (upd (upd (upd (upd fnl (6 * kl) (-1)) (6 * kl + 1) 0) (6 * kl + 2) (-9)) (6 * kl + 3) (-9)) (6 * kl + 4) (nI kc)) (6 * kl + 5) (nI kc))), (nF, sA G 5 (FCT K))]) hC hK hl hP hD hS hA (m_needF l G h0 0 nw nk mhasKept nt (nI ktp) nr mrowMany mroundOf mroundFrom mouts nm mfromHour mtoHour ns (nI ks) (nI (TKE bt ktp ks)) (nI (TKN bt ktp ks)) 0 (nI kc) (nI kl) nl nc nF np ntr nb mbestCost nso nsi nit nsh nsf nss nrc mtraced mdealer mnumber mwhose msize misParted) si_X12_236 [4] [0, 1, 2, 3] sm_4 fm_4 nd_4 sm_0_1_2_3 nd_0_1_2_3 dj_4__0_1_2_3 rfl rfl rfl rfl rfl (Nat.le_of_ble_eq_true rfl) rm_32_4_2 ⟨Nat.le_of_ble_eq_true rfl, Nat.le_of_ble_eq_true rfl⟩ gX12_lineAt_15.2.1 (fun u9780 H locs hr9779 hP hD hS => ?_)
          refine Kpdr (ws := [(nt, iA G 240 fnt), (nc, iA G 100 fnc), (nl, iA G 54 (upd (upd (upd (upd (upd (upd fnl (6 * kl) (-1)) (6 * kl + 1) 0) (6 * kl + 2) (-9)) (6 * kl + 3) (-9)) (6 * kl + 4) (nI kc)) (6 * kl + 5) (nI kc))), (nF, sA G 5 (FCT K)), (h0, oX12 nw nk mhasKept nt (nI ktp) nr mrowMany mroundOf mroundFrom mouts nm mfromHour mtoHour ns (nI ks) (nI (TKE bt ktp ks)) (nI (TKN bt ktp ks)) 1 0 (nI kc) (nI kl) nl nc nF np ntr nb mbestCost nso nsi nit nsh nsf nss nrc mtraced mdealer mnumber mwhose msize misParted)]) hP hD (fun hP hD => ?_)
          refine toQ hQ0 ?_
          exact RV hC hP hD hS [4, 0, 1, 2, 3] (1, ks, kc, fnc, upd (upd (upd (upd (upd (upd fnl (6 * kl) (-1)) (6 * kl + 1) 0) (6 * kl + 2) (-9)) (6 * kl + 3) (-9)) (6 * kl + 4) (nI kc)) (6 * kl + 5) (nI kc), LN0, [], []) rfl rfl (by decide) (Or.inr ⟨rfl, Or.inl ⟨SRT.n4 hq9549 hq9622 hq9737 hq9769, rfl⟩, by (try dsimp only); omega⟩) gX12_lineAt_15.2.2
def K_w_read (l : Launch) (G : GG) (K : OO) (k7 : Nat) (h0 : Nat) (nw : Nat) (nk : Nat) (mhasKept : Int32) (nt : Nat) (ktp : Nat) (nr : Nat) (mrowMany : Int32) (mroundOf : Int32) (mroundFrom : Int32) (mouts : Int32) (nm : Nat) (mfromHour : Int32) (mtoHour : Int32) (ns : Nat) (mfrom : Int32) (mto : Int32) (msort : Int32) (misFault : Int32) (mdeep : Int32) (mcoded : Int32) (mlines : Int32) (nl : Nat) (nc : Nat) (nF : Nat) (np : Nat) (ntr : Nat) (nb : Nat) (mbestCost : Int32) (nso : Nat) (nsi : Nat) (nit : Nat) (nsh : Nat) (nsf : Nat) (nss : Nat) (nrc : Nat) (mtraced : Int32) (mdealer : Int32) (mnumber : Int32) (mwhose : Int32) (msize : Int32) (misParted : Int32) (fnw : Nat → Int32) (fnt : Nat → Int32) (fnc : Nat → Int32) (fnl : Nat → Int32) (bt : Nat → Int32) : Prop := MIo l G K yX12_read cX12_read 5 (some .int) 33 0 0 [.ref h0] [(h0, oX12 nw nk mhasKept nt (nI ktp) nr mrowMany mroundOf mroundFrom mouts nm mfromHour mtoHour ns mfrom mto msort misFault mdeep mcoded mlines nl nc nF np ntr nb mbestCost nso nsi nit nsh nsf nss nrc mtraced mdealer mnumber mwhose msize misParted), (nw, iA G 1662 fnw), (nt, iA G 240 fnt), (nc, iA G 100 fnc), (nl, iA G 54 fnl), (nF, sA G 5 (FCT K))] (fun (r : Int32) (u : Int32 × Int32 × Int32 × Int32 × Int32 × Int32 × (Nat → Int32) × (Nat → Int32) × (Nat → Int32)) => (∃ (rq:Int32), (RDQ bt ktp k7 rq ∧ u.2.2.2.2.2.2.1 7 = ifc (rq = fnw 7) (fnw 7 + 1) (fnw 7) ∧ MRD bt ktp rq k7 fnw u.2.2.2.2.2.2.1 ∧ MSD bt ktp rq k7 fnw u.2.2.2.2.2.2.1) ∧ r = rq) ∧ (NI u.2.2.2.2.2.2.1 ∧ VI u.2.2.2.2.2.2.1 ∧ SCX u.2.2.2.2.2.2.1 (fnw 0) (fnw 1) (fnw 2) (fnw 3) (fnw 4) (fnw 5) (fnw 6) (fnw 8) (fnw 9) (fnw 10) (fnw 11) ∧ FRV u.2.2.2.2.2.2.1 fnw 176 1424)) (fun u : Int32 × Int32 × Int32 × Int32 × Int32 × Int32 × (Nat → Int32) × (Nat → Int32) × (Nat → Int32) => [(h0, oX12 nw nk mhasKept nt 0 nr mrowMany mroundOf mroundFrom mouts nm mfromHour mtoHour ns u.2.1 u.2.2.1 u.2.2.2.1 u.1 0 u.2.2.2.2.1 u.2.2.2.2.2.1 nl nc nF np ntr nb mbestCost nso nsi nit nsh nsf nss nrc mtraced mdealer mnumber mwhose msize misParted), (nw, iA G 1662 u.2.2.2.2.2.2.1), (nt, iA G 240 fnt), (nc, iA G 100 u.2.2.2.2.2.2.2.1), (nl, iA G 54 u.2.2.2.2.2.2.2.2), (nF, sA G 5 (FCT K))])
set_option maxHeartbeats 4000000 in
set_option maxRecDepth 100000 in
theorem w_read (l : Launch) (G : GG) (K : OO) (k7 : Nat) (h0 : Nat) (nw : Nat) (nk : Nat) (mhasKept : Int32) (nt : Nat) (ktp : Nat) (nr : Nat) (mrowMany : Int32) (mroundOf : Int32) (mroundFrom : Int32) (mouts : Int32) (nm : Nat) (mfromHour : Int32) (mtoHour : Int32) (ns : Nat) (mfrom : Int32) (mto : Int32) (msort : Int32) (misFault : Int32) (mdeep : Int32) (mcoded : Int32) (mlines : Int32) (nl : Nat) (nc : Nat) (nF : Nat) (np : Nat) (ntr : Nat) (nb : Nat) (mbestCost : Int32) (nso : Nat) (nsi : Nat) (nit : Nat) (nsh : Nat) (nsf : Nat) (nss : Nat) (nrc : Nat) (mtraced : Int32) (mdealer : Int32) (mnumber : Int32) (mwhose : Int32) (msize : Int32) (misParted : Int32) (fnw : Nat → Int32) (fnt : Nat → Int32) (fnc : Nat → Int32) (fnl : Nat → Int32) (bt : Nat → Int32) (hN : NI fnw) (hV : VI fnw) (htp : ktp ≤ 240) (hFB : FBT fnt bt ktp) (ek7 : fnw 7 = nI k7) (hk7 : k7 ≤ 8) : K_w_read l G K k7 h0 nw nk mhasKept nt ktp nr mrowMany mroundOf mroundFrom mouts nm mfromHour mtoHour ns mfrom mto msort misFault mdeep mcoded mlines nl nc nF np ntr nb mbestCost nso nsi nit nsh nsf nss nrc mtraced mdealer mnumber mwhose msize misParted fnw fnt fnc fnl bt := by
  refine MIo.start (by decide +kernel) (Nat.le_of_ble_eq_true rfl) ?_
  intro p e s m below meth c A ls hC hK hP hD hS hA hl hO
  refine absQ (fun Q0 hQ0 => ?_)
  have hl : lv_has ls 5 [(0, .ref h0)] := hl
  refine Kan8 hC (fun hx hb hr hml hB hown hlocks hnm => ?_)
  refine lv_aload_n hx hb gX12_read_0.1 rfl (lv_at0 hl) ?_
  refine lv_iconst (v := 0) hx hb gX12_read_0.2.1 (by decide) ?_
  refine pf_X12_211 hC rfl hK hP hD hS 0 (ws' := [(h0, oX12 nw nk mhasKept nt (nI ktp) nr mrowMany mroundOf mroundFrom mouts nm mfromHour mtoHour ns mfrom 0 msort misFault mdeep mcoded mlines nl nc nF np ntr nb mbestCost nso nsi nit nsh nsf nss nrc mtraced mdealer mnumber mwhose msize misParted), (nw, iA G 1662 fnw), (nt, iA G 240 fnt), (nc, iA G 100 fnc), (nl, iA G 54 fnl), (nF, sA G 5 (FCT K))]) rfl (Nat.le_of_ble_eq_true rfl) rfl rfl rfl gX12_read_0.2.2.1 (fun H locs hP hD hS => ?_)
  refine lv_aload_n hx hb gX12_read_0.2.2.2.1 rfl (lv_at0 hl) ?_
  refine lv_iconst (v := 0) hx hb gX12_read_0.2.2.2.2.1 (by decide) ?_
  refine pf_X12_222 hC rfl hK hP hD hS 0 (ws' := [(h0, oX12 nw nk mhasKept nt (nI ktp) nr mrowMany mroundOf mroundFrom mouts nm mfromHour mtoHour ns mfrom 0 msort 0 mdeep mcoded mlines nl nc nF np ntr nb mbestCost nso nsi nit nsh nsf nss nrc mtraced mdealer mnumber mwhose msize misParted), (nw, iA G 1662 fnw), (nt, iA G 240 fnt), (nc, iA G 100 fnc), (nl, iA G 54 fnl), (nF, sA G 5 (FCT K))]) rfl (Nat.le_of_ble_eq_true rfl) rfl (by decide +kernel) (by decide +kernel) gX12_read_0.2.2.2.2.2.1 (fun H locs hP hD hS => ?_)
  refine lv_aload_n hx hb gX12_read_0.2.2.2.2.2.2.1 rfl (lv_at0 hl) ?_
  refine lv_iconst (v := 0) hx hb gX12_read_0.2.2.2.2.2.2.2.1 (by decide) ?_
  refine pf_X12_265 hC rfl hK hP hD hS 0 (ws' := [(h0, oX12 nw nk mhasKept nt (nI ktp) nr mrowMany mroundOf mroundFrom mouts nm mfromHour mtoHour ns mfrom 0 msort 0 0 mcoded mlines nl nc nF np ntr nb mbestCost nso nsi nit nsh nsf nss nrc mtraced mdealer mnumber mwhose msize misParted), (nw, iA G 1662 fnw), (nt, iA G 240 fnt), (nc, iA G 100 fnc), (nl, iA G 54 fnl), (nF, sA G 5 (FCT K))]) rfl (Nat.le_of_ble_eq_true rfl) rfl rfl rfl gX12_read_0.2.2.2.2.2.2.2.2.1 (fun H locs hP hD hS => ?_)
  refine lv_aload_n hx hb gX12_read_0.2.2.2.2.2.2.2.2.2 rfl (lv_at0 hl) ?_
  refine lv_iconst (v := 0) hx hb gX12_read_1.1 (by decide) ?_
  refine pf_X12_240 hC rfl hK hP hD hS 0 (ws' := [(h0, oX12 nw nk mhasKept nt (nI ktp) nr mrowMany mroundOf mroundFrom mouts nm mfromHour mtoHour ns mfrom 0 msort 0 0 0 mlines nl nc nF np ntr nb mbestCost nso nsi nit nsh nsf nss nrc mtraced mdealer mnumber mwhose msize misParted), (nw, iA G 1662 fnw), (nt, iA G 240 fnt), (nc, iA G 100 fnc), (nl, iA G 54 fnl), (nF, sA G 5 (FCT K))]) rfl (Nat.le_of_ble_eq_true rfl) rfl rfl rfl gX12_read_1.2.1 (fun H locs hP hD hS => ?_)
  refine lv_aload_n hx hb gX12_read_1.2.2.1 rfl (lv_at0 hl) ?_
  refine lv_iconst (v := 0) hx hb gX12_read_1.2.2.2.1 (by decide) ?_
  refine pf_X12_289 hC rfl hK hP hD hS 0 (ws' := [(h0, oX12 nw nk mhasKept nt (nI ktp) nr mrowMany mroundOf mroundFrom mouts nm mfromHour mtoHour ns mfrom 0 msort 0 0 0 0 nl nc nF np ntr nb mbestCost nso nsi nit nsh nsf nss nrc mtraced mdealer mnumber mwhose msize misParted), (nw, iA G 1662 fnw), (nt, iA G 240 fnt), (nc, iA G 100 fnc), (nl, iA G 54 fnl), (nF, sA G 5 (FCT K))]) rfl (Nat.le_of_ble_eq_true rfl) rfl rfl rfl gX12_read_1.2.2.2.2.1 (fun H locs hP hD hS => ?_)
  refine lv_aload_n hx hb gX12_read_1.2.2.2.2.2.1 rfl (lv_at0 hl) ?_
  refine vV (wr := [(nw, iA G 1662 fnw), (nc, iA G 100 fnc), (nl, iA G 54 fnl), (nF, sA G 5 (FCT K))]) hC hK hl hP hD hS hA (m_nextX l G h0 nw nk mhasKept nt ktp nr mrowMany mroundOf mroundFrom mouts nm mfromHour mtoHour ns mfrom 0 msort 0 0 0 0 nl nc nF np ntr nb mbestCost nso nsi nit nsh nsf nss nrc mtraced mdealer mnumber mwhose msize misParted fnt bt (by omega) (htp) (hFB)) si_X12_233 [0, 2] [1, 3, 4, 5] sm_0_2 fm_0_2 nd_0_2 sm_1_3_4_5 nd_1_3_4_5 dj_0_2__1_3_4_5 rfl rfl rfl rfl rfl (Nat.le_of_ble_eq_true rfl) rm_33_3_1 ⟨Nat.le_of_ble_eq_true rfl, Nat.le_of_ble_eq_true rfl⟩ gX12_read_1.2.2.2.2.2.2.1 (fun u9782 H locs hr9781 hP hD hS => ?_)
  refine Kpdr (ws := [(nw, iA G 1662 fnw), (nc, iA G 100 fnc), (nl, iA G 54 fnl), (nF, sA G 5 (FCT K)), (h0, oX12 nw nk mhasKept nt (nI ktp) nr mrowMany mroundOf mroundFrom mouts nm mfromHour mtoHour ns (nI (SK bt ktp 0)) (nI (TKE bt ktp (SK bt ktp 0))) (nI (TKN bt ktp (SK bt ktp 0))) 0 0 0 0 nl nc nF np ntr nb mbestCost nso nsi nit nsh nsf nss nrc mtraced mdealer mnumber mwhose msize misParted), (nt, iA G 240 fnt)]) hP hD (fun hP hD => ?_)
  have hsk0 := (SK.sp (bt := bt) (n := ktp) (i := 0) (Nat.zero_le _)).2.1
  have keyR : ∀ (nR : Nat) (vks : Nat) (vff : Int32) (vc : Nat) (vl : Nat) (vL : Nat → Int32) (vC : Nat → Int32) (H : Heap) (locs : List Loc) (ls : Array Slot), ((vff = 1 ∧ TXT bt ktp 9 (SK bt ktp 0) [] [] [] (0, vks, [], [], []) ∧ vks ≤ ktp) ∨ (vff = 0 ∧ TXM bt ktp (SK bt ktp 0) vl vks vc vL vC ∧ LKB vL vC vc vl ∧ vl ≤ 9 ∧ 3 * vc ≤ vks ∧ vks ≤ ktp ∧ 10 ≤ vl + nR)) → va_PD G A [(nw, iA G 1662 fnw), (nc, iA G 100 vC), (nl, iA G 54 vL), (nF, sA G 5 (FCT K)), (h0, oX12 nw nk mhasKept nt (nI ktp) nr mrowMany mroundOf mroundFrom mouts nm mfromHour mtoHour ns (nI vks) (nI (TKE bt ktp vks)) (nI (TKN bt ktp vks)) vff 0 (nI vc) (nI vl) nl nc nF np ntr nb mbestCost nso nsi nit nsh nsf nss nrc mtraced mdealer mnumber mwhose msize misParted), (nt, iA G 240 fnt)] H → va_S A s.heap H locs → lv_has ls 5 [(0, .ref h0)] → W p l e (RM 33 0 0) s m ([.ref h0] : List Value).toArray below meth c H locs 0 0 Q0 (F0 m 29 ls []) := by
    intro nR
    induction nR with
    | zero =>
      intro vks vff vc vl vL vC H locs ls hiR hPD hS hl
      refine Kan2 hPD (fun hP hD => ?_)
      rcases hiR with ⟨rfl, hT0, hk0⟩ | ⟨rfl, hrw, hLK, hR1, hR2, hR3, hR4⟩
      · refine lv_aload_n hx hb gX12_read_1.2.2.2.2.2.2.2.1 rfl (lv_at0 hl) ?_
        refine gf_X12_222 hC rfl hK hP 4 rfl rfl gX12_read_1.2.2.2.2.2.2.2.2.1 ?_
        refine lv_if_ne (tgt := 92) hx hb gX12_read_1.2.2.2.2.2.2.2.2.2 (by decide) (fun _ => ?_) (fun c9 => absurd c9 (by decide))
        refine lv_aload_n hx hb gX12_read_4.2.2.2.2.2.2.2.2.1 rfl (lv_at0 hl) ?_
        refine gf_X12_214 hC rfl hK hP 4 rfl rfl gX12_read_4.2.2.2.2.2.2.2.2.2 ?_
        refine lv_istore_n (lv' := [(1, .int (nI vks)), (0, .ref h0)]) hx hb gX12_read_5.1 rfl hl (by decide) rfl (fun ls hl => ?_)
        refine lv_aload_n hx hb gX12_read_5.2.1 rfl (lv_at1 hl) ?_
        refine lv_iconst (v := 0) hx hb gX12_read_5.2.2.1 (by decide) ?_
        refine pf_X12_206 hC rfl hK hP hD hS 4 (ws' := [(nw, iA G 1662 fnw), (nc, iA G 100 vC), (nl, iA G 54 vL), (nF, sA G 5 (FCT K)), (h0, oX12 nw nk mhasKept nt 0 nr mrowMany mroundOf mroundFrom mouts nm mfromHour mtoHour ns (nI vks) (nI (TKE bt ktp vks)) (nI (TKN bt ktp vks)) 1 0 (nI vc) (nI vl) nl nc nF np ntr nb mbestCost nso nsi nit nsh nsf nss nrc mtraced mdealer mnumber mwhose msize misParted), (nt, iA G 240 fnt)]) rfl (Nat.le_of_ble_eq_true rfl) rfl rfl rfl gX12_read_5.2.2.2.1 (fun H locs hP hD hS => ?_)
        refine lv_aload_n hx hb gX12_read_5.2.2.2.2.1 rfl (lv_at1 hl) ?_
        refine gf_X12_222 hC rfl hK hP 4 rfl rfl gX12_read_5.2.2.2.2.2.1 ?_
        refine lv_if_eq (tgt := 114) hx hb gX12_read_5.2.2.2.2.2.2.1 (by decide) (fun c9 => absurd c9 (by decide)) (fun _ => ?_)
        refine lv_bipush (v := (-100)) hx hb gX12_read_5.2.2.2.2.2.2.2.1 (by decide) ?_
        refine lv_iload_n hx hb gX12_read_5.2.2.2.2.2.2.2.2.1 rfl (lv_at0 hl) ?_
        refine lv_isub hx hb gX12_read_5.2.2.2.2.2.2.2.2.2 ?_
        refine toQ hQ0 ?_
        exact RI (v := (-100) - (nI vks)) hC hP hD hS [4, 0, 5, 1, 2, 3] (1, nI vks, nI (TKE bt ktp vks), nI (TKN bt ktp vks), nI vc, nI vl, fnw, vC, vL) rfl rfl (by decide) (⟨⟨_, ⟨Or.inl ⟨vks, hT0, rfl⟩, (ifc_f (by rw [ek7]; exact RDQ.nf (by omega) (by omega))).symm, MRD.n (RDQ.nf (by omega) (by omega)), MSD.n (RDQ.nf (by omega) (by omega))⟩, rfl⟩, ⟨hN, hV, SCX.rf, FRV.rf⟩⟩) rfl gX12_read_6.1
      · exact (show False by omega).elim
    | succ nR ihR =>
      intro vks vff vc vl vL vC H locs ls hiR hPD hS hl
      refine Kan2 hPD (fun hP hD => ?_)
      rcases hiR with ⟨rfl, hT0, hk0⟩ | ⟨rfl, hrw, hLK, hR1, hR2, hR3, hR4⟩
      · refine lv_aload_n hx hb gX12_read_1.2.2.2.2.2.2.2.1 rfl (lv_at0 hl) ?_
        refine gf_X12_222 hC rfl hK hP 4 rfl rfl gX12_read_1.2.2.2.2.2.2.2.2.1 ?_
        refine lv_if_ne (tgt := 92) hx hb gX12_read_1.2.2.2.2.2.2.2.2.2 (by decide) (fun _ => ?_) (fun c9 => absurd c9 (by decide))
        refine lv_aload_n hx hb gX12_read_4.2.2.2.2.2.2.2.2.1 rfl (lv_at0 hl) ?_
        refine gf_X12_214 hC rfl hK hP 4 rfl rfl gX12_read_4.2.2.2.2.2.2.2.2.2 ?_
        refine lv_istore_n (lv' := [(1, .int (nI vks)), (0, .ref h0)]) hx hb gX12_read_5.1 rfl hl (by decide) rfl (fun ls hl => ?_)
        refine lv_aload_n hx hb gX12_read_5.2.1 rfl (lv_at1 hl) ?_
        refine lv_iconst (v := 0) hx hb gX12_read_5.2.2.1 (by decide) ?_
        refine pf_X12_206 hC rfl hK hP hD hS 4 (ws' := [(nw, iA G 1662 fnw), (nc, iA G 100 vC), (nl, iA G 54 vL), (nF, sA G 5 (FCT K)), (h0, oX12 nw nk mhasKept nt 0 nr mrowMany mroundOf mroundFrom mouts nm mfromHour mtoHour ns (nI vks) (nI (TKE bt ktp vks)) (nI (TKN bt ktp vks)) 1 0 (nI vc) (nI vl) nl nc nF np ntr nb mbestCost nso nsi nit nsh nsf nss nrc mtraced mdealer mnumber mwhose msize misParted), (nt, iA G 240 fnt)]) rfl (Nat.le_of_ble_eq_true rfl) rfl rfl rfl gX12_read_5.2.2.2.1 (fun H locs hP hD hS => ?_)
        refine lv_aload_n hx hb gX12_read_5.2.2.2.2.1 rfl (lv_at1 hl) ?_
        refine gf_X12_222 hC rfl hK hP 4 rfl rfl gX12_read_5.2.2.2.2.2.1 ?_
        refine lv_if_eq (tgt := 114) hx hb gX12_read_5.2.2.2.2.2.2.1 (by decide) (fun c9 => absurd c9 (by decide)) (fun _ => ?_)
        refine lv_bipush (v := (-100)) hx hb gX12_read_5.2.2.2.2.2.2.2.1 (by decide) ?_
        refine lv_iload_n hx hb gX12_read_5.2.2.2.2.2.2.2.2.1 rfl (lv_at0 hl) ?_
        refine lv_isub hx hb gX12_read_5.2.2.2.2.2.2.2.2.2 ?_
        refine toQ hQ0 ?_
        exact RI (v := (-100) - (nI vks)) hC hP hD hS [4, 0, 5, 1, 2, 3] (1, nI vks, nI (TKE bt ktp vks), nI (TKN bt ktp vks), nI vc, nI vl, fnw, vC, vL) rfl rfl (by decide) (⟨⟨_, ⟨Or.inl ⟨vks, hT0, rfl⟩, (ifc_f (by rw [ek7]; exact RDQ.nf (by omega) (by omega))).symm, MRD.n (RDQ.nf (by omega) (by omega)), MSD.n (RDQ.nf (by omega) (by omega))⟩, rfl⟩, ⟨hN, hV, SCX.rf, FRV.rf⟩⟩) rfl gX12_read_6.1
      · have tkv := TKE.ge (bt := bt) (n := ktp) (s := vks) (by omega)
        have tk3v := TKN.le3 bt ktp vks
        obtain ⟨l9, c9, q9, hln9, hst9, hco9⟩ := hrw
        have hsl9 := hst9.1
        refine lv_aload_n hx hb gX12_read_1.2.2.2.2.2.2.2.1 rfl (lv_at0 hl) ?_
        refine gf_X12_222 hC rfl hK hP 4 rfl rfl gX12_read_1.2.2.2.2.2.2.2.2.1 ?_
        refine lv_if_ne (tgt := 92) hx hb gX12_read_1.2.2.2.2.2.2.2.2.2 (by decide) (fun c9 => absurd (by decide) c9) (fun _ => ?_)
        refine lv_aload_n hx hb gX12_read_2.1 rfl (lv_at0 hl) ?_
        refine gf_X12_217 hC rfl hK hP 4 rfl rfl gX12_read_2.2.1 ?_
        refine lv_if_eq (tgt := 92) hx hb gX12_read_2.2.2.1 (by decide) (fun c_40_9783 => ?_) (fun c_40_9783 => ?_)
        · have nb9784 : (TKN bt ktp vks) = 0 := (nI_eq (a := (TKN bt ktp vks)) (b := 0) (by omega) (by omega)).mp c_40_9783
          refine lv_aload_n hx hb gX12_read_4.2.2.2.2.2.2.2.2.1 rfl (lv_at0 hl) ?_
          refine gf_X12_214 hC rfl hK hP 4 rfl rfl gX12_read_4.2.2.2.2.2.2.2.2.2 ?_
          refine lv_istore_n (lv' := [(1, .int (nI vks)), (0, .ref h0)]) hx hb gX12_read_5.1 rfl hl (by decide) rfl (fun ls hl => ?_)
          refine lv_aload_n hx hb gX12_read_5.2.1 rfl (lv_at1 hl) ?_
          refine lv_iconst (v := 0) hx hb gX12_read_5.2.2.1 (by decide) ?_
          refine pf_X12_206 hC rfl hK hP hD hS 4 (ws' := [(nw, iA G 1662 fnw), (nc, iA G 100 vC), (nl, iA G 54 vL), (nF, sA G 5 (FCT K)), (h0, oX12 nw nk mhasKept nt 0 nr mrowMany mroundOf mroundFrom mouts nm mfromHour mtoHour ns (nI vks) (nI (TKE bt ktp vks)) (nI (TKN bt ktp vks)) 0 0 (nI vc) (nI vl) nl nc nF np ntr nb mbestCost nso nsi nit nsh nsf nss nrc mtraced mdealer mnumber mwhose msize misParted), (nt, iA G 240 fnt)]) rfl (Nat.le_of_ble_eq_true rfl) rfl rfl rfl gX12_read_5.2.2.2.1 (fun H locs hP hD hS => ?_)
          refine lv_aload_n hx hb gX12_read_5.2.2.2.2.1 rfl (lv_at1 hl) ?_
          refine gf_X12_222 hC rfl hK hP 4 rfl rfl gX12_read_5.2.2.2.2.2.1 ?_
          refine lv_if_eq (tgt := 114) hx hb gX12_read_5.2.2.2.2.2.2.1 (by decide) (fun _ => ?_) (fun c9 => absurd (by decide) c9)
          refine lv_aload_n hx hb gX12_read_6.2.1 rfl (lv_at1 hl) ?_
          refine gf_X12_9 hC rfl hK hP 4 rfl rfl gX12_read_6.2.2.1 ?_
          refine lv_bipush (v := 7) hx hb gX12_read_6.2.2.2.1 (by decide) ?_
          refine ald hC hK hP 0 rfl (vin (by decide +kernel)) (k := 7) (by decide +kernel) (v := nI k7) (ek7) gX12_read_6.2.2.2.2.1 ?_
          refine lv_istore_n (lv' := [(2, .int (nI k7)), (1, .int (nI vks)), (0, .ref h0)]) hx hb gX12_read_6.2.2.2.2.2.1 rfl hl (by decide) rfl (fun ls hl => ?_)
          refine lv_iload_n hx hb gX12_read_6.2.2.2.2.2.2.1 rfl (lv_at0 hl) ?_
          refine lv_bipush (v := 8) hx hb gX12_read_6.2.2.2.2.2.2.2.1 (by decide) ?_
          refine lv_icmp_ne (tgt := 131) hx hb gX12_read_6.2.2.2.2.2.2.2.2.1 (by decide) (fun c_125_9786 => ?_) (fun c_125_9786 => ?_)
          · have nb9787 : ¬ k7 = 8 := fun h9 => c_125_9786 ((nI_eq (a := k7) (b := 8) (by omega) (by omega)).mpr h9)
            refine lv_sipush (v := 176) hx hb gX12_read_7.2.1 (by decide) ?_
            refine lv_sipush (v := 156) hx hb gX12_read_7.2.2.1 (by decide) ?_
            refine lv_iload_n hx hb gX12_read_7.2.2.2.1 rfl (lv_at0 hl) ?_
            refine lv_imul hx hb gX12_read_7.2.2.2.2.1 ?_
            refine eqi (x1 := nI (156 * k7)) (nI_mul 156 k7) ?_
            refine lv_iadd hx hb gX12_read_7.2.2.2.2.2.1 ?_
            refine eqi (x1 := nI (176 + 156 * k7)) (nI_add 176 (156 * k7)) ?_
            refine lv_istore_n (lv' := [(3, .int (nI (176 + 156 * k7))), (2, .int (nI k7)), (1, .int (nI vks)), (0, .ref h0)]) hx hb gX12_read_7.2.2.2.2.2.2.1 rfl hl (by decide) rfl (fun ls hl => ?_)
            refine lv_aload_n hx hb gX12_read_7.2.2.2.2.2.2.2.1 rfl (lv_at3 hl) ?_
            refine gf_X12_9 hC rfl hK hP 4 rfl rfl gX12_read_7.2.2.2.2.2.2.2.2.1 ?_
            refine lv_iload_n hx hb gX12_read_7.2.2.2.2.2.2.2.2.2 rfl (lv_at0 hl) ?_
            refine lv_iconst (v := 0) hx hb gX12_read_8.1 (by decide) ?_
            refine lv_iadd hx hb gX12_read_8.2.1 ?_
            refine eqi (x1 := nI (176 + 156 * k7 + 0)) (nI_add (176 + 156 * k7) 0) ?_
            refine lv_aload_n hx hb gX12_read_8.2.2.1 rfl (lv_at3 hl) ?_
            refine gf_X12_9 hC rfl hK hP 4 rfl rfl gX12_read_8.2.2.2.1 ?_
            refine lv_iconst (v := 0) hx hb gX12_read_8.2.2.2.2.1 (by decide) ?_
            refine ald hC hK hP 0 rfl (vin (by decide +kernel)) (k := 0) (by decide +kernel) (v := fnw 0) (rfl) gX12_read_8.2.2.2.2.2.1 ?_
            refine astN hC hK hP hD hS 0 (ws' := [(nw, iA G 1662 (upd fnw (176 + 156 * k7 + 0) (fnw 0))), (nc, iA G 100 vC), (nl, iA G 54 vL), (nF, sA G 5 (FCT K)), (h0, oX12 nw nk mhasKept nt 0 nr mrowMany mroundOf mroundFrom mouts nm mfromHour mtoHour ns (nI vks) (nI (TKE bt ktp vks)) (nI (TKN bt ktp vks)) 0 0 (nI vc) (nI vl) nl nc nF np ntr nb mbestCost nso nsi nit nsh nsf nss nrc mtraced mdealer mnumber mwhose msize misParted), (nt, iA G 240 fnt)]) rfl (k := (176 + 156 * k7 + 0)) (by omega) (Nat.le_of_ble_eq_true rfl) (rfl) gX12_read_8.2.2.2.2.2.2.1 (fun H locs hP hD hS => ?_)
            refine lv_aload_n hx hb gX12_read_8.2.2.2.2.2.2.2.1 rfl (lv_at3 hl) ?_
            refine gf_X12_9 hC rfl hK hP 4 rfl rfl gX12_read_8.2.2.2.2.2.2.2.2.1 ?_
            refine lv_iload_n hx hb gX12_read_8.2.2.2.2.2.2.2.2.2 rfl (lv_at0 hl) ?_
            refine lv_iconst (v := 1) hx hb gX12_read_9.1 (by decide) ?_
            refine lv_iadd hx hb gX12_read_9.2.1 ?_
            refine eqi (x1 := nI (176 + 156 * k7 + 1)) (nI_add (176 + 156 * k7) 1) ?_
            refine lv_aload_n hx hb gX12_read_9.2.2.1 rfl (lv_at3 hl) ?_
            refine gf_X12_289 hC rfl hK hP 4 rfl rfl gX12_read_9.2.2.2.1 ?_
            refine astN hC hK hP hD hS 0 (ws' := [(nw, iA G 1662 (upd (upd fnw (176 + 156 * k7 + 0) (fnw 0)) (176 + 156 * k7 + 1) (nI vl))), (nc, iA G 100 vC), (nl, iA G 54 vL), (nF, sA G 5 (FCT K)), (h0, oX12 nw nk mhasKept nt 0 nr mrowMany mroundOf mroundFrom mouts nm mfromHour mtoHour ns (nI vks) (nI (TKE bt ktp vks)) (nI (TKN bt ktp vks)) 0 0 (nI vc) (nI vl) nl nc nF np ntr nb mbestCost nso nsi nit nsh nsf nss nrc mtraced mdealer mnumber mwhose msize misParted), (nt, iA G 240 fnt)]) rfl (k := (176 + 156 * k7 + 1)) (by omega) (Nat.le_of_ble_eq_true rfl) (rfl) gX12_read_9.2.2.2.2.1 (fun H locs hP hD hS => ?_)
            refine lv_iconst (v := 0) hx hb gX12_read_9.2.2.2.2.2.1 (by decide) ?_
            refine lv_istore (lv' := [(4, .int 0), (3, .int (nI (176 + 156 * k7))), (2, .int (nI k7)), (1, .int (nI vks)), (0, .ref h0)]) hx hb gX12_read_9.2.2.2.2.2.2.1 hl (by decide) rfl (fun ls hl => ?_)
            have hNF : NI (upd (upd fnw (176 + 156 * k7 + 0) (fnw 0)) (176 + 156 * k7 + 1) (nI vl)) := (hN.setA (bnd_ver (by omega) (by omega))).setA (bnd_ver (by omega) (by omega))
            have keyP : ∀ (nP kP : Nat) (vW : Nat → Int32) (H : Heap) (locs : List Loc) (ls : Array Slot), kP + nP = 54 → (CP (upd (upd fnw (176 + 156 * k7 + 0) (fnw 0)) (176 + 156 * k7 + 1) (nI vl)) vW (176 + 156 * k7 + 2) kP vL) → va_PD G A [(nw, iA G 1662 vW), (nc, iA G 100 vC), (nl, iA G 54 vL), (nF, sA G 5 (FCT K)), (h0, oX12 nw nk mhasKept nt 0 nr mrowMany mroundOf mroundFrom mouts nm mfromHour mtoHour ns (nI vks) (nI (TKE bt ktp vks)) (nI (TKN bt ktp vks)) 0 0 (nI vc) (nI vl) nl nc nF np ntr nb mbestCost nso nsi nit nsh nsf nss nrc mtraced mdealer mnumber mwhose msize misParted), (nt, iA G 240 fnt)] H → va_S A s.heap H locs → lv_has ls 5 [(4, .int (nI kP)), (3, .int (nI (176 + 156 * k7))), (2, .int (nI k7)), (1, .int (nI vks)), (0, .ref h0)] → W p l e (RM 33 0 0) s m ([.ref h0] : List Value).toArray below meth c H locs 0 0 Q0 (F0 m 170 ls []) := by
              intro nP
              induction nP with
              | zero =>
                intro kP vW H locs ls hkP hcp hPD hS hl
                refine Kan2 hPD (fun hP hD => ?_)
                obtain rfl : 54 = kP := by omega
                have hl : lv_has ls 5 [(4, .int 54), (3, .int (nI (176 + 156 * k7))), (2, .int (nI k7)), (1, .int (nI vks)), (0, .ref h0)] := hl
                refine lv_iload hx hb gX12_read_9.2.2.2.2.2.2.2.1 (lv_at0 hl) ?_
                refine lv_bipush (v := 54) hx hb gX12_read_9.2.2.2.2.2.2.2.2.1 (by decide) ?_
                refine lv_icmp_ge (tgt := 201) hx hb gX12_read_9.2.2.2.2.2.2.2.2.2 (by decide) (fun _ => ?_) (fun c9 => absurd (by decide) c9)
                refine lv_iconst (v := 0) hx hb gX12_read_11.2.2.2.2.1 (by decide) ?_
                refine lv_istore (lv' := [(4, .int 0), (3, .int (nI (176 + 156 * k7))), (2, .int (nI k7)), (1, .int (nI vks)), (0, .ref h0)]) hx hb gX12_read_11.2.2.2.2.2.1 hl (by decide) rfl (fun ls hl => ?_)
                have keyQ : ∀ (nQ kQ : Nat) (vX : Nat → Int32) (H : Heap) (locs : List Loc) (ls : Array Slot), kQ + nQ = vc → (CP vW vX (176 + 156 * k7 + 56) kQ vC) → va_PD G A [(nw, iA G 1662 vX), (nc, iA G 100 vC), (nl, iA G 54 vL), (nF, sA G 5 (FCT K)), (h0, oX12 nw nk mhasKept nt 0 nr mrowMany mroundOf mroundFrom mouts nm mfromHour mtoHour ns (nI vks) (nI (TKE bt ktp vks)) (nI (TKN bt ktp vks)) 0 0 (nI vc) (nI vl) nl nc nF np ntr nb mbestCost nso nsi nit nsh nsf nss nrc mtraced mdealer mnumber mwhose msize misParted), (nt, iA G 240 fnt)] H → va_S A s.heap H locs → lv_has ls 5 [(4, .int (nI kQ)), (3, .int (nI (176 + 156 * k7))), (2, .int (nI k7)), (1, .int (nI vks)), (0, .ref h0)] → W p l e (RM 33 0 0) s m ([.ref h0] : List Value).toArray below meth c H locs 0 0 Q0 (F0 m 204 ls []) := by
                  intro nQ
                  induction nQ with
                  | zero =>
                    intro kQ vX H locs ls hkQ hcq hPD hS hl
                    refine Kan2 hPD (fun hP hD => ?_)
                    obtain rfl : vc = kQ := by omega
                    have hl : lv_has ls 5 [(4, .int (nI vc)), (3, .int (nI (176 + 156 * k7))), (2, .int (nI k7)), (1, .int (nI vks)), (0, .ref h0)] := hl
                    refine lv_iload hx hb gX12_read_11.2.2.2.2.2.2.1 (lv_at0 hl) ?_
                    refine lv_aload_n hx hb gX12_read_11.2.2.2.2.2.2.2.1 rfl (lv_at4 hl) ?_
                    refine gf_X12_240 hC rfl hK hP 4 rfl rfl gX12_read_11.2.2.2.2.2.2.2.2.1 ?_
                    refine lv_icmp_ge (tgt := 238) hx hb gX12_read_11.2.2.2.2.2.2.2.2.2 (by decide) (fun _ => ?_) (fun c9 => absurd (Int32.le_refl _) c9)
                    have e7X : vX 7 = nI k7 := (hcq.2.1 7 (by omega)).trans ((hcp.2.1 7 (by omega)).trans ((upd_ne (by omega)).trans ((upd_ne (by omega)).trans ek7)))
                    refine lv_aload_n hx hb gX12_read_13.2.2.2.2.1 rfl (lv_at4 hl) ?_
                    refine gf_X12_9 hC rfl hK hP 4 rfl rfl gX12_read_13.2.2.2.2.2.1 ?_
                    refine lv_bipush (v := 7) hx hb gX12_read_13.2.2.2.2.2.2.1 (by decide) ?_
                    refine lv_dup2_11 hx hb gX12_read_13.2.2.2.2.2.2.2.1 rfl rfl ?_
                    refine ald hC hK hP 0 rfl (vin (by decide +kernel)) (k := 7) (by decide +kernel) (v := nI k7) (e7X) gX12_read_13.2.2.2.2.2.2.2.2.1 ?_
                    refine lv_iconst (v := 1) hx hb gX12_read_13.2.2.2.2.2.2.2.2.2 (by decide) ?_
                    refine lv_iadd hx hb gX12_read_14.1 ?_
                    refine eqi (x1 := nI (k7 + 1)) (nI_add k7 1) ?_
                    refine ast hC hK hP hD hS 0 (ws' := [(nw, iA G 1662 (upd vX 7 (nI (k7 + 1)))), (nc, iA G 100 vC), (nl, iA G 54 vL), (nF, sA G 5 (FCT K)), (h0, oX12 nw nk mhasKept nt 0 nr mrowMany mroundOf mroundFrom mouts nm mfromHour mtoHour ns (nI vks) (nI (TKE bt ktp vks)) (nI (TKN bt ktp vks)) 0 0 (nI vc) (nI vl) nl nc nF np ntr nb mbestCost nso nsi nit nsh nsf nss nrc mtraced mdealer mnumber mwhose msize misParted), (nt, iA G 240 fnt)]) rfl (vin (by decide +kernel)) (k := 7) (by decide +kernel) (rfl) gX12_read_14.2.1 (fun H locs hP hD hS => ?_)
                    refine lv_iload_n hx hb gX12_read_14.2.2.1 rfl (lv_at2 hl) ?_
                    refine toQ hQ0 ?_
                    exact RI (v := nI k7) hC hP hD hS [4, 0, 5, 1, 2, 3] (0, nI vks, nI (TKE bt ktp vks), nI (TKN bt ktp vks), nI vc, nI vl, upd vX 7 (nI (k7 + 1)), vC, vL) rfl rfl (by decide) (⟨⟨_, ⟨Or.inr ⟨l9, c9, q9, hco9 _ (TXT.end (by omega) _), Or.inr ⟨by omega, rfl⟩⟩, (show (upd vX 7 (nI (k7 + 1))) 7 = ifc (nI k7 = fnw 7) (fnw 7 + 1) (fnw 7) from (upd_eq rfl).trans (by rw [ek7, ifc_t rfl]; exact (nI_1 k7).symm)), MRD.y (hco9 _ (TXT.end (by omega) _)) hln9 (by omega) hcp hcq, MSD.y (hco9 _ (TXT.end (by omega) _)) hst9 hcp hcq⟩, rfl⟩, ⟨hcq.1.setN (B := 8) (show bnd 7 = (0, ((8 : Nat) : Int)) from by decide +kernel) (by omega) (by decide), VI.newrow hV (by omega) (by omega) (by omega) hcp hcq hLK, (hcq.SC (by omega) (hcp.SC (by omega) ((SCX.rf.set (by omega)).set (by omega)))).set (by omega), (hcq.FV (by omega) (by omega) (hcp.FV (by omega) (by omega) ((FRV.rf.set (by omega)).set (by omega)))).set (by omega)⟩⟩) rfl gX12_read_14.2.2.2
                  | succ nQ ihQ =>
                    intro kQ vX H locs ls hkQ hcq hPD hS hl
                    refine Kan2 hPD (fun hP hD => ?_)
                    refine lv_iload hx hb gX12_read_11.2.2.2.2.2.2.1 (lv_at0 hl) ?_
                    refine lv_aload_n hx hb gX12_read_11.2.2.2.2.2.2.2.1 rfl (lv_at4 hl) ?_
                    refine gf_X12_240 hC rfl hK hP 4 rfl rfl gX12_read_11.2.2.2.2.2.2.2.2.1 ?_
                    refine lv_icmp_ge (tgt := 238) hx hb gX12_read_11.2.2.2.2.2.2.2.2.2 (by decide) (fun c9 => absurd c9 (nI_ge (a := kQ) (b := vc) (by omega) (by omega))) (fun _ => ?_)
                    refine lv_aload_n hx hb gX12_read_12.1 rfl (lv_at4 hl) ?_
                    refine gf_X12_9 hC rfl hK hP 4 rfl rfl gX12_read_12.2.1 ?_
                    refine lv_iload_n hx hb gX12_read_12.2.2.1 rfl (lv_at1 hl) ?_
                    refine lv_bipush (v := 56) hx hb gX12_read_12.2.2.2.1 (by decide) ?_
                    refine lv_iadd hx hb gX12_read_12.2.2.2.2.1 ?_
                    refine eqi (x1 := nI (176 + 156 * k7 + 56)) (nI_add (176 + 156 * k7) 56) ?_
                    refine lv_iload hx hb gX12_read_12.2.2.2.2.2.1 (lv_at0 hl) ?_
                    refine lv_iadd hx hb gX12_read_12.2.2.2.2.2.2.1 ?_
                    refine eqi (x1 := nI (176 + 156 * k7 + 56 + kQ)) (nI_add (176 + 156 * k7 + 56) kQ) ?_
                    refine lv_aload_n hx hb gX12_read_12.2.2.2.2.2.2.2.1 rfl (lv_at4 hl) ?_
                    refine gf_X12_35 hC rfl hK hP 4 rfl rfl gX12_read_12.2.2.2.2.2.2.2.2.1 ?_
                    refine lv_iload hx hb gX12_read_12.2.2.2.2.2.2.2.2.2 (lv_at0 hl) ?_
                    refine aldN hC hK hP 1 rfl (k := kQ) (by omega) (Nat.le_of_ble_eq_true rfl) (v := vC kQ) rfl gX12_read_13.1 ?_
                    refine astN hC hK hP hD hS 0 (ws' := [(nw, iA G 1662 (upd vX (176 + 156 * k7 + 56 + kQ) (vC kQ))), (nc, iA G 100 vC), (nl, iA G 54 vL), (nF, sA G 5 (FCT K)), (h0, oX12 nw nk mhasKept nt 0 nr mrowMany mroundOf mroundFrom mouts nm mfromHour mtoHour ns (nI vks) (nI (TKE bt ktp vks)) (nI (TKN bt ktp vks)) 0 0 (nI vc) (nI vl) nl nc nF np ntr nb mbestCost nso nsi nit nsh nsf nss nrc mtraced mdealer mnumber mwhose msize misParted), (nt, iA G 240 fnt)]) rfl (k := (176 + 156 * k7 + 56 + kQ)) (by omega) (Nat.le_of_ble_eq_true rfl) (rfl) gX12_read_13.2.1 (fun H locs hP hD hS => ?_)
                    refine lv_iinc (v := nI (kQ + 1)) (lv' := [(4, .int (nI (kQ + 1))), (3, .int (nI (176 + 156 * k7))), (2, .int (nI k7)), (1, .int (nI vks)), (0, .ref h0)]) hx hb gX12_read_13.2.2.1 hl (k := 0) rfl (nI_1 _) (by decide) rfl (fun ls hl => ?_)
                    refine lv_goto (tgt := 204) hx hb gX12_read_13.2.2.2.1 (by decide) ?_
                    exact ihQ (kQ + 1) (upd vX (176 + 156 * k7 + 56 + kQ) (vC kQ)) _ _ _ (by omega) (by first | assumption | exact Or.inl rfl | exact Or.inr rfl | exact CP.zero hcp.1 | exact CP.next hcq (by first | rfl | assumption) (bnd_ver (by omega) (by omega))) (And.intro hP hD) hS (lv_sub hl [0, 1, 2, 3, 4] rfl)
                exact keyQ vc 0 vW _ _ _ (by omega) (by first | assumption | exact Or.inl rfl | exact Or.inr rfl | exact CP.zero hcp.1 | exact CP.next hcq (by first | rfl | assumption) (bnd_ver (by omega) (by omega))) (And.intro hP hD) hS (lv_sub hl [0, 1, 2, 3, 4] rfl)
              | succ nP ihP =>
                intro kP vW H locs ls hkP hcp hPD hS hl
                refine Kan2 hPD (fun hP hD => ?_)
                refine lv_iload hx hb gX12_read_9.2.2.2.2.2.2.2.1 (lv_at0 hl) ?_
                refine lv_bipush (v := 54) hx hb gX12_read_9.2.2.2.2.2.2.2.2.1 (by decide) ?_
                refine lv_icmp_ge (tgt := 201) hx hb gX12_read_9.2.2.2.2.2.2.2.2.2 (by decide) (fun c9 => absurd c9 (nI_ge (a := kP) (b := 54) (by omega) (by omega))) (fun _ => ?_)
                refine lv_aload_n hx hb gX12_read_10.1 rfl (lv_at4 hl) ?_
                refine gf_X12_9 hC rfl hK hP 4 rfl rfl gX12_read_10.2.1 ?_
                refine lv_iload_n hx hb gX12_read_10.2.2.1 rfl (lv_at1 hl) ?_
                refine lv_iconst (v := 2) hx hb gX12_read_10.2.2.2.1 (by decide) ?_
                refine lv_iadd hx hb gX12_read_10.2.2.2.2.1 ?_
                refine eqi (x1 := nI (176 + 156 * k7 + 2)) (nI_add (176 + 156 * k7) 2) ?_
                refine lv_iload hx hb gX12_read_10.2.2.2.2.2.1 (lv_at0 hl) ?_
                refine lv_iadd hx hb gX12_read_10.2.2.2.2.2.2.1 ?_
                refine eqi (x1 := nI (176 + 156 * k7 + 2 + kP)) (nI_add (176 + 156 * k7 + 2) kP) ?_
                refine lv_aload_n hx hb gX12_read_10.2.2.2.2.2.2.2.1 rfl (lv_at4 hl) ?_
                refine gf_X12_32 hC rfl hK hP 4 rfl rfl gX12_read_10.2.2.2.2.2.2.2.2.1 ?_
                refine lv_iload hx hb gX12_read_10.2.2.2.2.2.2.2.2.2 (lv_at0 hl) ?_
                refine aldN hC hK hP 2 rfl (k := kP) (by omega) (Nat.le_of_ble_eq_true rfl) (v := vL kP) rfl gX12_read_11.1 ?_
                refine astN hC hK hP hD hS 0 (ws' := [(nw, iA G 1662 (upd vW (176 + 156 * k7 + 2 + kP) (vL kP))), (nc, iA G 100 vC), (nl, iA G 54 vL), (nF, sA G 5 (FCT K)), (h0, oX12 nw nk mhasKept nt 0 nr mrowMany mroundOf mroundFrom mouts nm mfromHour mtoHour ns (nI vks) (nI (TKE bt ktp vks)) (nI (TKN bt ktp vks)) 0 0 (nI vc) (nI vl) nl nc nF np ntr nb mbestCost nso nsi nit nsh nsf nss nrc mtraced mdealer mnumber mwhose msize misParted), (nt, iA G 240 fnt)]) rfl (k := (176 + 156 * k7 + 2 + kP)) (by omega) (Nat.le_of_ble_eq_true rfl) (rfl) gX12_read_11.2.1 (fun H locs hP hD hS => ?_)
                refine lv_iinc (v := nI (kP + 1)) (lv' := [(4, .int (nI (kP + 1))), (3, .int (nI (176 + 156 * k7))), (2, .int (nI k7)), (1, .int (nI vks)), (0, .ref h0)]) hx hb gX12_read_11.2.2.1 hl (k := 0) rfl (nI_1 _) (by decide) rfl (fun ls hl => ?_)
                refine lv_goto (tgt := 170) hx hb gX12_read_11.2.2.2.1 (by decide) ?_
                exact ihP (kP + 1) (upd vW (176 + 156 * k7 + 2 + kP) (vL kP)) _ _ _ (by omega) (by first | assumption | exact Or.inl rfl | exact Or.inr rfl | exact CP.zero hNF | exact CP.next hcp (by first | rfl | assumption) (bnd_ver (by omega) (by omega))) (And.intro hP hD) hS (lv_sub hl [0, 1, 2, 3, 4] rfl)
            exact keyP 54 0 (upd (upd fnw (176 + 156 * k7 + 0) (fnw 0)) (176 + 156 * k7 + 1) (nI vl)) _ _ _ (by omega) (by first | assumption | exact Or.inl rfl | exact Or.inr rfl | exact CP.zero hNF | exact CP.next hcp (by first | rfl | assumption) (bnd_ver (by omega) (by omega))) (And.intro hP hD) hS (lv_sub hl [0, 1, 2, 3, 4] rfl)
          · have nb9788 : k7 = 8 := (nI_eq (a := k7) (b := 8) (by omega) (by omega)).mp c_125_9786
            refine lv_bipush (v := (-2)) hx hb gX12_read_6.2.2.2.2.2.2.2.2.2 (by decide) ?_
            refine toQ hQ0 ?_
            exact RI (v := (-2)) hC hP hD hS [4, 0, 5, 1, 2, 3] (0, nI vks, nI (TKE bt ktp vks), nI (TKN bt ktp vks), nI vc, nI vl, fnw, vC, vL) rfl rfl (by decide) (⟨⟨_, ⟨Or.inr ⟨l9, c9, q9, hco9 _ (TXT.end (by omega) _), Or.inl ⟨by omega, rfl⟩⟩, (ifc_f (by rw [ek7]; exact RDQ.n8 (by omega))).symm, MRD.n (RDQ.n8 (by omega)), MSD.n (RDQ.n8 (by omega))⟩, rfl⟩, ⟨hN, hV, SCX.rf, FRV.rf⟩⟩) rfl gX12_read_7.1
        · have nb9785 : ¬ (TKN bt ktp vks) = 0 := fun h9 => c_40_9783 ((nI_eq (a := (TKN bt ktp vks)) (b := 0) (by omega) (by omega)).mpr h9)
          refine lv_aload_n hx hb gX12_read_2.2.2.2.1 rfl (lv_at0 hl) ?_
          refine lv_aload_n hx hb gX12_read_2.2.2.2.2.1 rfl (lv_at0 hl) ?_
          refine gf_X12_289 hC rfl hK hP 4 rfl rfl gX12_read_2.2.2.2.2.2.1 ?_
          refine lv_bipush (v := 9) hx hb gX12_read_2.2.2.2.2.2.2.1 (by decide) ?_
          refine lv_icmp_ne (tgt := 57) hx hb gX12_read_2.2.2.2.2.2.2.2.1 (by decide) (fun c_50_9789 => ?_) (fun c_50_9789 => ?_)
          · have nb9790 : ¬ vl = 9 := fun h9 => c_50_9789 ((nI_eq (a := vl) (b := 9) (by omega) (by omega)).mpr h9)
            refine lv_iconst (v := 0) hx hb gX12_read_3.1 (by decide) ?_
            refine pf_X12_222 hC rfl hK hP hD hS 4 (ws' := [(nw, iA G 1662 fnw), (nc, iA G 100 vC), (nl, iA G 54 vL), (nF, sA G 5 (FCT K)), (h0, oX12 nw nk mhasKept nt (nI ktp) nr mrowMany mroundOf mroundFrom mouts nm mfromHour mtoHour ns (nI vks) (nI (TKE bt ktp vks)) (nI (TKN bt ktp vks)) 0 0 (nI vc) (nI vl) nl nc nF np ntr nb mbestCost nso nsi nit nsh nsf nss nrc mtraced mdealer mnumber mwhose msize misParted), (nt, iA G 240 fnt)]) rfl (Nat.le_of_ble_eq_true rfl) rfl (by decide +kernel) (by decide +kernel) gX12_read_3.2.1 (fun H locs hP hD hS => ?_)
            refine lv_aload_n hx hb gX12_read_3.2.2.1 rfl (lv_at0 hl) ?_
            refine gf_X12_222 hC rfl hK hP 4 rfl rfl gX12_read_3.2.2.2.1 ?_
            refine lv_if_ne (tgt := 29) hx hb gX12_read_3.2.2.2.2.1 (by decide) (fun c9 => absurd (by decide) c9) (fun _ => ?_)
            refine lv_aload_n hx hb gX12_read_3.2.2.2.2.2.1 rfl (lv_at0 hl) ?_
            refine lv_bipush (v := 6) hx hb gX12_read_3.2.2.2.2.2.2.1 (by decide) ?_
            refine lv_aload_n hx hb gX12_read_3.2.2.2.2.2.2.2.1 rfl (lv_at0 hl) ?_
            refine gf_X12_289 hC rfl hK hP 4 rfl rfl gX12_read_3.2.2.2.2.2.2.2.2.1 ?_
            refine lv_imul hx hb gX12_read_3.2.2.2.2.2.2.2.2.2 ?_
            refine eqi (x1 := nI (6 * vl)) (nI_mul 6 vl) ?_
            refine vVo (wr := [(nw, iA G 1662 fnw)]) hO hC hK hl hP hD hS hA (m_lineAt l G K h0 nw nk mhasKept nt ktp nr mrowMany mroundOf mroundFrom mouts nm mfromHour mtoHour ns vks vc vl nl nc nF np ntr nb mbestCost nso nsi nit nsh nsf nss nrc mtraced mdealer mnumber mwhose msize misParted fnt vC vL bt c9 q9 (htp) (by omega) (hFB) (hst9) (by omega) (by omega)) si_X12_292 [4, 5, 1, 2, 3] [0] sm_4_5_1_2_3 fm_4_5_1_2_3 nd_4_5_1_2_3 sm_0 nd_0 dj_4_5_1_2_3__0 rfl rfl rfl rfl rfl (Nat.le_of_ble_eq_true rfl) rm_33_32_3 ⟨Nat.le_of_ble_eq_true rfl, Nat.le_of_ble_eq_true rfl⟩ gX12_read_4.1 (Ktu8 fun ff19794 ks19795 kc19796 gnc9797 gnl9798 ln9799 c19800 r19801 => ?_)
            intro H locs hr9792 hP hD hS
            try dsimp only at hr9792
            refine Kpdr (ws := [(nw, iA G 1662 fnw), (h0, oX12 nw nk mhasKept nt (nI ktp) nr mrowMany mroundOf mroundFrom mouts nm mfromHour mtoHour ns (nI ks19795) (nI (TKE bt ktp ks19795)) (nI (TKN bt ktp ks19795)) ff19794 0 (nI kc19796) (nI vl) nl nc nF np ntr nb mbestCost nso nsi nit nsh nsf nss nrc mtraced mdealer mnumber mwhose msize misParted), (nt, iA G 240 fnt), (nc, iA G 100 gnc9797), (nl, iA G 54 gnl9798), (nF, sA G 5 (FCT K))]) hP hD (fun hP hD => ?_)
            have w9802 := hr9792
            rcases w9802 with v9803 | v9804
            · obtain ⟨rfl, hq9805, hq9806, hq9807, hq9808, hq9809⟩ := v9803
              have xl9810 := hq9806.1
              refine lv_aload_n hx hb gX12_read_4.2.1 rfl (lv_at0 hl) ?_
              refine lv_dup hx hb gX12_read_4.2.2.1 rfl ?_
              refine gf_X12_289 hC rfl hK hP 1 rfl rfl gX12_read_4.2.2.2.1 ?_
              refine lv_iconst (v := 1) hx hb gX12_read_4.2.2.2.2.1 (by decide) ?_
              refine lv_iadd hx hb gX12_read_4.2.2.2.2.2.1 ?_
              refine eqi (x1 := nI (vl + 1)) (nI_add vl 1) ?_
              refine pf_X12_289 hC rfl hK hP hD hS 1 (ws' := [(nw, iA G 1662 fnw), (h0, oX12 nw nk mhasKept nt (nI ktp) nr mrowMany mroundOf mroundFrom mouts nm mfromHour mtoHour ns (nI ks19795) (nI (TKE bt ktp ks19795)) (nI (TKN bt ktp ks19795)) 0 0 (nI kc19796) (nI (vl + 1)) nl nc nF np ntr nb mbestCost nso nsi nit nsh nsf nss nrc mtraced mdealer mnumber mwhose msize misParted), (nt, iA G 240 fnt), (nc, iA G 100 gnc9797), (nl, iA G 54 gnl9798), (nF, sA G 5 (FCT K))]) rfl (Nat.le_of_ble_eq_true rfl) rfl rfl rfl gX12_read_4.2.2.2.2.2.2.1 (fun H locs hP hD hS => ?_)
              refine lv_goto (tgt := 29) hx hb gX12_read_4.2.2.2.2.2.2.2.1 (by decide) ?_
              refine Kpds (ws' := [(nw, iA G 1662 fnw), (nc, iA G 100 gnc9797), (nl, iA G 54 gnl9798), (nF, sA G 5 (FCT K)), (h0, oX12 nw nk mhasKept nt (nI ktp) nr mrowMany mroundOf mroundFrom mouts nm mfromHour mtoHour ns (nI ks19795) (nI (TKE bt ktp ks19795)) (nI (TKN bt ktp ks19795)) 0 0 (nI kc19796) (nI (vl + 1)) nl nc nF np ntr nb mbestCost nso nsi nit nsh nsf nss nrc mtraced mdealer mnumber mwhose msize misParted), (nt, iA G 240 fnt)]) hP hD [0, 3, 4, 5, 1, 2] fm_0_3_4_5_1_2 nd_0_3_4_5_1_2 sm_0_3_4_5_1_2 (fun hP hD => ?_)
              exact ihR ks19795 0 kc19796 (vl + 1) gnl9798 gnc9797 _ _ _ (Or.inr ⟨rfl, ⟨_, _, _, LNZ.push hln9 hq9807, hq9806, fun q h9 => hco9 q (TXT.step (by omega) (by omega) hq9805 h9)⟩, LKB.next hLK hq9805 hst9 hq9806 hq9807, by omega, by omega, by omega, by omega⟩) (And.intro hP hD) hS (lv_sub hl [0] rfl)
            · obtain ⟨rfl, hq9811, hq9812⟩ := v9804
              refine lv_aload_n hx hb gX12_read_4.2.1 rfl (lv_at0 hl) ?_
              refine lv_dup hx hb gX12_read_4.2.2.1 rfl ?_
              refine gf_X12_289 hC rfl hK hP 1 rfl rfl gX12_read_4.2.2.2.1 ?_
              refine lv_iconst (v := 1) hx hb gX12_read_4.2.2.2.2.1 (by decide) ?_
              refine lv_iadd hx hb gX12_read_4.2.2.2.2.2.1 ?_
              refine eqi (x1 := nI (vl + 1)) (nI_add vl 1) ?_
              refine pf_X12_289 hC rfl hK hP hD hS 1 (ws' := [(nw, iA G 1662 fnw), (h0, oX12 nw nk mhasKept nt (nI ktp) nr mrowMany mroundOf mroundFrom mouts nm mfromHour mtoHour ns (nI ks19795) (nI (TKE bt ktp ks19795)) (nI (TKN bt ktp ks19795)) 1 0 (nI kc19796) (nI (vl + 1)) nl nc nF np ntr nb mbestCost nso nsi nit nsh nsf nss nrc mtraced mdealer mnumber mwhose msize misParted), (nt, iA G 240 fnt), (nc, iA G 100 gnc9797), (nl, iA G 54 gnl9798), (nF, sA G 5 (FCT K))]) rfl (Nat.le_of_ble_eq_true rfl) rfl rfl rfl gX12_read_4.2.2.2.2.2.2.1 (fun H locs hP hD hS => ?_)
              refine lv_goto (tgt := 29) hx hb gX12_read_4.2.2.2.2.2.2.2.1 (by decide) ?_
              refine Kpds (ws' := [(nw, iA G 1662 fnw), (nc, iA G 100 gnc9797), (nl, iA G 54 gnl9798), (nF, sA G 5 (FCT K)), (h0, oX12 nw nk mhasKept nt (nI ktp) nr mrowMany mroundOf mroundFrom mouts nm mfromHour mtoHour ns (nI ks19795) (nI (TKE bt ktp ks19795)) (nI (TKN bt ktp ks19795)) 1 0 (nI kc19796) (nI (vl + 1)) nl nc nF np ntr nb mbestCost nso nsi nit nsh nsf nss nrc mtraced mdealer mnumber mwhose msize misParted), (nt, iA G 240 fnt)]) hP hD [0, 3, 4, 5, 1, 2] fm_0_3_4_5_1_2 nd_0_3_4_5_1_2 sm_0_3_4_5_1_2 (fun hP hD => ?_)
              exact ihR ks19795 1 kc19796 (vl + 1) gnl9798 gnc9797 _ _ _ (Or.inl ⟨rfl, hco9 _ (TXT.bad (by omega) (by omega) hq9811), by omega⟩) (And.intro hP hD) hS (lv_sub hl [0] rfl)
          · have nb9791 : vl = 9 := (nI_eq (a := vl) (b := 9) (by omega) (by omega)).mp c_50_9789
            refine lv_iconst (v := 1) hx hb gX12_read_2.2.2.2.2.2.2.2.2.1 (by decide) ?_
            refine lv_goto (tgt := 58) hx hb gX12_read_2.2.2.2.2.2.2.2.2.2 (by decide) ?_
            refine pf_X12_222 hC rfl hK hP hD hS 4 (ws' := [(nw, iA G 1662 fnw), (nc, iA G 100 vC), (nl, iA G 54 vL), (nF, sA G 5 (FCT K)), (h0, oX12 nw nk mhasKept nt (nI ktp) nr mrowMany mroundOf mroundFrom mouts nm mfromHour mtoHour ns (nI vks) (nI (TKE bt ktp vks)) (nI (TKN bt ktp vks)) 1 0 (nI vc) (nI vl) nl nc nF np ntr nb mbestCost nso nsi nit nsh nsf nss nrc mtraced mdealer mnumber mwhose msize misParted), (nt, iA G 240 fnt)]) rfl (Nat.le_of_ble_eq_true rfl) rfl (by decide +kernel) (by decide +kernel) gX12_read_3.2.1 (fun H locs hP hD hS => ?_)
            refine lv_aload_n hx hb gX12_read_3.2.2.1 rfl (lv_at0 hl) ?_
            refine gf_X12_222 hC rfl hK hP 4 rfl rfl gX12_read_3.2.2.2.1 ?_
            refine lv_if_ne (tgt := 29) hx hb gX12_read_3.2.2.2.2.1 (by decide) (fun _ => ?_) (fun c9 => absurd c9 (by decide))
            exact ihR vks 1 vc vl vL vC _ _ _ (Or.inl ⟨rfl, hco9 _ (TXT.full (by omega) (by omega)), by omega⟩) (And.intro hP hD) hS (lv_sub hl [0] rfl)
  exact keyR 10 (SK bt ktp 0) 0 0 0 fnl fnc _ _ _ (Or.inr ⟨rfl, TXM.zero, LKB.zero, by omega, by omega, by omega, by omega⟩) (And.intro hP hD) hS (lv_sub hl [0] rfl)
def K_r_line (l : Launch) (G : GG) (k7 : Nat) (h0 : Nat) (x1 : Int32) (x2 : Int32) (x3 : Int32) (nw : Nat) (nk : Nat) (mhasKept : Int32) (nt : Nat) (mtaped : Int32) (nr : Nat) (mrowMany : Int32) (mroundOf : Int32) (mroundFrom : Int32) (mouts : Int32) (nm : Nat) (mfromHour : Int32) (mtoHour : Int32) (ns : Nat) (mfrom : Int32) (mto : Int32) (msort : Int32) (misFault : Int32) (mdeep : Int32) (mcoded : Int32) (mlines : Int32) (nl : Nat) (nc : Nat) (nF : Nat) (np : Nat) (ntr : Nat) (nb : Nat) (mbestCost : Int32) (nso : Nat) (nsi : Nat) (nit : Nat) (nsh : Nat) (nsf : Nat) (nss : Nat) (nrc : Nat) (mtraced : Int32) (mdealer : Int32) (mnumber : Int32) (mwhose : Int32) (msize : Int32) (misParted : Int32) (fnw : Nat → Int32) (VL : Nat → List LNT) : Prop := MP l G yX12_line cX12_line 4 (some .int) 3 [.ref h0, .int x1, .int x2, .int x3] [(h0, oX12 nw nk mhasKept nt mtaped nr mrowMany mroundOf mroundFrom mouts nm mfromHour mtoHour ns mfrom mto msort misFault mdeep mcoded mlines nl nc nF np ntr nb mbestCost nso nsi nit nsh nsf nss nrc mtraced mdealer mnumber mwhose msize misParted), (nw, iA G 1662 fnw)] (fun r : Int32 => ∃ s9, (LIQ k7 VL x1 x2 x3 s9) ∧ r = s9)
set_option maxHeartbeats 4000000 in
set_option maxRecDepth 100000 in
theorem r_line (l : Launch) (G : GG) (k7 : Nat) (h0 : Nat) (x1 : Int32) (x2 : Int32) (x3 : Int32) (nw : Nat) (nk : Nat) (mhasKept : Int32) (nt : Nat) (mtaped : Int32) (nr : Nat) (mrowMany : Int32) (mroundOf : Int32) (mroundFrom : Int32) (mouts : Int32) (nm : Nat) (mfromHour : Int32) (mtoHour : Int32) (ns : Nat) (mfrom : Int32) (mto : Int32) (msort : Int32) (misFault : Int32) (mdeep : Int32) (mcoded : Int32) (mlines : Int32) (nl : Nat) (nc : Nat) (nF : Nat) (np : Nat) (ntr : Nat) (nb : Nat) (mbestCost : Int32) (nso : Nat) (nsi : Nat) (nit : Nat) (nsh : Nat) (nsf : Nat) (nss : Nat) (nrc : Nat) (mtraced : Int32) (mdealer : Int32) (mnumber : Int32) (mwhose : Int32) (msize : Int32) (misParted : Int32) (fnw : Nat → Int32) (VL : Nat → List LNT) (hN : NI fnw) (hV : VI fnw) (ek7 : fnw 7 = nI k7) (hk7 : k7 ≤ 8) (hVM : VML fnw k7 VL) : K_r_line l G k7 h0 x1 x2 x3 nw nk mhasKept nt mtaped nr mrowMany mroundOf mroundFrom mouts nm mfromHour mtoHour ns mfrom mto msort misFault mdeep mcoded mlines nl nc nF np ntr nb mbestCost nso nsi nit nsh nsf nss nrc mtraced mdealer mnumber mwhose msize misParted fnw VL := by
  refine MP.start (by decide +kernel) (Nat.le_of_ble_eq_true rfl) ?_
  intro p e s m below meth c ls hC hK hP hD hl
  refine absQ (fun Q0 hQ0 => ?_)
  have hl : lv_has ls 4 [(0, .ref h0), (1, .int x1), (2, .int x2), (3, .int x3)] := hl
  refine Kan8 hC (fun hx hb hr hml hB hown hlocks hnm => ?_)
  refine lv_aload_n hx hb gX12_line_0.1 rfl (lv_at0 hl) ?_
  refine lv_iload_n hx hb gX12_line_0.2.1 rfl (lv_at1 hl) ?_
  refine lv_bipush (v := 7) hx hb gX12_line_0.2.2.1 (by decide) ?_
  refine pV hC hK hl hP hD (m_is l G k7 h0 x1 7 nw nk mhasKept nt mtaped nr mrowMany mroundOf mroundFrom mouts nm mfromHour mtoHour ns mfrom mto msort misFault mdeep mcoded mlines nl nc nF np ntr nb mbestCost nso nsi nit nsh nsf nss nrc mtraced mdealer mnumber mwhose msize misParted fnw (by omega) (ek7) (by omega)) si_X12_120 [0, 1] sm_0_1 fm_0_1 nd_0_1 rfl rfl rfl rfl rfl (Nat.le_of_ble_eq_true rfl) rm_3_2_3 ⟨by first | exact Nat.le_of_ble_eq_true rfl | exact Nat.zero_le _, by first | exact Nat.le_of_ble_eq_true rfl | exact Nat.zero_le _⟩ gX12_line_0.2.2.2.1 (Kors (Keqa fun a9814 => ?_) (Keqa fun a9814 => ?_))
  · refine lv_if_eq (tgt := 34) hx hb gX12_line_0.2.2.2.2.1 (by decide) (fun c9 => absurd c9 (by decide)) (fun _ => ?_)
    obtain ⟨jv, hjv, rfl⟩ := Hs_nat (by omega) a9814
    obtain ⟨hL9, eLn9, hrow9⟩ := hVM jv hjv
    obtain ⟨L9, hL9e⟩ : ∃ z9, z9 = (VL jv).length := ⟨_, rfl⟩
    have eL9 : fnw (176 + 156 * jv + 1) = nI L9 := eLn9.trans (congrArg nI hL9e.symm)
    refine lv_iload_n hx hb gX12_line_0.2.2.2.2.2.1 rfl (lv_at2 hl) ?_
    refine lv_iconst (v := 0) hx hb gX12_line_0.2.2.2.2.2.2.1 (by decide) ?_
    refine lv_aload_n hx hb gX12_line_0.2.2.2.2.2.2.2.1 rfl (lv_at0 hl) ?_
    refine lv_iload_n hx hb gX12_line_0.2.2.2.2.2.2.2.2.1 rfl (lv_at1 hl) ?_
    refine pV hC hK hl hP hD (m_lines l G L9 h0 jv nw nk mhasKept nt mtaped nr mrowMany mroundOf mroundFrom mouts nm mfromHour mtoHour ns mfrom mto msort misFault mdeep mcoded mlines nl nc nF np ntr nb mbestCost nso nsi nit nsh nsf nss nrc mtraced mdealer mnumber mwhose msize misParted fnw (by omega) (eL9)) si_X12_183 [0, 1] sm_0_1 fm_0_1 nd_0_1 rfl rfl rfl rfl rfl (Nat.le_of_ble_eq_true rfl) rm_3_1_2 ⟨by first | exact Nat.le_of_ble_eq_true rfl | exact Nat.zero_le _, by first | exact Nat.le_of_ble_eq_true rfl | exact Nat.zero_le _⟩ gX12_line_0.2.2.2.2.2.2.2.2.2 (Keqr ?_)
    refine lv_iconst (v := 1) hx hb gX12_line_1.1 (by decide) ?_
    refine lv_isub hx hb gX12_line_1.2.1 ?_
    refine pS hC hK hl (m_within l G x2 0 ((nI L9) - 1)) si_X12_84 rfl rfl (Nat.le_of_ble_eq_true rfl) rm_3_1_3 ⟨by first | exact Nat.le_of_ble_eq_true rfl | exact Nat.zero_le _, by first | exact Nat.le_of_ble_eq_true rfl | exact Nat.zero_le _⟩ gX12_line_1.2.2.1 (Kors (Keqa fun a9818 => ?_) (Keqa fun a9818 => ?_))
    · refine lv_if_eq (tgt := 34) hx hb gX12_line_1.2.2.2.1 (by decide) (fun c9 => absurd c9 (by decide)) (fun _ => ?_)
      obtain ⟨jl, hjl, rfl⟩ := Hs_nat (by omega) ((WiHs (by omega)).mp a9818)
      have hr9 := hrow9 jl (by omega)
      refine lv_iload_n hx hb gX12_line_1.2.2.2.2.1 rfl (lv_at3 hl) ?_
      refine lv_iconst (v := 0) hx hb gX12_line_1.2.2.2.2.2.1 (by decide) ?_
      refine lv_iconst (v := 4) hx hb gX12_line_1.2.2.2.2.2.2.1 (by decide) ?_
      refine pS hC hK hl (m_within l G x3 0 4) si_X12_84 rfl rfl (Nat.le_of_ble_eq_true rfl) rm_3_1_3 ⟨by first | exact Nat.le_of_ble_eq_true rfl | exact Nat.zero_le _, by first | exact Nat.le_of_ble_eq_true rfl | exact Nat.zero_le _⟩ gX12_line_1.2.2.2.2.2.2.2.1 (Kors (Keqa fun a9820 => ?_) (Keqa fun a9820 => ?_))
      · refine lv_if_ne (tgt := 37) hx hb gX12_line_1.2.2.2.2.2.2.2.2.1 (by decide) (fun _ => ?_) (fun c9 => absurd c9 (by decide))
        obtain ⟨jw, hjw, rfl⟩ := Wi_nat (N := 4) (by decide) a9820
        refine lv_iload_n hx hb gX12_line_2.2.1 rfl (lv_at3 hl) ?_
        refine lv_iconst (v := 4) hx hb gX12_line_2.2.2.1 (by decide) ?_
        refine lv_icmp_ge (tgt := 52) hx hb gX12_line_2.2.2.2.1 (by decide) (fun c_39_9821 => ?_) (fun c_39_9821 => ?_)
        · have nb9822 : 4 ≤ jw := (nI_leI (a := 4) (b := jw) (by omega) (by omega)).mp c_39_9821
          obtain ⟨A9, hA9⟩ : ∃ z9, z9 = ((VL jv).getD jl LN0).2.2.2.2.2.2.2.1 := ⟨_, rfl⟩
          obtain ⟨B9, hB9⟩ : ∃ z9, z9 = ((VL jv).getD jl LN0).2.2.2.2.2.2.2.2 := ⟨_, rfl⟩
          have hab9 := hr9.ab
          rw [← hA9, ← hB9] at hab9
          refine lv_aload_n hx hb gX12_line_3.1 rfl (lv_at0 hl) ?_
          refine lv_iload_n hx hb gX12_line_3.2.1 rfl (lv_at1 hl) ?_
          refine lv_iload_n hx hb gX12_line_3.2.2.1 rfl (lv_at2 hl) ?_
          refine lv_iconst (v := 5) hx hb gX12_line_3.2.2.2.1 (by decide) ?_
          refine pV hC hK hl hP hD (m_lineOf l G h0 jv jl 5 nw nk mhasKept nt mtaped nr mrowMany mroundOf mroundFrom mouts nm mfromHour mtoHour ns mfrom mto msort misFault mdeep mcoded mlines nl nc nF np ntr nb mbestCost nso nsi nit nsh nsf nss nrc mtraced mdealer mnumber mwhose msize misParted fnw (by omega) (by omega) (by omega)) si_X12_193 [0, 1] sm_0_1 fm_0_1 nd_0_1 rfl rfl rfl rfl rfl (Nat.le_of_ble_eq_true rfl) rm_3_1_4 ⟨by first | exact Nat.le_of_ble_eq_true rfl | exact Nat.zero_le _, by first | exact Nat.le_of_ble_eq_true rfl | exact Nat.zero_le _⟩ gX12_line_3.2.2.2.2.1 (Keqr ?_)
          refine eqi (x1 := nI B9) (hr9.2.2.2.2.2.1.trans (congrArg nI hB9.symm)) ?_
          refine lv_aload_n hx hb gX12_line_3.2.2.2.2.2.1 rfl (lv_at0 hl) ?_
          refine lv_iload_n hx hb gX12_line_3.2.2.2.2.2.2.1 rfl (lv_at1 hl) ?_
          refine lv_iload_n hx hb gX12_line_3.2.2.2.2.2.2.2.1 rfl (lv_at2 hl) ?_
          refine lv_iconst (v := 4) hx hb gX12_line_3.2.2.2.2.2.2.2.2.1 (by decide) ?_
          refine pV hC hK hl hP hD (m_lineOf l G h0 jv jl 4 nw nk mhasKept nt mtaped nr mrowMany mroundOf mroundFrom mouts nm mfromHour mtoHour ns mfrom mto msort misFault mdeep mcoded mlines nl nc nF np ntr nb mbestCost nso nsi nit nsh nsf nss nrc mtraced mdealer mnumber mwhose msize misParted fnw (by omega) (by omega) (by omega)) si_X12_193 [0, 1] sm_0_1 fm_0_1 nd_0_1 rfl rfl rfl rfl rfl (Nat.le_of_ble_eq_true rfl) rm_3_1_4 ⟨by first | exact Nat.le_of_ble_eq_true rfl | exact Nat.zero_le _, by first | exact Nat.le_of_ble_eq_true rfl | exact Nat.zero_le _⟩ gX12_line_3.2.2.2.2.2.2.2.2.2 (Keqr ?_)
          refine eqi (x1 := nI A9) (hr9.2.2.2.2.1.trans (congrArg nI hA9.symm)) ?_
          refine lv_icmp_le (tgt := 73) hx hb gX12_line_4.1 (by decide) (fun c_66_9828 => ?_) (fun c_66_9828 => ?_)
          · have nb9829 : B9 ≤ A9 := (nI_leI (a := B9) (b := A9) (by omega) (by omega)).mp c_66_9828
            refine lv_iconst (v := 0) hx hb gX12_line_4.2.2.2.1 (by decide) ?_
            refine toQ hQ0 ?_
            exact RP (v := 0) hC (⟨_, Or.inr ⟨jv, hjv, rfl, Or.inr ⟨jl, by omega, rfl, Or.inr ⟨4, by decide, congrArg nI (show jw = 4 by omega), hr9.c0 (by omega)⟩⟩⟩, rfl⟩) rfl gX12_line_4.2.2.2.2
          · have nb9830 : ¬ B9 ≤ A9 := fun h9 => c_66_9828 ((nI_leI (a := B9) (b := A9) (by omega) (by omega)).mpr h9)
            refine lv_iconst (v := 1) hx hb gX12_line_4.2.1 (by decide) ?_
            refine lv_goto (tgt := 74) hx hb gX12_line_4.2.2.1 (by decide) ?_
            refine toQ hQ0 ?_
            exact RP (v := 1) hC (⟨_, Or.inr ⟨jv, hjv, rfl, Or.inr ⟨jl, by omega, rfl, Or.inr ⟨4, by decide, congrArg nI (show jw = 4 by omega), hr9.c1 (by omega)⟩⟩⟩, rfl⟩) rfl gX12_line_4.2.2.2.2
        · have nb9823 : ¬ 4 ≤ jw := fun h9 => c_39_9821 ((nI_leI (a := 4) (b := jw) (by omega) (by omega)).mpr h9)
          refine lv_aload_n hx hb gX12_line_2.2.2.2.2.1 rfl (lv_at0 hl) ?_
          refine lv_iload_n hx hb gX12_line_2.2.2.2.2.2.1 rfl (lv_at1 hl) ?_
          refine lv_iload_n hx hb gX12_line_2.2.2.2.2.2.2.1 rfl (lv_at2 hl) ?_
          refine lv_iload_n hx hb gX12_line_2.2.2.2.2.2.2.2.1 rfl (lv_at3 hl) ?_
          refine pV hC hK hl hP hD (m_lineOf l G h0 jv jl jw nw nk mhasKept nt mtaped nr mrowMany mroundOf mroundFrom mouts nm mfromHour mtoHour ns mfrom mto msort misFault mdeep mcoded mlines nl nc nF np ntr nb mbestCost nso nsi nit nsh nsf nss nrc mtraced mdealer mnumber mwhose msize misParted fnw (by omega) (by omega) (by omega)) si_X12_193 [0, 1] sm_0_1 fm_0_1 nd_0_1 rfl rfl rfl rfl rfl (Nat.le_of_ble_eq_true rfl) rm_3_1_4 ⟨by first | exact Nat.le_of_ble_eq_true rfl | exact Nat.zero_le _, by first | exact Nat.le_of_ble_eq_true rfl | exact Nat.zero_le _⟩ gX12_line_2.2.2.2.2.2.2.2.2.1 (Keqr ?_)
          refine lv_goto (tgt := 74) hx hb gX12_line_2.2.2.2.2.2.2.2.2.2 (by decide) ?_
          refine toQ hQ0 ?_
          exact RP (v := fnw (176 + 156 * jv + 2 + 6 * jl + jw)) hC (⟨_, Or.inr ⟨jv, hjv, rfl, Or.inr ⟨jl, by omega, rfl, Or.inr ⟨jw, by omega, rfl, hr9.val (by omega)⟩⟩⟩, rfl⟩) rfl gX12_line_4.2.2.2.2
      · refine lv_if_ne (tgt := 37) hx hb gX12_line_1.2.2.2.2.2.2.2.2.1 (by decide) (fun c9 => absurd (by decide) c9) (fun _ => ?_)
        refine lv_bipush (v := (-9)) hx hb gX12_line_1.2.2.2.2.2.2.2.2.2 (by decide) ?_
        refine toQ hQ0 ?_
        exact RP (v := (-9)) hC (⟨_, Or.inr ⟨jv, hjv, rfl, Or.inr ⟨jl, by omega, rfl, Or.inl ⟨a9820, rfl⟩⟩⟩, rfl⟩) rfl gX12_line_2.1
    · refine lv_if_eq (tgt := 34) hx hb gX12_line_1.2.2.2.1 (by decide) (fun _ => ?_) (fun c9 => absurd (by decide) c9)
      refine lv_bipush (v := (-9)) hx hb gX12_line_1.2.2.2.2.2.2.2.2.2 (by decide) ?_
      refine toQ hQ0 ?_
      exact RP (v := (-9)) hC (⟨_, Or.inr ⟨jv, hjv, rfl, Or.inl ⟨fun h9 => a9818 ((WiHs (by omega)).mpr (by rw [hL9e]; exact h9)), rfl⟩⟩, rfl⟩) rfl gX12_line_2.1
  · refine lv_if_eq (tgt := 34) hx hb gX12_line_0.2.2.2.2.1 (by decide) (fun _ => ?_) (fun c9 => absurd (by decide) c9)
    refine lv_bipush (v := (-9)) hx hb gX12_line_1.2.2.2.2.2.2.2.2.2 (by decide) ?_
    refine toQ hQ0 ?_
    exact RP (v := (-9)) hC (⟨_, Or.inl ⟨a9814, rfl⟩, rfl⟩) rfl gX12_line_2.1
