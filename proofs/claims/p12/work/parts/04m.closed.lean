section WR
variable {p : Program} {l : Launch} {e : Env} {R : Room} {s : State} {m : MethodId} {args : Array Value} {below : List Frame} {meth : Method} {c : Code} {H : Heap} {locs : List Loc} {cells slots : Nat} {Q : State → Prop}
variable {pc : Nat} {ls : Array Slot} {rest : List Value} {G : GG} {ws : va_W} {A : Nat → Prop} {y0 : MethodName} {b0 : ByteArray} {mL0 : Nat} {rt0 : Option FieldType} {a : Nat} {H0 : Heap}
end WR
/-- a choice of the clocks that keeps all bounds -/
def SAT (K : Nat → Nat → Int → Prop) (f : Nat → Int) : Prop := ∀ x y w, K x y w → f y - f x ≤ w
/-- the bounds as narrow as they follow -/
def CLO (K : Nat → Nat → Int → Prop) (M : Nat → Nat → Int) : Prop :=
  (∀ a, a < 6 → M a a = 0) ∧ (∀ a b c, a < 6 → b < 6 → c < 6 → M a c ≤ M a b + M b c) ∧ (∀ x y w, K x y w → x < 6 ∧ y < 6 ∧ M x y ≤ w) ∧ (∀ f, SAT K f → ∀ a b, a < 6 → b < 6 → f b - f a ≤ M a b)
theorem CLO.sat {K : Nat → Nat → Int → Prop} {M : Nat → Nat → Int} (h : CLO K M) {a : Nat} (ha : a < 6) : SAT K (fun x => M a x) := by
  intro x y w hk
  obtain ⟨hx, hy, hw⟩ := h.2.2.1 x y w hk
  have h1 := h.2.1 a x y ha hx hy
  show M a y - M a x ≤ w
  omega
theorem CLO.le {K : Nat → Nat → Int → Prop} {M N : Nat → Nat → Int} (h : CLO K M) (h2 : CLO K N) {a b : Nat} (ha : a < 6) (hb : b < 6) : M a b ≤ N a b := by
  have h3 := h2.2.2.2 _ (h.sat ha) a b ha hb
  have h4 := h.1 a ha
  have h5 : M a b - M a a ≤ N a b := h3
  omega
theorem CLO.uniq {K : Nat → Nat → Int → Prop} {M N : Nat → Nat → Int} (h : CLO K M) (h2 : CLO K N) {a b : Nat} (ha : a < 6) (hb : b < 6) : M a b = N a b := by
  have h3 := h.le h2 ha hb
  have h4 := h2.le h ha hb
  omega
/-- one bound more -/
def KAD (K : Nat → Nat → Int → Prop) (f t : Nat) (v : Int) : Nat → Nat → Int → Prop := fun x y w => K x y w ∨ (x = f ∧ y = t ∧ w = v)
theorem SAT.old {K : Nat → Nat → Int → Prop} {f t : Nat} {v : Int} {g : Nat → Int} (h : SAT (KAD K f t v) g) : SAT K g := fun x y w hk => h x y w (Or.inl hk)
theorem SAT.new {K : Nat → Nat → Int → Prop} {f t : Nat} {v : Int} {g : Nat → Int} (h : SAT (KAD K f t v) g) : g t - g f ≤ v := h f t v (Or.inr ⟨rfl, rfl, rfl⟩)
/-- a bound that can't be kept -/
theorem CLO.no {K : Nat → Nat → Int → Prop} {M : Nat → Nat → Int} {f t : Nat} {v : Int} (h : CLO K M) (hf : f < 6) (ht : t < 6) (hv : M t f + v < 0) (g : Nat → Int) : ¬ SAT (KAD K f t v) g := by
  intro hg
  have h1 := h.2.2.2 g hg.old t f ht hf
  have h2 := hg.new
  omega
/-- a bound that follows already -/
theorem CLO.same {K : Nat → Nat → Int → Prop} {M : Nat → Nat → Int} {f t : Nat} {v : Int} (h : CLO K M) (hf : f < 6) (ht : t < 6) (hv : M f t ≤ v) : CLO (KAD K f t v) M := by
  refine ⟨h.1, h.2.1, fun x y w hk => ?_, fun g hg => h.2.2.2 g hg.old⟩
  rcases hk with hk | ⟨rfl, rfl, rfl⟩
  · exact h.2.2.1 x y w hk
  · exact ⟨hf, ht, hv⟩
/-- the way by one bound, where it is shorter -/
def NRW (M : Nat → Nat → Int) (f t : Nat) (v : Int) (a b : Nat) : Int := if M a f + v + M t b < M a b then M a f + v + M t b else M a b
theorem NRW.le1 {M : Nat → Nat → Int} {f t : Nat} {v : Int} {a b : Nat} : NRW M f t v a b ≤ M a b := by
  unfold NRW
  split <;> omega
theorem NRW.le2 {M : Nat → Nat → Int} {f t : Nat} {v : Int} {a b : Nat} : NRW M f t v a b ≤ M a f + v + M t b := by
  unfold NRW
  split <;> omega
theorem NRW.or {M : Nat → Nat → Int} {f t : Nat} {v : Int} {a b : Nat} : NRW M f t v a b = M a f + v + M t b ∨ NRW M f t v a b = M a b := by
  unfold NRW
  split
  · exact Or.inl rfl
  · exact Or.inr rfl
theorem CLO.nar {K : Nat → Nat → Int → Prop} {M : Nat → Nat → Int} {f t : Nat} {v : Int} (h : CLO K M) (hf : f < 6) (ht : t < 6) (hv : 0 ≤ M t f + v) : CLO (KAD K f t v) (NRW M f t v) := by
  obtain ⟨h1, h2, h3, h4⟩ := h
  refine ⟨fun a ha => ?_, fun a b c ha hb hc => ?_, fun x y w hk => ?_, fun g hg a b ha hb => ?_⟩
  · have e1 := h2 t a f ht ha hf
    have e2 := h1 a ha
    rcases NRW.or (M := M) (f := f) (t := t) (v := v) (a := a) (b := a) with e | e
    · have e3 := NRW.le1 (M := M) (f := f) (t := t) (v := v) (a := a) (b := a)
      omega
    · omega
  · have l1 := NRW.le1 (M := M) (f := f) (t := t) (v := v) (a := a) (b := c)
    have l2 := NRW.le2 (M := M) (f := f) (t := t) (v := v) (a := a) (b := c)
    have e1 := h2 a b c ha hb hc
    have e2 := h2 a b f ha hb hf
    have e3 := h2 t b c ht hb hc
    have e4 := h2 t b f ht hb hf
    rcases NRW.or (M := M) (f := f) (t := t) (v := v) (a := a) (b := b) with p | p <;> rcases NRW.or (M := M) (f := f) (t := t) (v := v) (a := b) (b := c) with q | q <;> omega
  · rcases hk with hk | ⟨rfl, rfl, rfl⟩
    · obtain ⟨hx, hy, hw⟩ := h3 x y w hk
      have l1 := NRW.le1 (M := M) (f := f) (t := t) (v := v) (a := x) (b := y)
      exact ⟨hx, hy, by omega⟩
    · have l2 := NRW.le2 (M := M) (f := x) (t := y) (v := w) (a := x) (b := y)
      have e1 := h1 x hf
      have e2 := h1 y ht
      exact ⟨hf, ht, by omega⟩
  · have e1 := h4 g hg.old a b ha hb
    have e2 := h4 g hg.old a f ha hf
    have e3 := h4 g hg.old t b ht hb
    have e4 := hg.new
    rcases NRW.or (M := M) (f := f) (t := t) (v := v) (a := a) (b := b) with p | p <;> omega
/-- over the first clocks the bounds are narrow -/
def FWI (K : Nat → Nat → Int → Prop) (m : Nat) (M : Nat → Nat → Int) : Prop :=
  (∀ a, a < 6 → M a a = 0) ∧ (∀ s a b, s < m → a < 6 → b < 6 → M a b ≤ M a s + M s b) ∧ (∀ x y w, K x y w → x < 6 ∧ y < 6 ∧ M x y ≤ w) ∧ (∀ f, SAT K f → ∀ a b, a < 6 → b < 6 → f b - f a ≤ M a b)
/-- by one clock more -/
def PHA (m : Nat) (M : Nat → Nat → Int) (a b : Nat) : Int := if M a m + M m b < M a b then M a m + M m b else M a b
theorem PHA.le1 {M : Nat → Nat → Int} {m a b : Nat} : PHA m M a b ≤ M a b := by
  unfold PHA
  split <;> omega
theorem PHA.le2 {M : Nat → Nat → Int} {m a b : Nat} : PHA m M a b ≤ M a m + M m b := by
  unfold PHA
  split <;> omega
theorem PHA.or {M : Nat → Nat → Int} {m a b : Nat} : PHA m M a b = M a m + M m b ∨ PHA m M a b = M a b := by
  unfold PHA
  split
  · exact Or.inl rfl
  · exact Or.inr rfl
theorem PHA.row {M : Nat → Nat → Int} {m b : Nat} (h : M m m = 0) : PHA m M m b = M m b := by
  rcases PHA.or (M := M) (m := m) (a := m) (b := b) with p | p <;> omega
theorem PHA.col {M : Nat → Nat → Int} {m a : Nat} (h : M m m = 0) : PHA m M a m = M a m := by
  rcases PHA.or (M := M) (m := m) (a := a) (b := m) with p | p <;> omega
theorem FWI.next {K : Nat → Nat → Int → Prop} {m : Nat} {M : Nat → Nat → Int} (h : FWI K m M) (hm : m < 6) (hd : ∀ a, a < 6 → 0 ≤ PHA m M a a) : FWI K (m + 1) (PHA m M) := by
  obtain ⟨h1, h2, h3, h4⟩ := h
  refine ⟨fun a ha => ?_, fun s a b hs ha hb => ?_, fun x y w hk => ?_, fun g hg a b ha hb => ?_⟩
  · have e1 := hd a ha
    have e2 := PHA.le1 (M := M) (m := m) (a := a) (b := a)
    have e3 := h1 a ha
    omega
  · have l1 := PHA.le1 (M := M) (m := m) (a := a) (b := b)
    have l2 := PHA.le2 (M := M) (m := m) (a := a) (b := b)
    by_cases c : s = m
    · subst c
      rw [PHA.col (h1 s hm), PHA.row (h1 s hm)]
      exact l2
    · have e1 := h2 s a b (by omega) ha hb
      have e2 := h2 s m b (by omega) hm hb
      have e3 := h2 s a m (by omega) ha hm
      have e4 := h2 s m m (by omega) hm hm
      have e5 := h1 m hm
      rcases PHA.or (M := M) (m := m) (a := a) (b := s) with p | p <;> rcases PHA.or (M := M) (m := m) (a := s) (b := b) with q | q <;> omega
  · obtain ⟨hx, hy, hw⟩ := h3 x y w hk
    have l1 := PHA.le1 (M := M) (m := m) (a := x) (b := y)
    exact ⟨hx, hy, by omega⟩
  · have e1 := h4 g hg a b ha hb
    have e2 := h4 g hg a m ha hm
    have e3 := h4 g hg m b hm hb
    rcases PHA.or (M := M) (m := m) (a := a) (b := b) with p | p <;> omega
theorem FWI.pha {K : Nat → Nat → Int → Prop} {m : Nat} {M : Nat → Nat → Int} (h : FWI K m M) (hm : m < 6) (g : Nat → Int) (hg : SAT K g) {a b : Nat} (ha : a < 6) (hb : b < 6) : g b - g a ≤ PHA m M a b := by
  have e1 := h.2.2.2 g hg a b ha hb
  have e2 := h.2.2.2 g hg a m ha hm
  have e3 := h.2.2.2 g hg m b hm hb
  rcases PHA.or (M := M) (m := m) (a := a) (b := b) with p | p <;> omega
theorem FWI.clo {K : Nat → Nat → Int → Prop} {M : Nat → Nat → Int} (h : FWI K 6 M) : CLO K M := ⟨h.1, fun a b c ha hb hc => h.2.1 b a c hb ha hc, h.2.2.1, h.2.2.2⟩
theorem bm32 {x : Int} (h1 : -2147483648 ≤ x) (h2 : x ≤ 2147483647) : x.bmod (2 ^ 32) = x := by
  rw [Int.bmod_eq_of_le] <;> omega
theorem ti_ad {x y : Int32} (h1 : -1000000 ≤ x.toInt) (h2 : x.toInt ≤ 1000000) (h3 : -1000000 ≤ y.toInt) (h4 : y.toInt ≤ 1000000) : (x + y).toInt = x.toInt + y.toInt := by
  rw [Int32.toInt_add, bm32 (by omega) (by omega)]
theorem ti_sb {x y : Int32} (h1 : -1000000 ≤ x.toInt) (h2 : x.toInt ≤ 1000000) (h3 : -1000000 ≤ y.toInt) (h4 : y.toInt ≤ 1000000) : (x - y).toInt = x.toInt - y.toInt := by
  rw [Int32.toInt_sub, bm32 (by omega) (by omega)]
/-- a row of ints as bounds -/
def MAT (f : Nat → Int32) : Nat → Nat → Int := fun a b => (f (a * 6 + b)).toInt
theorem MAT.set {f : Nat → Int32} {i j a b : Nat} {w : Int32} (hb : b < 6) (hj : j < 6) : MAT (upd f (i * 6 + j) w) a b = if a = i ∧ b = j then w.toInt else MAT f a b := by
  unfold MAT upd
  by_cases c : a = i ∧ b = j
  · rw [if_pos c, if_pos (by omega)]
  · rw [if_neg c, if_neg (by omega)]
/-- what the clocks may go ahead by from the first -/
def BASW (a b : Nat) : Int := if a = b then 0 else if a = 0 ∨ b = 0 then 60 else 120
def KB : Nat → Nat → Int → Prop := fun x y w => x < 6 ∧ y < 6 ∧ w = BASW x y
def BAS (K : Nat → Nat → Int → Prop) : Prop := ∀ a b, a < 6 → b < 6 → K a b (BASW a b)
theorem BAS.kb : BAS KB := fun _ _ ha hb => ⟨ha, hb, rfl⟩
theorem BAS.ad {K : Nat → Nat → Int → Prop} {f t : Nat} {v : Int} (h : BAS K) : BAS (KAD K f t v) := fun a b ha hb => Or.inl (h a b ha hb)
theorem BASW.le {a b : Nat} : 0 ≤ BASW a b ∧ BASW a b ≤ 120 := by
  unfold BASW
  split
  · omega
  · split <;> omega
theorem CLO.ext {K : Nat → Nat → Int → Prop} {M N : Nat → Nat → Int} (h : CLO K M) (e : ∀ a b, a < 6 → b < 6 → N a b = M a b) : CLO K N := by
  obtain ⟨h1, h2, h3, h4⟩ := h
  refine ⟨fun a ha => (e a a ha ha).trans (h1 a ha), fun a b c ha hb hc => ?_, fun x y w hk => ?_, fun g hg a b ha hb => ?_⟩
  · rw [e a c ha hc, e a b ha hb, e b c hb hc]; exact h2 a b c ha hb hc
  · obtain ⟨hx, hy, hw⟩ := h3 x y w hk
    exact ⟨hx, hy, by rw [e x y hx hy]; exact hw⟩
  · rw [e a b ha hb]; exact h4 g hg a b ha hb
theorem CLO.base : CLO KB BASW := by
  refine ⟨fun a ha => ?_, fun a b c ha hb hc => ?_, fun x y w hk => ⟨hk.1, hk.2.1, by have h9 := hk.2.2; omega⟩, fun g hg a b ha hb => hg a b _ ⟨ha, hb, rfl⟩⟩
  · unfold BASW
    rw [if_pos rfl]
  · unfold BASW
    by_cases c1 : a = c
    · rw [if_pos c1]
      have h1 := (BASW.le (a := a) (b := b)).1
      have h2 := (BASW.le (a := b) (b := c)).1
      unfold BASW at h1 h2
      omega
    · rw [if_neg c1]
      by_cases c2 : a = b
      · subst c2
        rw [if_pos rfl, if_neg c1]
        omega
      · by_cases c3 : b = c
        · subst c3
          rw [if_neg c2, if_pos rfl]
          omega
        · rw [if_neg c2, if_neg c3]
          by_cases c4 : a = 0 ∨ c = 0
          · rw [if_pos c4]
            by_cases c5 : a = 0 ∨ b = 0
            · rw [if_pos c5]
              by_cases c6 : b = 0 ∨ c = 0
              · rw [if_pos c6]; omega
              · rw [if_neg c6]; omega
            · rw [if_neg c5]
              by_cases c6 : b = 0 ∨ c = 0
              · rw [if_pos c6]; omega
              · rw [if_neg c6]; omega
          · rw [if_neg c4]
            by_cases c5 : a = 0 ∨ b = 0
            · rw [if_pos c5]
              by_cases c6 : b = 0 ∨ c = 0
              · rw [if_pos c6]; omega
              · omega
            · rw [if_neg c5]
              by_cases c6 : b = 0 ∨ c = 0
              · rw [if_pos c6]; omega
              · rw [if_neg c6]; omega
theorem CLO.lim {K : Nat → Nat → Int → Prop} {M : Nat → Nat → Int} (h : CLO K M) (hb : BAS K) {a b : Nat} (ha : a < 6) (hb6 : b < 6) : -120 ≤ M a b ∧ M a b ≤ 120 := by
  have h1 := (h.2.2.1 a b _ (hb a b ha hb6)).2.2
  have h2 := (h.2.2.1 b a _ (hb b a hb6 ha)).2.2
  have h3 := h.2.1 a b a ha hb6 ha
  have h4 := h.1 a ha
  have h5 := (BASW.le (a := a) (b := b)).2
  have h6 := (BASW.le (a := b) (b := a)).2
  omega
/-- the free bounds are laid up to a place -/
def FRP (i j : Nat) (M : Nat → Nat → Int) : Prop := ∀ a b, a < 6 → b < 6 → (a < i ∨ (a = i ∧ b < j)) → M a b = BASW a b
theorem FRP.zero {M : Nat → Nat → Int} : FRP 0 0 M := fun a b _ _ h => by omega
theorem FRP.row {i : Nat} {M : Nat → Nat → Int} (h : FRP i 6 M) : FRP (i + 1) 0 M := fun a b ha hb h9 => h a b ha hb (by omega)
theorem FRP.set {i j : Nat} {f : Nat → Int32} {w : Int32} (h : FRP i j (MAT f)) (hj : j < 6) (hw : w.toInt = BASW i j) : FRP i (j + 1) (MAT (upd f (i * 6 + j) w)) := by
  intro a b ha hb h9
  rw [MAT.set hb hj]
  by_cases c : a = i ∧ b = j
  · rw [if_pos c, hw, c.1, c.2]
  · rw [if_neg c]
    exact h a b ha hb (by omega)
theorem FRP.clo {f : Nat → Int32} (h : FRP 6 0 (MAT f)) : CLO KB (MAT f) := CLO.base.ext fun a b ha hb => h a b ha hb (by omega)
/-- the narrower bounds are laid up to a place -/
def NRP (M0 : Nat → Nat → Int) (f t : Nat) (v : Int) (i j : Nat) (M : Nat → Nat → Int) : Prop := ∀ a b, a < 6 → b < 6 → M a b = if a < i ∨ (a = i ∧ b < j) then NRW M0 f t v a b else M0 a b
theorem NRP.zero {M0 : Nat → Nat → Int} {f t : Nat} {v : Int} : NRP M0 f t v 0 0 M0 := fun a b _ _ => by rw [if_neg (by omega)]
theorem NRP.row {M0 M : Nat → Nat → Int} {f t i : Nat} {v : Int} (h : NRP M0 f t v i 6 M) : NRP M0 f t v (i + 1) 0 M := fun a b ha hb => by
  rw [h a b ha hb]
  by_cases c : a < i ∨ (a = i ∧ b < 6)
  · rw [if_pos c, if_pos (by omega)]
  · rw [if_neg c, if_neg (by omega)]
theorem NRW.row {M : Nat → Nat → Int} {f t b : Nat} {v : Int} (hv : 0 ≤ M t f + v) : NRW M f t v t b = M t b := by
  unfold NRW
  rw [if_neg (by omega)]
theorem NRP.way {M0 : Nat → Nat → Int} {fa fb : Nat → Int32} {f t i j : Nat} {bo : Int32} (hA : NRP M0 f t bo.toInt i 0 (MAT fa)) (hB : NRP M0 f t bo.toInt i j (MAT fb)) (hi : i < 6) (hj : j < 6) (hf : f < 6) (ht : t < 6) (hl : ∀ a b, a < 6 → b < 6 → -120 ≤ M0 a b ∧ M0 a b ≤ 120) (hb1 : -2000 ≤ bo.toInt) (hb2 : bo.toInt ≤ 2000) (hv : 0 ≤ M0 t f + bo.toInt) : ((fa (i * 6 + f) + bo) + fb (t * 6 + j)).toInt = M0 i f + bo.toInt + M0 t j := by
  have e1 : (fa (i * 6 + f)).toInt = M0 i f := by
    have h := hA i f hi hf
    rw [if_neg (by omega)] at h
    exact h
  have e2 : (fb (t * 6 + j)).toInt = M0 t j := by
    have h := hB t j ht hj
    by_cases c : t < i ∨ (t = i ∧ j < j)
    · rw [if_pos c, NRW.row hv] at h; exact h
    · rw [if_neg c] at h; exact h
  have l1 := hl i f hi hf
  have l2 := hl t j ht hj
  have e3 := ti_ad (x := fa (i * 6 + f)) (y := bo) (by omega) (by omega) (by omega) (by omega)
  rw [ti_ad (by omega) (by omega) (by omega) (by omega), e3, e1, e2]
theorem NRP.put {M0 : Nat → Nat → Int} {fb : Nat → Int32} {f t i j : Nat} {v : Int} {w : Int32} (hB : NRP M0 f t v i j (MAT fb)) (hi : i < 6) (hj : j < 6) (hw : w.toInt = M0 i f + v + M0 t j) (hc : ¬ fb (i * 6 + j) ≤ w) : NRP M0 f t v i (j + 1) (MAT (upd fb (i * 6 + j) w)) := by
  intro a b ha hb
  rw [MAT.set hb hj]
  have h0 := hB i j hi hj
  rw [if_neg (by omega)] at h0
  by_cases c : a = i ∧ b = j
  · rw [if_pos c, if_pos (by omega), c.1, c.2, hw]
    unfold NRW
    have h1 := Int32.not_le.mp hc
    rw [Int32.lt_iff_toInt_lt, hw] at h1
    have h2 : (fb (i * 6 + j)).toInt = M0 i j := h0
    rw [if_pos (by omega)]
  · rw [if_neg c, hB a b ha hb]
    by_cases c2 : a < i ∨ (a = i ∧ b < j)
    · rw [if_pos c2, if_pos (by omega)]
    · rw [if_neg c2, if_neg (by omega)]
theorem NRP.skip {M0 : Nat → Nat → Int} {fb : Nat → Int32} {f t i j : Nat} {v : Int} {w : Int32} (hB : NRP M0 f t v i j (MAT fb)) (hi : i < 6) (hj : j < 6) (hw : w.toInt = M0 i f + v + M0 t j) (hc : fb (i * 6 + j) ≤ w) : NRP M0 f t v i (j + 1) (MAT fb) := by
  intro a b ha hb
  have h0 := hB i j hi hj
  rw [if_neg (by omega)] at h0
  rw [hB a b ha hb]
  by_cases c2 : a < i ∨ (a = i ∧ b < j)
  · rw [if_pos c2, if_pos (by omega)]
  · rw [if_neg c2]
    by_cases c : a = i ∧ b = j
    · rw [if_pos (by omega), c.1, c.2]
      unfold NRW
      rw [Int32.le_iff_toInt_le, hw] at hc
      have h2 : (fb (i * 6 + j)).toInt = M0 i j := h0
      rw [if_neg (by omega)]
    · rw [if_neg (by omega)]
theorem NRP.clo {K : Nat → Nat → Int → Prop} {M0 M : Nat → Nat → Int} {f t : Nat} {v : Int} (hB : NRP M0 f t v 6 0 M) (h : CLO K M0) (hf : f < 6) (ht : t < 6) (hv : 0 ≤ M0 t f + v) : CLO (KAD K f t v) M := (h.nar hf ht hv).ext fun a b ha hb => by rw [hB a b ha hb, if_pos (by omega)]
/-- narrow bounds, those from the first among them -/
def CLB (K : Nat → Nat → Int → Prop) (M : Nat → Nat → Int) : Prop := CLO K M ∧ BAS K
/-- no choice of the clocks keeps them -/
def NOS (K : Nat → Nat → Int → Prop) : Prop := ∀ g, ¬ SAT K g
theorem CLB.nos {K : Nat → Nat → Int → Prop} {M : Nat → Nat → Int} (h : CLB K M) : ¬ NOS K := fun h9 => h9 _ (h.1.sat (a := 0) (by decide))
theorem CLB.lim {K : Nat → Nat → Int → Prop} {M : Nat → Nat → Int} (h : CLB K M) : ∀ a b, a < 6 → b < 6 → -120 ≤ M a b ∧ M a b ≤ 120 := fun _ _ ha hb => h.1.lim h.2 ha hb
theorem NOS.ad {K : Nat → Nat → Int → Prop} {f t : Nat} {v : Int} (h : NOS K) : NOS (KAD K f t v) := fun g hg => h g hg.old
/-- a stamp's number against a bound -/
theorem nar_lt {x y : Int32} {a : Int} (hx : x.toInt = a) (h1 : -120 ≤ a) (h2 : a ≤ 120) (h3 : -2000 ≤ y.toInt) (h4 : y.toInt ≤ 2000) : 0 ≤ x + y ↔ 0 ≤ a + y.toInt := by
  rw [Int32.le_iff_toInt_le, ti_ad (by omega) (by omega) (by omega) (by omega), hx]
  have e0 : (0 : Int32).toInt = 0 := by decide
  rw [e0]
/-- a stamp's clock and hour -/
def CKS (ft : Nat → Int32) (s : Nat) : Nat := (ft (s * 3 + 1)).toNatClampNeg
def HRS (ft : Nat → Int32) (s : Nat) : Int := (ft (s * 3 + 2)).toInt
/-- two stamps of a paper that is seen, one right behind the other -/
def PRC (ft : Nat → Int32) (V : Nat → Prop) (s1 s2 : Nat) : Prop := s1 < s2 ∧ ft (s1 * 3 + 0) = ft (s2 * 3 + 0) ∧ V (ft (s2 * 3 + 0)).toNatClampNeg ∧ ∀ s, s1 < s → s < s2 → ¬ ft (s * 3 + 0) = ft (s2 * 3 + 0)
theorem PRC.uniq {ft : Nat → Int32} {V : Nat → Prop} {a b n : Nat} (h : PRC ft V a n) (h2 : PRC ft V b n) : a = b := by
  rcases Nat.lt_trichotomy a b with c | c | c
  · exact absurd h2.2.1 (h.2.2.2 b c h2.1)
  · exact c
  · exact absurd h.2.1 (h2.2.2.2 a c h.1)
/-- what the first n stamps bind -/
def KST (ft : Nat → Int32) (V : Nat → Prop) (gp : Int) (n : Nat) : Nat → Nat → Int → Prop := fun x y w => KB x y w ∨ ∃ s1 s2, s2 < n ∧ PRC ft V s1 s2 ∧ ((x = CKS ft s1 ∧ y = CKS ft s2 ∧ w = HRS ft s2 - HRS ft s1) ∨ (x = CKS ft s2 ∧ y = CKS ft s1 ∧ w = gp - (HRS ft s2 - HRS ft s1)))
theorem KST.zero {ft : Nat → Int32} {V : Nat → Prop} {gp : Int} : KST ft V gp 0 = KB := by
  funext x y w
  apply propext
  constructor
  · intro h
    rcases h with h | ⟨s1, s2, h, -⟩
    · exact h
    · exact absurd h (Nat.not_lt_zero _)
  · exact Or.inl
theorem KST.bas {ft : Nat → Int32} {V : Nat → Prop} {gp : Int} {n : Nat} : BAS (KST ft V gp n) := fun a b ha hb => Or.inl (BAS.kb a b ha hb)
theorem KST.no {ft : Nat → Int32} {V : Nat → Prop} {gp : Int} {n : Nat} (h : ∀ s1, ¬ PRC ft V s1 n) : KST ft V gp (n + 1) = KST ft V gp n := by
  funext x y w
  apply propext
  constructor
  · intro h9
    rcases h9 with h9 | ⟨s1, s2, h1, h2, h3⟩
    · exact Or.inl h9
    · by_cases c : s2 = n
      · rw [c] at h2
        exact absurd h2 (h s1)
      · exact Or.inr ⟨s1, s2, by omega, h2, h3⟩
  · intro h9
    rcases h9 with h9 | ⟨s1, s2, h1, h2, h3⟩
    · exact Or.inl h9
    · exact Or.inr ⟨s1, s2, by omega, h2, h3⟩
theorem KST.yes {ft : Nat → Int32} {V : Nat → Prop} {gp : Int} {n s0 : Nat} (h : PRC ft V s0 n) : KST ft V gp (n + 1) = KAD (KAD (KST ft V gp n) (CKS ft s0) (CKS ft n) (HRS ft n - HRS ft s0)) (CKS ft n) (CKS ft s0) (gp - (HRS ft n - HRS ft s0)) := by
  funext x y w
  apply propext
  constructor
  · intro h9
    rcases h9 with h9 | ⟨s1, s2, h1, h2, h3⟩
    · exact Or.inl (Or.inl (Or.inl h9))
    · by_cases c : s2 = n
      · rw [c] at h2 h3
        have e := h2.uniq h
        rw [e] at h3
        rcases h3 with h3 | h3
        · exact Or.inl (Or.inr h3)
        · exact Or.inr h3
      · exact Or.inl (Or.inl (Or.inr ⟨s1, s2, by omega, h2, h3⟩))
  · intro h9
    rcases h9 with (h9 | h9) | h9
    · rcases h9 with h9 | ⟨s1, s2, h1, h2, h3⟩
      · exact Or.inl h9
      · exact Or.inr ⟨s1, s2, by omega, h2, h3⟩
    · exact Or.inr ⟨s0, n, by omega, h, Or.inl h9⟩
    · exact Or.inr ⟨s0, n, by omega, h, Or.inr h9⟩
/-- the last stamp of a paper that is seen, among the first k -/
def LAS (ft : Nat → Int32) (V : Nat → Prop) (k p : Nat) (x : Int32) : Prop := (x = (-1) ∧ ∀ s, s < k → ft (s * 3 + 0) = nI p → ¬ V p) ∨ ∃ s, s < k ∧ x = nI s ∧ ft (s * 3 + 0) = nI p ∧ V p ∧ ∀ s2, s < s2 → s2 < k → ¬ ft (s2 * 3 + 0) = nI p
/-- the first one -/
def FIS (ft : Nat → Int32) (V : Nat → Prop) (k p : Nat) (x : Int32) : Prop := (x = (-1) ∧ ∀ s, s < k → ft (s * 3 + 0) = nI p → ¬ V p) ∨ ∃ s, s < k ∧ x = nI s ∧ ft (s * 3 + 0) = nI p ∧ V p ∧ ∀ s2, s2 < s → ¬ ft (s2 * 3 + 0) = nI p
theorem LAS.zero {ft : Nat → Int32} {V : Nat → Prop} {p : Nat} : LAS ft V 0 p (-1) := Or.inl ⟨rfl, fun s h => absurd h (Nat.not_lt_zero s)⟩
theorem FIS.zero {ft : Nat → Int32} {V : Nat → Prop} {p : Nat} : FIS ft V 0 p (-1) := Or.inl ⟨rfl, fun s h => absurd h (Nat.not_lt_zero s)⟩
theorem LAS.skip {ft : Nat → Int32} {V : Nat → Prop} {k p : Nat} {x : Int32} (h : LAS ft V k p x) (hn : ft (k * 3 + 0) = nI p → ¬ V p) : LAS ft V (k + 1) p x := by
  rcases h with ⟨h1, h2⟩ | ⟨s, h1, h2, h3, h4, h5⟩
  · refine Or.inl ⟨h1, fun s hs e => ?_⟩
    by_cases c : s = k
    · rw [c] at e
      exact hn e
    · exact h2 s (by omega) e
  · refine Or.inr ⟨s, by omega, h2, h3, h4, fun s2 hs hk e => ?_⟩
    by_cases c : s2 = k
    · rw [c] at e
      exact hn e h4
    · exact h5 s2 hs (by omega) e
theorem FIS.skip {ft : Nat → Int32} {V : Nat → Prop} {k p : Nat} {x : Int32} (h : FIS ft V k p x) (hn : ft (k * 3 + 0) = nI p → ¬ V p) : FIS ft V (k + 1) p x := by
  rcases h with ⟨h1, h2⟩ | ⟨s, h1, h2, h3, h4, h5⟩
  · refine Or.inl ⟨h1, fun s hs e => ?_⟩
    by_cases c : s = k
    · rw [c] at e
      exact hn e
    · exact h2 s (by omega) e
  · exact Or.inr ⟨s, by omega, h2, h3, h4, h5⟩
theorem FIS.keep {ft : Nat → Int32} {V : Nat → Prop} {k p : Nat} {x : Int32} (h : FIS ft V k p x) (hx : ¬ x = (-1)) : FIS ft V (k + 1) p x := by
  rcases h with ⟨h1, -⟩ | ⟨s, h1, h2, h3, h4, h5⟩
  · exact absurd h1 hx
  · exact Or.inr ⟨s, by omega, h2, h3, h4, h5⟩
theorem LAS.new {ft : Nat → Int32} {V : Nat → Prop} {k p : Nat} (e : ft (k * 3 + 0) = nI p) (hv : V p) : LAS ft V (k + 1) p (nI k) := Or.inr ⟨k, by omega, rfl, e, hv, fun s2 h1 h2 => by omega⟩
theorem FIS.new {ft : Nat → Int32} {V : Nat → Prop} {k p : Nat} {x : Int32} (h : LAS ft V k p x) (hx : x = (-1)) (hk : k < 2 ^ 31) (e : ft (k * 3 + 0) = nI p) (hv : V p) : FIS ft V (k + 1) p (nI k) := by
  rcases h with ⟨h1, h2⟩ | ⟨s, h1, h2, h3, h4, h5⟩
  · exact Or.inr ⟨k, by omega, rfl, e, hv, fun s2 hs e2 => h2 s2 hs e2 hv⟩
  · have h8 := congrArg Int32.toInt (h2.symm.trans hx)
    rw [nI_toInt (by omega)] at h8
    have e1 : (-1 : Int32).toInt = -1 := by decide
    omega
theorem LAS.prc {ft : Nat → Int32} {V : Nat → Prop} {k p : Nat} {x : Int32} (h : LAS ft V k p x) (hx : ¬ x = (-1)) (hp : p < 2 ^ 31) (e : ft (k * 3 + 0) = nI p) : ∃ s, s < k ∧ x = nI s ∧ PRC ft V s k := by
  rcases h with ⟨h1, -⟩ | ⟨s, h1, h2, h3, h4, h5⟩
  · exact absurd h1 hx
  · refine ⟨s, h1, h2, h1, h3.trans e.symm, ?_, fun s2 ha hb => ?_⟩
    · rw [e, nI_clamp hp]; exact h4
    · rw [e]; exact h5 s2 ha hb
theorem LAS.nop {ft : Nat → Int32} {V : Nat → Prop} {k p : Nat} {x : Int32} (h : LAS ft V k p x) (hx : x = (-1)) (hk : k < 2 ^ 31) (hp : p < 2 ^ 31) (e : ft (k * 3 + 0) = nI p) : ∀ s1, ¬ PRC ft V s1 k := by
  intro s1 h9
  have hv : V p := by
    have h8 := h9.2.2.1
    rw [e, nI_clamp hp] at h8
    exact h8
  rcases h with ⟨-, h2⟩ | ⟨s, h1, h2, -⟩
  · exact h2 s1 h9.1 (h9.2.1.trans e) hv
  · have h8 := congrArg Int32.toInt (h2.symm.trans hx)
    rw [nI_toInt (by omega)] at h8
    have e1 : (-1 : Int32).toInt = -1 := by decide
    omega
theorem PRC.unseen {ft : Nat → Int32} {V : Nat → Prop} {k p : Nat} (hp : p < 2 ^ 31) (e : ft (k * 3 + 0) = nI p) (hv : ¬ V p) : ∀ s1, ¬ PRC ft V s1 k := by
  intro s1 h9
  have h8 := h9.2.2.1
  rw [e, nI_clamp hp] at h8
  exact hv h8
section WR
variable {p : Program} {l : Launch} {e : Env} {R : Room} {s : State} {m : MethodId} {args : Array Value} {below : List Frame} {meth : Method} {c : Code} {H : Heap} {locs : List Loc} {cells slots : Nat} {Q : State → Prop}
variable {pc : Nat} {ls : Array Slot} {rest : List Value} {G : GG} {ws : va_W} {A : Nat → Prop} {y0 : MethodName} {b0 : ByteArray} {mL0 : Nat} {rt0 : Option FieldType} {a : Nat} {H0 : Heap}
end WR

