section WR
variable {p : Program} {l : Launch} {e : Env} {R : Room} {s : State} {m : MethodId} {args : Array Value} {below : List Frame} {meth : Method} {c : Code} {H : Heap} {locs : List Loc} {cells slots : Nat} {Q : State → Prop}
variable {pc : Nat} {ls : Array Slot} {rest : List Value} {G : GG} {ws : va_W} {A : Nat → Prop} {y0 : MethodName} {b0 : ByteArray} {mL0 : Nat} {rt0 : Option FieldType} {a : Nat} {H0 : Heap}
end WR
theorem SEE.vse {f : Nat → Int32} {n p : Nat} (hp : p < n) : VSE f n p ↔ SEE (shf f 32) (f 0) (f 1) (f 2) p := ⟨fun h => h.2, fun h => ⟨hp, h⟩⟩
section FARS
variable {f : Nat → Int32} {V S : Nat → Prop} {kq je jk : Nat}
theorem FAR.r0 (h : jk = 0) : nI je = FAX (shf f 12) (shf f 32) V kq je jk := by
  subst h
  rfl
theorem FAR.r1 (h : jk = 1) : f (12 + 2 * je) = FAX (shf f 12) (shf f 32) V kq je jk := by
  subst h
  exact congrArg f (by omega)
theorem FAR.r2 (hv : ∀ p, p < kq → (V p ↔ S p)) (h : jk = 2) : CNT (fun p9 => S p9 ∧ HB (shf f 32 (p9 * 6 + 1)) (nI je)) kq = FAX (shf f 12) (shf f 32) V kq je jk := by
  subst h
  exact CNT.cg kq (fun p hp => and_congr_left (fun _ => (hv p hp).symm))
theorem FAR.r3 (hv : ∀ p, p < kq → (V p ↔ S p)) (h : jk = 3) : CNT (fun p9 => S p9 ∧ shf f 32 (p9 * 6 + 0) = (nI je)) kq = FAX (shf f 12) (shf f 32) V kq je jk := by
  subst h
  exact CNT.cg kq (fun p hp => and_congr_left (fun _ => (hv p hp).symm))
theorem FAR.r4 (h0 : ¬ jk = 0) (h1 : ¬ jk = 1) (h2 : ¬ jk = 2) (h3 : ¬ jk = 3) : f (12 + 2 * je + 1) = FAX (shf f 12) (shf f 32) V kq je jk := by
  have e : FAX (shf f 12) (shf f 32) V kq je jk = shf f 12 (je * 2 + 1) := by
    unfold FAX
    rw [if_neg h0, if_neg h1, if_neg h2, if_neg h3]
  rw [e]
  exact congrArg f (by omega)
end FARS
/-- the pile behind the first k codes -/
def PRK (F : Nat → Int32) (l : List Int32) (f0 : Nat → Int32) (k : Nat) : PRS := PRN F (l.take k) (0, f0)
theorem PRN.tk {F : Nat → Int32} : ∀ (l : List Int32) (k : Nat) (s : PRS), k < l.length → PRN F (l.take (k + 1)) s = PLR F (l.getD k 0) (PRN F (l.take k) s)
  | [], k, _, h => absurd h (Nat.not_lt_zero k)
  | x :: xs, 0, s, _ => rfl
  | x :: xs, k + 1, s, h => PRN.tk xs k (PLR F x s) (Nat.lt_of_succ_lt_succ h)
theorem PRK.all {F : Nat → Int32} {l : List Int32} {f0 : Nat → Int32} {k : Nat} (h : k = l.length) : PRK F l f0 k = PRN F l (0, f0) := by
  unfold PRK
  rw [h, List.take_length]
theorem PRK.zero {F : Nat → Int32} {l : List Int32} {f0 : Nat → Int32} {k : Nat} (h : k = 0) : (0, f0) = PRK F l f0 k := by
  subst h
  rfl
section PRKS
variable {F : Nat → Int32} {l : List Int32} {f0 vp : Nat → Int32} {a k hg : Nat}
theorem PRK.nx {s r : PRS} {x : Int32} (h : s = PRK F l f0 (k - a)) (hk : k - a < l.length) (ha : a ≤ k) (e : l.getD (k - a) 0 = x) (hr : PLR F x s = r) : r = PRK F l f0 (k + 1 - a) := by
  have h2 : PRK F l f0 (k - a + 1) = PLR F (l.getD (k - a) 0) (PRK F l f0 (k - a)) := PRN.tk l (k - a) (0, f0) hk
  rw [show k + 1 - a = k - a + 1 by omega, h2, e, ← h, hr]
theorem PRK.fa1 (h : (hg, vp) = PRK F l f0 (k - a)) (hk : k - a < l.length) (ha : a ≤ k) {v : Nat} (e : l.getD (k - a) 0 = nI v) (hv : v ≤ 14999) (hs : SOV F v = true) : (hg + 1, upd vp hg 1) = PRK F l f0 (k + 1 - a) := PRK.nx h hk ha e (by rw [PLR.fact hv, hs]; rfl)
theorem PRK.fa0 (h : (hg, vp) = PRK F l f0 (k - a)) (hk : k - a < l.length) (ha : a ≤ k) {v : Nat} (e : l.getD (k - a) 0 = nI v) (hv : v ≤ 14999) (hs : SOV F v = false) : (hg + 1, upd vp hg 0) = PRK F l f0 (k + 1 - a) := PRK.nx h hk ha e (by rw [PLR.fact hv, hs]; rfl)
theorem PRK.nt (h : (hg, vp) = PRK F l f0 (k - a)) (hk : k - a < l.length) (ha : a ≤ k) (e : l.getD (k - a) 0 = 30000) : (hg, upd vp (hg - 1) (1 - vp (hg - 1))) = PRK F l f0 (k + 1 - a) := PRK.nx h hk ha e (if_pos rfl)
theorem PRK.an (h : (hg, vp) = PRK F l f0 (k - a)) (hk : k - a < l.length) (ha : a ≤ k) (e : l.getD (k - a) 0 = 30001) : (hg - 1, upd vp (hg - 1 - 1) (vp (hg - 1 - 1) &&& vp (hg - 1))) = PRK F l f0 (k + 1 - a) := PRK.nx h hk ha e (by
  unfold PLR
  rw [if_neg (show ¬ (30001 : Int32) = 30000 by decide), if_pos (show (30001 : Int32) = 30001 from rfl)]
  show (hg - 1, upd vp (hg - 2) (vp (hg - 2) &&& vp (hg - 1))) = _
  rw [show hg - 2 = hg - 1 - 1 by omega])
theorem PRK.or (h : (hg, vp) = PRK F l f0 (k - a)) (hk : k - a < l.length) (ha : a ≤ k) (e : l.getD (k - a) 0 = 30002) : (hg - 1, upd vp (hg - 1 - 1) (vp (hg - 1 - 1) ||| vp (hg - 1))) = PRK F l f0 (k + 1 - a) := PRK.nx h hk ha e (by
  unfold PLR
  rw [if_neg (show ¬ (30002 : Int32) = 30000 by decide), if_neg (show ¬ (30002 : Int32) = 30001 by decide), if_pos (show (30002 : Int32) = 30002 from rfl)]
  show (hg - 1, upd vp (hg - 2) (vp (hg - 2) ||| vp (hg - 1))) = _
  rw [show hg - 2 = hg - 1 - 1 by omega])
theorem SMP.tru {m : Nat} {tc tr : List Int32} (h : SMP m tc tr) (hv : (hg, vp) = PRN F tr (0, f0)) : vp 0 = 1 ↔ PLN F tc 1 % 2 = 1 := by
  obtain ⟨b, h1, h2⟩ := h.2.2 F
  obtain ⟨-, g2, -⟩ := h2 0 f0
  rw [← hv] at g2
  have g3 : vp 0 = BIT b := g2
  rw [(h1 1).1, g3]
  have h3 := BNT.le b
  cases b
  · exact ⟨fun h9 => absurd h9 (by decide), fun h9 => absurd h9 (show ¬ (2 * 1 + 0) % 2 = 1 by decide)⟩
  · exact ⟨fun _ => rfl, fun _ => rfl⟩
end PRKS
theorem SOV.l3 {F : Nat → Int32} {v : Nat} {b : Bool} (h0 : v / 1000 % 3 = 0) (hb : decide (F (v / 3000) < nI (v % 1000)) = b) : SOV F v = b := by
  unfold SOV
  rw [if_pos h0, hb]
theorem SOV.e3 {F : Nat → Int32} {v : Nat} {b : Bool} (h0 : v / 1000 % 3 = 1) (hb : decide (F (v / 3000) = nI (v % 1000)) = b) : SOV F v = b := by
  unfold SOV
  rw [if_neg (by omega), if_pos h0, hb]
theorem SOV.g3 {F : Nat → Int32} {v : Nat} {b : Bool} (h0 : ¬ v / 1000 % 3 = 0) (h1 : ¬ v / 1000 % 3 = 1) (hb : decide (nI (v % 1000) < F (v / 3000)) = b) : SOV F v = b := by
  unfold SOV
  rw [if_neg h0, if_neg h1, hb]
/-- the lines of the version that rules, as the reference goes over them -/
theorem LZM.row {y : Nat → Int32} {v i : Nat} {ln : LNT} {tc : List Int32} (h : LZM y v i ln tc) : LNB ln ∧ y (176 + 156 * v + 2 + 6 * i + 0) = nI ln.1 ∧ y (176 + 156 * v + 2 + 6 * i + 1) = ln.2.1 ∧ y (176 + 156 * v + 2 + 6 * i + 2) = ln.2.2.1 ∧ y (176 + 156 * v + 2 + 6 * i + 3) = ln.2.2.2.1 := ⟨h.1, h.2.1, h.2.2.1, h.2.2.2.1, h.2.2.2.2.1⟩
/-- what a line tells, as fromLine says it -/
theorem FLV.off {N : Int32} {S : HOP} {L : LVT} {x : Int32} (h : L = none) (e : x = N) : ∃ v, ARV N v x ∧ (L = none → v = none) ∧ ∀ j o w, L = some (j, o, w) → v = HRV o w S := ⟨none, Or.inl ⟨rfl, e⟩, fun _ => rfl, fun j o w h2 => by rw [h] at h2; cases h2⟩
def FLQ (N : Int32) (S : HOP) (L : LVT) (x : Int32) : Prop := (L = none ∧ x = N) ∨ ∃ j o w, L = some (j, o, w) ∧ ARV N (HRV o w S) x
theorem FLQ.low {N : Int32} {S : HOP} {f : Nat → Int32} {t : Nat} {x : Int32} {L : LVT} (h : ARS N S f) (hb : HBD S) (hL : LVB L) (hx : FLQ N S L x) (ht : ∀ j o w, L = some (j, o, w) → t = j) (ht8 : t < 8) (hN : 2000 ≤ N.toInt) : (x < f t → ARS N (RLX L S) (upd f t x)) ∧ (¬ x < f t → RLX L S = S) := by
  rcases hx with ⟨e, hx⟩ | ⟨j, o, w, e, hx⟩
  · refine ⟨fun h9 => ?_, fun _ => RLX.off e⟩
    rw [Int32.lt_iff_toInt_lt, hx] at h9
    rcases h.at hb ht8 hN with ⟨h1, -⟩ | ⟨-, y, h1, h2, h3, h4⟩
    · rw [h1] at h9
      exact absurd h9 (Int.lt_irrefl _)
    · omega
  · obtain rfl : t = j := ht j o w e
    exact ⟨fun h9 => RLX.low h e hb ht8 hx h9 hN, fun h9 => RLX.same h hb hL e hx h9 hN⟩
/-- the thing of a line, whether it holds or not -/
def TNO (ln : LNT) : Nat := if ln.1 = 2 then ln.2.1.toNatClampNeg else if ln.1 = 0 then ln.2.2.1.toNatClampNeg else 0
theorem TNO.lt {ln : LNT} (h : LNB ln) : TNO ln < 8 := by
  unfold TNO
  rcases h with ⟨h, a, b, c, ha, hb, hc, e1, e2, e3⟩ | ⟨h, -⟩ | ⟨h, a, b, ha, hb, e1, e2⟩ | ⟨h, -⟩
  · rw [if_neg (by omega), if_pos h, e2, nI_clamp (by omega)]
    omega
  · rw [if_neg (by omega), if_neg (by omega)]
    decide
  · rw [if_pos h, e1, nI_clamp (by omega)]
    omega
  · rw [if_neg (by omega), if_neg (by omega)]
    decide
theorem TNO.of {ln : LNT} {tr : Prop} {j w : Nat} {o : Option Nat} (h : LVX ln tr = some (j, o, w)) : TNO ln = j := by
  by_cases c : tr
  · rw [LVX.y c] at h
    unfold LVO at h
    unfold TNO
    by_cases c0 : ln.1 = 0
    · rw [if_pos c0] at h
      cases h
      rw [if_neg (by omega), if_pos c0]
    · rw [if_neg c0] at h
      by_cases c2 : ln.1 = 2
      · rw [if_pos c2] at h
        cases h
        rw [if_pos c2]
      · rw [if_neg c2] at h
        cases h
  · rw [LVX.n c] at h
    cases h
theorem TNO.v {ln : LNT} (h : LNB ln) : (ln.1 = 2 → ln.2.1 = nI (TNO ln)) ∧ (ln.1 = 0 → ln.2.2.1 = nI (TNO ln)) ∧ (¬ ln.1 = 2 → ¬ ln.1 = 0 → TNO ln = 0) := by
  unfold TNO
  rcases h with ⟨h, a, b, c, ha, hb, hc, e1, e2, e3⟩ | ⟨h, -⟩ | ⟨h, a, b, ha, hb, e1, e2⟩ | ⟨h, -⟩
  · refine ⟨fun h9 => absurd h9 (by omega), fun _ => ?_, fun _ h9 => absurd h h9⟩
    rw [if_neg (by omega), if_pos h, e2, nI_clamp (by omega)]
  · exact ⟨fun h9 => absurd h9 (by omega), fun h9 => absurd h9 (by omega), fun h8 h9 => by rw [if_neg h8, if_neg h9]⟩
  · refine ⟨fun _ => ?_, fun h9 => absurd h9 (by omega), fun h9 => absurd h h9⟩
    rw [if_pos h, e1, nI_clamp (by omega)]
  · exact ⟨fun h9 => absurd h9 (by omega), fun h9 => absurd h9 (by omega), fun h8 h9 => by rw [if_neg h8, if_neg h9]⟩
theorem FLQ.nv {N : Int32} {S : HOP} {f : Nat → Int32} {c w j : Nat} {L : LVT} (e0 : L = some (j, some c, w)) (h : ARS N S f) (hb : HBD S) (hc : c < 8) (hN : 2000 ≤ N.toInt) (e : f c = N) : FLQ N S L (f c) := Or.inr ⟨j, some c, w, e0, by rw [e]; exact HBY.nv h hb hc hN e⟩
theorem FLQ.sm {N : Int32} {S : HOP} {f : Nat → Int32} {c w j : Nat} {L : LVT} (e0 : L = some (j, some c, w)) (h : ARS N S f) (hb : HBD S) (hc : c < 8) (hN : 2000 ≤ N.toInt) (e : ¬ f c = N) (hw : w ≤ 99) : FLQ N S L (f c + nI w) := Or.inr ⟨j, some c, w, e0, HBY.sm h hb hc hN e hw⟩
theorem FLQ.ask {N : Int32} {S : HOP} {w j : Nat} {L : LVT} (e0 : L = some (j, none, w)) (hw : w ≤ 999) : FLQ N S L (nI w) := Or.inr ⟨j, none, w, e0, HBY.ask hw⟩
/-- the numbers of a line that holds -/
theorem LVX.mk {ln : LNT} {tr : Prop} (h : LNB ln) (ht : tr) : (ln.1 = 0 → ∃ j c w, LVX ln tr = some (j, some c, w) ∧ c < 8 ∧ w ≤ 99 ∧ ln.2.1 = nI w ∧ ln.2.2.2.1 = nI c) ∧ (ln.1 = 2 → ∃ j w, LVX ln tr = some (j, none, w) ∧ w ≤ 999 ∧ ln.2.2.1 = nI w) := by
  rw [LVX.y ht]
  unfold LVO
  rcases h with ⟨h, a, b, c, ha, hb, hc, e1, e2, e3⟩ | ⟨h, -⟩ | ⟨h, a, b, ha, hb, e1, e2⟩ | ⟨h, -⟩
  · refine ⟨fun _ => ⟨b, c, a, ?_, by omega, ha, e1, e3⟩, fun h9 => absurd h9 (by omega)⟩
    rw [if_pos h, e1, e2, e3, nI_clamp (by omega), nI_clamp (by omega), nI_clamp (by omega)]
  · exact ⟨fun h9 => absurd h9 (by omega), fun h9 => absurd h9 (by omega)⟩
  · refine ⟨fun h9 => absurd h9 (by omega), fun _ => ⟨a, b, ?_, hb, e2⟩⟩
    rw [if_neg (by omega), if_pos h, e1, e2, nI_clamp (by omega), nI_clamp (by omega)]
  · exact ⟨fun h9 => absurd h9 (by omega), fun h9 => absurd h9 (by omega)⟩
theorem LVX.w {ln : LNT} {tr : Prop} (h : ¬ ln.1 = 0) (h2 : ¬ ln.1 = 2) : LVX ln tr = none := by
  by_cases c : tr
  · rw [LVX.y c]
    unfold LVO
    rw [if_neg h, if_neg h2]
  · exact LVX.n c
theorem PIT.end9 {LV : Nat → LVT} {n j : Nat} {S : HOP} {f : Nat → Int32} {N : Int32} (hB : ∀ i, i < n → LVB (LV i)) (h : ARS N (PIT LV n j S) f) (hf : PSS LV n (PIT LV n j S) = PIT LV n j S) : ARS N (PIT LV n 9 S) f := fun t ht => by
  rw [PIT.eight hB hf t ht]
  exact h t ht
theorem PIT.end0 {LV : Nat → LVT} {n : Nat} {S : HOP} {f : Nat → Int32} {N : Int32} (hn : n = 0) (h : ARS N S f) : ARS N (PIT LV n 9 S) f := by
  subst hn
  have e : PIT LV 0 9 S = S := PIT.fix rfl 9
  rw [e]
  exact h
theorem KNQ.ym {x N : Int32} {o : Option Int} (hN : 2000 ≤ N.toInt) (h : ARW N o x) (e : ¬ x = N) : ∃ v, o = some v ∧ (1000 + x).toInt = v + 1000 := by
  rcases h with h | ⟨v, h1, h2, h3, h4⟩
  · exact absurd h.2 e
  · have e1 : (1000 : Int32).toInt = 1000 := by decide
    refine ⟨v, h1, ?_⟩
    rw [Int32.add_comm, ti_ad (by omega) (by omega) (by omega) (by omega), h2, e1]
theorem KNQ.nm {x N : Int32} {o : Option Int} (hN : 2000 ≤ N.toInt) (h : ARW N o x) (e : x = N) : o = none := by
  rcases h with h | ⟨v, h1, h2, h3, h4⟩
  · exact h.1
  · rw [e] at h2
    omega
theorem SMP.len {m : Nat} {tc tr : List Int32} (h : SMP m tc tr) : 0 < tr.length := by
  cases tr with
  | nil =>
    obtain ⟨b, -, h2⟩ := h.2.2 (fun _ => 0)
    obtain ⟨g1, -⟩ := h2 0 (fun _ => 0)
    have g2 : (0 : Nat) = 0 + 1 := g1
    omega
  | cons x xs => exact Nat.zero_lt_succ _
theorem INQ.re {K : Nat → Nat → Int → Prop} {ft f : Nat → Int32} {V : Nat → Prop} {k p e : Nat} {a b : Int32} (h : INQ K ft V (f (32 + 6 * p + 0)) (f (32 + 6 * p + 1)) (f (12 + 2 * e + 1)) k p e a b) : INQ K ft V (shf f 32 (p * 6 + 0)) (shf f 32 (p * 6 + 1)) (shf f 12 (e * 2 + 1)) k p e a b := by
  rw [shf_pa, shf_pa, shf_pe]
  exact h
theorem THM.hb {f : Nat → Int32} {p t : Nat} (ht : t < 31) (h : (f (32 + 6 * p + 2) >>> (nI t &&& 31)) &&& 1 = 1) : HB (shf f 32 (p * 6 + 2)) (nI t) := by
  rw [shf_pa]
  exact HB.mk ht h
theorem THM.no {f : Nat → Int32} {p t : Nat} (h : ¬ (f (32 + 6 * p + 2) >>> (nI t &&& 31)) &&& 1 = 1) : ¬ HB (shf f 32 (p * 6 + 2)) (nI t) := fun h2 => by
  rw [shf_pa] at h2
  exact h h2.2.2
section WR
variable {p : Program} {l : Launch} {e : Env} {R : Room} {s : State} {m : MethodId} {args : Array Value} {below : List Frame} {meth : Method} {c : Code} {H : Heap} {locs : List Loc} {cells slots : Nat} {Q : State → Prop}
variable {pc : Nat} {ls : Array Slot} {rest : List Value} {G : GG} {K : OO} {ws : va_W} {A : Nat → Prop} {y0 : MethodName} {b0 : ByteArray} {mL0 : Nat} {rt0 : Option FieldType} {a : Nat} {H0 : Heap}
end WR
theorem WY2.y {w : Int32} (h : Wi w 0 2) (h2 : 2 ≤ w) : w = 2 := by
  have h1 := (Wi_iff.mp h).2
  rw [Int32.le_iff_toInt_le] at h2
  have e2 : (2 : Int32).toInt = 2 := by decide
  rw [e2] at h1 h2
  exact Int32.toInt_inj.mp (by rw [e2]; omega)
theorem WY2.n {w : Int32} (h : ¬ 2 ≤ w) : ¬ w = 2 := fun e => h (by rw [e]; exact Int32.le_refl 2)
theorem LVM.lvb {y : Nat → Int32} {kv : Nat} {VL : Nat → List LNT} {VC : Nat → Nat → List Int32} {DY : Nat → Int32} {dv : Int32} {F : Nat → Int32} (h : VMZ y kv VL VC DY) : ∀ i, i < LVN (RLO DY dv kv) VL → LVB (LVF (LNF (RLO DY dv kv) VL) (TRF (RLO DY dv kv) VC F) i) := by
  cases e : RLO DY dv kv with
  | none => exact fun i hi => absurd hi (Nat.not_lt_zero i)
  | some v => exact fun i hi => LVX.b ((h v (LTS.lt _ _ e)).2.2.2 i hi).1
section WR
variable {p : Program} {l : Launch} {e : Env} {R : Room} {s : State} {m : MethodId} {args : Array Value} {below : List Frame} {meth : Method} {c : Code} {H : Heap} {locs : List Loc} {cells slots : Nat} {Q : State → Prop}
variable {pc : Nat} {ls : Array Slot} {rest : List Value} {G : GG} {K : OO} {ws : va_W} {A : Nat → Prop} {y0 : MethodName} {b0 : ByteArray} {mL0 : Nat} {rt0 : Option FieldType} {a : Nat} {H0 : Heap}
end WR
theorem FLP.ref {LV : Nat → LVT} {S : HOP} {k t : Nat} {N x y : Int32} (hq : FLQ N S (LV k) y) (ht : ∀ j o w, LV k = some (j, o, w) → j = t) (hn : ¬ x = N) (ha : ARV N (S t) x) (hL : LVB (LV k)) (hb : HBD S) (hN : 3000 ≤ N.toInt) (ht8 : t < 8) : y = x ↔ FLP LV S t k := by
  rcases hq with ⟨e, e2⟩ | ⟨j, o, w, e, h⟩
  · refine ⟨fun h9 => absurd (h9.symm.trans e2) hn, fun ⟨o, w, h9, _⟩ => ?_⟩
    rw [e] at h9
    cases h9
  · obtain rfl : j = t := ht j o w e
    exact FLP.iff e hL hb h ha hN ht8
theorem FLN.cn {LV : Nat → LVT} {n m t : Nat} {S : HOP} {r : Int32} (e : n = m) (h : FLN LV m S t r) : FLN LV n S t r := by
  rw [e]
  exact h
theorem FLP.tno {LN : Nat → LNT} {TR : Nat → Prop} {S : HOP} {k t : Nat} (h : ¬ TNO (LN k) = t) : ¬ FLP (LVF LN TR) S t k := fun ⟨_, _, h1, _⟩ => h (TNO.of h1)
theorem SHF.nm {N : Int32} {S : HOP} {t : Nat} {x : Int32} (hN : 3000 ≤ N.toInt) (hb : HBD S) (ht : t < 8) (h : ARV N (S t) x) : x = N ↔ S t = none := by
  rcases h with ⟨h1, h2⟩ | ⟨v, h1, h2⟩
  · exact ⟨fun _ => h1, fun _ => h2⟩
  · have h3 := hb.lim ht h1
    refine ⟨fun e => ?_, fun e => ?_⟩
    · rw [e] at h2
      omega
    · rw [e] at h1
      cases h1
theorem SHF.eqm {N : Int32} {S T : HOP} {t : Nat} {x y : Int32} (hN : 3000 ≤ N.toInt) (hb : HBD S) (hc : HBD T) (ht : t < 8) (h : ARV N (S t) x) (h2 : ARV N (T t) y) : x = y ↔ S t = T t := ARV.iff h h2 (fun v hv => by have h9 := hb.lim ht hv; omega) (fun v hv => by have h9 := hc.lim ht hv; omega)
section WR
variable {p : Program} {l : Launch} {e : Env} {R : Room} {s : State} {m : MethodId} {args : Array Value} {below : List Frame} {meth : Method} {c : Code} {H : Heap} {locs : List Loc} {cells slots : Nat} {Q : State → Prop}
variable {pc : Nat} {ls : Array Slot} {rest : List Value} {G : GG} {K : OO} {ws : va_W} {A : Nat → Prop} {y0 : MethodName} {b0 : ByteArray} {mL0 : Nat} {rt0 : Option FieldType} {a : Nat} {H0 : Heap}
theorem gX12_why_0 : (decode cX12_why 0 = .ok (.aload_n 0, 1)) ∧ (decode cX12_why 1 = .ok (.iload_n 1, 1)) ∧ (decode cX12_why 2 = .ok (.iconst 4, 1)) ∧ (decode cX12_why 3 = .ok (.invokevirtual 120, 3)) ∧ (decode cX12_why 6 = .ok (.ifCond .eq 13, 3)) ∧ (decode cX12_why 9 = .ok (.iload_n 2, 1)) ∧ (decode cX12_why 10 = .ok (.iconst 0, 1)) ∧ (decode cX12_why 11 = .ok (.bipush 7, 2)) ∧ (decode cX12_why 13 = .ok (.invokestatic 84, 3)) ∧ (decode cX12_why 16 = .ok (.ifCond .ne 5, 3)) := by decide +kernel
theorem gX12_why_1 : (decode cX12_why 19 = .ok (.iconst (-1), 1)) ∧ (decode cX12_why 20 = .ok (.ireturn, 1)) ∧ (decode cX12_why 21 = .ok (.aload_n 0, 1)) ∧ (decode cX12_why 22 = .ok (.iload_n 1, 1)) ∧ (decode cX12_why 23 = .ok (.invokevirtual 199, 3)) ∧ (decode cX12_why 26 = .ok (.aload_n 0, 1)) ∧ (decode cX12_why 27 = .ok (.invokevirtual 180, 3)) ∧ (decode cX12_why 30 = .ok (.istore_n 3, 1)) ∧ (decode cX12_why 31 = .ok (.aload_n 0, 1)) ∧ (decode cX12_why 32 = .ok (.getfield 29, 3)) := by decide +kernel
theorem gX12_why_2 : (decode cX12_why 35 = .ok (.iload_n 2, 1)) ∧ (decode cX12_why 36 = .ok (.iaload, 1)) ∧ (decode cX12_why 37 = .ok (.ldc 175, 2)) ∧ (decode cX12_why 39 = .ok (.if_icmp .eq 19, 3)) ∧ (decode cX12_why 42 = .ok (.aload_n 0, 1)) ∧ (decode cX12_why 43 = .ok (.getfield 29, 3)) ∧ (decode cX12_why 46 = .ok (.iload_n 2, 1)) ∧ (decode cX12_why 47 = .ok (.iaload, 1)) ∧ (decode cX12_why 48 = .ok (.aload_n 0, 1)) ∧ (decode cX12_why 49 = .ok (.iload_n 1, 1)) := by decide +kernel
theorem gX12_why_3 : (decode cX12_why 50 = .ok (.iload_n 2, 1)) ∧ (decode cX12_why 51 = .ok (.iconst 1, 1)) ∧ (decode cX12_why 52 = .ok (.invokevirtual 176, 3)) ∧ (decode cX12_why 55 = .ok (.if_icmp .ne 6, 3)) ∧ (decode cX12_why 58 = .ok (.bipush (-3), 2)) ∧ (decode cX12_why 60 = .ok (.ireturn, 1)) ∧ (decode cX12_why 61 = .ok (.iconst 0, 1)) ∧ (decode cX12_why 62 = .ok (.istore 4, 2)) ∧ (decode cX12_why 64 = .ok (.iload 4, 2)) ∧ (decode cX12_why 66 = .ok (.aload_n 0, 1)) := by decide +kernel
theorem gX12_why_4 : (decode cX12_why 67 = .ok (.iload_n 3, 1)) ∧ (decode cX12_why 68 = .ok (.invokevirtual 183, 3)) ∧ (decode cX12_why 71 = .ok (.if_icmp .ge 40, 3)) ∧ (decode cX12_why 74 = .ok (.aload_n 0, 1)) ∧ (decode cX12_why 75 = .ok (.iload_n 3, 1)) ∧ (decode cX12_why 76 = .ok (.iload 4, 2)) ∧ (decode cX12_why 78 = .ok (.invokevirtual 190, 3)) ∧ (decode cX12_why 81 = .ok (.iload_n 2, 1)) ∧ (decode cX12_why 82 = .ok (.if_icmp .ne 23, 3)) ∧ (decode cX12_why 85 = .ok (.aload_n 0, 1)) := by decide +kernel
theorem gX12_why_6 : (decode cX12_why 104 = .ok (.ireturn, 1)) ∧ (decode cX12_why 105 = .ok (.iinc 4 1, 3)) ∧ (decode cX12_why 108 = .ok (.goto (-44), 3)) ∧ (decode cX12_why 111 = .ok (.bipush (-3), 2)) ∧ (decode cX12_why 113 = .ok (.ireturn, 1)) := by decide +kernel
theorem gX12_why_5 : (decode cX12_why 86 = .ok (.iload_n 3, 1)) ∧ (decode cX12_why 87 = .ok (.iload 4, 2)) ∧ (decode cX12_why 89 = .ok (.iload_n 1, 1)) ∧ (decode cX12_why 90 = .ok (.invokevirtual 186, 3)) ∧ (decode cX12_why 93 = .ok (.aload_n 0, 1)) ∧ (decode cX12_why 94 = .ok (.getfield 29, 3)) ∧ (decode cX12_why 97 = .ok (.iload_n 2, 1)) ∧ (decode cX12_why 98 = .ok (.iaload, 1)) ∧ (decode cX12_why 99 = .ok (.if_icmp .ne 6, 3)) ∧ (decode cX12_why 102 = .ok (.iload 4, 2)) := by decide +kernel
end WR
theorem rm_6_5_3 {mc ms : Nat} : 5 + 1 ≤ (RM 6 mc ms).frames ∧ 8 + (3 + 11) + 40 * 5 ≤ (RM 6 mc ms).locals := ⟨by show 5 + 1 ≤ 6; decide, by show 8 + (3 + 11) + 40 * 5 ≤ 40 * 6; decide⟩
theorem rm_7_6_12 {mc ms : Nat} : 6 + 1 ≤ (RM 7 mc ms).frames ∧ 8 + (12 + 11) + 40 * 6 ≤ (RM 7 mc ms).locals := ⟨by show 6 + 1 ≤ 7; decide, by show 8 + (12 + 11) + 40 * 6 ≤ 40 * 7; decide⟩
theorem rm_8_2_3 {mc ms : Nat} : 2 + 1 ≤ (RM 8 mc ms).frames ∧ 8 + (3 + 11) + 40 * 2 ≤ (RM 8 mc ms).locals := ⟨by show 2 + 1 ≤ 8; decide, by show 8 + (3 + 11) + 40 * 2 ≤ 40 * 8; decide⟩
theorem rm_8_2_4 {mc ms : Nat} : 2 + 1 ≤ (RM 8 mc ms).frames ∧ 8 + (4 + 11) + 40 * 2 ≤ (RM 8 mc ms).locals := ⟨by show 2 + 1 ≤ 8; decide, by show 8 + (4 + 11) + 40 * 2 ≤ 40 * 8; decide⟩
theorem rm_9_8_7 {mc ms : Nat} : 8 + 1 ≤ (RM 9 mc ms).frames ∧ 8 + (7 + 11) + 40 * 8 ≤ (RM 9 mc ms).locals := ⟨by show 8 + 1 ≤ 9; decide, by show 8 + (7 + 11) + 40 * 8 ≤ 40 * 9; decide⟩
theorem rm_9_5_7 {mc ms : Nat} : 5 + 1 ≤ (RM 9 mc ms).frames ∧ 8 + (7 + 11) + 40 * 5 ≤ (RM 9 mc ms).locals := ⟨by show 5 + 1 ≤ 9; decide, by show 8 + (7 + 11) + 40 * 5 ≤ 40 * 9; decide⟩
theorem rm_10_2_3 {mc ms : Nat} : 2 + 1 ≤ (RM 10 mc ms).frames ∧ 8 + (3 + 11) + 40 * 2 ≤ (RM 10 mc ms).locals := ⟨by show 2 + 1 ≤ 10; decide, by show 8 + (3 + 11) + 40 * 2 ≤ 40 * 10; decide⟩
theorem rm_10_8_7 {mc ms : Nat} : 8 + 1 ≤ (RM 10 mc ms).frames ∧ 8 + (7 + 11) + 40 * 8 ≤ (RM 10 mc ms).locals := ⟨by show 8 + 1 ≤ 10; decide, by show 8 + (7 + 11) + 40 * 8 ≤ 40 * 10; decide⟩
theorem rm_10_5_7 {mc ms : Nat} : 5 + 1 ≤ (RM 10 mc ms).frames ∧ 8 + (7 + 11) + 40 * 5 ≤ (RM 10 mc ms).locals := ⟨by show 5 + 1 ≤ 10; decide, by show 8 + (7 + 11) + 40 * 5 ≤ 40 * 10; decide⟩
theorem rm_10_2_4 {mc ms : Nat} : 2 + 1 ≤ (RM 10 mc ms).frames ∧ 8 + (4 + 11) + 40 * 2 ≤ (RM 10 mc ms).locals := ⟨by show 2 + 1 ≤ 10; decide, by show 8 + (4 + 11) + 40 * 2 ≤ 40 * 10; decide⟩
theorem rm_10_7_6 {mc ms : Nat} : 7 + 1 ≤ (RM 10 mc ms).frames ∧ 8 + (6 + 11) + 40 * 7 ≤ (RM 10 mc ms).locals := ⟨by show 7 + 1 ≤ 10; decide, by show 8 + (6 + 11) + 40 * 7 ≤ 40 * 10; decide⟩
theorem dj_2_3_0_1__4 : ∀ i ∈ ([4] : List Nat), i ∉ ([2, 3, 0, 1] : List Nat) := by decide
theorem fm_3_4_1_2_0 {a0 a1 a2 a3 a4 : Nat × va_E} {l : va_W} : ([3, 4, 1, 2, 0] : List Nat).filterMap (fun i => (a0 :: a1 :: a2 :: a3 :: a4 :: l : va_W)[i]?) = ([a3, a4, a1, a2, a0] : va_W) := rfl
theorem nd_3_4_1_2_0 : va_nd [3, 4, 1, 2, 0] = true := by decide
theorem sm_3_4_1_2_0 {a0 a1 a2 a3 a4 : Nat × va_E} {l : va_W} : ([3, 4, 1, 2, 0] : List Nat).map (fun i => (a0 :: a1 :: a2 :: a3 :: a4 :: l : va_W)[i]?) = ([a3, a4, a1, a2, a0] : va_W).map some := rfl
def K_m_factOfX (l : Launch) (G : GG) (kq : Nat) (h0 : Nat) (jk : Nat) (je : Nat) (nw : Nat) (nk : Nat) (mhasKept : Int32) (nt : Nat) (mtaped : Int32) (nr : Nat) (mrowMany : Int32) (mroundOf : Int32) (mroundFrom : Int32) (nm : Nat) (mfromHour : Int32) (mtoHour : Int32) (ns : Nat) (mfrom : Int32) (mto : Int32) (msort : Int32) (misFault : Int32) (mdeep : Int32) (mcoded : Int32) (mlines : Int32) (nl : Nat) (nc : Nat) (nF : Nat) (np : Nat) (ntr : Nat) (nb : Nat) (mbestCost : Int32) (nso : Nat) (nsi : Nat) (nit : Nat) (nsh : Nat) (nsf : Nat) (nss : Nat) (nrc : Nat) (mtraced : Int32) (mdealer : Int32) (mnumber : Int32) (mwhose : Int32) (msize : Int32) (misParted : Int32) (fnw : Nat → Int32) : Prop := MP l G yX12_factOf cX12_factOf 3 (some .int) 5 [.ref h0, .int (nI jk), .int (nI je)] [(h0, oX12 nw nk mhasKept nt mtaped nr mrowMany mroundOf mroundFrom 0 nm mfromHour mtoHour ns mfrom mto msort misFault mdeep mcoded mlines nl nc nF np ntr nb mbestCost nso nsi nit nsh nsf nss nrc mtraced mdealer mnumber mwhose msize misParted), (nw, iA G 1662 fnw)] (fun r : Int32 => r = ((FAX (shf fnw 12) (shf fnw 32) (VSE fnw kq) kq je) jk))
set_option maxHeartbeats 4000000 in
set_option maxRecDepth 100000 in
theorem m_factOfX (l : Launch) (G : GG) (kq : Nat) (h0 : Nat) (jk : Nat) (je : Nat) (nw : Nat) (nk : Nat) (mhasKept : Int32) (nt : Nat) (mtaped : Int32) (nr : Nat) (mrowMany : Int32) (mroundOf : Int32) (mroundFrom : Int32) (nm : Nat) (mfromHour : Int32) (mtoHour : Int32) (ns : Nat) (mfrom : Int32) (mto : Int32) (msort : Int32) (misFault : Int32) (mdeep : Int32) (mcoded : Int32) (mlines : Int32) (nl : Nat) (nc : Nat) (nF : Nat) (np : Nat) (ntr : Nat) (nb : Nat) (mbestCost : Int32) (nso : Nat) (nsi : Nat) (nit : Nat) (nsh : Nat) (nsf : Nat) (nss : Nat) (nrc : Nat) (mtraced : Int32) (mdealer : Int32) (mnumber : Int32) (mwhose : Int32) (msize : Int32) (misParted : Int32) (fnw : Nat → Int32) (hN : NI fnw) (ekq : fnw 5 = nI kq) (hkq : kq ≤ 12) (hje : je < 10) (hjk : jk < 5) : K_m_factOfX l G kq h0 jk je nw nk mhasKept nt mtaped nr mrowMany mroundOf mroundFrom nm mfromHour mtoHour ns mfrom mto msort misFault mdeep mcoded mlines nl nc nF np ntr nb mbestCost nso nsi nit nsh nsf nss nrc mtraced mdealer mnumber mwhose msize misParted fnw := by
  refine MP.start (by decide +kernel) (Nat.le_of_ble_eq_true rfl) ?_
  intro p e s m below meth c ls hC hK hP hD hl
  refine absQ (fun Q0 hQ0 => ?_)
  have hl : lv_has ls 3 [(0, .ref h0), (1, .int (nI jk)), (2, .int (nI je))] := hl
  refine Kan8 hC (fun hx hb hr hml hB hown hlocks hnm => ?_)
  refine lv_iload_n hx hb gX12_factOf_0.1 rfl (lv_at1 hl) ?_
  by_cases c_1_7711 : nI jk = 0
  · refine lv_tableIn (tgt := 32) hx hb gX12_factOf_0.2.1 (by rw [c_1_7711]; decide) (by rw [c_1_7711]; decide) (by rw [c_1_7711]; rfl) (by decide) ?_
    refine lv_iload_n hx hb gX12_factOf_0.2.2.1 rfl (lv_at2 hl) ?_
    refine toQ hQ0 ?_
    exact RP (v := nI je) hC (FAR.r0 ((nI_eq (b := 0) (by omega) (by decide)).mp c_1_7711)) rfl gX12_factOf_0.2.2.2.1
  by_cases c_1_7712 : nI jk = 1
  · refine lv_tableIn (tgt := 34) hx hb gX12_factOf_0.2.1 (by rw [c_1_7712]; decide) (by rw [c_1_7712]; decide) (by rw [c_1_7712]; rfl) (by decide) ?_
    refine lv_aload_n hx hb gX12_factOf_0.2.2.2.2.1 rfl (lv_at0 hl) ?_
    refine gf_X12_9 hC rfl hK hP 0 rfl rfl gX12_factOf_0.2.2.2.2.2.1 ?_
    refine lv_bipush (v := 12) hx hb gX12_factOf_0.2.2.2.2.2.2.1 (by decide) ?_
    refine lv_iconst (v := 2) hx hb gX12_factOf_0.2.2.2.2.2.2.2.1 (by decide) ?_
    refine lv_iload_n hx hb gX12_factOf_0.2.2.2.2.2.2.2.2.1 rfl (lv_at2 hl) ?_
    refine lv_imul hx hb gX12_factOf_0.2.2.2.2.2.2.2.2.2 ?_
    refine eqi (x1 := nI (2 * je)) (nI_mul 2 je) ?_
    refine lv_iadd hx hb gX12_factOf_1.1 ?_
    refine eqi (x1 := nI (12 + 2 * je)) (nI_add 12 (2 * je)) ?_
    refine aldN hC hK hP 1 rfl (k := (12 + 2 * je)) (by omega) (Nat.le_of_ble_eq_true rfl) (v := fnw (12 + 2 * je)) rfl gX12_factOf_1.2.1 ?_
    refine toQ hQ0 ?_
    exact RP (v := fnw (12 + 2 * je)) hC (FAR.r1 ((nI_eq (b := 1) (by omega) (by decide)).mp c_1_7712)) rfl gX12_factOf_1.2.2.1
  by_cases c_1_7713 : nI jk = 2
  · refine lv_tableIn (tgt := 46) hx hb gX12_factOf_0.2.1 (by rw [c_1_7713]; decide) (by rw [c_1_7713]; decide) (by rw [c_1_7713]; rfl) (by decide) ?_
    refine lv_aload_n hx hb gX12_factOf_1.2.2.2.1 rfl (lv_at0 hl) ?_
    refine lv_iload_n hx hb gX12_factOf_1.2.2.2.2.1 rfl (lv_at2 hl) ?_
    refine lv_iconst (v := 0) hx hb gX12_factOf_1.2.2.2.2.2.1 (by decide) ?_
    refine pV hC hK hl hP hD (m_papersToX l G kq h0 je nw nk mhasKept nt mtaped nr mrowMany mroundOf mroundFrom nm mfromHour mtoHour ns mfrom mto msort misFault mdeep mcoded mlines nl nc nF np ntr nb mbestCost nso nsi nit nsh nsf nss nrc mtraced mdealer mnumber mwhose msize misParted fnw (ekq) (hkq) (hje)) si_X12_123 [0, 1] sm_0_1 fm_0_1 nd_0_1 rfl rfl rfl rfl rfl (Nat.le_of_ble_eq_true rfl) rm_5_4_5 ⟨by first | exact Nat.le_of_ble_eq_true rfl | exact Nat.zero_le _, by first | exact Nat.le_of_ble_eq_true rfl | exact Nat.zero_le _⟩ gX12_factOf_1.2.2.2.2.2.2.1 (Keqr ?_)
    refine toQ hQ0 ?_
    exact RP (v := (CNT (fun p9 => SEE (shf fnw 32) (fnw 0) (fnw 1) (fnw 2) p9 ∧ HB (shf fnw 32 (p9 * 6 + 1)) (nI je)) kq)) hC (FAR.r2 (fun _ h9 => SEE.vse h9) ((nI_eq (b := 2) (by omega) (by decide)).mp c_1_7713)) rfl gX12_factOf_1.2.2.2.2.2.2.2.1
  by_cases c_1_7716 : nI jk = 3
  · refine lv_tableIn (tgt := 53) hx hb gX12_factOf_0.2.1 (by rw [c_1_7716]; decide) (by rw [c_1_7716]; decide) (by rw [c_1_7716]; rfl) (by decide) ?_
    refine lv_aload_n hx hb gX12_factOf_1.2.2.2.2.2.2.2.2.1 rfl (lv_at0 hl) ?_
    refine lv_iload_n hx hb gX12_factOf_1.2.2.2.2.2.2.2.2.2 rfl (lv_at2 hl) ?_
    refine lv_iconst (v := 1) hx hb gX12_factOf_2.1 (by decide) ?_
    refine pV hC hK hl hP hD (m_papersByX l G kq h0 je nw nk mhasKept nt mtaped nr mrowMany mroundOf mroundFrom nm mfromHour mtoHour ns mfrom mto msort misFault mdeep mcoded mlines nl nc nF np ntr nb mbestCost nso nsi nit nsh nsf nss nrc mtraced mdealer mnumber mwhose msize misParted fnw (ekq) (hkq) (hje)) si_X12_123 [0, 1] sm_0_1 fm_0_1 nd_0_1 rfl rfl rfl rfl rfl (Nat.le_of_ble_eq_true rfl) rm_5_4_5 ⟨by first | exact Nat.le_of_ble_eq_true rfl | exact Nat.zero_le _, by first | exact Nat.le_of_ble_eq_true rfl | exact Nat.zero_le _⟩ gX12_factOf_2.2.1 (Keqr ?_)
    refine toQ hQ0 ?_
    exact RP (v := (CNT (fun p9 => SEE (shf fnw 32) (fnw 0) (fnw 1) (fnw 2) p9 ∧ shf fnw 32 (p9 * 6 + 0) = (nI je)) kq)) hC (FAR.r3 (fun _ h9 => SEE.vse h9) ((nI_eq (b := 3) (by omega) (by decide)).mp c_1_7716)) rfl gX12_factOf_2.2.2.1
  refine lv_tableOut (tgt := 60) hx hb gX12_factOf_0.2.1 (by have q9 := sw_0_3 (x := nI jk); simp only [c_1_7711, c_1_7712, c_1_7713, c_1_7716, not_false_eq_true, true_implies] at q9; exact q9) (by decide) ?_
  refine lv_aload_n hx hb gX12_factOf_2.2.2.2.1 rfl (lv_at0 hl) ?_
  refine gf_X12_9 hC rfl hK hP 0 rfl rfl gX12_factOf_2.2.2.2.2.1 ?_
  refine lv_bipush (v := 12) hx hb gX12_factOf_2.2.2.2.2.2.1 (by decide) ?_
  refine lv_iconst (v := 2) hx hb gX12_factOf_2.2.2.2.2.2.2.1 (by decide) ?_
  refine lv_iload_n hx hb gX12_factOf_2.2.2.2.2.2.2.2.1 rfl (lv_at2 hl) ?_
  refine lv_imul hx hb gX12_factOf_2.2.2.2.2.2.2.2.2.1 ?_
  refine eqi (x1 := nI (2 * je)) (nI_mul 2 je) ?_
  refine lv_iadd hx hb gX12_factOf_2.2.2.2.2.2.2.2.2.2 ?_
  refine eqi (x1 := nI (12 + 2 * je)) (nI_add 12 (2 * je)) ?_
  refine lv_iconst (v := 1) hx hb gX12_factOf_3.1 (by decide) ?_
  refine lv_iadd hx hb gX12_factOf_3.2.1 ?_
  refine eqi (x1 := nI (12 + 2 * je + 1)) (nI_add (12 + 2 * je) 1) ?_
  refine aldN hC hK hP 1 rfl (k := (12 + 2 * je + 1)) (by omega) (Nat.le_of_ble_eq_true rfl) (v := fnw (12 + 2 * je + 1)) rfl gX12_factOf_3.2.2.1 ?_
  refine toQ hQ0 ?_
  exact RP (v := fnw (12 + 2 * je + 1)) hC (FAR.r4 (fun h9 => c_1_7711 (congrArg nI h9)) (fun h9 => c_1_7712 (congrArg nI h9)) (fun h9 => c_1_7713 (congrArg nI h9)) (fun h9 => c_1_7716 (congrArg nI h9))) rfl gX12_factOf_3.2.2.2
def K_m_rulesX (l : Launch) (G : GG) (k7 : Nat) (DY : Nat → Int32) (h0 : Nat) (nw : Nat) (nk : Nat) (mhasKept : Int32) (nt : Nat) (mtaped : Int32) (nr : Nat) (mrowMany : Int32) (mroundOf : Int32) (mroundFrom : Int32) (mouts : Int32) (nm : Nat) (mfromHour : Int32) (mtoHour : Int32) (ns : Nat) (mfrom : Int32) (mto : Int32) (msort : Int32) (misFault : Int32) (mdeep : Int32) (mcoded : Int32) (mlines : Int32) (nl : Nat) (nc : Nat) (nF : Nat) (np : Nat) (ntr : Nat) (nb : Nat) (mbestCost : Int32) (nso : Nat) (nsi : Nat) (nit : Nat) (nsh : Nat) (nsf : Nat) (nss : Nat) (nrc : Nat) (mtraced : Int32) (mdealer : Int32) (mnumber : Int32) (mwhose : Int32) (msize : Int32) (misParted : Int32) (fnw : Nat → Int32) : Prop := MP l G yX12_rules cX12_rules 3 (some .int) 2 [.ref h0] [(h0, oX12 nw nk mhasKept nt mtaped nr mrowMany mroundOf mroundFrom mouts nm mfromHour mtoHour ns mfrom mto msort misFault mdeep mcoded mlines nl nc nF np ntr nb mbestCost nso nsi nit nsh nsf nss nrc mtraced mdealer mnumber mwhose msize misParted), (nw, iA G 1662 fnw)] (fun r : Int32 => r = (LAT (RLO DY (DAYV (fnw 0) (fnw 1)) k7)))
set_option maxHeartbeats 4000000 in
set_option maxRecDepth 100000 in
theorem m_rulesX (l : Launch) (G : GG) (k7 : Nat) (DY : Nat → Int32) (h0 : Nat) (nw : Nat) (nk : Nat) (mhasKept : Int32) (nt : Nat) (mtaped : Int32) (nr : Nat) (mrowMany : Int32) (mroundOf : Int32) (mroundFrom : Int32) (mouts : Int32) (nm : Nat) (mfromHour : Int32) (mtoHour : Int32) (ns : Nat) (mfrom : Int32) (mto : Int32) (msort : Int32) (misFault : Int32) (mdeep : Int32) (mcoded : Int32) (mlines : Int32) (nl : Nat) (nc : Nat) (nF : Nat) (np : Nat) (ntr : Nat) (nb : Nat) (mbestCost : Int32) (nso : Nat) (nsi : Nat) (nit : Nat) (nsh : Nat) (nsf : Nat) (nss : Nat) (nrc : Nat) (mtraced : Int32) (mdealer : Int32) (mnumber : Int32) (mwhose : Int32) (msize : Int32) (misParted : Int32) (fnw : Nat → Int32) (hN : NI fnw) (ek7 : fnw 7 = nI k7) (hk7 : k7 ≤ 8) (hDY : ∀ v9, v9 < k7 → fnw (176 + 156 * v9 + 0) = DY v9) : K_m_rulesX l G k7 DY h0 nw nk mhasKept nt mtaped nr mrowMany mroundOf mroundFrom mouts nm mfromHour mtoHour ns mfrom mto msort misFault mdeep mcoded mlines nl nc nF np ntr nb mbestCost nso nsi nit nsh nsf nss nrc mtraced mdealer mnumber mwhose msize misParted fnw := by
  refine MP.start (by decide +kernel) (Nat.le_of_ble_eq_true rfl) ?_
  intro p e s m below meth c ls hC hK hP hD hl
  refine absQ (fun Q0 hQ0 => ?_)
  have hl : lv_has ls 3 [(0, .ref h0)] := hl
  refine Kan8 hC (fun hx hb hr hml hB hown hlocks hnm => ?_)
  refine lv_iconst (v := (-1)) hx hb gX12_rules_0.1 (by decide) ?_
  refine lv_istore_n (lv' := [(1, .int (-1)), (0, .ref h0)]) hx hb gX12_rules_0.2.1 rfl hl (by decide) rfl (fun ls hl => ?_)
  refine lv_iconst (v := 0) hx hb gX12_rules_0.2.2.1 (by decide) ?_
  refine lv_istore_n (lv' := [(2, .int 0), (1, .int (-1)), (0, .ref h0)]) hx hb gX12_rules_0.2.2.2.1 rfl hl (by decide) rfl (fun ls hl => ?_)
  have keyP : ∀ (nP kP : Nat) (lv : Int32) (ls : Array Slot), kP + nP = k7 → (lv = LAT (RLO DY (DAYV (fnw 0) (fnw 1)) kP)) → lv_has ls 3 [(2, .int (nI kP)), (1, .int lv), (0, .ref h0)] → W p l e (RM 2 0 0) s m ([.ref h0] : List Value).toArray below meth c s.heap [] 0 0 Q0 (F0 m 4 ls []) := by
    intro nP
    induction nP with
    | zero =>
      intro kP lv ls hkP hlv hl
      obtain rfl : k7 = kP := by omega
      have hl : lv_has ls 3 [(2, .int (nI k7)), (1, .int lv), (0, .ref h0)] := hl
      refine lv_iload_n hx hb gX12_rules_0.2.2.2.2.1 rfl (lv_at0 hl) ?_
      refine lv_aload_n hx hb gX12_rules_0.2.2.2.2.2.1 rfl (lv_at2 hl) ?_
      refine gf_X12_9 hC rfl hK hP 0 rfl rfl gX12_rules_0.2.2.2.2.2.2.1 ?_
      refine lv_bipush (v := 7) hx hb gX12_rules_0.2.2.2.2.2.2.2.1 (by decide) ?_
      refine ald hC hK hP 1 rfl (vin (by decide +kernel)) (k := 7) (by decide +kernel) (v := nI k7) (ek7) gX12_rules_0.2.2.2.2.2.2.2.2.1 ?_
      refine lv_icmp_ge (tgt := 50) hx hb gX12_rules_0.2.2.2.2.2.2.2.2.2 (by decide) (fun _ => ?_) (fun c9 => absurd (Int32.le_refl _) c9)
      refine lv_iload_n hx hb gX12_rules_2.2.2.2.2.2.2.2.2.2 rfl (lv_at1 hl) ?_
      refine toQ hQ0 ?_
      exact RP (v := lv) hC (hlv) rfl gX12_rules_3
    | succ nP ihP =>
      intro kP lv ls hkP hlv hl
      refine lv_iload_n hx hb gX12_rules_0.2.2.2.2.1 rfl (lv_at0 hl) ?_
      refine lv_aload_n hx hb gX12_rules_0.2.2.2.2.2.1 rfl (lv_at2 hl) ?_
      refine gf_X12_9 hC rfl hK hP 0 rfl rfl gX12_rules_0.2.2.2.2.2.2.1 ?_
      refine lv_bipush (v := 7) hx hb gX12_rules_0.2.2.2.2.2.2.2.1 (by decide) ?_
      refine ald hC hK hP 1 rfl (vin (by decide +kernel)) (k := 7) (by decide +kernel) (v := nI k7) (ek7) gX12_rules_0.2.2.2.2.2.2.2.2.1 ?_
      refine lv_icmp_ge (tgt := 50) hx hb gX12_rules_0.2.2.2.2.2.2.2.2.2 (by decide) (fun c9 => absurd c9 (nI_ge (a := kP) (b := k7) (by omega) (by omega))) (fun _ => ?_)
      refine lv_aload_n hx hb gX12_rules_1.1 rfl (lv_at2 hl) ?_
      refine gf_X12_9 hC rfl hK hP 0 rfl rfl gX12_rules_1.2.1 ?_
      refine lv_sipush (v := 176) hx hb gX12_rules_1.2.2.1 (by decide) ?_
      refine lv_sipush (v := 156) hx hb gX12_rules_1.2.2.2.1 (by decide) ?_
      refine lv_iload_n hx hb gX12_rules_1.2.2.2.2.1 rfl (lv_at0 hl) ?_
      refine lv_imul hx hb gX12_rules_1.2.2.2.2.2.1 ?_
      refine eqi (x1 := nI (156 * kP)) (nI_mul 156 kP) ?_
      refine lv_iadd hx hb gX12_rules_1.2.2.2.2.2.2.1 ?_
      refine eqi (x1 := nI (176 + 156 * kP)) (nI_add 176 (156 * kP)) ?_
      refine lv_iconst (v := 0) hx hb gX12_rules_1.2.2.2.2.2.2.2.1 (by decide) ?_
      refine lv_iadd hx hb gX12_rules_1.2.2.2.2.2.2.2.2.1 ?_
      refine eqi (x1 := nI (176 + 156 * kP + 0)) (nI_add (176 + 156 * kP) 0) ?_
      refine aldN hC hK hP 1 rfl (k := 176 + 156 * kP + 0) (by omega) (Nat.le_of_ble_eq_true rfl) (v := DY kP) (hDY kP (by omega)) gX12_rules_1.2.2.2.2.2.2.2.2.2 ?_
      refine lv_aload_n hx hb gX12_rules_2.1 rfl (lv_at2 hl) ?_
      refine pV hC hK hl hP hD (m_dayX l G h0 nw nk mhasKept nt mtaped nr mrowMany mroundOf mroundFrom mouts nm mfromHour mtoHour ns mfrom mto msort misFault mdeep mcoded mlines nl nc nF np ntr nb mbestCost nso nsi nit nsh nsf nss nrc mtraced mdealer mnumber mwhose msize misParted fnw) si_X12_92 [0, 1] sm_0_1 fm_0_1 nd_0_1 rfl rfl rfl rfl rfl (Nat.le_of_ble_eq_true rfl) rm_2_1_1 ⟨by first | exact Nat.le_of_ble_eq_true rfl | exact Nat.zero_le _, by first | exact Nat.le_of_ble_eq_true rfl | exact Nat.zero_le _⟩ gX12_rules_2.2.1 (Keqr ?_)
      refine lv_icmp_gt (tgt := 42) hx hb gX12_rules_2.2.2.1 (by decide) (fun c_35_7721 => ?_) (fun c_35_7721 => ?_)
      · refine lv_iload_n hx hb gX12_rules_2.2.2.2.2.2.1 rfl (lv_at1 hl) ?_
        refine lv_istore_n (lv' := [(1, .int lv), (2, .int (nI kP)), (0, .ref h0)]) hx hb gX12_rules_2.2.2.2.2.2.2.1 rfl hl (by decide) rfl (fun ls hl => ?_)
        refine lv_iinc (v := nI (kP + 1)) (lv' := [(2, .int (nI (kP + 1))), (1, .int lv), (0, .ref h0)]) hx hb gX12_rules_2.2.2.2.2.2.2.2.1 hl (k := 1) rfl (nI_1 _) (by decide) rfl (fun ls hl => ?_)
        refine lv_goto (tgt := 4) hx hb gX12_rules_2.2.2.2.2.2.2.2.2.1 (by decide) ?_
        have hst9 : lv = LAT (RLO DY (DAYV (fnw 0) (fnw 1)) (kP + 1)) := hlv.trans (congrArg LAT (LTS.n (fun h9 => Int32.not_le.mpr c_35_7721 h9)).symm)
        exact ihP (kP + 1) lv _ (by omega) (by first | assumption | exact Or.inl rfl | exact Or.inr rfl | exact rfl) (lv_sub hl [0, 1, 2] rfl)
      · refine lv_iload_n hx hb gX12_rules_2.2.2.2.1 rfl (lv_at0 hl) ?_
        refine lv_goto (tgt := 43) hx hb gX12_rules_2.2.2.2.2.1 (by decide) ?_
        refine lv_istore_n (lv' := [(1, .int (nI kP)), (2, .int (nI kP)), (0, .ref h0)]) hx hb gX12_rules_2.2.2.2.2.2.2.1 rfl hl (by decide) rfl (fun ls hl => ?_)
        refine lv_iinc (v := nI (kP + 1)) (lv' := [(2, .int (nI (kP + 1))), (1, .int (nI kP)), (0, .ref h0)]) hx hb gX12_rules_2.2.2.2.2.2.2.2.1 hl (k := 1) rfl (nI_1 _) (by decide) rfl (fun ls hl => ?_)
        refine lv_goto (tgt := 4) hx hb gX12_rules_2.2.2.2.2.2.2.2.2.1 (by decide) ?_
        have hst9 : nI kP = LAT (RLO DY (DAYV (fnw 0) (fnw 1)) (kP + 1)) := (congrArg LAT (LTS.y (Int32.not_lt.mp c_35_7721))).symm
        exact ihP (kP + 1) (nI kP) _ (by omega) (by first | assumption | exact Or.inl rfl | exact Or.inr rfl | exact rfl) (lv_sub hl [0, 1, 2] rfl)
  exact keyP k7 0 (-1) _ (by omega) (by first | assumption | exact Or.inl rfl | exact Or.inr rfl | exact rfl) (lv_sub hl [0, 1, 2] rfl)
def K_m_holdsX (l : Launch) (G : GG) (kq : Nat) (T9 : List Int32) (h0 : Nat) (jv : Nat) (jl : Nat) (je : Nat) (nw : Nat) (nk : Nat) (mhasKept : Int32) (nt : Nat) (mtaped : Int32) (nr : Nat) (mrowMany : Int32) (mroundOf : Int32) (mroundFrom : Int32) (nm : Nat) (mfromHour : Int32) (mtoHour : Int32) (ns : Nat) (mfrom : Int32) (mto : Int32) (msort : Int32) (misFault : Int32) (mdeep : Int32) (mcoded : Int32) (mlines : Int32) (nl : Nat) (nc : Nat) (nF : Nat) (np : Nat) (ntr : Nat) (nb : Nat) (mbestCost : Int32) (nso : Nat) (nsi : Nat) (nit : Nat) (nsh : Nat) (nsf : Nat) (nss : Nat) (nrc : Nat) (mtraced : Int32) (mdealer : Int32) (mnumber : Int32) (mwhose : Int32) (msize : Int32) (misParted : Int32) (fnw : Nat → Int32) (fnp : Nat → Int32) : Prop := MI l G yX12_holds cX12_holds 12 (some .boolean) 6 0 0 [.ref h0, .int (nI jv), .int (nI jl), .int (nI je)] [(h0, oX12 nw nk mhasKept nt mtaped nr mrowMany mroundOf mroundFrom 0 nm mfromHour mtoHour ns mfrom mto msort misFault mdeep mcoded mlines nl nc nF np ntr nb mbestCost nso nsi nit nsh nsf nss nrc mtraced mdealer mnumber mwhose msize misParted), (nw, iA G 1662 fnw), (np, iA G 100 fnp)] (fun (r : Int32) (u : (Nat → Int32)) => ((r = 1 ∧ PLN (FAX (shf fnw 12) (shf fnw 32) (VSE fnw kq) kq je) T9 1 % 2 = 1) ∨ (r = 0 ∧ ¬ PLN (FAX (shf fnw 12) (shf fnw 32) (VSE fnw kq) kq je) T9 1 % 2 = 1))) (fun u : (Nat → Int32) => [(h0, oX12 nw nk mhasKept nt mtaped nr mrowMany mroundOf mroundFrom 0 nm mfromHour mtoHour ns mfrom mto msort misFault mdeep mcoded mlines nl nc nF np ntr nb mbestCost nso nsi nit nsh nsf nss nrc mtraced mdealer mnumber mwhose msize misParted), (nw, iA G 1662 fnw), (np, iA G 100 u)])
set_option maxHeartbeats 4000000 in
set_option maxRecDepth 100000 in
theorem m_holdsX (l : Launch) (G : GG) (kq : Nat) (LX9 : LNT) (T9 : List Int32) (h0 : Nat) (jv : Nat) (jl : Nat) (je : Nat) (nw : Nat) (nk : Nat) (mhasKept : Int32) (nt : Nat) (mtaped : Int32) (nr : Nat) (mrowMany : Int32) (mroundOf : Int32) (mroundFrom : Int32) (nm : Nat) (mfromHour : Int32) (mtoHour : Int32) (ns : Nat) (mfrom : Int32) (mto : Int32) (msort : Int32) (misFault : Int32) (mdeep : Int32) (mcoded : Int32) (mlines : Int32) (nl : Nat) (nc : Nat) (nF : Nat) (np : Nat) (ntr : Nat) (nb : Nat) (mbestCost : Int32) (nso : Nat) (nsi : Nat) (nit : Nat) (nsh : Nat) (nsf : Nat) (nss : Nat) (nrc : Nat) (mtraced : Int32) (mdealer : Int32) (mnumber : Int32) (mwhose : Int32) (msize : Int32) (misParted : Int32) (fnw : Nat → Int32) (fnp : Nat → Int32) (hjv : jv < 8) (hjl : jl < 9) (hln : LN fnw jv jl) (hLZ : LZM fnw jv jl LX9 T9) (hje : je < 10) (hN : NI fnw) (ekq : fnw 5 = nI kq) (hkq : kq ≤ 12) : K_m_holdsX l G kq T9 h0 jv jl je nw nk mhasKept nt mtaped nr mrowMany mroundOf mroundFrom nm mfromHour mtoHour ns mfrom mto msort misFault mdeep mcoded mlines nl nc nF np ntr nb mbestCost nso nsi nit nsh nsf nss nrc mtraced mdealer mnumber mwhose msize misParted fnw fnp := by
  refine MI.start (by decide +kernel) (Nat.le_of_ble_eq_true rfl) ?_
  intro p e s m below meth c A ls hC hK hP hD hS hA hl
  refine absQ (fun Q0 hQ0 => ?_)
  have hl : lv_has ls 12 [(0, .ref h0), (1, .int (nI jv)), (2, .int (nI jl)), (3, .int (nI je))] := hl
  refine Kan8 hC (fun hx hb hr hml hB hown hlocks hnm => ?_)
  have hln0 := hln
  obtain ⟨⟨so, hso, e0, hAl, hBl⟩, la9, lb9, e4, e5, hab9, hlb9, ht9, h09, hst9⟩ := hln
  obtain ⟨hlb, -, -, -, -, r0, r1, f4, f5, hr1, hor⟩ := hLZ
  have hr0 : r0 ≤ r1 := hor.elim (fun h9 => by omega) (fun ⟨tr, _, h9, _⟩ => by omega)
  obtain rfl : r0 = la9 := (nI_eq (by omega) (by omega)).mp (f4.symm.trans e4)
  obtain rfl : r1 = lb9 := (nI_eq (by omega) (by omega)).mp (f5.symm.trans e5)
  rcases hor with ⟨rfl, rfl⟩ | ⟨tr9, hsm9, hlt9, hcd9⟩
  · refine lv_aload_n hx hb gX12_holds_0.1 rfl (lv_at0 hl) ?_
    refine lv_iload_n hx hb gX12_holds_0.2.1 rfl (lv_at1 hl) ?_
    refine lv_iload_n hx hb gX12_holds_0.2.2.1 rfl (lv_at2 hl) ?_
    refine lv_iconst (v := 4) hx hb gX12_holds_0.2.2.2.1 (by decide) ?_
    refine pV hC hK hl hP hD (m_lineOf l G h0 jv jl 4 nw nk mhasKept nt mtaped nr mrowMany mroundOf mroundFrom 0 nm mfromHour mtoHour ns mfrom mto msort misFault mdeep mcoded mlines nl nc nF np ntr nb mbestCost nso nsi nit nsh nsf nss nrc mtraced mdealer mnumber mwhose msize misParted fnw (hjv) (hjl) (by omega)) si_X12_193 [0, 1] sm_0_1 fm_0_1 nd_0_1 rfl rfl rfl rfl rfl (Nat.le_of_ble_eq_true rfl) rm_6_1_4 ⟨by first | exact Nat.le_of_ble_eq_true rfl | exact Nat.zero_le _, by first | exact Nat.le_of_ble_eq_true rfl | exact Nat.zero_le _⟩ gX12_holds_0.2.2.2.2.1 (Keqr ?_)
    refine eqi (x1 := nI r0) (e4) ?_
    refine lv_istore (lv' := [(4, .int (nI r0)), (0, .ref h0), (1, .int (nI jv)), (2, .int (nI jl)), (3, .int (nI je))]) hx hb gX12_holds_0.2.2.2.2.2.1 hl (by decide) rfl (fun ls hl => ?_)
    refine lv_aload_n hx hb gX12_holds_0.2.2.2.2.2.2.1 rfl (lv_at1 hl) ?_
    refine lv_iload_n hx hb gX12_holds_0.2.2.2.2.2.2.2.1 rfl (lv_at2 hl) ?_
    refine lv_iload_n hx hb gX12_holds_0.2.2.2.2.2.2.2.2.1 rfl (lv_at3 hl) ?_
    refine lv_iconst (v := 5) hx hb gX12_holds_0.2.2.2.2.2.2.2.2.2 (by decide) ?_
    refine pV hC hK hl hP hD (m_lineOf l G h0 jv jl 5 nw nk mhasKept nt mtaped nr mrowMany mroundOf mroundFrom 0 nm mfromHour mtoHour ns mfrom mto msort misFault mdeep mcoded mlines nl nc nF np ntr nb mbestCost nso nsi nit nsh nsf nss nrc mtraced mdealer mnumber mwhose msize misParted fnw (hjv) (hjl) (by omega)) si_X12_193 [0, 1] sm_0_1 fm_0_1 nd_0_1 rfl rfl rfl rfl rfl (Nat.le_of_ble_eq_true rfl) rm_6_1_4 ⟨by first | exact Nat.le_of_ble_eq_true rfl | exact Nat.zero_le _, by first | exact Nat.le_of_ble_eq_true rfl | exact Nat.zero_le _⟩ gX12_holds_1.1 (Keqr ?_)
    refine eqi (x1 := nI r0) (e5) ?_
    refine lv_istore (lv' := [(5, .int (nI r0)), (4, .int (nI r0)), (0, .ref h0), (1, .int (nI jv)), (2, .int (nI jl)), (3, .int (nI je))]) hx hb gX12_holds_1.2.1 hl (by decide) rfl (fun ls hl => ?_)
    refine lv_iconst (v := 0) hx hb gX12_holds_1.2.2.1 (by decide) ?_
    refine lv_istore (lv' := [(6, .int 0), (5, .int (nI r0)), (4, .int (nI r0)), (0, .ref h0), (1, .int (nI jv)), (2, .int (nI jl)), (3, .int (nI je))]) hx hb gX12_holds_1.2.2.2.1 hl (by decide) rfl (fun ls hl => ?_)
    refine lv_iload hx hb gX12_holds_1.2.2.2.2.1 (lv_at2 hl) ?_
    refine lv_istore (lv' := [(7, .int (nI r0)), (6, .int 0), (5, .int (nI r0)), (4, .int (nI r0)), (0, .ref h0), (1, .int (nI jv)), (2, .int (nI jl)), (3, .int (nI je))]) hx hb gX12_holds_1.2.2.2.2.2.1 hl (by decide) rfl (fun ls hl => ?_)
    refine lv_iload hx hb gX12_holds_1.2.2.2.2.2.2.1 (lv_at0 hl) ?_
    refine lv_iload hx hb gX12_holds_1.2.2.2.2.2.2.2.1 (lv_at2 hl) ?_
    refine lv_icmp_ge (tgt := 243) hx hb gX12_holds_1.2.2.2.2.2.2.2.2.1 (by decide) (fun _ => ?_) (fun c9 => absurd (Int32.le_refl _) c9)
    refine lv_iload hx hb gX12_holds_13.1 (lv_at3 hl) ?_
    refine lv_iload hx hb gX12_holds_13.2.1 (lv_at2 hl) ?_
    refine lv_icmp_eq (tgt := 260) hx hb gX12_holds_13.2.2.1 (by decide) (fun _ => ?_) (fun c9 => absurd (rfl) c9)
    refine lv_iconst (v := 1) hx hb gX12_holds_13.2.2.2.2.2.2.2.2.2 (by decide) ?_
    refine lv_goto (tgt := 265) hx hb gX12_holds_14.1 (by decide) ?_
    refine toQ hQ0 ?_
    exact RI (v := 1) hC hP hD hS [0, 1, 2] fnp rfl rfl (by decide) (Or.inl ⟨rfl, rfl⟩) (by decide +kernel) gX12_holds_14.2.2
  · refine lv_aload_n hx hb gX12_holds_0.1 rfl (lv_at0 hl) ?_
    refine lv_iload_n hx hb gX12_holds_0.2.1 rfl (lv_at1 hl) ?_
    refine lv_iload_n hx hb gX12_holds_0.2.2.1 rfl (lv_at2 hl) ?_
    refine lv_iconst (v := 4) hx hb gX12_holds_0.2.2.2.1 (by decide) ?_
    refine pV hC hK hl hP hD (m_lineOf l G h0 jv jl 4 nw nk mhasKept nt mtaped nr mrowMany mroundOf mroundFrom 0 nm mfromHour mtoHour ns mfrom mto msort misFault mdeep mcoded mlines nl nc nF np ntr nb mbestCost nso nsi nit nsh nsf nss nrc mtraced mdealer mnumber mwhose msize misParted fnw (hjv) (hjl) (by omega)) si_X12_193 [0, 1] sm_0_1 fm_0_1 nd_0_1 rfl rfl rfl rfl rfl (Nat.le_of_ble_eq_true rfl) rm_6_1_4 ⟨by first | exact Nat.le_of_ble_eq_true rfl | exact Nat.zero_le _, by first | exact Nat.le_of_ble_eq_true rfl | exact Nat.zero_le _⟩ gX12_holds_0.2.2.2.2.1 (Keqr ?_)
    refine eqi (x1 := nI r0) (e4) ?_
    refine lv_istore (lv' := [(4, .int (nI r0)), (0, .ref h0), (1, .int (nI jv)), (2, .int (nI jl)), (3, .int (nI je))]) hx hb gX12_holds_0.2.2.2.2.2.1 hl (by decide) rfl (fun ls hl => ?_)
    refine lv_aload_n hx hb gX12_holds_0.2.2.2.2.2.2.1 rfl (lv_at1 hl) ?_
    refine lv_iload_n hx hb gX12_holds_0.2.2.2.2.2.2.2.1 rfl (lv_at2 hl) ?_
    refine lv_iload_n hx hb gX12_holds_0.2.2.2.2.2.2.2.2.1 rfl (lv_at3 hl) ?_
    refine lv_iconst (v := 5) hx hb gX12_holds_0.2.2.2.2.2.2.2.2.2 (by decide) ?_
    refine pV hC hK hl hP hD (m_lineOf l G h0 jv jl 5 nw nk mhasKept nt mtaped nr mrowMany mroundOf mroundFrom 0 nm mfromHour mtoHour ns mfrom mto msort misFault mdeep mcoded mlines nl nc nF np ntr nb mbestCost nso nsi nit nsh nsf nss nrc mtraced mdealer mnumber mwhose msize misParted fnw (hjv) (hjl) (by omega)) si_X12_193 [0, 1] sm_0_1 fm_0_1 nd_0_1 rfl rfl rfl rfl rfl (Nat.le_of_ble_eq_true rfl) rm_6_1_4 ⟨by first | exact Nat.le_of_ble_eq_true rfl | exact Nat.zero_le _, by first | exact Nat.le_of_ble_eq_true rfl | exact Nat.zero_le _⟩ gX12_holds_1.1 (Keqr ?_)
    refine eqi (x1 := nI r1) (e5) ?_
    refine lv_istore (lv' := [(5, .int (nI r1)), (4, .int (nI r0)), (0, .ref h0), (1, .int (nI jv)), (2, .int (nI jl)), (3, .int (nI je))]) hx hb gX12_holds_1.2.1 hl (by decide) rfl (fun ls hl => ?_)
    refine lv_iconst (v := 0) hx hb gX12_holds_1.2.2.1 (by decide) ?_
    refine lv_istore (lv' := [(6, .int 0), (5, .int (nI r1)), (4, .int (nI r0)), (0, .ref h0), (1, .int (nI jv)), (2, .int (nI jl)), (3, .int (nI je))]) hx hb gX12_holds_1.2.2.2.1 hl (by decide) rfl (fun ls hl => ?_)
    refine lv_iload hx hb gX12_holds_1.2.2.2.2.1 (lv_at2 hl) ?_
    refine lv_istore (lv' := [(7, .int (nI r0)), (6, .int 0), (5, .int (nI r1)), (4, .int (nI r0)), (0, .ref h0), (1, .int (nI jv)), (2, .int (nI jl)), (3, .int (nI je))]) hx hb gX12_holds_1.2.2.2.2.2.1 hl (by decide) rfl (fun ls hl => ?_)
    have keyP : ∀ (nP kP : Nat) (vP : Nat → Int32) (hg : Nat) (H : Heap) (locs : List Loc) (ls : Array Slot), kP + nP = r1 → (r0 ≤ kP) → (hg = ht9 kP) → (hg + r0 ≤ kP) → ((hg, vP) = PRK (FAX (shf fnw 12) (shf fnw 32) (VSE fnw kq) kq je) tr9 fnp (kP - r0)) → va_PD G A [(h0, oX12 nw nk mhasKept nt mtaped nr mrowMany mroundOf mroundFrom 0 nm mfromHour mtoHour ns mfrom mto msort misFault mdeep mcoded mlines nl nc nF np ntr nb mbestCost nso nsi nit nsh nsf nss nrc mtraced mdealer mnumber mwhose msize misParted), (nw, iA G 1662 fnw), (np, iA G 100 vP)] H → va_S A s.heap H locs → lv_has ls 12 [(7, .int (nI kP)), (6, .int (nI hg)), (5, .int (nI r1)), (4, .int (nI r0)), (0, .ref h0), (1, .int (nI jv)), (2, .int (nI jl)), (3, .int (nI je))] → W p l e (RM 6 0 0) s m ([.ref h0, .int (nI jv), .int (nI jl), .int (nI je)] : List Value).toArray below meth c H locs 0 0 Q0 (F0 m 25 ls []) := by
      intro nP
      induction nP with
      | zero =>
        intro kP vP hg H locs ls hkP hha hhb hhc hpr hPD hS hl
        refine Kan2 hPD (fun hP hD => ?_)
        obtain rfl : r1 = kP := by omega
        have hl : lv_has ls 12 [(7, .int (nI r1)), (6, .int (nI hg)), (5, .int (nI r1)), (4, .int (nI r0)), (0, .ref h0), (1, .int (nI jv)), (2, .int (nI jl)), (3, .int (nI je))] := hl
        refine lv_iload hx hb gX12_holds_1.2.2.2.2.2.2.1 (lv_at0 hl) ?_
        refine lv_iload hx hb gX12_holds_1.2.2.2.2.2.2.2.1 (lv_at2 hl) ?_
        refine lv_icmp_ge (tgt := 243) hx hb gX12_holds_1.2.2.2.2.2.2.2.2.1 (by decide) (fun _ => ?_) (fun c9 => absurd (Int32.le_refl _) c9)
        have hln9 := hsm9.len
        refine lv_iload hx hb gX12_holds_13.1 (lv_at3 hl) ?_
        refine lv_iload hx hb gX12_holds_13.2.1 (lv_at2 hl) ?_
        refine lv_icmp_eq (tgt := 260) hx hb gX12_holds_13.2.2.1 (by decide) (fun c9 => absurd c9 (fun h9 => absurd ((nI_eq (by omega) (by omega)).mp h9) (by omega))) (fun _ => ?_)
        refine lv_aload_n hx hb gX12_holds_13.2.2.2.1 rfl (lv_at4 hl) ?_
        refine gf_X12_54 hC rfl hK hP 0 rfl rfl gX12_holds_13.2.2.2.2.1 ?_
        refine lv_iconst (v := 0) hx hb gX12_holds_13.2.2.2.2.2.1 (by decide) ?_
        refine ald hC hK hP 2 rfl (vin (by decide +kernel)) (k := 0) (by decide +kernel) (v := vP 0) (rfl) gX12_holds_13.2.2.2.2.2.2.1 ?_
        refine lv_iconst (v := 1) hx hb gX12_holds_13.2.2.2.2.2.2.2.1 (by decide) ?_
        refine lv_icmp_ne (tgt := 264) hx hb gX12_holds_13.2.2.2.2.2.2.2.2.1 (by decide) (fun c_257_7730 => ?_) (fun c_257_7730 => ?_)
        · refine lv_iconst (v := 0) hx hb gX12_holds_14.2.1 (by decide) ?_
          refine toQ hQ0 ?_
          exact RI (v := 0) hC hP hD hS [0, 1, 2] vP rfl rfl (by decide) (Or.inr ⟨rfl, fun h9 => c_257_7730 ((hsm9.tru (hpr.trans (PRK.all (by omega)))).mpr h9)⟩) (by decide +kernel) gX12_holds_14.2.2
        · refine lv_iconst (v := 1) hx hb gX12_holds_13.2.2.2.2.2.2.2.2.2 (by decide) ?_
          refine lv_goto (tgt := 265) hx hb gX12_holds_14.1 (by decide) ?_
          refine toQ hQ0 ?_
          exact RI (v := 1) hC hP hD hS [0, 1, 2] vP rfl rfl (by decide) (Or.inl ⟨rfl, (hsm9.tru (hpr.trans (PRK.all (by omega)))).mp c_257_7730⟩) (by decide +kernel) gX12_holds_14.2.2
      | succ nP ihP =>
        intro kP vP hg H locs ls hkP hha hhb hhc hpr hPD hS hl
        refine Kan2 hPD (fun hP hD => ?_)
        refine lv_iload hx hb gX12_holds_1.2.2.2.2.2.2.1 (lv_at0 hl) ?_
        refine lv_iload hx hb gX12_holds_1.2.2.2.2.2.2.2.1 (lv_at2 hl) ?_
        refine lv_icmp_ge (tgt := 243) hx hb gX12_holds_1.2.2.2.2.2.2.2.2.1 (by decide) (fun c9 => absurd c9 (nI_ge (a := kP) (b := r1) (by omega) (by omega))) (fun _ => ?_)
        refine lv_aload_n hx hb gX12_holds_1.2.2.2.2.2.2.2.2.2 rfl (lv_at4 hl) ?_
        refine gf_X12_9 hC rfl hK hP 0 rfl rfl gX12_holds_2.1 ?_
        refine lv_sipush (v := 176) hx hb gX12_holds_2.2.1 (by decide) ?_
        refine lv_sipush (v := 156) hx hb gX12_holds_2.2.2.1 (by decide) ?_
        refine lv_iload_n hx hb gX12_holds_2.2.2.2.1 rfl (lv_at5 hl) ?_
        refine lv_imul hx hb gX12_holds_2.2.2.2.2.1 ?_
        refine eqi (x1 := nI (156 * jv)) (nI_mul 156 jv) ?_
        refine lv_iadd hx hb gX12_holds_2.2.2.2.2.2.1 ?_
        refine eqi (x1 := nI (176 + 156 * jv)) (nI_add 176 (156 * jv)) ?_
        refine lv_bipush (v := 56) hx hb gX12_holds_2.2.2.2.2.2.2.1 (by decide) ?_
        refine lv_iadd hx hb gX12_holds_2.2.2.2.2.2.2.2.1 ?_
        refine eqi (x1 := nI (176 + 156 * jv + 56)) (nI_add (176 + 156 * jv) 56) ?_
        refine lv_iload hx hb gX12_holds_2.2.2.2.2.2.2.2.2.1 (lv_at0 hl) ?_
        refine lv_iadd hx hb gX12_holds_2.2.2.2.2.2.2.2.2.2 ?_
        refine eqi (x1 := nI (176 + 156 * jv + 56 + kP)) (nI_add (176 + 156 * jv + 56) kP) ?_
        refine aldN hC hK hP 1 rfl (k := (176 + 156 * jv + 56 + kP)) (by omega) (Nat.le_of_ble_eq_true rfl) (v := fnw (176 + 156 * jv + 56 + kP)) rfl gX12_holds_3.1 ?_
        have hcd := hcd9 (kP - r0) (by omega)
        rw [show r0 + (kP - r0) = kP by omega] at hcd
        rcases hsm9.2.1 (tr9.getD (kP - r0) 0) (getD_mem (by omega)) with ev9 | ev9 | ev9 | ⟨jv9, hjv9, ev9⟩
        · have hs9 := STEP.no (hst9 kP (by omega) (by omega)) (hcd.trans ev9).symm (by decide) rfl
          refine eqi (x1 := 30000) (hcd.trans ev9) ?_
          refine lv_istore (lv' := [(8, .int 30000), (7, .int (nI kP)), (6, .int (nI hg)), (5, .int (nI r1)), (4, .int (nI r0)), (0, .ref h0), (1, .int (nI jv)), (2, .int (nI jl)), (3, .int (nI je))]) hx hb gX12_holds_3.2.1 hl (by decide) rfl (fun ls hl => ?_)
          refine lv_iload hx hb gX12_holds_3.2.2.1 (lv_at0 hl) ?_
          refine lv_sipush (v := 30000) hx hb gX12_holds_3.2.2.2.1 (by decide) ?_
          refine lv_icmp_ge (tgt := 149) hx hb gX12_holds_3.2.2.2.2.1 (by decide) (fun _ => ?_) (fun c9 => absurd (by decide) c9)
          refine lv_iload hx hb gX12_holds_7.2.2.2.2.2.2.2.1 (lv_at0 hl) ?_
          refine lv_sipush (v := 30000) hx hb gX12_holds_7.2.2.2.2.2.2.2.2.1 (by decide) ?_
          refine lv_icmp_ne (tgt := 180) hx hb gX12_holds_7.2.2.2.2.2.2.2.2.2 (by decide) (fun c9 => absurd (by decide) c9) (fun _ => ?_)
          refine lv_aload_n hx hb gX12_holds_8.1 rfl (lv_at5 hl) ?_
          refine gf_X12_54 hC rfl hK hP 0 rfl rfl gX12_holds_8.2.1 ?_
          refine lv_iload hx hb gX12_holds_8.2.2.1 (lv_at2 hl) ?_
          refine lv_iconst (v := 1) hx hb gX12_holds_8.2.2.2.1 (by decide) ?_
          refine lv_isub hx hb gX12_holds_8.2.2.2.2.1 ?_
          refine eqi (x1 := nI (hg - 1)) (nI_sb (by omega)) ?_
          refine lv_iconst (v := 1) hx hb gX12_holds_8.2.2.2.2.2.1 (by decide) ?_
          refine lv_aload_n hx hb gX12_holds_8.2.2.2.2.2.2.1 rfl (lv_at5 hl) ?_
          refine gf_X12_54 hC rfl hK hP 0 rfl rfl gX12_holds_8.2.2.2.2.2.2.2.1 ?_
          refine lv_iload hx hb gX12_holds_8.2.2.2.2.2.2.2.2.1 (lv_at2 hl) ?_
          refine lv_iconst (v := 1) hx hb gX12_holds_8.2.2.2.2.2.2.2.2.2 (by decide) ?_
          refine lv_isub hx hb gX12_holds_9.1 ?_
          refine eqi (x1 := nI (hg - 1)) (nI_sb (by omega)) ?_
          refine aldN hC hK hP 2 rfl (k := (hg - 1)) (by omega) (Nat.le_of_ble_eq_true rfl) (v := vP (hg - 1)) rfl gX12_holds_9.2.1 ?_
          refine lv_isub hx hb gX12_holds_9.2.2.1 ?_
          refine astN hC hK hP hD hS 2 (ws' := [(h0, oX12 nw nk mhasKept nt mtaped nr mrowMany mroundOf mroundFrom 0 nm mfromHour mtoHour ns mfrom mto msort misFault mdeep mcoded mlines nl nc nF np ntr nb mbestCost nso nsi nit nsh nsf nss nrc mtraced mdealer mnumber mwhose msize misParted), (nw, iA G 1662 fnw), (np, iA G 100 (upd vP (hg - 1) (1 - (vP (hg - 1)))))]) rfl (k := (hg - 1)) (by omega) (Nat.le_of_ble_eq_true rfl) (rfl) gX12_holds_9.2.2.2.1 (fun H locs hP hD hS => ?_)
          refine lv_goto (tgt := 237) hx hb gX12_holds_9.2.2.2.2.1 (by decide) ?_
          refine lv_iinc (v := nI (kP + 1)) (lv' := [(7, .int (nI (kP + 1))), (8, .int 30000), (6, .int (nI hg)), (5, .int (nI r1)), (4, .int (nI r0)), (0, .ref h0), (1, .int (nI jv)), (2, .int (nI jl)), (3, .int (nI je))]) hx hb gX12_holds_12.2.2.2.2.2.2.2.2.1 hl (k := 1) rfl (nI_1 _) (by decide) rfl (fun ls hl => ?_)
          refine lv_goto (tgt := 25) hx hb gX12_holds_12.2.2.2.2.2.2.2.2.2 (by decide) ?_
          have hst8 : (hg, upd vP (hg - 1) (1 - (vP (hg - 1)))) = PRK (FAX (shf fnw 12) (shf fnw 32) (VSE fnw kq) kq je) tr9 fnp (kP + 1 - r0) := PRK.nt hpr (by omega) (by omega) ev9
          exact ihP (kP + 1) (upd vP (hg - 1) (1 - (vP (hg - 1)))) hg _ _ _ (by omega) (by first | assumption | exact Or.inl rfl | exact Or.inr rfl | omega | exact h09.symm | exact PRK.zero (by omega)) (by first | assumption | exact Or.inl rfl | exact Or.inr rfl | omega | exact h09.symm | exact PRK.zero (by omega)) (by first | assumption | exact Or.inl rfl | exact Or.inr rfl | omega | exact h09.symm | exact PRK.zero (by omega)) (by first | assumption | exact Or.inl rfl | exact Or.inr rfl | omega | exact h09.symm | exact PRK.zero (by omega)) (And.intro hP hD) hS (lv_sub hl [0, 2, 3, 4, 5, 6, 7, 8] rfl)
        · have hs9 := STEP.op (hst9 kP (by omega) (by omega)) (hcd.trans ev9).symm (by decide) (by decide)
          refine eqi (x1 := 30001) (hcd.trans ev9) ?_
          refine lv_istore (lv' := [(8, .int 30001), (7, .int (nI kP)), (6, .int (nI hg)), (5, .int (nI r1)), (4, .int (nI r0)), (0, .ref h0), (1, .int (nI jv)), (2, .int (nI jl)), (3, .int (nI je))]) hx hb gX12_holds_3.2.1 hl (by decide) rfl (fun ls hl => ?_)
          refine lv_iload hx hb gX12_holds_3.2.2.1 (lv_at0 hl) ?_
          refine lv_sipush (v := 30000) hx hb gX12_holds_3.2.2.2.1 (by decide) ?_
          refine lv_icmp_ge (tgt := 149) hx hb gX12_holds_3.2.2.2.2.1 (by decide) (fun _ => ?_) (fun c9 => absurd (by decide) c9)
          refine lv_iload hx hb gX12_holds_7.2.2.2.2.2.2.2.1 (lv_at0 hl) ?_
          refine lv_sipush (v := 30000) hx hb gX12_holds_7.2.2.2.2.2.2.2.2.1 (by decide) ?_
          refine lv_icmp_ne (tgt := 180) hx hb gX12_holds_7.2.2.2.2.2.2.2.2.2 (by decide) (fun _ => ?_) (fun c9 => absurd c9 (by decide))
          refine lv_iinc (v := nI (hg - 1)) (lv' := [(6, .int (nI (hg - 1))), (8, .int 30001), (7, .int (nI kP)), (5, .int (nI r1)), (4, .int (nI r0)), (0, .ref h0), (1, .int (nI jv)), (2, .int (nI jl)), (3, .int (nI je))]) hx hb gX12_holds_9.2.2.2.2.2.1 hl (k := 2) rfl ((nI_dec hg).trans (nI_sb (by omega))) (by decide) rfl (fun ls hl => ?_)
          refine lv_aload_n hx hb gX12_holds_9.2.2.2.2.2.2.1 rfl (lv_at5 hl) ?_
          refine gf_X12_54 hC rfl hK hP 0 rfl rfl gX12_holds_9.2.2.2.2.2.2.2.1 ?_
          refine lv_iload hx hb gX12_holds_9.2.2.2.2.2.2.2.2.1 (lv_at0 hl) ?_
          refine lv_iconst (v := 1) hx hb gX12_holds_9.2.2.2.2.2.2.2.2.2 (by decide) ?_
          refine lv_isub hx hb gX12_holds_10.1 ?_
          refine eqi (x1 := nI ((hg - 1) - 1)) (nI_sb (by omega)) ?_
          refine lv_iload hx hb gX12_holds_10.2.1 (lv_at1 hl) ?_
          refine lv_sipush (v := 30001) hx hb gX12_holds_10.2.2.1 (by decide) ?_
          refine lv_icmp_ne (tgt := 219) hx hb gX12_holds_10.2.2.2.1 (by decide) (fun c9 => absurd (by decide) c9) (fun _ => ?_)
          refine lv_aload_n hx hb gX12_holds_10.2.2.2.2.1 rfl (lv_at5 hl) ?_
          refine gf_X12_54 hC rfl hK hP 0 rfl rfl gX12_holds_10.2.2.2.2.2.1 ?_
          refine lv_iload hx hb gX12_holds_10.2.2.2.2.2.2.1 (lv_at0 hl) ?_
          refine lv_iconst (v := 1) hx hb gX12_holds_10.2.2.2.2.2.2.2.1 (by decide) ?_
          refine lv_isub hx hb gX12_holds_10.2.2.2.2.2.2.2.2.1 ?_
          refine eqi (x1 := nI ((hg - 1) - 1)) (nI_sb (by omega)) ?_
          refine aldN hC hK hP 2 rfl (k := ((hg - 1) - 1)) (by omega) (Nat.le_of_ble_eq_true rfl) (v := vP ((hg - 1) - 1)) rfl gX12_holds_10.2.2.2.2.2.2.2.2.2 ?_
          refine lv_aload_n hx hb gX12_holds_11.1 rfl (lv_at5 hl) ?_
          refine gf_X12_54 hC rfl hK hP 0 rfl rfl gX12_holds_11.2.1 ?_
          refine lv_iload hx hb gX12_holds_11.2.2.1 (lv_at0 hl) ?_
          refine aldN hC hK hP 2 rfl (k := (hg - 1)) (by omega) (Nat.le_of_ble_eq_true rfl) (v := vP (hg - 1)) rfl gX12_holds_11.2.2.2.1 ?_
          refine lv_iand hx hb gX12_holds_11.2.2.2.2.1 ?_
          refine lv_goto (tgt := 236) hx hb gX12_holds_11.2.2.2.2.2.1 (by decide) ?_
          refine astN hC hK hP hD hS 2 (ws' := [(h0, oX12 nw nk mhasKept nt mtaped nr mrowMany mroundOf mroundFrom 0 nm mfromHour mtoHour ns mfrom mto msort misFault mdeep mcoded mlines nl nc nF np ntr nb mbestCost nso nsi nit nsh nsf nss nrc mtraced mdealer mnumber mwhose msize misParted), (nw, iA G 1662 fnw), (np, iA G 100 (upd vP ((hg - 1) - 1) ((vP ((hg - 1) - 1)) &&& (vP (hg - 1)))))]) rfl (k := ((hg - 1) - 1)) (by omega) (Nat.le_of_ble_eq_true rfl) (rfl) gX12_holds_12.2.2.2.2.2.2.2.1 (fun H locs hP hD hS => ?_)
          refine lv_iinc (v := nI (kP + 1)) (lv' := [(7, .int (nI (kP + 1))), (6, .int (nI (hg - 1))), (8, .int 30001), (5, .int (nI r1)), (4, .int (nI r0)), (0, .ref h0), (1, .int (nI jv)), (2, .int (nI jl)), (3, .int (nI je))]) hx hb gX12_holds_12.2.2.2.2.2.2.2.2.1 hl (k := 2) rfl (nI_1 _) (by decide) rfl (fun ls hl => ?_)
          refine lv_goto (tgt := 25) hx hb gX12_holds_12.2.2.2.2.2.2.2.2.2 (by decide) ?_
          have hst8 : ((hg - 1), upd vP ((hg - 1) - 1) ((vP ((hg - 1) - 1)) &&& (vP (hg - 1)))) = PRK (FAX (shf fnw 12) (shf fnw 32) (VSE fnw kq) kq je) tr9 fnp (kP + 1 - r0) := PRK.an hpr (by omega) (by omega) ev9
          exact ihP (kP + 1) (upd vP ((hg - 1) - 1) ((vP ((hg - 1) - 1)) &&& (vP (hg - 1)))) (hg - 1) _ _ _ (by omega) (by first | assumption | exact Or.inl rfl | exact Or.inr rfl | omega | exact h09.symm | exact PRK.zero (by omega)) (by first | assumption | exact Or.inl rfl | exact Or.inr rfl | omega | exact h09.symm | exact PRK.zero (by omega)) (by first | assumption | exact Or.inl rfl | exact Or.inr rfl | omega | exact h09.symm | exact PRK.zero (by omega)) (by first | assumption | exact Or.inl rfl | exact Or.inr rfl | omega | exact h09.symm | exact PRK.zero (by omega)) (And.intro hP hD) hS (lv_sub hl [0, 1, 3, 4, 5, 6, 7, 8] rfl)
        · have hs9 := STEP.op (hst9 kP (by omega) (by omega)) (hcd.trans ev9).symm (by decide) (by decide)
          refine eqi (x1 := 30002) (hcd.trans ev9) ?_
          refine lv_istore (lv' := [(8, .int 30002), (7, .int (nI kP)), (6, .int (nI hg)), (5, .int (nI r1)), (4, .int (nI r0)), (0, .ref h0), (1, .int (nI jv)), (2, .int (nI jl)), (3, .int (nI je))]) hx hb gX12_holds_3.2.1 hl (by decide) rfl (fun ls hl => ?_)
          refine lv_iload hx hb gX12_holds_3.2.2.1 (lv_at0 hl) ?_
          refine lv_sipush (v := 30000) hx hb gX12_holds_3.2.2.2.1 (by decide) ?_
          refine lv_icmp_ge (tgt := 149) hx hb gX12_holds_3.2.2.2.2.1 (by decide) (fun _ => ?_) (fun c9 => absurd (by decide) c9)
          refine lv_iload hx hb gX12_holds_7.2.2.2.2.2.2.2.1 (lv_at0 hl) ?_
          refine lv_sipush (v := 30000) hx hb gX12_holds_7.2.2.2.2.2.2.2.2.1 (by decide) ?_
          refine lv_icmp_ne (tgt := 180) hx hb gX12_holds_7.2.2.2.2.2.2.2.2.2 (by decide) (fun _ => ?_) (fun c9 => absurd c9 (by decide))
          refine lv_iinc (v := nI (hg - 1)) (lv' := [(6, .int (nI (hg - 1))), (8, .int 30002), (7, .int (nI kP)), (5, .int (nI r1)), (4, .int (nI r0)), (0, .ref h0), (1, .int (nI jv)), (2, .int (nI jl)), (3, .int (nI je))]) hx hb gX12_holds_9.2.2.2.2.2.1 hl (k := 2) rfl ((nI_dec hg).trans (nI_sb (by omega))) (by decide) rfl (fun ls hl => ?_)
          refine lv_aload_n hx hb gX12_holds_9.2.2.2.2.2.2.1 rfl (lv_at5 hl) ?_
          refine gf_X12_54 hC rfl hK hP 0 rfl rfl gX12_holds_9.2.2.2.2.2.2.2.1 ?_
          refine lv_iload hx hb gX12_holds_9.2.2.2.2.2.2.2.2.1 (lv_at0 hl) ?_
          refine lv_iconst (v := 1) hx hb gX12_holds_9.2.2.2.2.2.2.2.2.2 (by decide) ?_
          refine lv_isub hx hb gX12_holds_10.1 ?_
          refine eqi (x1 := nI ((hg - 1) - 1)) (nI_sb (by omega)) ?_
          refine lv_iload hx hb gX12_holds_10.2.1 (lv_at1 hl) ?_
          refine lv_sipush (v := 30001) hx hb gX12_holds_10.2.2.1 (by decide) ?_
          refine lv_icmp_ne (tgt := 219) hx hb gX12_holds_10.2.2.2.1 (by decide) (fun _ => ?_) (fun c9 => absurd c9 (by decide))
          refine lv_aload_n hx hb gX12_holds_11.2.2.2.2.2.2.1 rfl (lv_at5 hl) ?_
          refine gf_X12_54 hC rfl hK hP 0 rfl rfl gX12_holds_11.2.2.2.2.2.2.2.1 ?_
          refine lv_iload hx hb gX12_holds_11.2.2.2.2.2.2.2.2.1 (lv_at0 hl) ?_
          refine lv_iconst (v := 1) hx hb gX12_holds_11.2.2.2.2.2.2.2.2.2 (by decide) ?_
          refine lv_isub hx hb gX12_holds_12.1 ?_
          refine eqi (x1 := nI ((hg - 1) - 1)) (nI_sb (by omega)) ?_
          refine aldN hC hK hP 2 rfl (k := ((hg - 1) - 1)) (by omega) (Nat.le_of_ble_eq_true rfl) (v := vP ((hg - 1) - 1)) rfl gX12_holds_12.2.1 ?_
          refine lv_aload_n hx hb gX12_holds_12.2.2.1 rfl (lv_at5 hl) ?_
          refine gf_X12_54 hC rfl hK hP 0 rfl rfl gX12_holds_12.2.2.2.1 ?_
          refine lv_iload hx hb gX12_holds_12.2.2.2.2.1 (lv_at0 hl) ?_
          refine aldN hC hK hP 2 rfl (k := (hg - 1)) (by omega) (Nat.le_of_ble_eq_true rfl) (v := vP (hg - 1)) rfl gX12_holds_12.2.2.2.2.2.1 ?_
          refine lv_ior hx hb gX12_holds_12.2.2.2.2.2.2.1 ?_
          refine astN hC hK hP hD hS 2 (ws' := [(h0, oX12 nw nk mhasKept nt mtaped nr mrowMany mroundOf mroundFrom 0 nm mfromHour mtoHour ns mfrom mto msort misFault mdeep mcoded mlines nl nc nF np ntr nb mbestCost nso nsi nit nsh nsf nss nrc mtraced mdealer mnumber mwhose msize misParted), (nw, iA G 1662 fnw), (np, iA G 100 (upd vP ((hg - 1) - 1) ((vP ((hg - 1) - 1)) ||| (vP (hg - 1)))))]) rfl (k := ((hg - 1) - 1)) (by omega) (Nat.le_of_ble_eq_true rfl) (rfl) gX12_holds_12.2.2.2.2.2.2.2.1 (fun H locs hP hD hS => ?_)
          refine lv_iinc (v := nI (kP + 1)) (lv' := [(7, .int (nI (kP + 1))), (6, .int (nI (hg - 1))), (8, .int 30002), (5, .int (nI r1)), (4, .int (nI r0)), (0, .ref h0), (1, .int (nI jv)), (2, .int (nI jl)), (3, .int (nI je))]) hx hb gX12_holds_12.2.2.2.2.2.2.2.2.1 hl (k := 2) rfl (nI_1 _) (by decide) rfl (fun ls hl => ?_)
          refine lv_goto (tgt := 25) hx hb gX12_holds_12.2.2.2.2.2.2.2.2.2 (by decide) ?_
          have hst8 : ((hg - 1), upd vP ((hg - 1) - 1) ((vP ((hg - 1) - 1)) ||| (vP (hg - 1)))) = PRK (FAX (shf fnw 12) (shf fnw 32) (VSE fnw kq) kq je) tr9 fnp (kP + 1 - r0) := PRK.or hpr (by omega) (by omega) ev9
          exact ihP (kP + 1) (upd vP ((hg - 1) - 1) ((vP ((hg - 1) - 1)) ||| (vP (hg - 1)))) (hg - 1) _ _ _ (by omega) (by first | assumption | exact Or.inl rfl | exact Or.inr rfl | omega | exact h09.symm | exact PRK.zero (by omega)) (by first | assumption | exact Or.inl rfl | exact Or.inr rfl | omega | exact h09.symm | exact PRK.zero (by omega)) (by first | assumption | exact Or.inl rfl | exact Or.inr rfl | omega | exact h09.symm | exact PRK.zero (by omega)) (by first | assumption | exact Or.inl rfl | exact Or.inr rfl | omega | exact h09.symm | exact PRK.zero (by omega)) (And.intro hP hD) hS (lv_sub hl [0, 1, 3, 4, 5, 6, 7, 8] rfl)
        · have hs9 := STEP.lt (hst9 kP (by omega) (by omega)) (hcd.trans ev9).symm (nI_ge (a := jv9) (b := 30000) (by omega) (by omega))
          refine eqi (x1 := nI jv9) (hcd.trans ev9) ?_
          refine lv_istore (lv' := [(8, .int (nI jv9)), (7, .int (nI kP)), (6, .int (nI hg)), (5, .int (nI r1)), (4, .int (nI r0)), (0, .ref h0), (1, .int (nI jv)), (2, .int (nI jl)), (3, .int (nI je))]) hx hb gX12_holds_3.2.1 hl (by decide) rfl (fun ls hl => ?_)
          refine lv_iload hx hb gX12_holds_3.2.2.1 (lv_at0 hl) ?_
          refine lv_sipush (v := 30000) hx hb gX12_holds_3.2.2.2.1 (by decide) ?_
          refine lv_icmp_ge (tgt := 149) hx hb gX12_holds_3.2.2.2.2.1 (by decide) (fun c9 => absurd c9 (nI_ge (a := jv9) (b := 30000) (by omega) (by omega))) (fun _ => ?_)
          refine lv_aload_n hx hb gX12_holds_3.2.2.2.2.2.1 rfl (lv_at5 hl) ?_
          refine lv_iload hx hb gX12_holds_3.2.2.2.2.2.2.1 (lv_at0 hl) ?_
          refine lv_sipush (v := 3000) hx hb gX12_holds_3.2.2.2.2.2.2.2.1 (by decide) ?_
          refine lv_idiv hx hb gX12_holds_3.2.2.2.2.2.2.2.2.1 (by decide) ?_
          refine eqi (x1 := nI (jv9 / 3000)) (pk_div (d := 3000) (by omega) (by decide) (by decide)) ?_
          refine lv_iload_n hx hb gX12_holds_3.2.2.2.2.2.2.2.2.2 rfl (lv_at8 hl) ?_
          refine pV hC hK hl hP hD (m_factOfX l G kq h0 (jv9 / 3000) je nw nk mhasKept nt mtaped nr mrowMany mroundOf mroundFrom nm mfromHour mtoHour ns mfrom mto msort misFault mdeep mcoded mlines nl nc nF np ntr nb mbestCost nso nsi nit nsh nsf nss nrc mtraced mdealer mnumber mwhose msize misParted fnw (hN) (ekq) (hkq) (hje) (by omega)) si_X12_295 [0, 1] sm_0_1 fm_0_1 nd_0_1 rfl rfl rfl rfl rfl (Nat.le_of_ble_eq_true rfl) rm_6_5_3 ⟨by first | exact Nat.le_of_ble_eq_true rfl | exact Nat.zero_le _, by first | exact Nat.le_of_ble_eq_true rfl | exact Nat.zero_le _⟩ gX12_holds_4.1 (Keqr ?_)
          refine lv_istore (lv' := [(9, .int ((FAX (shf fnw 12) (shf fnw 32) (VSE fnw kq) kq je) (jv9 / 3000))), (8, .int (nI jv9)), (7, .int (nI kP)), (6, .int (nI hg)), (5, .int (nI r1)), (4, .int (nI r0)), (0, .ref h0), (1, .int (nI jv)), (2, .int (nI jl)), (3, .int (nI je))]) hx hb gX12_holds_4.2.1 hl (by decide) rfl (fun ls hl => ?_)
          refine lv_iload hx hb gX12_holds_4.2.2.1 (lv_at1 hl) ?_
          refine lv_sipush (v := 1000) hx hb gX12_holds_4.2.2.2.1 (by decide) ?_
          refine lv_irem hx hb gX12_holds_4.2.2.2.2.1 (by decide) ?_
          refine eqi (x1 := nI (jv9 % 1000)) (pk_rem (d := 1000) (by omega) (by decide) (by decide)) ?_
          refine lv_istore (lv' := [(10, .int (nI (jv9 % 1000))), (9, .int ((FAX (shf fnw 12) (shf fnw 32) (VSE fnw kq) kq je) (jv9 / 3000))), (8, .int (nI jv9)), (7, .int (nI kP)), (6, .int (nI hg)), (5, .int (nI r1)), (4, .int (nI r0)), (0, .ref h0), (1, .int (nI jv)), (2, .int (nI jl)), (3, .int (nI je))]) hx hb gX12_holds_4.2.2.2.2.2.1 hl (by decide) rfl (fun ls hl => ?_)
          refine lv_iload hx hb gX12_holds_4.2.2.2.2.2.2.1 (lv_at2 hl) ?_
          refine lv_sipush (v := 1000) hx hb gX12_holds_4.2.2.2.2.2.2.2.1 (by decide) ?_
          refine lv_idiv hx hb gX12_holds_4.2.2.2.2.2.2.2.2.1 (by decide) ?_
          refine eqi (x1 := nI (jv9 / 1000)) (pk_div (d := 1000) (by omega) (by decide) (by decide)) ?_
          refine lv_iconst (v := 3) hx hb gX12_holds_4.2.2.2.2.2.2.2.2.2 (by decide) ?_
          refine lv_irem hx hb gX12_holds_5.1 (by decide) ?_
          refine eqi (x1 := nI ((jv9 / 1000) % 3)) (pk_rem (d := 3) (by omega) (by decide) (by decide)) ?_
          refine lv_istore (lv' := [(11, .int (nI ((jv9 / 1000) % 3))), (10, .int (nI (jv9 % 1000))), (9, .int ((FAX (shf fnw 12) (shf fnw 32) (VSE fnw kq) kq je) (jv9 / 3000))), (8, .int (nI jv9)), (7, .int (nI kP)), (6, .int (nI hg)), (5, .int (nI r1)), (4, .int (nI r0)), (0, .ref h0), (1, .int (nI jv)), (2, .int (nI jl)), (3, .int (nI je))]) hx hb gX12_holds_5.2.1 hl (by decide) rfl (fun ls hl => ?_)
          refine lv_aload_n hx hb gX12_holds_5.2.2.1 rfl (lv_at8 hl) ?_
          refine gf_X12_54 hC rfl hK hP 0 rfl rfl gX12_holds_5.2.2.2.1 ?_
          refine lv_iload hx hb gX12_holds_5.2.2.2.2.1 (lv_at5 hl) ?_
          refine lv_iload hx hb gX12_holds_5.2.2.2.2.2.1 (lv_at0 hl) ?_
          refine lv_if_ne (tgt := 114) hx hb gX12_holds_5.2.2.2.2.2.2.1 (by decide) (fun c_101_7733 => ?_) (fun c_101_7733 => ?_)
          · refine lv_iload hx hb gX12_holds_6.2.1 (lv_at0 hl) ?_
            refine lv_iconst (v := 1) hx hb gX12_holds_6.2.2.1 (by decide) ?_
            refine lv_icmp_ne (tgt := 130) hx hb gX12_holds_6.2.2.2.1 (by decide) (fun c_117_7734 => ?_) (fun c_117_7734 => ?_)
            · refine lv_iload hx hb gX12_holds_6.2.2.2.2.2.2.2.2.1 (lv_at2 hl) ?_
              refine lv_iload hx hb gX12_holds_6.2.2.2.2.2.2.2.2.2 (lv_at1 hl) ?_
              refine lv_icmp_le (tgt := 141) hx hb gX12_holds_7.1 (by decide) (fun c_134_7735 => ?_) (fun c_134_7735 => ?_)
              · refine lv_iconst (v := 0) hx hb gX12_holds_7.2.2.2.1 (by decide) ?_
                refine astN hC hK hP hD hS 2 (ws' := [(h0, oX12 nw nk mhasKept nt mtaped nr mrowMany mroundOf mroundFrom 0 nm mfromHour mtoHour ns mfrom mto msort misFault mdeep mcoded mlines nl nc nF np ntr nb mbestCost nso nsi nit nsh nsf nss nrc mtraced mdealer mnumber mwhose msize misParted), (nw, iA G 1662 fnw), (np, iA G 100 (upd vP hg 0))]) rfl (k := hg) (by omega) (Nat.le_of_ble_eq_true rfl) (rfl) gX12_holds_7.2.2.2.2.1 (fun H locs hP hD hS => ?_)
                refine lv_iinc (v := nI (hg + 1)) (lv' := [(6, .int (nI (hg + 1))), (11, .int (nI ((jv9 / 1000) % 3))), (10, .int (nI (jv9 % 1000))), (9, .int ((FAX (shf fnw 12) (shf fnw 32) (VSE fnw kq) kq je) (jv9 / 3000))), (8, .int (nI jv9)), (7, .int (nI kP)), (5, .int (nI r1)), (4, .int (nI r0)), (0, .ref h0), (1, .int (nI jv)), (2, .int (nI jl)), (3, .int (nI je))]) hx hb gX12_holds_7.2.2.2.2.2.1 hl (k := 5) rfl (nI_1 _) (by decide) rfl (fun ls hl => ?_)
                refine lv_goto (tgt := 237) hx hb gX12_holds_7.2.2.2.2.2.2.1 (by decide) ?_
                refine lv_iinc (v := nI (kP + 1)) (lv' := [(7, .int (nI (kP + 1))), (6, .int (nI (hg + 1))), (11, .int (nI ((jv9 / 1000) % 3))), (10, .int (nI (jv9 % 1000))), (9, .int ((FAX (shf fnw 12) (shf fnw 32) (VSE fnw kq) kq je) (jv9 / 3000))), (8, .int (nI jv9)), (5, .int (nI r1)), (4, .int (nI r0)), (0, .ref h0), (1, .int (nI jv)), (2, .int (nI jl)), (3, .int (nI je))]) hx hb gX12_holds_12.2.2.2.2.2.2.2.2.1 hl (k := 5) rfl (nI_1 _) (by decide) rfl (fun ls hl => ?_)
                refine lv_goto (tgt := 25) hx hb gX12_holds_12.2.2.2.2.2.2.2.2.2 (by decide) ?_
                have hst8 : ((hg + 1), upd vP hg 0) = PRK (FAX (shf fnw 12) (shf fnw 32) (VSE fnw kq) kq je) tr9 fnp (kP + 1 - r0) := PRK.fa0 hpr (by omega) (by omega) ev9 hjv9 (SOV.g3 (fun h9 => c_101_7733 (congrArg nI h9)) (fun h9 => c_117_7734 (congrArg nI h9)) (decide_eq_false (Int32.not_lt.mpr c_134_7735)))
                exact ihP (kP + 1) (upd vP hg 0) (hg + 1) _ _ _ (by omega) (by first | assumption | exact Or.inl rfl | exact Or.inr rfl | omega | exact h09.symm | exact PRK.zero (by omega)) (by first | assumption | exact Or.inl rfl | exact Or.inr rfl | omega | exact h09.symm | exact PRK.zero (by omega)) (by first | assumption | exact Or.inl rfl | exact Or.inr rfl | omega | exact h09.symm | exact PRK.zero (by omega)) (by first | assumption | exact Or.inl rfl | exact Or.inr rfl | omega | exact h09.symm | exact PRK.zero (by omega)) (And.intro hP hD) hS (lv_sub hl [0, 1, 6, 7, 8, 9, 10, 11] rfl)
              · refine lv_iconst (v := 1) hx hb gX12_holds_7.2.1 (by decide) ?_
                refine lv_goto (tgt := 142) hx hb gX12_holds_7.2.2.1 (by decide) ?_
                refine astN hC hK hP hD hS 2 (ws' := [(h0, oX12 nw nk mhasKept nt mtaped nr mrowMany mroundOf mroundFrom 0 nm mfromHour mtoHour ns mfrom mto msort misFault mdeep mcoded mlines nl nc nF np ntr nb mbestCost nso nsi nit nsh nsf nss nrc mtraced mdealer mnumber mwhose msize misParted), (nw, iA G 1662 fnw), (np, iA G 100 (upd vP hg 1))]) rfl (k := hg) (by omega) (Nat.le_of_ble_eq_true rfl) (rfl) gX12_holds_7.2.2.2.2.1 (fun H locs hP hD hS => ?_)
                refine lv_iinc (v := nI (hg + 1)) (lv' := [(6, .int (nI (hg + 1))), (11, .int (nI ((jv9 / 1000) % 3))), (10, .int (nI (jv9 % 1000))), (9, .int ((FAX (shf fnw 12) (shf fnw 32) (VSE fnw kq) kq je) (jv9 / 3000))), (8, .int (nI jv9)), (7, .int (nI kP)), (5, .int (nI r1)), (4, .int (nI r0)), (0, .ref h0), (1, .int (nI jv)), (2, .int (nI jl)), (3, .int (nI je))]) hx hb gX12_holds_7.2.2.2.2.2.1 hl (k := 5) rfl (nI_1 _) (by decide) rfl (fun ls hl => ?_)
                refine lv_goto (tgt := 237) hx hb gX12_holds_7.2.2.2.2.2.2.1 (by decide) ?_
                refine lv_iinc (v := nI (kP + 1)) (lv' := [(7, .int (nI (kP + 1))), (6, .int (nI (hg + 1))), (11, .int (nI ((jv9 / 1000) % 3))), (10, .int (nI (jv9 % 1000))), (9, .int ((FAX (shf fnw 12) (shf fnw 32) (VSE fnw kq) kq je) (jv9 / 3000))), (8, .int (nI jv9)), (5, .int (nI r1)), (4, .int (nI r0)), (0, .ref h0), (1, .int (nI jv)), (2, .int (nI jl)), (3, .int (nI je))]) hx hb gX12_holds_12.2.2.2.2.2.2.2.2.1 hl (k := 5) rfl (nI_1 _) (by decide) rfl (fun ls hl => ?_)
                refine lv_goto (tgt := 25) hx hb gX12_holds_12.2.2.2.2.2.2.2.2.2 (by decide) ?_
                have hst8 : ((hg + 1), upd vP hg 1) = PRK (FAX (shf fnw 12) (shf fnw 32) (VSE fnw kq) kq je) tr9 fnp (kP + 1 - r0) := PRK.fa1 hpr (by omega) (by omega) ev9 hjv9 (SOV.g3 (fun h9 => c_101_7733 (congrArg nI h9)) (fun h9 => c_117_7734 (congrArg nI h9)) (decide_eq_true (Int32.not_le.mp c_134_7735)))
                exact ihP (kP + 1) (upd vP hg 1) (hg + 1) _ _ _ (by omega) (by first | assumption | exact Or.inl rfl | exact Or.inr rfl | omega | exact h09.symm | exact PRK.zero (by omega)) (by first | assumption | exact Or.inl rfl | exact Or.inr rfl | omega | exact h09.symm | exact PRK.zero (by omega)) (by first | assumption | exact Or.inl rfl | exact Or.inr rfl | omega | exact h09.symm | exact PRK.zero (by omega)) (by first | assumption | exact Or.inl rfl | exact Or.inr rfl | omega | exact h09.symm | exact PRK.zero (by omega)) (And.intro hP hD) hS (lv_sub hl [0, 1, 6, 7, 8, 9, 10, 11] rfl)
            · refine lv_iload hx hb gX12_holds_6.2.2.2.2.1 (lv_at2 hl) ?_
              refine lv_iload hx hb gX12_holds_6.2.2.2.2.2.1 (lv_at1 hl) ?_
              refine lv_icmp_ne (tgt := 141) hx hb gX12_holds_6.2.2.2.2.2.2.1 (by decide) (fun c_124_7736 => ?_) (fun c_124_7736 => ?_)
              · refine lv_iconst (v := 0) hx hb gX12_holds_7.2.2.2.1 (by decide) ?_
                refine astN hC hK hP hD hS 2 (ws' := [(h0, oX12 nw nk mhasKept nt mtaped nr mrowMany mroundOf mroundFrom 0 nm mfromHour mtoHour ns mfrom mto msort misFault mdeep mcoded mlines nl nc nF np ntr nb mbestCost nso nsi nit nsh nsf nss nrc mtraced mdealer mnumber mwhose msize misParted), (nw, iA G 1662 fnw), (np, iA G 100 (upd vP hg 0))]) rfl (k := hg) (by omega) (Nat.le_of_ble_eq_true rfl) (rfl) gX12_holds_7.2.2.2.2.1 (fun H locs hP hD hS => ?_)
                refine lv_iinc (v := nI (hg + 1)) (lv' := [(6, .int (nI (hg + 1))), (11, .int (nI ((jv9 / 1000) % 3))), (10, .int (nI (jv9 % 1000))), (9, .int ((FAX (shf fnw 12) (shf fnw 32) (VSE fnw kq) kq je) (jv9 / 3000))), (8, .int (nI jv9)), (7, .int (nI kP)), (5, .int (nI r1)), (4, .int (nI r0)), (0, .ref h0), (1, .int (nI jv)), (2, .int (nI jl)), (3, .int (nI je))]) hx hb gX12_holds_7.2.2.2.2.2.1 hl (k := 5) rfl (nI_1 _) (by decide) rfl (fun ls hl => ?_)
                refine lv_goto (tgt := 237) hx hb gX12_holds_7.2.2.2.2.2.2.1 (by decide) ?_
                refine lv_iinc (v := nI (kP + 1)) (lv' := [(7, .int (nI (kP + 1))), (6, .int (nI (hg + 1))), (11, .int (nI ((jv9 / 1000) % 3))), (10, .int (nI (jv9 % 1000))), (9, .int ((FAX (shf fnw 12) (shf fnw 32) (VSE fnw kq) kq je) (jv9 / 3000))), (8, .int (nI jv9)), (5, .int (nI r1)), (4, .int (nI r0)), (0, .ref h0), (1, .int (nI jv)), (2, .int (nI jl)), (3, .int (nI je))]) hx hb gX12_holds_12.2.2.2.2.2.2.2.2.1 hl (k := 5) rfl (nI_1 _) (by decide) rfl (fun ls hl => ?_)
                refine lv_goto (tgt := 25) hx hb gX12_holds_12.2.2.2.2.2.2.2.2.2 (by decide) ?_
                have hst8 : ((hg + 1), upd vP hg 0) = PRK (FAX (shf fnw 12) (shf fnw 32) (VSE fnw kq) kq je) tr9 fnp (kP + 1 - r0) := PRK.fa0 hpr (by omega) (by omega) ev9 hjv9 (SOV.e3 ((nI_eq (b := 1) (by omega) (by decide)).mp c_117_7734) (decide_eq_false c_124_7736))
                exact ihP (kP + 1) (upd vP hg 0) (hg + 1) _ _ _ (by omega) (by first | assumption | exact Or.inl rfl | exact Or.inr rfl | omega | exact h09.symm | exact PRK.zero (by omega)) (by first | assumption | exact Or.inl rfl | exact Or.inr rfl | omega | exact h09.symm | exact PRK.zero (by omega)) (by first | assumption | exact Or.inl rfl | exact Or.inr rfl | omega | exact h09.symm | exact PRK.zero (by omega)) (by first | assumption | exact Or.inl rfl | exact Or.inr rfl | omega | exact h09.symm | exact PRK.zero (by omega)) (And.intro hP hD) hS (lv_sub hl [0, 1, 6, 7, 8, 9, 10, 11] rfl)
              · refine lv_goto (tgt := 137) hx hb gX12_holds_6.2.2.2.2.2.2.2.1 (by decide) ?_
                refine lv_iconst (v := 1) hx hb gX12_holds_7.2.1 (by decide) ?_
                refine lv_goto (tgt := 142) hx hb gX12_holds_7.2.2.1 (by decide) ?_
                refine astN hC hK hP hD hS 2 (ws' := [(h0, oX12 nw nk mhasKept nt mtaped nr mrowMany mroundOf mroundFrom 0 nm mfromHour mtoHour ns mfrom mto msort misFault mdeep mcoded mlines nl nc nF np ntr nb mbestCost nso nsi nit nsh nsf nss nrc mtraced mdealer mnumber mwhose msize misParted), (nw, iA G 1662 fnw), (np, iA G 100 (upd vP hg 1))]) rfl (k := hg) (by omega) (Nat.le_of_ble_eq_true rfl) (rfl) gX12_holds_7.2.2.2.2.1 (fun H locs hP hD hS => ?_)
                refine lv_iinc (v := nI (hg + 1)) (lv' := [(6, .int (nI (hg + 1))), (11, .int (nI ((jv9 / 1000) % 3))), (10, .int (nI (jv9 % 1000))), (9, .int ((FAX (shf fnw 12) (shf fnw 32) (VSE fnw kq) kq je) (jv9 / 3000))), (8, .int (nI jv9)), (7, .int (nI kP)), (5, .int (nI r1)), (4, .int (nI r0)), (0, .ref h0), (1, .int (nI jv)), (2, .int (nI jl)), (3, .int (nI je))]) hx hb gX12_holds_7.2.2.2.2.2.1 hl (k := 5) rfl (nI_1 _) (by decide) rfl (fun ls hl => ?_)
                refine lv_goto (tgt := 237) hx hb gX12_holds_7.2.2.2.2.2.2.1 (by decide) ?_
                refine lv_iinc (v := nI (kP + 1)) (lv' := [(7, .int (nI (kP + 1))), (6, .int (nI (hg + 1))), (11, .int (nI ((jv9 / 1000) % 3))), (10, .int (nI (jv9 % 1000))), (9, .int ((FAX (shf fnw 12) (shf fnw 32) (VSE fnw kq) kq je) (jv9 / 3000))), (8, .int (nI jv9)), (5, .int (nI r1)), (4, .int (nI r0)), (0, .ref h0), (1, .int (nI jv)), (2, .int (nI jl)), (3, .int (nI je))]) hx hb gX12_holds_12.2.2.2.2.2.2.2.2.1 hl (k := 5) rfl (nI_1 _) (by decide) rfl (fun ls hl => ?_)
                refine lv_goto (tgt := 25) hx hb gX12_holds_12.2.2.2.2.2.2.2.2.2 (by decide) ?_
                have hst8 : ((hg + 1), upd vP hg 1) = PRK (FAX (shf fnw 12) (shf fnw 32) (VSE fnw kq) kq je) tr9 fnp (kP + 1 - r0) := PRK.fa1 hpr (by omega) (by omega) ev9 hjv9 (SOV.e3 ((nI_eq (b := 1) (by omega) (by decide)).mp c_117_7734) (decide_eq_true c_124_7736))
                exact ihP (kP + 1) (upd vP hg 1) (hg + 1) _ _ _ (by omega) (by first | assumption | exact Or.inl rfl | exact Or.inr rfl | omega | exact h09.symm | exact PRK.zero (by omega)) (by first | assumption | exact Or.inl rfl | exact Or.inr rfl | omega | exact h09.symm | exact PRK.zero (by omega)) (by first | assumption | exact Or.inl rfl | exact Or.inr rfl | omega | exact h09.symm | exact PRK.zero (by omega)) (by first | assumption | exact Or.inl rfl | exact Or.inr rfl | omega | exact h09.symm | exact PRK.zero (by omega)) (And.intro hP hD) hS (lv_sub hl [0, 1, 6, 7, 8, 9, 10, 11] rfl)
          · refine lv_iload hx hb gX12_holds_5.2.2.2.2.2.2.2.1 (lv_at2 hl) ?_
            refine lv_iload hx hb gX12_holds_5.2.2.2.2.2.2.2.2.1 (lv_at1 hl) ?_
            refine lv_icmp_ge (tgt := 141) hx hb gX12_holds_5.2.2.2.2.2.2.2.2.2 (by decide) (fun c_108_7737 => ?_) (fun c_108_7737 => ?_)
            · refine lv_iconst (v := 0) hx hb gX12_holds_7.2.2.2.1 (by decide) ?_
              refine astN hC hK hP hD hS 2 (ws' := [(h0, oX12 nw nk mhasKept nt mtaped nr mrowMany mroundOf mroundFrom 0 nm mfromHour mtoHour ns mfrom mto msort misFault mdeep mcoded mlines nl nc nF np ntr nb mbestCost nso nsi nit nsh nsf nss nrc mtraced mdealer mnumber mwhose msize misParted), (nw, iA G 1662 fnw), (np, iA G 100 (upd vP hg 0))]) rfl (k := hg) (by omega) (Nat.le_of_ble_eq_true rfl) (rfl) gX12_holds_7.2.2.2.2.1 (fun H locs hP hD hS => ?_)
              refine lv_iinc (v := nI (hg + 1)) (lv' := [(6, .int (nI (hg + 1))), (11, .int (nI ((jv9 / 1000) % 3))), (10, .int (nI (jv9 % 1000))), (9, .int ((FAX (shf fnw 12) (shf fnw 32) (VSE fnw kq) kq je) (jv9 / 3000))), (8, .int (nI jv9)), (7, .int (nI kP)), (5, .int (nI r1)), (4, .int (nI r0)), (0, .ref h0), (1, .int (nI jv)), (2, .int (nI jl)), (3, .int (nI je))]) hx hb gX12_holds_7.2.2.2.2.2.1 hl (k := 5) rfl (nI_1 _) (by decide) rfl (fun ls hl => ?_)
              refine lv_goto (tgt := 237) hx hb gX12_holds_7.2.2.2.2.2.2.1 (by decide) ?_
              refine lv_iinc (v := nI (kP + 1)) (lv' := [(7, .int (nI (kP + 1))), (6, .int (nI (hg + 1))), (11, .int (nI ((jv9 / 1000) % 3))), (10, .int (nI (jv9 % 1000))), (9, .int ((FAX (shf fnw 12) (shf fnw 32) (VSE fnw kq) kq je) (jv9 / 3000))), (8, .int (nI jv9)), (5, .int (nI r1)), (4, .int (nI r0)), (0, .ref h0), (1, .int (nI jv)), (2, .int (nI jl)), (3, .int (nI je))]) hx hb gX12_holds_12.2.2.2.2.2.2.2.2.1 hl (k := 5) rfl (nI_1 _) (by decide) rfl (fun ls hl => ?_)
              refine lv_goto (tgt := 25) hx hb gX12_holds_12.2.2.2.2.2.2.2.2.2 (by decide) ?_
              have hst8 : ((hg + 1), upd vP hg 0) = PRK (FAX (shf fnw 12) (shf fnw 32) (VSE fnw kq) kq je) tr9 fnp (kP + 1 - r0) := PRK.fa0 hpr (by omega) (by omega) ev9 hjv9 (SOV.l3 ((nI_eq (b := 0) (by omega) (by decide)).mp c_101_7733) (decide_eq_false (Int32.not_lt.mpr c_108_7737)))
              exact ihP (kP + 1) (upd vP hg 0) (hg + 1) _ _ _ (by omega) (by first | assumption | exact Or.inl rfl | exact Or.inr rfl | omega | exact h09.symm | exact PRK.zero (by omega)) (by first | assumption | exact Or.inl rfl | exact Or.inr rfl | omega | exact h09.symm | exact PRK.zero (by omega)) (by first | assumption | exact Or.inl rfl | exact Or.inr rfl | omega | exact h09.symm | exact PRK.zero (by omega)) (by first | assumption | exact Or.inl rfl | exact Or.inr rfl | omega | exact h09.symm | exact PRK.zero (by omega)) (And.intro hP hD) hS (lv_sub hl [0, 1, 6, 7, 8, 9, 10, 11] rfl)
            · refine lv_goto (tgt := 137) hx hb gX12_holds_6.1 (by decide) ?_
              refine lv_iconst (v := 1) hx hb gX12_holds_7.2.1 (by decide) ?_
              refine lv_goto (tgt := 142) hx hb gX12_holds_7.2.2.1 (by decide) ?_
              refine astN hC hK hP hD hS 2 (ws' := [(h0, oX12 nw nk mhasKept nt mtaped nr mrowMany mroundOf mroundFrom 0 nm mfromHour mtoHour ns mfrom mto msort misFault mdeep mcoded mlines nl nc nF np ntr nb mbestCost nso nsi nit nsh nsf nss nrc mtraced mdealer mnumber mwhose msize misParted), (nw, iA G 1662 fnw), (np, iA G 100 (upd vP hg 1))]) rfl (k := hg) (by omega) (Nat.le_of_ble_eq_true rfl) (rfl) gX12_holds_7.2.2.2.2.1 (fun H locs hP hD hS => ?_)
              refine lv_iinc (v := nI (hg + 1)) (lv' := [(6, .int (nI (hg + 1))), (11, .int (nI ((jv9 / 1000) % 3))), (10, .int (nI (jv9 % 1000))), (9, .int ((FAX (shf fnw 12) (shf fnw 32) (VSE fnw kq) kq je) (jv9 / 3000))), (8, .int (nI jv9)), (7, .int (nI kP)), (5, .int (nI r1)), (4, .int (nI r0)), (0, .ref h0), (1, .int (nI jv)), (2, .int (nI jl)), (3, .int (nI je))]) hx hb gX12_holds_7.2.2.2.2.2.1 hl (k := 5) rfl (nI_1 _) (by decide) rfl (fun ls hl => ?_)
              refine lv_goto (tgt := 237) hx hb gX12_holds_7.2.2.2.2.2.2.1 (by decide) ?_
              refine lv_iinc (v := nI (kP + 1)) (lv' := [(7, .int (nI (kP + 1))), (6, .int (nI (hg + 1))), (11, .int (nI ((jv9 / 1000) % 3))), (10, .int (nI (jv9 % 1000))), (9, .int ((FAX (shf fnw 12) (shf fnw 32) (VSE fnw kq) kq je) (jv9 / 3000))), (8, .int (nI jv9)), (5, .int (nI r1)), (4, .int (nI r0)), (0, .ref h0), (1, .int (nI jv)), (2, .int (nI jl)), (3, .int (nI je))]) hx hb gX12_holds_12.2.2.2.2.2.2.2.2.1 hl (k := 5) rfl (nI_1 _) (by decide) rfl (fun ls hl => ?_)
              refine lv_goto (tgt := 25) hx hb gX12_holds_12.2.2.2.2.2.2.2.2.2 (by decide) ?_
              have hst8 : ((hg + 1), upd vP hg 1) = PRK (FAX (shf fnw 12) (shf fnw 32) (VSE fnw kq) kq je) tr9 fnp (kP + 1 - r0) := PRK.fa1 hpr (by omega) (by omega) ev9 hjv9 (SOV.l3 ((nI_eq (b := 0) (by omega) (by decide)).mp c_101_7733) (decide_eq_true (Int32.not_le.mp c_108_7737)))
              exact ihP (kP + 1) (upd vP hg 1) (hg + 1) _ _ _ (by omega) (by first | assumption | exact Or.inl rfl | exact Or.inr rfl | omega | exact h09.symm | exact PRK.zero (by omega)) (by first | assumption | exact Or.inl rfl | exact Or.inr rfl | omega | exact h09.symm | exact PRK.zero (by omega)) (by first | assumption | exact Or.inl rfl | exact Or.inr rfl | omega | exact h09.symm | exact PRK.zero (by omega)) (by first | assumption | exact Or.inl rfl | exact Or.inr rfl | omega | exact h09.symm | exact PRK.zero (by omega)) (And.intro hP hD) hS (lv_sub hl [0, 1, 6, 7, 8, 9, 10, 11] rfl)
    exact keyP (r1 - r0) r0 fnp 0 _ _ _ (by omega) (by first | assumption | exact Or.inl rfl | exact Or.inr rfl | omega | exact h09.symm | exact PRK.zero (by omega)) (by first | assumption | exact Or.inl rfl | exact Or.inr rfl | omega | exact h09.symm | exact PRK.zero (by omega)) (by first | assumption | exact Or.inl rfl | exact Or.inr rfl | omega | exact h09.symm | exact PRK.zero (by omega)) (by first | assumption | exact Or.inl rfl | exact Or.inr rfl | omega | exact h09.symm | exact PRK.zero (by omega)) (And.intro hP hD) hS (lv_sub hl [0, 1, 2, 3, 4, 5, 6, 7] rfl)
def K_m_thingOfX (l : Launch) (G : GG) (LX9 : LNT) (h0 : Nat) (jv : Nat) (jl : Nat) (nw : Nat) (nk : Nat) (mhasKept : Int32) (nt : Nat) (mtaped : Int32) (nr : Nat) (mrowMany : Int32) (mroundOf : Int32) (mroundFrom : Int32) (mouts : Int32) (nm : Nat) (mfromHour : Int32) (mtoHour : Int32) (ns : Nat) (mfrom : Int32) (mto : Int32) (msort : Int32) (misFault : Int32) (mdeep : Int32) (mcoded : Int32) (mlines : Int32) (nl : Nat) (nc : Nat) (nF : Nat) (np : Nat) (ntr : Nat) (nb : Nat) (mbestCost : Int32) (nso : Nat) (nsi : Nat) (nit : Nat) (nsh : Nat) (nsf : Nat) (nss : Nat) (nrc : Nat) (mtraced : Int32) (mdealer : Int32) (mnumber : Int32) (mwhose : Int32) (msize : Int32) (misParted : Int32) (fnw : Nat → Int32) : Prop := MP l G yX12_thingOf cX12_thingOf 4 (some .int) 2 [.ref h0, .int (nI jv), .int (nI jl)] [(h0, oX12 nw nk mhasKept nt mtaped nr mrowMany mroundOf mroundFrom mouts nm mfromHour mtoHour ns mfrom mto msort misFault mdeep mcoded mlines nl nc nF np ntr nb mbestCost nso nsi nit nsh nsf nss nrc mtraced mdealer mnumber mwhose msize misParted), (nw, iA G 1662 fnw)] (fun r : Int32 => ∃ t9, (t9 = TNO LX9 ∧ t9 < 8) ∧ r = nI t9)
set_option maxHeartbeats 4000000 in
set_option maxRecDepth 100000 in
theorem m_thingOfX (l : Launch) (G : GG) (LX9 : LNT) (T9 : List Int32) (h0 : Nat) (jv : Nat) (jl : Nat) (nw : Nat) (nk : Nat) (mhasKept : Int32) (nt : Nat) (mtaped : Int32) (nr : Nat) (mrowMany : Int32) (mroundOf : Int32) (mroundFrom : Int32) (mouts : Int32) (nm : Nat) (mfromHour : Int32) (mtoHour : Int32) (ns : Nat) (mfrom : Int32) (mto : Int32) (msort : Int32) (misFault : Int32) (mdeep : Int32) (mcoded : Int32) (mlines : Int32) (nl : Nat) (nc : Nat) (nF : Nat) (np : Nat) (ntr : Nat) (nb : Nat) (mbestCost : Int32) (nso : Nat) (nsi : Nat) (nit : Nat) (nsh : Nat) (nsf : Nat) (nss : Nat) (nrc : Nat) (mtraced : Int32) (mdealer : Int32) (mnumber : Int32) (mwhose : Int32) (msize : Int32) (misParted : Int32) (fnw : Nat → Int32) (hjv : jv < 8) (hjl : jl < 9) (hln : LN fnw jv jl) (hLZ : LZM fnw jv jl LX9 T9) : K_m_thingOfX l G LX9 h0 jv jl nw nk mhasKept nt mtaped nr mrowMany mroundOf mroundFrom mouts nm mfromHour mtoHour ns mfrom mto msort misFault mdeep mcoded mlines nl nc nF np ntr nb mbestCost nso nsi nit nsh nsf nss nrc mtraced mdealer mnumber mwhose msize misParted fnw := by
  refine MP.start (by decide +kernel) (Nat.le_of_ble_eq_true rfl) ?_
  intro p e s m below meth c ls hC hK hP hD hl
  refine absQ (fun Q0 hQ0 => ?_)
  have hl : lv_has ls 4 [(0, .ref h0), (1, .int (nI jv)), (2, .int (nI jl))] := hl
  refine Kan8 hC (fun hx hb hr hml hB hown hlocks hnm => ?_)
  have hln0 := hln
  obtain ⟨⟨so, hso, e0, hAl, hBl⟩, -⟩ := hln
  obtain ⟨hlb, f0, f1, f2, f3, -⟩ := hLZ
  have hsx : so = LX9.1 := (nI_eq (by omega) (by have h9 := hlb.le; omega)).mp (e0.symm.trans f0)
  refine lv_aload_n hx hb gX12_thingOf_0.1 rfl (lv_at0 hl) ?_
  refine lv_iload_n hx hb gX12_thingOf_0.2.1 rfl (lv_at1 hl) ?_
  refine lv_iload_n hx hb gX12_thingOf_0.2.2.1 rfl (lv_at2 hl) ?_
  refine lv_iconst (v := 0) hx hb gX12_thingOf_0.2.2.2.1 (by decide) ?_
  refine pV hC hK hl hP hD (m_lineOf l G h0 jv jl 0 nw nk mhasKept nt mtaped nr mrowMany mroundOf mroundFrom mouts nm mfromHour mtoHour ns mfrom mto msort misFault mdeep mcoded mlines nl nc nF np ntr nb mbestCost nso nsi nit nsh nsf nss nrc mtraced mdealer mnumber mwhose msize misParted fnw (hjv) (hjl) (by omega)) si_X12_193 [0, 1] sm_0_1 fm_0_1 nd_0_1 rfl rfl rfl rfl rfl (Nat.le_of_ble_eq_true rfl) rm_2_1_4 ⟨by first | exact Nat.le_of_ble_eq_true rfl | exact Nat.zero_le _, by first | exact Nat.le_of_ble_eq_true rfl | exact Nat.zero_le _⟩ gX12_thingOf_0.2.2.2.2.1 (Keqr ?_)
  refine eqi (x1 := nI so) (e0) ?_
  refine lv_istore_n (lv' := [(3, .int (nI so)), (0, .ref h0), (1, .int (nI jv)), (2, .int (nI jl))]) hx hb gX12_thingOf_0.2.2.2.2.2.1 rfl hl (by decide) rfl (fun ls hl => ?_)
  refine lv_iload_n hx hb gX12_thingOf_0.2.2.2.2.2.2.1 rfl (lv_at0 hl) ?_
  refine lv_iconst (v := 2) hx hb gX12_thingOf_0.2.2.2.2.2.2.2.1 (by decide) ?_
  refine lv_icmp_ne (tgt := 23) hx hb gX12_thingOf_0.2.2.2.2.2.2.2.2.1 (by decide) (fun c_10_7740 => ?_) (fun c_10_7740 => ?_)
  · refine lv_iload_n hx hb gX12_thingOf_1.2.2.2.2.2.1 rfl (lv_at0 hl) ?_
    refine lv_if_ne (tgt := 37) hx hb gX12_thingOf_1.2.2.2.2.2.2.1 (by decide) (fun c_24_7741 => ?_) (fun c_24_7741 => ?_)
    · refine lv_iconst (v := 0) hx hb gX12_thingOf_2.2.2.2.1 (by decide) ?_
      refine toQ hQ0 ?_
      exact RP (v := 0) hC (⟨0, ⟨((TNO.v hlb).2.2 (fun h9 => c_10_7740 (congrArg nI (hsx.trans h9))) (fun h9 => c_24_7741 (congrArg nI (hsx.trans h9)))).symm, by decide⟩, rfl⟩) rfl gX12_thingOf_2.2.2.2.2
    · refine lv_aload_n hx hb gX12_thingOf_1.2.2.2.2.2.2.2.1 rfl (lv_at1 hl) ?_
      refine lv_iload_n hx hb gX12_thingOf_1.2.2.2.2.2.2.2.2.1 rfl (lv_at2 hl) ?_
      refine lv_iload_n hx hb gX12_thingOf_1.2.2.2.2.2.2.2.2.2 rfl (lv_at3 hl) ?_
      refine lv_iconst (v := 2) hx hb gX12_thingOf_2.1 (by decide) ?_
      refine pV hC hK hl hP hD (m_lineOf l G h0 jv jl 2 nw nk mhasKept nt mtaped nr mrowMany mroundOf mroundFrom mouts nm mfromHour mtoHour ns mfrom mto msort misFault mdeep mcoded mlines nl nc nF np ntr nb mbestCost nso nsi nit nsh nsf nss nrc mtraced mdealer mnumber mwhose msize misParted fnw (hjv) (hjl) (by omega)) si_X12_193 [0, 1] sm_0_1 fm_0_1 nd_0_1 rfl rfl rfl rfl rfl (Nat.le_of_ble_eq_true rfl) rm_2_1_4 ⟨by first | exact Nat.le_of_ble_eq_true rfl | exact Nat.zero_le _, by first | exact Nat.le_of_ble_eq_true rfl | exact Nat.zero_le _⟩ gX12_thingOf_2.2.1 (Keqr ?_)
      refine eqi (x1 := nI (TNO LX9)) (f2.trans ((TNO.v hlb).2.1 (hsx.symm.trans ((nI_eq (b := 0) (by omega) (by decide)).mp c_24_7741)))) ?_
      refine lv_goto (tgt := 38) hx hb gX12_thingOf_2.2.2.1 (by decide) ?_
      refine toQ hQ0 ?_
      exact RP (v := nI (TNO LX9)) hC (⟨TNO LX9, ⟨rfl, TNO.lt hlb⟩, rfl⟩) rfl gX12_thingOf_2.2.2.2.2
  · refine lv_aload_n hx hb gX12_thingOf_0.2.2.2.2.2.2.2.2.2 rfl (lv_at1 hl) ?_
    refine lv_iload_n hx hb gX12_thingOf_1.1 rfl (lv_at2 hl) ?_
    refine lv_iload_n hx hb gX12_thingOf_1.2.1 rfl (lv_at3 hl) ?_
    refine lv_iconst (v := 1) hx hb gX12_thingOf_1.2.2.1 (by decide) ?_
    refine pV hC hK hl hP hD (m_lineOf l G h0 jv jl 1 nw nk mhasKept nt mtaped nr mrowMany mroundOf mroundFrom mouts nm mfromHour mtoHour ns mfrom mto msort misFault mdeep mcoded mlines nl nc nF np ntr nb mbestCost nso nsi nit nsh nsf nss nrc mtraced mdealer mnumber mwhose msize misParted fnw (hjv) (hjl) (by omega)) si_X12_193 [0, 1] sm_0_1 fm_0_1 nd_0_1 rfl rfl rfl rfl rfl (Nat.le_of_ble_eq_true rfl) rm_2_1_4 ⟨by first | exact Nat.le_of_ble_eq_true rfl | exact Nat.zero_le _, by first | exact Nat.le_of_ble_eq_true rfl | exact Nat.zero_le _⟩ gX12_thingOf_1.2.2.2.1 (Keqr ?_)
    refine eqi (x1 := nI (TNO LX9)) (f1.trans ((TNO.v hlb).1 (hsx.symm.trans ((nI_eq (b := 2) (by omega) (by decide)).mp c_10_7740)))) ?_
    refine lv_goto (tgt := 38) hx hb gX12_thingOf_1.2.2.2.2.1 (by decide) ?_
    refine toQ hQ0 ?_
    exact RP (v := nI (TNO LX9)) hC (⟨TNO LX9, ⟨rfl, TNO.lt hlb⟩, rfl⟩) rfl gX12_thingOf_2.2.2.2.2
def K_m_fromLineX (l : Launch) (G : GG) (kq : Nat) (LX9 : LNT) (T9 : List Int32) (S9 : HOP) (h0 : Nat) (jv : Nat) (jl : Nat) (je : Nat) (nw : Nat) (nk : Nat) (mhasKept : Int32) (nt : Nat) (mtaped : Int32) (nr : Nat) (mrowMany : Int32) (mroundOf : Int32) (mroundFrom : Int32) (nm : Nat) (mfromHour : Int32) (mtoHour : Int32) (ns : Nat) (mfrom : Int32) (mto : Int32) (msort : Int32) (misFault : Int32) (mdeep : Int32) (mcoded : Int32) (mlines : Int32) (nl : Nat) (nc : Nat) (nF : Nat) (np : Nat) (ntr : Nat) (nb : Nat) (mbestCost : Int32) (nso : Nat) (nsi : Nat) (nit : Nat) (nsh : Nat) (nsf : Nat) (nss : Nat) (nrc : Nat) (mtraced : Int32) (mdealer : Int32) (mnumber : Int32) (mwhose : Int32) (msize : Int32) (misParted : Int32) (fnw : Nat → Int32) (fns : Nat → Int32) (fnp : Nat → Int32) : Prop := MI l G yX12_fromLine cX12_fromLine 6 (some .int) 7 0 0 [.ref h0, .int (nI jv), .int (nI jl), .int (nI je)] [(h0, oX12 nw nk mhasKept nt mtaped nr mrowMany mroundOf mroundFrom 0 nm mfromHour mtoHour ns mfrom mto msort misFault mdeep mcoded mlines nl nc nF np ntr nb mbestCost nso nsi nit nsh nsf nss nrc mtraced mdealer mnumber mwhose msize misParted), (nw, iA G 1662 fnw), (ns, iA G 8 fns), (np, iA G 100 fnp)] (fun (r : Int32) (u : (Nat → Int32)) => (∃ (y9:Int32), (FLQ 100000 S9 (LVX LX9 (PLN (FAX (shf fnw 12) (shf fnw 32) (VSE fnw kq) kq je) T9 1 % 2 = 1)) y9) ∧ r = y9)) (fun u : (Nat → Int32) => [(h0, oX12 nw nk mhasKept nt mtaped nr mrowMany mroundOf mroundFrom 0 nm mfromHour mtoHour ns mfrom mto msort misFault mdeep mcoded mlines nl nc nF np ntr nb mbestCost nso nsi nit nsh nsf nss nrc mtraced mdealer mnumber mwhose msize misParted), (nw, iA G 1662 fnw), (ns, iA G 8 fns), (np, iA G 100 u)])
set_option maxHeartbeats 4000000 in
set_option maxRecDepth 100000 in
theorem m_fromLineX (l : Launch) (G : GG) (kq : Nat) (LX9 : LNT) (T9 : List Int32) (S9 : HOP) (h0 : Nat) (jv : Nat) (jl : Nat) (je : Nat) (nw : Nat) (nk : Nat) (mhasKept : Int32) (nt : Nat) (mtaped : Int32) (nr : Nat) (mrowMany : Int32) (mroundOf : Int32) (mroundFrom : Int32) (nm : Nat) (mfromHour : Int32) (mtoHour : Int32) (ns : Nat) (mfrom : Int32) (mto : Int32) (msort : Int32) (misFault : Int32) (mdeep : Int32) (mcoded : Int32) (mlines : Int32) (nl : Nat) (nc : Nat) (nF : Nat) (np : Nat) (ntr : Nat) (nb : Nat) (mbestCost : Int32) (nso : Nat) (nsi : Nat) (nit : Nat) (nsh : Nat) (nsf : Nat) (nss : Nat) (nrc : Nat) (mtraced : Int32) (mdealer : Int32) (mnumber : Int32) (mwhose : Int32) (msize : Int32) (misParted : Int32) (fnw : Nat → Int32) (fns : Nat → Int32) (fnp : Nat → Int32) (hjv : jv < 8) (hjl : jl < 9) (hln : LN fnw jv jl) (hLZ : LZM fnw jv jl LX9 T9) (hAR : ARS 100000 S9 fns) (hBD : HBD S9) (hje : je < 10) (hN : NI fnw) (ekq : fnw 5 = nI kq) (hkq : kq ≤ 12) : K_m_fromLineX l G kq LX9 T9 S9 h0 jv jl je nw nk mhasKept nt mtaped nr mrowMany mroundOf mroundFrom nm mfromHour mtoHour ns mfrom mto msort misFault mdeep mcoded mlines nl nc nF np ntr nb mbestCost nso nsi nit nsh nsf nss nrc mtraced mdealer mnumber mwhose msize misParted fnw fns fnp := by
  refine MI.start (by decide +kernel) (Nat.le_of_ble_eq_true rfl) ?_
  intro p e s m below meth c A ls hC hK hP hD hS hA hl
  refine absQ (fun Q0 hQ0 => ?_)
  have hl : lv_has ls 6 [(0, .ref h0), (1, .int (nI jv)), (2, .int (nI jl)), (3, .int (nI je))] := hl
  refine Kan8 hC (fun hx hb hr hml hB hown hlocks hnm => ?_)
  have hLZ0 := hLZ
  have hln0 := hln
  obtain ⟨⟨so, hso, e0, hAl, hBl⟩, -⟩ := hln
  obtain ⟨hlb, f0, f1, f2, f3, -⟩ := hLZ
  have hsx : so = LX9.1 := (nI_eq (by omega) (by have h9 := hlb.le; omega)).mp (e0.symm.trans f0)
  refine lv_aload_n hx hb gX12_fromLine_0.1 rfl (lv_at0 hl) ?_
  refine lv_iload_n hx hb gX12_fromLine_0.2.1 rfl (lv_at1 hl) ?_
  refine lv_iload_n hx hb gX12_fromLine_0.2.2.1 rfl (lv_at2 hl) ?_
  refine lv_iconst (v := 0) hx hb gX12_fromLine_0.2.2.2.1 (by decide) ?_
  refine pV hC hK hl hP hD (m_lineOf l G h0 jv jl 0 nw nk mhasKept nt mtaped nr mrowMany mroundOf mroundFrom 0 nm mfromHour mtoHour ns mfrom mto msort misFault mdeep mcoded mlines nl nc nF np ntr nb mbestCost nso nsi nit nsh nsf nss nrc mtraced mdealer mnumber mwhose msize misParted fnw (hjv) (hjl) (by omega)) si_X12_193 [0, 1] sm_0_1 fm_0_1 nd_0_1 rfl rfl rfl rfl rfl (Nat.le_of_ble_eq_true rfl) rm_7_1_4 ⟨by first | exact Nat.le_of_ble_eq_true rfl | exact Nat.zero_le _, by first | exact Nat.le_of_ble_eq_true rfl | exact Nat.zero_le _⟩ gX12_fromLine_0.2.2.2.2.1 (Keqr ?_)
  refine eqi (x1 := nI so) (e0) ?_
  refine lv_istore (lv' := [(4, .int (nI so)), (0, .ref h0), (1, .int (nI jv)), (2, .int (nI jl)), (3, .int (nI je))]) hx hb gX12_fromLine_0.2.2.2.2.2.1 hl (by decide) rfl (fun ls hl => ?_)
  refine lv_iload hx hb gX12_fromLine_0.2.2.2.2.2.2.1 (lv_at0 hl) ?_
  refine lv_if_eq (tgt := 20) hx hb gX12_fromLine_0.2.2.2.2.2.2.2.1 (by decide) (fun c_11_7748 => ?_) (fun c_11_7748 => ?_)
  · refine lv_aload_n hx hb gX12_fromLine_1.2.1 rfl (lv_at1 hl) ?_
    refine lv_iload_n hx hb gX12_fromLine_1.2.2.1 rfl (lv_at2 hl) ?_
    refine lv_iload_n hx hb gX12_fromLine_1.2.2.2.1 rfl (lv_at3 hl) ?_
    refine lv_iload_n hx hb gX12_fromLine_1.2.2.2.2.1 rfl (lv_at4 hl) ?_
    refine iV (wr := [(ns, iA G 8 fns)]) hC hK hl hP hD hS hA (m_holdsX l G kq LX9 T9 h0 jv jl je nw nk mhasKept nt mtaped nr mrowMany mroundOf mroundFrom nm mfromHour mtoHour ns mfrom mto msort misFault mdeep mcoded mlines nl nc nF np ntr nb mbestCost nso nsi nit nsh nsf nss nrc mtraced mdealer mnumber mwhose msize misParted fnw fnp (hjv) (hjl) (hln0) (hLZ0) (hje) (hN) (ekq) (hkq)) si_X12_196 [0, 1, 3] [2] sm_0_1_3 fm_0_1_3 nd_0_1_3 sm_2 nd_2 dj_0_1_3__2 rfl rfl rfl rfl rfl (Nat.le_of_ble_eq_true rfl) rm_7_6_12 ⟨Nat.le_of_ble_eq_true rfl, Nat.le_of_ble_eq_true rfl⟩ gX12_fromLine_1.2.2.2.2.2.1 (fun r7749 gnp7751 H locs hr7749 hP hD hS => ?_)
    try dsimp only at hr7749
    refine Kpdr (ws := [(ns, iA G 8 fns), (h0, oX12 nw nk mhasKept nt mtaped nr mrowMany mroundOf mroundFrom 0 nm mfromHour mtoHour ns mfrom mto msort misFault mdeep mcoded mlines nl nc nF np ntr nb mbestCost nso nsi nit nsh nsf nss nrc mtraced mdealer mnumber mwhose msize misParted), (nw, iA G 1662 fnw), (np, iA G 100 gnp7751)]) hP hD (fun hP hD => ?_)
    rcases hr7749 with ⟨rfl, a7752⟩ | ⟨rfl, a7752⟩
    · refine lv_if_ne (tgt := 33) hx hb gX12_fromLine_1.2.2.2.2.2.2.1 (by decide) (fun _ => ?_) (fun c9 => absurd c9 (by decide))
      obtain ⟨jj9, jc9, jw9, eL9, hc9, hw9, g1, g3⟩ := (LVX.mk hlb a7752).1 (hsx.symm.trans ((nI_eq (b := 0) (by omega) (by decide)).mp c_11_7748))
      have hn29 : ¬ nI so = 2 := fun h9 => absurd (c_11_7748.symm.trans h9) (by decide)
      refine lv_iload hx hb gX12_fromLine_1.2.2.2.2.2.2.2.2.2 (lv_at0 hl) ?_
      refine lv_iconst (v := 2) hx hb gX12_fromLine_2.1 (by decide) ?_
      refine lv_icmp_ne (tgt := 49) hx hb gX12_fromLine_2.2.1 (by decide) (fun _ => ?_) (fun c9 => absurd c9 (hn29))
      refine lv_aload_n hx hb gX12_fromLine_2.2.2.2.2.2.2.2.2.1 rfl (lv_at1 hl) ?_
      refine gf_X12_29 hC rfl hK hP 1 rfl rfl gX12_fromLine_2.2.2.2.2.2.2.2.2.2 ?_
      refine lv_aload_n hx hb gX12_fromLine_3.1 rfl (lv_at1 hl) ?_
      refine lv_iload_n hx hb gX12_fromLine_3.2.1 rfl (lv_at2 hl) ?_
      refine lv_iload_n hx hb gX12_fromLine_3.2.2.1 rfl (lv_at3 hl) ?_
      refine lv_iconst (v := 3) hx hb gX12_fromLine_3.2.2.2.1 (by decide) ?_
      refine pV hC hK hl hP hD (m_lineOf l G h0 jv jl 3 nw nk mhasKept nt mtaped nr mrowMany mroundOf mroundFrom 0 nm mfromHour mtoHour ns mfrom mto msort misFault mdeep mcoded mlines nl nc nF np ntr nb mbestCost nso nsi nit nsh nsf nss nrc mtraced mdealer mnumber mwhose msize misParted fnw (hjv) (hjl) (by omega)) si_X12_193 [1, 2] sm_1_2 fm_1_2 nd_1_2 rfl rfl rfl rfl rfl (Nat.le_of_ble_eq_true rfl) rm_7_1_4 ⟨by first | exact Nat.le_of_ble_eq_true rfl | exact Nat.zero_le _, by first | exact Nat.le_of_ble_eq_true rfl | exact Nat.zero_le _⟩ gX12_fromLine_3.2.2.2.2.1 (Keqr ?_)
      refine eqi (x1 := nI jc9) (f3.trans g3) ?_
      refine aldN hC hK hP 0 rfl (k := jc9) (by omega) (Nat.le_of_ble_eq_true rfl) (v := fns jc9) rfl gX12_fromLine_3.2.2.2.2.2.1 ?_
      refine lv_istore (lv' := [(5, .int (fns jc9)), (4, .int (nI so)), (0, .ref h0), (1, .int (nI jv)), (2, .int (nI jl)), (3, .int (nI je))]) hx hb gX12_fromLine_3.2.2.2.2.2.2.1 hl (by decide) rfl (fun ls hl => ?_)
      refine lv_iload hx hb gX12_fromLine_3.2.2.2.2.2.2.2.1 (lv_at1 hl) ?_
      refine lv_iconst (v := 2) hx hb gX12_fromLine_3.2.2.2.2.2.2.2.2.1 (by decide) ?_
      refine lv_icmp_eq (tgt := 76) hx hb gX12_fromLine_3.2.2.2.2.2.2.2.2.2 (by decide) (fun c9 => absurd c9 (hn29)) (fun _ => ?_)
      refine lv_iload hx hb gX12_fromLine_4.1 (lv_at0 hl) ?_
      refine lv_ldc hx hb hown (hB _ m_1204) gX12_fromLine_4.2.1 ?_
      refine lv_icmp_ne (tgt := 81) hx hb gX12_fromLine_4.2.2.1 (by decide) (fun c_73_7755 => ?_) (fun c_73_7755 => ?_)
      · refine lv_iload hx hb gX12_fromLine_4.2.2.2.2.2.1 (lv_at0 hl) ?_
        refine lv_aload_n hx hb gX12_fromLine_4.2.2.2.2.2.2.1 rfl (lv_at2 hl) ?_
        refine lv_iload_n hx hb gX12_fromLine_4.2.2.2.2.2.2.2.1 rfl (lv_at3 hl) ?_
        refine lv_iload_n hx hb gX12_fromLine_4.2.2.2.2.2.2.2.2.1 rfl (lv_at4 hl) ?_
        refine lv_iconst (v := 1) hx hb gX12_fromLine_4.2.2.2.2.2.2.2.2.2 (by decide) ?_
        refine pV hC hK hl hP hD (m_lineOf l G h0 jv jl 1 nw nk mhasKept nt mtaped nr mrowMany mroundOf mroundFrom 0 nm mfromHour mtoHour ns mfrom mto msort misFault mdeep mcoded mlines nl nc nF np ntr nb mbestCost nso nsi nit nsh nsf nss nrc mtraced mdealer mnumber mwhose msize misParted fnw (hjv) (hjl) (by omega)) si_X12_193 [1, 2] sm_1_2 fm_1_2 nd_1_2 rfl rfl rfl rfl rfl (Nat.le_of_ble_eq_true rfl) rm_7_1_4 ⟨by first | exact Nat.le_of_ble_eq_true rfl | exact Nat.zero_le _, by first | exact Nat.le_of_ble_eq_true rfl | exact Nat.zero_le _⟩ gX12_fromLine_5.1 (Keqr ?_)
        refine eqi (x1 := nI jw9) (f1.trans g1) ?_
        refine lv_iadd hx hb gX12_fromLine_5.2.1 ?_
        refine toQ hQ0 ?_
        exact RI (v := (fns jc9) + (nI jw9)) hC hP hD hS [1, 2, 0, 3] gnp7751 rfl rfl (by decide) (⟨_, FLQ.sm eL9 hAR hBD hc9 (by decide) c_73_7755 hw9, rfl⟩) rfl gX12_fromLine_5.2.2
      · refine lv_iload hx hb gX12_fromLine_4.2.2.2.1 (lv_at0 hl) ?_
        refine lv_goto (tgt := 91) hx hb gX12_fromLine_4.2.2.2.2.1 (by decide) ?_
        refine toQ hQ0 ?_
        exact RI (v := fns jc9) hC hP hD hS [1, 2, 0, 3] gnp7751 rfl rfl (by decide) (⟨_, FLQ.nv eL9 hAR hBD hc9 (by decide) c_73_7755, rfl⟩) rfl gX12_fromLine_5.2.2
    · refine lv_if_ne (tgt := 33) hx hb gX12_fromLine_1.2.2.2.2.2.2.1 (by decide) (fun c9 => absurd (by decide) c9) (fun _ => ?_)
      refine lv_ldc hx hb hown (hB _ m_1204) gX12_fromLine_1.2.2.2.2.2.2.2.1 ?_
      refine toQ hQ0 ?_
      exact RI (v := 100000) hC hP hD hS [1, 2, 0, 3] gnp7751 rfl rfl (by decide) (⟨_, Or.inl ⟨LVX.n a7752, rfl⟩, rfl⟩) rfl gX12_fromLine_1.2.2.2.2.2.2.2.2.1
  · refine lv_iload hx hb gX12_fromLine_0.2.2.2.2.2.2.2.2.1 (lv_at0 hl) ?_
    refine lv_iconst (v := 2) hx hb gX12_fromLine_0.2.2.2.2.2.2.2.2.2 (by decide) ?_
    refine lv_icmp_ne (tgt := 30) hx hb gX12_fromLine_1.1 (by decide) (fun c_17_7758 => ?_) (fun c_17_7758 => ?_)
    · refine lv_ldc hx hb hown (hB _ m_1204) gX12_fromLine_1.2.2.2.2.2.2.2.1 ?_
      refine toQ hQ0 ?_
      exact RI (v := 100000) hC hP hD hS [0, 1, 2, 3] fnp rfl rfl (by decide) (⟨_, Or.inl ⟨LVX.w (fun h9 => c_11_7748 (congrArg nI (hsx.trans h9))) (fun h9 => c_17_7758 (congrArg nI (hsx.trans h9))), rfl⟩, rfl⟩) rfl gX12_fromLine_1.2.2.2.2.2.2.2.2.1
    · refine lv_aload_n hx hb gX12_fromLine_1.2.1 rfl (lv_at1 hl) ?_
      refine lv_iload_n hx hb gX12_fromLine_1.2.2.1 rfl (lv_at2 hl) ?_
      refine lv_iload_n hx hb gX12_fromLine_1.2.2.2.1 rfl (lv_at3 hl) ?_
      refine lv_iload_n hx hb gX12_fromLine_1.2.2.2.2.1 rfl (lv_at4 hl) ?_
      refine iV (wr := [(ns, iA G 8 fns)]) hC hK hl hP hD hS hA (m_holdsX l G kq LX9 T9 h0 jv jl je nw nk mhasKept nt mtaped nr mrowMany mroundOf mroundFrom nm mfromHour mtoHour ns mfrom mto msort misFault mdeep mcoded mlines nl nc nF np ntr nb mbestCost nso nsi nit nsh nsf nss nrc mtraced mdealer mnumber mwhose msize misParted fnw fnp (hjv) (hjl) (hln0) (hLZ0) (hje) (hN) (ekq) (hkq)) si_X12_196 [0, 1, 3] [2] sm_0_1_3 fm_0_1_3 nd_0_1_3 sm_2 nd_2 dj_0_1_3__2 rfl rfl rfl rfl rfl (Nat.le_of_ble_eq_true rfl) rm_7_6_12 ⟨Nat.le_of_ble_eq_true rfl, Nat.le_of_ble_eq_true rfl⟩ gX12_fromLine_1.2.2.2.2.2.1 (fun r7759 gnp7761 H locs hr7759 hP hD hS => ?_)
      try dsimp only at hr7759
      refine Kpdr (ws := [(ns, iA G 8 fns), (h0, oX12 nw nk mhasKept nt mtaped nr mrowMany mroundOf mroundFrom 0 nm mfromHour mtoHour ns mfrom mto msort misFault mdeep mcoded mlines nl nc nF np ntr nb mbestCost nso nsi nit nsh nsf nss nrc mtraced mdealer mnumber mwhose msize misParted), (nw, iA G 1662 fnw), (np, iA G 100 gnp7761)]) hP hD (fun hP hD => ?_)
      rcases hr7759 with ⟨rfl, a7762⟩ | ⟨rfl, a7762⟩
      · refine lv_if_ne (tgt := 33) hx hb gX12_fromLine_1.2.2.2.2.2.2.1 (by decide) (fun _ => ?_) (fun c9 => absurd c9 (by decide))
        obtain ⟨jj9, jw9, eL9, hw9, g9⟩ := (LVX.mk hlb a7762).2 (hsx.symm.trans ((nI_eq (b := 2) (by omega) (by decide)).mp c_17_7758))
        refine lv_iload hx hb gX12_fromLine_1.2.2.2.2.2.2.2.2.2 (lv_at0 hl) ?_
        refine lv_iconst (v := 2) hx hb gX12_fromLine_2.1 (by decide) ?_
        refine lv_icmp_ne (tgt := 49) hx hb gX12_fromLine_2.2.1 (by decide) (fun c9 => absurd (c_17_7758) c9) (fun _ => ?_)
        refine lv_aload_n hx hb gX12_fromLine_2.2.2.1 rfl (lv_at1 hl) ?_
        refine lv_iload_n hx hb gX12_fromLine_2.2.2.2.1 rfl (lv_at2 hl) ?_
        refine lv_iload_n hx hb gX12_fromLine_2.2.2.2.2.1 rfl (lv_at3 hl) ?_
        refine lv_iconst (v := 2) hx hb gX12_fromLine_2.2.2.2.2.2.1 (by decide) ?_
        refine pV hC hK hl hP hD (m_lineOf l G h0 jv jl 2 nw nk mhasKept nt mtaped nr mrowMany mroundOf mroundFrom 0 nm mfromHour mtoHour ns mfrom mto msort misFault mdeep mcoded mlines nl nc nF np ntr nb mbestCost nso nsi nit nsh nsf nss nrc mtraced mdealer mnumber mwhose msize misParted fnw (hjv) (hjl) (by omega)) si_X12_193 [1, 2] sm_1_2 fm_1_2 nd_1_2 rfl rfl rfl rfl rfl (Nat.le_of_ble_eq_true rfl) rm_7_1_4 ⟨by first | exact Nat.le_of_ble_eq_true rfl | exact Nat.zero_le _, by first | exact Nat.le_of_ble_eq_true rfl | exact Nat.zero_le _⟩ gX12_fromLine_2.2.2.2.2.2.2.1 (Keqr ?_)
        refine eqi (x1 := nI jw9) (f2.trans g9) ?_
        refine lv_goto (tgt := 61) hx hb gX12_fromLine_2.2.2.2.2.2.2.2.1 (by decide) ?_
        refine lv_istore (lv' := [(5, .int (nI jw9)), (4, .int (nI so)), (0, .ref h0), (1, .int (nI jv)), (2, .int (nI jl)), (3, .int (nI je))]) hx hb gX12_fromLine_3.2.2.2.2.2.2.1 hl (by decide) rfl (fun ls hl => ?_)
        refine lv_iload hx hb gX12_fromLine_3.2.2.2.2.2.2.2.1 (lv_at1 hl) ?_
        refine lv_iconst (v := 2) hx hb gX12_fromLine_3.2.2.2.2.2.2.2.2.1 (by decide) ?_
        refine lv_icmp_eq (tgt := 76) hx hb gX12_fromLine_3.2.2.2.2.2.2.2.2.2 (by decide) (fun _ => ?_) (fun c9 => absurd (c_17_7758) c9)
        refine lv_iload hx hb gX12_fromLine_4.2.2.2.1 (lv_at0 hl) ?_
        refine lv_goto (tgt := 91) hx hb gX12_fromLine_4.2.2.2.2.1 (by decide) ?_
        refine toQ hQ0 ?_
        exact RI (v := nI jw9) hC hP hD hS [1, 2, 0, 3] gnp7761 rfl rfl (by decide) (⟨_, FLQ.ask eL9 hw9, rfl⟩) rfl gX12_fromLine_5.2.2
      · refine lv_if_ne (tgt := 33) hx hb gX12_fromLine_1.2.2.2.2.2.2.1 (by decide) (fun c9 => absurd (by decide) c9) (fun _ => ?_)
        refine lv_ldc hx hb hown (hB _ m_1204) gX12_fromLine_1.2.2.2.2.2.2.2.1 ?_
        refine toQ hQ0 ?_
        exact RI (v := 100000) hC hP hD hS [1, 2, 0, 3] gnp7761 rfl rfl (by decide) (⟨_, Or.inl ⟨LVX.n a7762, rfl⟩, rfl⟩) rfl gX12_fromLine_1.2.2.2.2.2.2.2.2.1
def K_m_knewByX (l : Launch) (G : GG) (kq : Nat) (k6 : Nat) (h0 : Nat) (je : Nat) (jt : Nat) (su : Int32) (nw : Nat) (nk : Nat) (mhasKept : Int32) (nt : Nat) (mtaped : Int32) (nr : Nat) (mrowMany : Int32) (mroundOf : Int32) (mroundFrom : Int32) (nm : Nat) (mfromHour : Int32) (mtoHour : Int32) (ns : Nat) (mfrom : Int32) (mto : Int32) (msort : Int32) (misFault : Int32) (mdeep : Int32) (mcoded : Int32) (mlines : Int32) (nl : Nat) (nc : Nat) (nF : Nat) (np : Nat) (ntr : Nat) (nb : Nat) (mbestCost : Int32) (nso : Nat) (nsi : Nat) (nit : Nat) (nsh : Nat) (nsf : Nat) (nss : Nat) (nrc : Nat) (mtraced : Int32) (mdealer : Int32) (mnumber : Int32) (mwhose : Int32) (msize : Int32) (misParted : Int32) (fnw : Nat → Int32) (fnm : Nat → Int32) : Prop := MI l G yX12_knewBy cX12_knewBy 7 (some .int) 5 0 0 [.ref h0, .int (nI je), .int (nI jt), .int su] [(h0, oX12 nw nk mhasKept nt mtaped nr mrowMany mroundOf mroundFrom 0 nm mfromHour mtoHour ns mfrom mto msort misFault mdeep mcoded mlines nl nc nF np ntr nb mbestCost nso nsi nit nsh nsf nss nrc mtraced mdealer mnumber mwhose msize misParted), (nw, iA G 1662 fnw), (nm, iA G 36 fnm)] (fun (r : Int32) (u : Int32 × Int32 × (Nat → Int32)) => (∃ (r9:Int32), (ARV 100000 (TOF (TCD (KST (shf fnw 104) (VSE fnw kq) (fnw 3).toInt k6) (shf fnw 104) (VSE fnw kq) (shf fnw 32) (shf fnw 12) k6 kq je su jt)) r9) ∧ r = r9) ∧ (MB u.2.2)) (fun u : Int32 × Int32 × (Nat → Int32) => [(h0, oX12 nw nk mhasKept nt mtaped nr mrowMany mroundOf mroundFrom 0 nm u.1 u.2.1 ns mfrom mto msort misFault mdeep mcoded mlines nl nc nF np ntr nb mbestCost nso nsi nit nsh nsf nss nrc mtraced mdealer mnumber mwhose msize misParted), (nw, iA G 1662 fnw), (nm, iA G 36 u.2.2)])
set_option maxHeartbeats 4000000 in
set_option maxRecDepth 100000 in
theorem m_knewByX (l : Launch) (G : GG) (kq : Nat) (k6 : Nat) (h0 : Nat) (je : Nat) (jt : Nat) (su : Int32) (nw : Nat) (nk : Nat) (mhasKept : Int32) (nt : Nat) (mtaped : Int32) (nr : Nat) (mrowMany : Int32) (mroundOf : Int32) (mroundFrom : Int32) (nm : Nat) (mfromHour : Int32) (mtoHour : Int32) (ns : Nat) (mfrom : Int32) (mto : Int32) (msort : Int32) (misFault : Int32) (mdeep : Int32) (mcoded : Int32) (mlines : Int32) (nl : Nat) (nc : Nat) (nF : Nat) (np : Nat) (ntr : Nat) (nb : Nat) (mbestCost : Int32) (nso : Nat) (nsi : Nat) (nit : Nat) (nsh : Nat) (nsf : Nat) (nss : Nat) (nrc : Nat) (mtraced : Int32) (mdealer : Int32) (mnumber : Int32) (mwhose : Int32) (msize : Int32) (misParted : Int32) (fnw : Nat → Int32) (fnm : Nat → Int32) (hM : MB fnm) (hN : NI fnw) (hgp : GPRm (fnw 3)) (ekq : fnw 5 = nI kq) (hkq : kq ≤ 12) (e6 : fnw 6 = nI k6) (hk6 : k6 ≤ 24) (hje : je < 10) (hjt : jt < 8) : K_m_knewByX l G kq k6 h0 je jt su nw nk mhasKept nt mtaped nr mrowMany mroundOf mroundFrom nm mfromHour mtoHour ns mfrom mto msort misFault mdeep mcoded mlines nl nc nF np ntr nb mbestCost nso nsi nit nsh nsf nss nrc mtraced mdealer mnumber mwhose msize misParted fnw fnm := by
  refine MI.start (by decide +kernel) (Nat.le_of_ble_eq_true rfl) ?_
  intro p e s m below meth c A ls hC hK hP hD hS hA hl
  refine absQ (fun Q0 hQ0 => ?_)
  have hl : lv_has ls 7 [(0, .ref h0), (1, .int (nI je)), (2, .int (nI jt)), (3, .int su)] := hl
  refine Kan8 hC (fun hx hb hr hml hB hown hlocks hnm => ?_)
  refine lv_aload_n hx hb gX12_knewBy_0.1 rfl (lv_at0 hl) ?_
  refine iV (wr := []) hC hK hl hP hD hS hA (m_findClocksX l G kq k6 h0 nw nk mhasKept nt mtaped nr mrowMany mroundOf mroundFrom nm mfromHour mtoHour ns mfrom mto msort misFault mdeep mcoded mlines nl nc nF np ntr nb mbestCost nso nsi nit nsh nsf nss nrc mtraced mdealer mnumber mwhose msize misParted fnw fnm (hN) (hgp) (ekq) (hkq) (e6) (hk6)) si_X12_148 [0, 1, 2] [] sm_0_1_2 fm_0_1_2 nd_0_1_2 rfl rfl (by decide) rfl rfl rfl rfl rfl (Nat.le_of_ble_eq_true rfl) rm_5_4_7 ⟨Nat.le_of_ble_eq_true rfl, Nat.le_of_ble_eq_true rfl⟩ gX12_knewBy_0.2.1 (fun r7765 gnm7767 H locs hr7765 hP hD hS => ?_)
  try dsimp only at hr7765
  refine Kpdr (ws := [(h0, oX12 nw nk mhasKept nt mtaped nr mrowMany mroundOf mroundFrom 0 nm mfromHour mtoHour ns mfrom mto msort misFault mdeep mcoded mlines nl nc nF np ntr nb mbestCost nso nsi nit nsh nsf nss nrc mtraced mdealer mnumber mwhose msize misParted), (nw, iA G 1662 fnw), (nm, iA G 36 gnm7767)]) hP hD (fun hP hD => ?_)
  obtain ⟨hr7765, w7768⟩ := hr7765
  rcases hr7765 with ⟨rfl, a7769⟩ | ⟨rfl, a7769⟩
  · refine lv_istore (lv' := [(4, .int 1), (0, .ref h0), (1, .int (nI je)), (2, .int (nI jt)), (3, .int su)]) hx hb gX12_knewBy_0.2.2.1 hl (by decide) rfl (fun ls hl => ?_)
    refine lv_ldc hx hb hown (hB _ m_1204) gX12_knewBy_0.2.2.2.1 ?_
    refine lv_istore (lv' := [(5, .int 100000), (4, .int 1), (0, .ref h0), (1, .int (nI je)), (2, .int (nI jt)), (3, .int su)]) hx hb gX12_knewBy_0.2.2.2.2.1 hl (by decide) rfl (fun ls hl => ?_)
    refine lv_iconst (v := 0) hx hb gX12_knewBy_0.2.2.2.2.2.1 (by decide) ?_
    refine lv_istore (lv' := [(6, .int 0), (5, .int 100000), (4, .int 1), (0, .ref h0), (1, .int (nI je)), (2, .int (nI jt)), (3, .int su)]) hx hb gX12_knewBy_0.2.2.2.2.2.2.1 hl (by decide) rfl (fun ls hl => ?_)
    have hsl9 : 0 ≤ (shf fnw 12 (je * 2 + 1)).toInt ∧ (shf fnw 12 (je * 2 + 1)).toInt ≤ 48 := NI.slow hN (by omega)
    have keyP : ∀ (nP kP : Nat) (be : Int32) (vfh : Int32) (vth : Int32) (H : Heap) (locs : List Loc) (ls : Array Slot), kP + nP = kq → (LST9 (TCD (KST (shf fnw 104) (VSE fnw kq) (fnw 3).toInt k6) (shf fnw 104) (VSE fnw kq) (shf fnw 32) (shf fnw 12) k6 kP je su jt) 100000 be) → va_PD G A [(h0, oX12 nw nk mhasKept nt mtaped nr mrowMany mroundOf mroundFrom 0 nm vfh vth ns mfrom mto msort misFault mdeep mcoded mlines nl nc nF np ntr nb mbestCost nso nsi nit nsh nsf nss nrc mtraced mdealer mnumber mwhose msize misParted), (nw, iA G 1662 fnw), (nm, iA G 36 gnm7767)] H → va_S A s.heap H locs → lv_has ls 7 [(6, .int (nI kP)), (5, .int be), (4, .int 1), (0, .ref h0), (1, .int (nI je)), (2, .int (nI jt)), (3, .int su)] → W p l e (RM 5 0 0) s m ([.ref h0, .int (nI je), .int (nI jt), .int su] : List Value).toArray below meth c H locs 0 0 Q0 (F0 m 13 ls []) := by
      intro nP
      induction nP with
      | zero =>
        intro kP be vfh vth H locs ls hkP hle hPD hS hl
        refine Kan2 hPD (fun hP hD => ?_)
        obtain rfl : kq = kP := by omega
        have hl : lv_has ls 7 [(6, .int (nI kq)), (5, .int be), (4, .int 1), (0, .ref h0), (1, .int (nI je)), (2, .int (nI jt)), (3, .int su)] := hl
        refine lv_iload hx hb gX12_knewBy_0.2.2.2.2.2.2.2.1 (lv_at0 hl) ?_
        refine lv_aload_n hx hb gX12_knewBy_0.2.2.2.2.2.2.2.2.1 rfl (lv_at3 hl) ?_
        refine gf_X12_9 hC rfl hK hP 0 rfl rfl gX12_knewBy_0.2.2.2.2.2.2.2.2.2 ?_
        refine lv_iconst (v := 5) hx hb gX12_knewBy_1.1 (by decide) ?_
        refine ald hC hK hP 1 rfl (vin (by decide +kernel)) (k := 5) (by decide +kernel) (v := nI kq) (ekq) gX12_knewBy_1.2.1 ?_
        refine lv_icmp_ge (tgt := 78) hx hb gX12_knewBy_1.2.2.1 (by decide) (fun _ => ?_) (fun c9 => absurd (Int32.le_refl _) c9)
        refine lv_iload hx hb gX12_knewBy_3.2.2.2.2.2.2.2.2.1 (lv_at1 hl) ?_
        refine toQ hQ0 ?_
        exact RI (v := be) hC hP hD hS [0, 1, 2] (vfh, vth, gnm7767) rfl rfl (by decide) (⟨⟨_, LST9.tof hle, rfl⟩, by first | assumption | exact hM⟩) rfl gX12_knewBy_3.2.2.2.2.2.2.2.2.2
      | succ nP ihP =>
        intro kP be vfh vth H locs ls hkP hle hPD hS hl
        refine Kan2 hPD (fun hP hD => ?_)
        refine lv_iload hx hb gX12_knewBy_0.2.2.2.2.2.2.2.1 (lv_at0 hl) ?_
        refine lv_aload_n hx hb gX12_knewBy_0.2.2.2.2.2.2.2.2.1 rfl (lv_at3 hl) ?_
        refine gf_X12_9 hC rfl hK hP 0 rfl rfl gX12_knewBy_0.2.2.2.2.2.2.2.2.2 ?_
        refine lv_iconst (v := 5) hx hb gX12_knewBy_1.1 (by decide) ?_
        refine ald hC hK hP 1 rfl (vin (by decide +kernel)) (k := 5) (by decide +kernel) (v := nI kq) (ekq) gX12_knewBy_1.2.1 ?_
        refine lv_icmp_ge (tgt := 78) hx hb gX12_knewBy_1.2.2.1 (by decide) (fun c9 => absurd c9 (nI_ge (a := kP) (b := kq) (by omega) (by omega))) (fun _ => ?_)
        refine lv_aload_n hx hb gX12_knewBy_1.2.2.2.1 rfl (lv_at3 hl) ?_
        refine lv_iload hx hb gX12_knewBy_1.2.2.2.2.1 (lv_at0 hl) ?_
        refine lv_iconst (v := 2) hx hb gX12_knewBy_1.2.2.2.2.2.1 (by decide) ?_
        refine pV hC hK hl hP hD (m_paper l G h0 kP 2 nw nk mhasKept nt mtaped nr mrowMany mroundOf mroundFrom 0 nm vfh vth ns mfrom mto msort misFault mdeep mcoded mlines nl nc nF np ntr nb mbestCost nso nsi nit nsh nsf nss nrc mtraced mdealer mnumber mwhose msize misParted fnw (by omega) (by omega)) si_X12_88 [0, 1] sm_0_1 fm_0_1 nd_0_1 rfl rfl rfl rfl rfl (Nat.le_of_ble_eq_true rfl) rm_5_1_3 ⟨by first | exact Nat.le_of_ble_eq_true rfl | exact Nat.zero_le _, by first | exact Nat.le_of_ble_eq_true rfl | exact Nat.zero_le _⟩ gX12_knewBy_1.2.2.2.2.2.2.1 (Keqr ?_)
        refine lv_iload_n hx hb gX12_knewBy_1.2.2.2.2.2.2.2.1 rfl (lv_at5 hl) ?_
        refine pS hC hK hl (m_has l G (fnw (32 + 6 * kP + 2)) (nI jt)) si_X12_99 rfl rfl (Nat.le_of_ble_eq_true rfl) rm_5_1_2 ⟨by first | exact Nat.le_of_ble_eq_true rfl | exact Nat.zero_le _, by first | exact Nat.le_of_ble_eq_true rfl | exact Nat.zero_le _⟩ gX12_knewBy_1.2.2.2.2.2.2.2.2.1 (Kors (Keqa fun a7773 => ?_) (Keqa fun a7773 => ?_))
        · refine lv_if_eq (tgt := 72) hx hb gX12_knewBy_1.2.2.2.2.2.2.2.2.2 (by decide) (fun c9 => absurd c9 (by decide)) (fun _ => ?_)
          refine lv_aload_n hx hb gX12_knewBy_2.1 rfl (lv_at3 hl) ?_
          refine lv_iload hx hb gX12_knewBy_2.2.1 (lv_at0 hl) ?_
          refine lv_iload_n hx hb gX12_knewBy_2.2.2.1 rfl (lv_at4 hl) ?_
          refine lv_iload hx hb gX12_knewBy_2.2.2.2.1 (lv_at2 hl) ?_
          refine pV hC hK hl hP hD (m_inHandC l G k6 h0 kP je nw nk mhasKept nt mtaped nr mrowMany mroundOf mroundFrom 0 nm vfh vth ns mfrom mto msort misFault mdeep mcoded mlines nl nc nF np ntr nb mbestCost nso nsi nit nsh nsf nss nrc mtraced mdealer mnumber mwhose msize misParted fnw (e6) (hk6) (by omega)) si_X12_171 [0, 1] sm_0_1 fm_0_1 nd_0_1 rfl rfl rfl rfl rfl (Nat.le_of_ble_eq_true rfl) rm_5_4_4 ⟨by first | exact Nat.le_of_ble_eq_true rfl | exact Nat.zero_le _, by first | exact Nat.le_of_ble_eq_true rfl | exact Nat.zero_le _⟩ gX12_knewBy_2.2.2.2.2.1 (Keqr ?_)
          refine lv_if_eq (tgt := 72) hx hb gX12_knewBy_2.2.2.2.2.2.1 (by decide) (fun _ => ?_) (fun c9 => absurd (by decide) c9)
          refine lv_iinc (v := nI (kP + 1)) (lv' := [(6, .int (nI (kP + 1))), (5, .int be), (4, .int 1), (0, .ref h0), (1, .int (nI je)), (2, .int (nI jt)), (3, .int su)]) hx hb gX12_knewBy_3.2.2.2.2.2.2.1 hl (k := 0) rfl (nI_1 _) (by decide) rfl (fun ls hl => ?_)
          refine lv_goto (tgt := 13) hx hb gX12_knewBy_3.2.2.2.2.2.2.2.1 (by decide) ?_
          have hst9 : LST9 (TCD (KST (shf fnw 104) (VSE fnw kq) (fnw 3).toInt k6) (shf fnw 104) (VSE fnw kq) (shf fnw 32) (shf fnw 12) k6 (kP + 1) je su jt) 100000 be := hle.sk (TC1.n2 (Or.inl a7769))
          exact ihP (kP + 1) be vfh vth _ _ _ (by omega) (by first | assumption | exact Or.inl rfl | exact Or.inr rfl | exact LST9.zero) (And.intro hP hD) hS (lv_sub hl [0, 1, 2, 3, 4, 5, 6] rfl)
        · refine lv_if_eq (tgt := 72) hx hb gX12_knewBy_1.2.2.2.2.2.2.2.2.2 (by decide) (fun _ => ?_) (fun c9 => absurd (by decide) c9)
          refine lv_iinc (v := nI (kP + 1)) (lv' := [(6, .int (nI (kP + 1))), (5, .int be), (4, .int 1), (0, .ref h0), (1, .int (nI je)), (2, .int (nI jt)), (3, .int su)]) hx hb gX12_knewBy_3.2.2.2.2.2.2.1 hl (k := 0) rfl (nI_1 _) (by decide) rfl (fun ls hl => ?_)
          refine lv_goto (tgt := 13) hx hb gX12_knewBy_3.2.2.2.2.2.2.2.1 (by decide) ?_
          have hst9 : LST9 (TCD (KST (shf fnw 104) (VSE fnw kq) (fnw 3).toInt k6) (shf fnw 104) (VSE fnw kq) (shf fnw 32) (shf fnw 12) k6 (kP + 1) je su jt) 100000 be := hle.sk (TC1.n1 (THM.no a7773))
          exact ihP (kP + 1) be vfh vth _ _ _ (by omega) (by first | assumption | exact Or.inl rfl | exact Or.inr rfl | exact LST9.zero) (And.intro hP hD) hS (lv_sub hl [0, 1, 2, 3, 4, 5, 6] rfl)
    exact keyP kq 0 100000 mfromHour mtoHour _ _ _ (by omega) (by first | assumption | exact Or.inl rfl | exact Or.inr rfl | exact LST9.zero) (And.intro hP hD) hS (lv_sub hl [0, 1, 2, 3, 4, 5, 6] rfl)
  · refine lv_istore (lv' := [(4, .int 0), (0, .ref h0), (1, .int (nI je)), (2, .int (nI jt)), (3, .int su)]) hx hb gX12_knewBy_0.2.2.1 hl (by decide) rfl (fun ls hl => ?_)
    refine lv_ldc hx hb hown (hB _ m_1204) gX12_knewBy_0.2.2.2.1 ?_
    refine lv_istore (lv' := [(5, .int 100000), (4, .int 0), (0, .ref h0), (1, .int (nI je)), (2, .int (nI jt)), (3, .int su)]) hx hb gX12_knewBy_0.2.2.2.2.1 hl (by decide) rfl (fun ls hl => ?_)
    refine lv_iconst (v := 0) hx hb gX12_knewBy_0.2.2.2.2.2.1 (by decide) ?_
    refine lv_istore (lv' := [(6, .int 0), (5, .int 100000), (4, .int 0), (0, .ref h0), (1, .int (nI je)), (2, .int (nI jt)), (3, .int su)]) hx hb gX12_knewBy_0.2.2.2.2.2.2.1 hl (by decide) rfl (fun ls hl => ?_)
    have hsl9 : 0 ≤ (shf fnw 12 (je * 2 + 1)).toInt ∧ (shf fnw 12 (je * 2 + 1)).toInt ≤ 48 := NI.slow hN (by omega)
    have keyP : ∀ (nP kP : Nat) (be : Int32) (vfh : Int32) (vth : Int32) (H : Heap) (locs : List Loc) (ls : Array Slot), kP + nP = kq → (LST9 (TCD (KST (shf fnw 104) (VSE fnw kq) (fnw 3).toInt k6) (shf fnw 104) (VSE fnw kq) (shf fnw 32) (shf fnw 12) k6 kP je su jt) 100000 be) → va_PD G A [(h0, oX12 nw nk mhasKept nt mtaped nr mrowMany mroundOf mroundFrom 0 nm vfh vth ns mfrom mto msort misFault mdeep mcoded mlines nl nc nF np ntr nb mbestCost nso nsi nit nsh nsf nss nrc mtraced mdealer mnumber mwhose msize misParted), (nw, iA G 1662 fnw), (nm, iA G 36 gnm7767)] H → va_S A s.heap H locs → lv_has ls 7 [(6, .int (nI kP)), (5, .int be), (4, .int 0), (0, .ref h0), (1, .int (nI je)), (2, .int (nI jt)), (3, .int su)] → W p l e (RM 5 0 0) s m ([.ref h0, .int (nI je), .int (nI jt), .int su] : List Value).toArray below meth c H locs 0 0 Q0 (F0 m 13 ls []) := by
      intro nP
      induction nP with
      | zero =>
        intro kP be vfh vth H locs ls hkP hle hPD hS hl
        refine Kan2 hPD (fun hP hD => ?_)
        obtain rfl : kq = kP := by omega
        have hl : lv_has ls 7 [(6, .int (nI kq)), (5, .int be), (4, .int 0), (0, .ref h0), (1, .int (nI je)), (2, .int (nI jt)), (3, .int su)] := hl
        refine lv_iload hx hb gX12_knewBy_0.2.2.2.2.2.2.2.1 (lv_at0 hl) ?_
        refine lv_aload_n hx hb gX12_knewBy_0.2.2.2.2.2.2.2.2.1 rfl (lv_at3 hl) ?_
        refine gf_X12_9 hC rfl hK hP 0 rfl rfl gX12_knewBy_0.2.2.2.2.2.2.2.2.2 ?_
        refine lv_iconst (v := 5) hx hb gX12_knewBy_1.1 (by decide) ?_
        refine ald hC hK hP 1 rfl (vin (by decide +kernel)) (k := 5) (by decide +kernel) (v := nI kq) (ekq) gX12_knewBy_1.2.1 ?_
        refine lv_icmp_ge (tgt := 78) hx hb gX12_knewBy_1.2.2.1 (by decide) (fun _ => ?_) (fun c9 => absurd (Int32.le_refl _) c9)
        refine lv_iload hx hb gX12_knewBy_3.2.2.2.2.2.2.2.2.1 (lv_at1 hl) ?_
        refine toQ hQ0 ?_
        exact RI (v := be) hC hP hD hS [0, 1, 2] (vfh, vth, gnm7767) rfl rfl (by decide) (⟨⟨_, LST9.tof hle, rfl⟩, by first | assumption | exact hM⟩) rfl gX12_knewBy_3.2.2.2.2.2.2.2.2.2
      | succ nP ihP =>
        intro kP be vfh vth H locs ls hkP hle hPD hS hl
        refine Kan2 hPD (fun hP hD => ?_)
        refine lv_iload hx hb gX12_knewBy_0.2.2.2.2.2.2.2.1 (lv_at0 hl) ?_
        refine lv_aload_n hx hb gX12_knewBy_0.2.2.2.2.2.2.2.2.1 rfl (lv_at3 hl) ?_
        refine gf_X12_9 hC rfl hK hP 0 rfl rfl gX12_knewBy_0.2.2.2.2.2.2.2.2.2 ?_
        refine lv_iconst (v := 5) hx hb gX12_knewBy_1.1 (by decide) ?_
        refine ald hC hK hP 1 rfl (vin (by decide +kernel)) (k := 5) (by decide +kernel) (v := nI kq) (ekq) gX12_knewBy_1.2.1 ?_
        refine lv_icmp_ge (tgt := 78) hx hb gX12_knewBy_1.2.2.1 (by decide) (fun c9 => absurd c9 (nI_ge (a := kP) (b := kq) (by omega) (by omega))) (fun _ => ?_)
        refine lv_aload_n hx hb gX12_knewBy_1.2.2.2.1 rfl (lv_at3 hl) ?_
        refine lv_iload hx hb gX12_knewBy_1.2.2.2.2.1 (lv_at0 hl) ?_
        refine lv_iconst (v := 2) hx hb gX12_knewBy_1.2.2.2.2.2.1 (by decide) ?_
        refine pV hC hK hl hP hD (m_paper l G h0 kP 2 nw nk mhasKept nt mtaped nr mrowMany mroundOf mroundFrom 0 nm vfh vth ns mfrom mto msort misFault mdeep mcoded mlines nl nc nF np ntr nb mbestCost nso nsi nit nsh nsf nss nrc mtraced mdealer mnumber mwhose msize misParted fnw (by omega) (by omega)) si_X12_88 [0, 1] sm_0_1 fm_0_1 nd_0_1 rfl rfl rfl rfl rfl (Nat.le_of_ble_eq_true rfl) rm_5_1_3 ⟨by first | exact Nat.le_of_ble_eq_true rfl | exact Nat.zero_le _, by first | exact Nat.le_of_ble_eq_true rfl | exact Nat.zero_le _⟩ gX12_knewBy_1.2.2.2.2.2.2.1 (Keqr ?_)
        refine lv_iload_n hx hb gX12_knewBy_1.2.2.2.2.2.2.2.1 rfl (lv_at5 hl) ?_
        refine pS hC hK hl (m_has l G (fnw (32 + 6 * kP + 2)) (nI jt)) si_X12_99 rfl rfl (Nat.le_of_ble_eq_true rfl) rm_5_1_2 ⟨by first | exact Nat.le_of_ble_eq_true rfl | exact Nat.zero_le _, by first | exact Nat.le_of_ble_eq_true rfl | exact Nat.zero_le _⟩ gX12_knewBy_1.2.2.2.2.2.2.2.2.1 (Kors (Keqa fun a7779 => ?_) (Keqa fun a7779 => ?_))
        · refine lv_if_eq (tgt := 72) hx hb gX12_knewBy_1.2.2.2.2.2.2.2.2.2 (by decide) (fun c9 => absurd c9 (by decide)) (fun _ => ?_)
          refine lv_aload_n hx hb gX12_knewBy_2.1 rfl (lv_at3 hl) ?_
          refine lv_iload hx hb gX12_knewBy_2.2.1 (lv_at0 hl) ?_
          refine lv_iload_n hx hb gX12_knewBy_2.2.2.1 rfl (lv_at4 hl) ?_
          refine lv_iload hx hb gX12_knewBy_2.2.2.2.1 (lv_at2 hl) ?_
          refine iV (wr := []) hC hK hl hP hD hS hA (m_inHandL l G kq k6 h0 kP je nw nk mhasKept nt mtaped nr mrowMany mroundOf mroundFrom nm vfh vth ns mfrom mto msort misFault mdeep mcoded mlines nl nc nF np ntr nb mbestCost nso nsi nit nsh nsf nss nrc mtraced mdealer mnumber mwhose msize misParted fnw gnm7767 (hN) (e6) (hk6) (ekq) (by omega) (hkq) (hje)) si_X12_171 [0, 1, 2] [] sm_0_1_2 fm_0_1_2 nd_0_1_2 rfl rfl (by decide) rfl rfl rfl rfl rfl (Nat.le_of_ble_eq_true rfl) rm_5_4_4 ⟨Nat.le_of_ble_eq_true rfl, Nat.le_of_ble_eq_true rfl⟩ gX12_knewBy_2.2.2.2.2.1 (fun r7780 => Ktu2 fun fh17782 th17783 => ?_)
          intro H locs hr7780 hP hD hS
          try dsimp only at hr7780
          refine Kpdr (ws := [(h0, oX12 nw nk mhasKept nt mtaped nr mrowMany mroundOf mroundFrom 0 nm fh17782 th17783 ns mfrom mto msort misFault mdeep mcoded mlines nl nc nF np ntr nb mbestCost nso nsi nit nsh nsf nss nrc mtraced mdealer mnumber mwhose msize misParted), (nw, iA G 1662 fnw), (nm, iA G 36 gnm7767)]) hP hD (fun hP hD => ?_)
          rcases hr7780 with ⟨rfl, a7784⟩ | ⟨rfl, a7784⟩
          · refine lv_if_eq (tgt := 72) hx hb gX12_knewBy_2.2.2.2.2.2.1 (by decide) (fun c9 => absurd c9 (by decide)) (fun _ => ?_)
            refine lv_iload hx hb gX12_knewBy_2.2.2.2.2.2.2.1 (lv_at1 hl) ?_
            refine lv_iload_n hx hb gX12_knewBy_2.2.2.2.2.2.2.2.1 rfl (lv_at6 hl) ?_
            refine lv_if_eq (tgt := 63) hx hb gX12_knewBy_2.2.2.2.2.2.2.2.2.1 (by decide) (fun c_53_7785 => ?_) (fun c_53_7785 => ?_)
            · refine lv_aload_n hx hb gX12_knewBy_3.2.2.1 rfl (lv_at3 hl) ?_
              refine gf_X12_161 hC rfl hK hP 0 rfl rfl gX12_knewBy_3.2.2.2.1 ?_
              refine va_mmin hx hb (hml.trans hl.1.symm) hown (hB _ m_1165) (hB _ m_373) (hB _ m_105) (hB _ m_374) (Nat.le_of_ble_eq_true rfl) (Nat.le_of_ble_eq_true rfl) (by first | exact Nat.le_of_ble_eq_true rfl | exact Nat.zero_le _)  (by first | exact Nat.le_of_ble_eq_true rfl | exact Nat.zero_le _) gX12_knewBy_3.2.2.2.2.1 ?_
              refine eqi (x1 := IMN be fh17782) (rfl) ?_
              refine lv_istore (lv' := [(5, .int (IMN be fh17782)), (6, .int (nI kP)), (4, .int 0), (0, .ref h0), (1, .int (nI je)), (2, .int (nI jt)), (3, .int su)]) hx hb gX12_knewBy_3.2.2.2.2.2.1 hl (by decide) rfl (fun ls hl => ?_)
              refine lv_iinc (v := nI (kP + 1)) (lv' := [(6, .int (nI (kP + 1))), (5, .int (IMN be fh17782)), (4, .int 0), (0, .ref h0), (1, .int (nI je)), (2, .int (nI jt)), (3, .int su)]) hx hb gX12_knewBy_3.2.2.2.2.2.2.1 hl (k := 1) rfl (nI_1 _) (by decide) rfl (fun ls hl => ?_)
              refine lv_goto (tgt := 13) hx hb gX12_knewBy_3.2.2.2.2.2.2.2.1 (by decide) ?_
              have hst9 : LST9 (TCD (KST (shf fnw 104) (VSE fnw kq) (fnw 3).toInt k6) (shf fnw 104) (VSE fnw kq) (shf fnw 32) (shf fnw 12) k6 (kP + 1) je su jt) 100000 (IMN be fh17782) := hle.tk (SVL.ofm hN (by omega)) hsl9.1 hsl9.2 (by decide) (TC1.mk (THM.hb (by omega) a7779) (INQ.re (HIQ.rb (by omega) a7769 a7784)) (Or.inl ⟨c_53_7785, rfl⟩))
              exact ihP (kP + 1) (IMN be fh17782) fh17782 th17783 _ _ _ (by omega) (by first | assumption | exact Or.inl rfl | exact Or.inr rfl | exact LST9.zero) (And.intro hP hD) hS (lv_sub hl [0, 1, 2, 3, 4, 5, 6] rfl)
            · refine lv_aload_n hx hb gX12_knewBy_2.2.2.2.2.2.2.2.2.2 rfl (lv_at3 hl) ?_
              refine gf_X12_164 hC rfl hK hP 0 rfl rfl gX12_knewBy_3.1 ?_
              refine lv_goto (tgt := 67) hx hb gX12_knewBy_3.2.1 (by decide) ?_
              refine va_mmin hx hb (hml.trans hl.1.symm) hown (hB _ m_1165) (hB _ m_373) (hB _ m_105) (hB _ m_374) (Nat.le_of_ble_eq_true rfl) (Nat.le_of_ble_eq_true rfl) (by first | exact Nat.le_of_ble_eq_true rfl | exact Nat.zero_le _)  (by first | exact Nat.le_of_ble_eq_true rfl | exact Nat.zero_le _) gX12_knewBy_3.2.2.2.2.1 ?_
              refine eqi (x1 := IMN be th17783) (rfl) ?_
              refine lv_istore (lv' := [(5, .int (IMN be th17783)), (6, .int (nI kP)), (4, .int 0), (0, .ref h0), (1, .int (nI je)), (2, .int (nI jt)), (3, .int su)]) hx hb gX12_knewBy_3.2.2.2.2.2.1 hl (by decide) rfl (fun ls hl => ?_)
              refine lv_iinc (v := nI (kP + 1)) (lv' := [(6, .int (nI (kP + 1))), (5, .int (IMN be th17783)), (4, .int 0), (0, .ref h0), (1, .int (nI je)), (2, .int (nI jt)), (3, .int su)]) hx hb gX12_knewBy_3.2.2.2.2.2.2.1 hl (k := 1) rfl (nI_1 _) (by decide) rfl (fun ls hl => ?_)
              refine lv_goto (tgt := 13) hx hb gX12_knewBy_3.2.2.2.2.2.2.2.1 (by decide) ?_
              have hst9 : LST9 (TCD (KST (shf fnw 104) (VSE fnw kq) (fnw 3).toInt k6) (shf fnw 104) (VSE fnw kq) (shf fnw 32) (shf fnw 12) k6 (kP + 1) je su jt) 100000 (IMN be th17783) := hle.tk (SVL.ofm hN (by omega)) hsl9.1 hsl9.2 (by decide) (TC1.mk (THM.hb (by omega) a7779) (INQ.re (HIQ.rb (by omega) a7769 a7784)) (Or.inr ⟨c_53_7785, rfl⟩))
              exact ihP (kP + 1) (IMN be th17783) fh17782 th17783 _ _ _ (by omega) (by first | assumption | exact Or.inl rfl | exact Or.inr rfl | exact LST9.zero) (And.intro hP hD) hS (lv_sub hl [0, 1, 2, 3, 4, 5, 6] rfl)
          · refine lv_if_eq (tgt := 72) hx hb gX12_knewBy_2.2.2.2.2.2.1 (by decide) (fun _ => ?_) (fun c9 => absurd (by decide) c9)
            refine lv_iinc (v := nI (kP + 1)) (lv' := [(6, .int (nI (kP + 1))), (5, .int be), (4, .int 0), (0, .ref h0), (1, .int (nI je)), (2, .int (nI jt)), (3, .int su)]) hx hb gX12_knewBy_3.2.2.2.2.2.2.1 hl (k := 0) rfl (nI_1 _) (by decide) rfl (fun ls hl => ?_)
            refine lv_goto (tgt := 13) hx hb gX12_knewBy_3.2.2.2.2.2.2.2.1 (by decide) ?_
            have hst9 : LST9 (TCD (KST (shf fnw 104) (VSE fnw kq) (fnw 3).toInt k6) (shf fnw 104) (VSE fnw kq) (shf fnw 32) (shf fnw 12) k6 (kP + 1) je su jt) 100000 be := hle.sk (TC1.n2 (NIQ.rn (by rw [shf_pa, shf_pa]; exact a7784)))
            exact ihP (kP + 1) be fh17782 th17783 _ _ _ (by omega) (by first | assumption | exact Or.inl rfl | exact Or.inr rfl | exact LST9.zero) (And.intro hP hD) hS (lv_sub hl [0, 1, 2, 3, 4, 5, 6] rfl)
        · refine lv_if_eq (tgt := 72) hx hb gX12_knewBy_1.2.2.2.2.2.2.2.2.2 (by decide) (fun _ => ?_) (fun c9 => absurd (by decide) c9)
          refine lv_iinc (v := nI (kP + 1)) (lv' := [(6, .int (nI (kP + 1))), (5, .int be), (4, .int 0), (0, .ref h0), (1, .int (nI je)), (2, .int (nI jt)), (3, .int su)]) hx hb gX12_knewBy_3.2.2.2.2.2.2.1 hl (k := 0) rfl (nI_1 _) (by decide) rfl (fun ls hl => ?_)
          refine lv_goto (tgt := 13) hx hb gX12_knewBy_3.2.2.2.2.2.2.2.1 (by decide) ?_
          have hst9 : LST9 (TCD (KST (shf fnw 104) (VSE fnw kq) (fnw 3).toInt k6) (shf fnw 104) (VSE fnw kq) (shf fnw 32) (shf fnw 12) k6 (kP + 1) je su jt) 100000 be := hle.sk (TC1.n1 (THM.no a7779))
          exact ihP (kP + 1) be vfh vth _ _ _ (by omega) (by first | assumption | exact Or.inl rfl | exact Or.inr rfl | exact LST9.zero) (And.intro hP hD) hS (lv_sub hl [0, 1, 2, 3, 4, 5, 6] rfl)
    exact keyP kq 0 100000 mfromHour mtoHour _ _ _ (by omega) (by first | assumption | exact Or.inl rfl | exact Or.inr rfl | exact LST9.zero) (And.intro hP hD) hS (lv_sub hl [0, 1, 2, 3, 4, 5, 6] rfl)
def K_m_findShouldX (l : Launch) (G : GG) (kq : Nat) (k6 : Nat) (k7 : Nat) (VL : Nat → List LNT) (VC : Nat → Nat → List Int32) (DY : Nat → Int32) (h0 : Nat) (je : Nat) (nw : Nat) (nk : Nat) (mhasKept : Int32) (nt : Nat) (mtaped : Int32) (nr : Nat) (mrowMany : Int32) (mroundOf : Int32) (mroundFrom : Int32) (nm : Nat) (mfromHour : Int32) (mtoHour : Int32) (ns : Nat) (mfrom : Int32) (mto : Int32) (msort : Int32) (misFault : Int32) (mdeep : Int32) (mcoded : Int32) (mlines : Int32) (nl : Nat) (nc : Nat) (nF : Nat) (np : Nat) (ntr : Nat) (nb : Nat) (mbestCost : Int32) (nso : Nat) (nsi : Nat) (nit : Nat) (nsh : Nat) (nsf : Nat) (nss : Nat) (nrc : Nat) (mtraced : Int32) (mdealer : Int32) (mnumber : Int32) (mwhose : Int32) (msize : Int32) (misParted : Int32) (fnw : Nat → Int32) (fnm : Nat → Int32) (fns : Nat → Int32) (fnp : Nat → Int32) : Prop := MV l G yX12_findShould cX12_findShould 7 8 0 0 [.ref h0, .int (nI je)] [(h0, oX12 nw nk mhasKept nt mtaped nr mrowMany mroundOf mroundFrom 0 nm mfromHour mtoHour ns mfrom mto msort misFault mdeep mcoded mlines nl nc nF np ntr nb mbestCost nso nsi nit nsh nsf nss nrc mtraced mdealer mnumber mwhose msize misParted), (nw, iA G 1662 fnw), (nm, iA G 36 fnm), (ns, iA G 8 fns), (np, iA G 100 fnp)] (fun u : Int32 × Int32 × (Nat → Int32) × (Nat → Int32) × (Nat → Int32) => MB u.2.2.1 ∧ ARS 100000 (SHF (KST (shf fnw 104) (VSE fnw kq) (fnw 3).toInt k6) (shf fnw 104) (VSE fnw kq) (shf fnw 32) (shf fnw 12) k6 kq je (LVF (LNF (RLO DY (DAYV (fnw 0) (fnw 1)) k7) VL) (TRF (RLO DY (DAYV (fnw 0) (fnw 1)) k7) VC (FAX (shf fnw 12) (shf fnw 32) (VSE fnw kq) kq je))) (LVN (RLO DY (DAYV (fnw 0) (fnw 1)) k7) VL)) u.2.2.2.1) (fun u : Int32 × Int32 × (Nat → Int32) × (Nat → Int32) × (Nat → Int32) => [(h0, oX12 nw nk mhasKept nt mtaped nr mrowMany mroundOf mroundFrom 0 nm u.1 u.2.1 ns mfrom mto msort misFault mdeep mcoded mlines nl nc nF np ntr nb mbestCost nso nsi nit nsh nsf nss nrc mtraced mdealer mnumber mwhose msize misParted), (nw, iA G 1662 fnw), (nm, iA G 36 u.2.2.1), (ns, iA G 8 u.2.2.2.1), (np, iA G 100 u.2.2.2.2)])
set_option maxHeartbeats 4000000 in
set_option maxRecDepth 100000 in
theorem m_findShouldX (l : Launch) (G : GG) (kq : Nat) (k6 : Nat) (k7 : Nat) (VL : Nat → List LNT) (VC : Nat → Nat → List Int32) (DY : Nat → Int32) (h0 : Nat) (je : Nat) (nw : Nat) (nk : Nat) (mhasKept : Int32) (nt : Nat) (mtaped : Int32) (nr : Nat) (mrowMany : Int32) (mroundOf : Int32) (mroundFrom : Int32) (nm : Nat) (mfromHour : Int32) (mtoHour : Int32) (ns : Nat) (mfrom : Int32) (mto : Int32) (msort : Int32) (misFault : Int32) (mdeep : Int32) (mcoded : Int32) (mlines : Int32) (nl : Nat) (nc : Nat) (nF : Nat) (np : Nat) (ntr : Nat) (nb : Nat) (mbestCost : Int32) (nso : Nat) (nsi : Nat) (nit : Nat) (nsh : Nat) (nsf : Nat) (nss : Nat) (nrc : Nat) (mtraced : Int32) (mdealer : Int32) (mnumber : Int32) (mwhose : Int32) (msize : Int32) (misParted : Int32) (fnw : Nat → Int32) (fnm : Nat → Int32) (fns : Nat → Int32) (fnp : Nat → Int32) (hje : je < 10) (hV : VI fnw) (hM : MB fnm) (hN : NI fnw) (hgp : GPRm (fnw 3)) (ekq : fnw 5 = nI kq) (hkq : kq ≤ 12) (e6 : fnw 6 = nI k6) (hk6 : k6 ≤ 24) (ek7 : fnw 7 = nI k7) (hk7 : k7 ≤ 8) (hVM : VMZ fnw k7 VL VC DY) : K_m_findShouldX l G kq k6 k7 VL VC DY h0 je nw nk mhasKept nt mtaped nr mrowMany mroundOf mroundFrom nm mfromHour mtoHour ns mfrom mto msort misFault mdeep mcoded mlines nl nc nF np ntr nb mbestCost nso nsi nit nsh nsf nss nrc mtraced mdealer mnumber mwhose msize misParted fnw fnm fns fnp := by
  refine MV.start (by decide +kernel) (Nat.le_of_ble_eq_true rfl) ?_
  intro p e s m below meth c A ls hC hK hP hD hS hA hl
  refine absQ (fun Q0 hQ0 => ?_)
  have hl : lv_has ls 7 [(0, .ref h0), (1, .int (nI je))] := hl
  refine Kan8 hC (fun hx hb hr hml hB hown hlocks hnm => ?_)
  refine lv_iconst (v := 0) hx hb gX12_findShould_0.1 (by decide) ?_
  refine lv_istore_n (lv' := [(2, .int 0), (0, .ref h0), (1, .int (nI je))]) hx hb gX12_findShould_0.2.1 rfl hl (by decide) rfl (fun ls hl => ?_)
  have hsl9 : 0 ≤ (shf fnw 12 (je * 2 + 1)).toInt ∧ (shf fnw 12 (je * 2 + 1)).toInt ≤ 48 := NI.slow hN (by omega)
  have hb09 : HBD (S0F (KST (shf fnw 104) (VSE fnw kq) (fnw 3).toInt k6) (shf fnw 104) (VSE fnw kq) (shf fnw 32) (shf fnw 12) k6 kq je) := S0F.hbd (SVL.ofm hN (by omega)) hsl9.1 hsl9.2
  have keyA : ∀ (nA kA : Nat) (vfh : Int32) (vth : Int32) (vA : Nat → Int32) (vS : Nat → Int32) (H : Heap) (locs : List Loc) (ls : Array Slot), kA + nA = 8 → (MB vA) → (TDP 100000 (S0F (KST (shf fnw 104) (VSE fnw kq) (fnw 3).toInt k6) (shf fnw 104) (VSE fnw kq) (shf fnw 32) (shf fnw 12) k6 kq je) vS kA) → va_PD G A [(h0, oX12 nw nk mhasKept nt mtaped nr mrowMany mroundOf mroundFrom 0 nm vfh vth ns mfrom mto msort misFault mdeep mcoded mlines nl nc nF np ntr nb mbestCost nso nsi nit nsh nsf nss nrc mtraced mdealer mnumber mwhose msize misParted), (nw, iA G 1662 fnw), (nm, iA G 36 vA), (ns, iA G 8 vS), (np, iA G 100 fnp)] H → va_S A s.heap H locs → lv_has ls 7 [(2, .int (nI kA)), (0, .ref h0), (1, .int (nI je))] → W p l e (RM 8 0 0) s m ([.ref h0, .int (nI je)] : List Value).toArray below meth c H locs 0 0 Q0 (F0 m 2 ls []) := by
    intro nA
    induction nA with
    | zero =>
      intro kA vfh vth vA vS H locs ls hkA hvA htd hPD hS hl
      refine Kan2 hPD (fun hP hD => ?_)
      obtain rfl : 8 = kA := by omega
      have hl : lv_has ls 7 [(2, .int 8), (0, .ref h0), (1, .int (nI je))] := hl
      refine lv_iload_n hx hb gX12_findShould_0.2.2.1 rfl (lv_at0 hl) ?_
      refine lv_bipush (v := 8) hx hb gX12_findShould_0.2.2.2.1 (by decide) ?_
      refine lv_icmp_ge (tgt := 27) hx hb gX12_findShould_0.2.2.2.2.1 (by decide) (fun _ => ?_) (fun c9 => absurd (by decide) c9)
      refine lv_aload_n hx hb gX12_findShould_1.2.2.2.2.2.2.1 rfl (lv_at1 hl) ?_
      have hdy9 : ∀ v9, v9 < k7 → fnw (176 + 156 * v9 + 0) = DY v9 := fun v9 h9 => (hVM v9 h9).1
      refine pV hC hK hl hP hD (m_rulesX l G k7 DY h0 nw nk mhasKept nt mtaped nr mrowMany mroundOf mroundFrom 0 nm vfh vth ns mfrom mto msort misFault mdeep mcoded mlines nl nc nF np ntr nb mbestCost nso nsi nit nsh nsf nss nrc mtraced mdealer mnumber mwhose msize misParted fnw (hN) (ek7) (hk7) (hdy9)) si_X12_180 [0, 1] sm_0_1 fm_0_1 nd_0_1 rfl rfl rfl rfl rfl (Nat.le_of_ble_eq_true rfl) rm_8_2_3 ⟨by first | exact Nat.le_of_ble_eq_true rfl | exact Nat.zero_le _, by first | exact Nat.le_of_ble_eq_true rfl | exact Nat.zero_le _⟩ gX12_findShould_1.2.2.2.2.2.2.2.1 (Keqr ?_)
      obtain ⟨o9, eo9⟩ : ∃ z9, z9 = (RLO DY (DAYV (fnw 0) (fnw 1)) k7) := ⟨_, rfl⟩
      rcases o9 with _ | v9
      · refine eqi (x1 := (-1)) (congrArg LAT eo9.symm) ?_
        refine lv_istore_n (lv' := [(2, .int (-1)), (0, .ref h0), (1, .int (nI je))]) hx hb gX12_findShould_1.2.2.2.2.2.2.2.2.1 rfl hl (by decide) rfl (fun ls hl => ?_)
        refine lv_iload_n hx hb gX12_findShould_1.2.2.2.2.2.2.2.2.2 rfl (lv_at0 hl) ?_
        refine lv_if_lt (tgt := 40) hx hb gX12_findShould_2.1 (by decide) (fun _ => ?_) (fun c9 => absurd (by decide) c9)
        refine lv_iconst (v := 0) hx hb gX12_findShould_2.2.2.2.1 (by decide) ?_
        refine lv_istore_n (lv' := [(3, .int 0), (2, .int (-1)), (0, .ref h0), (1, .int (nI je))]) hx hb gX12_findShould_2.2.2.2.2.1 rfl hl (by decide) rfl (fun ls hl => ?_)
        refine lv_iload_n hx hb gX12_findShould_2.2.2.2.2.2.1 rfl (lv_at0 hl) ?_
        refine lv_if_eq (tgt := 112) hx hb gX12_findShould_2.2.2.2.2.2.2.1 (by decide) (fun _ => ?_) (fun c9 => absurd (by decide) c9)
        refine toQ hQ0 ?_
        exact RV hC hP hD hS [0, 1, 2, 3, 4] (vfh, vth, vA, vS, fnp) rfl rfl (by decide) (⟨by first | assumption | exact hM, (by unfold SHF; exact PIT.end0 (by rw [← eo9]; rfl) htd)⟩) gX12_findShould_6.2.2.2
      · have hv9 := LTS.lt _ _ eo9.symm
        obtain ⟨ed9, hl9, eb9, hrow9⟩ := hVM v9 hv9
        obtain ⟨n9, hn9⟩ : ∃ z9, z9 = (VL v9).length := ⟨_, rfl⟩
        rw [← hn9] at hl9 eb9 hrow9
        obtain ⟨L8, hL8, eL8, hLN8⟩ := VI.line hV (v := v9) (by omega)
        obtain rfl : L8 = n9 := (nI_eq (by omega) (by omega)).mp (eL8.symm.trans eb9)
        have hlb9 : ∀ i, i < L8 → LVB ((LVF (LNF (RLO DY (DAYV (fnw 0) (fnw 1)) k7) VL) (TRF (RLO DY (DAYV (fnw 0) (fnw 1)) k7) VC (FAX (shf fnw 12) (shf fnw 32) (VSE fnw kq) kq je))) i) := fun i hi => by rw [← eo9]; exact LVX.b (hrow9 i hi).1
        refine eqi (x1 := nI v9) (congrArg LAT eo9.symm) ?_
        refine lv_istore_n (lv' := [(2, .int (nI v9)), (0, .ref h0), (1, .int (nI je))]) hx hb gX12_findShould_1.2.2.2.2.2.2.2.2.1 rfl hl (by decide) rfl (fun ls hl => ?_)
        refine lv_iload_n hx hb gX12_findShould_1.2.2.2.2.2.2.2.2.2 rfl (lv_at0 hl) ?_
        refine lv_if_lt (tgt := 40) hx hb gX12_findShould_2.1 (by decide) (fun c9 => absurd c9 (nI_pos (by omega))) (fun _ => ?_)
        refine lv_iconst (v := 1) hx hb gX12_findShould_2.2.1 (by decide) ?_
        refine lv_goto (tgt := 41) hx hb gX12_findShould_2.2.2.1 (by decide) ?_
        refine lv_istore_n (lv' := [(3, .int 1), (2, .int (nI v9)), (0, .ref h0), (1, .int (nI je))]) hx hb gX12_findShould_2.2.2.2.2.1 rfl hl (by decide) rfl (fun ls hl => ?_)
        have keyW : ∀ (nW : Nat) (eaW : Int32) (w0 : Nat → Int32) (w1 : Nat → Int32) (H : Heap) (locs : List Loc) (ls : Array Slot), ((eaW = 0 ∨ (eaW = 1 ∧ mu w0 < nW)) ∧ ∃ jj, ARS 100000 (PIT (LVF (LNF (RLO DY (DAYV (fnw 0) (fnw 1)) k7) VL) (TRF (RLO DY (DAYV (fnw 0) (fnw 1)) k7) VC (FAX (shf fnw 12) (shf fnw 32) (VSE fnw kq) kq je))) L8 jj (S0F (KST (shf fnw 104) (VSE fnw kq) (fnw 3).toInt k6) (shf fnw 104) (VSE fnw kq) (shf fnw 32) (shf fnw 12) k6 kq je)) w0 ∧ (eaW = 0 → PSS (LVF (LNF (RLO DY (DAYV (fnw 0) (fnw 1)) k7) VL) (TRF (RLO DY (DAYV (fnw 0) (fnw 1)) k7) VC (FAX (shf fnw 12) (shf fnw 32) (VSE fnw kq) kq je))) L8 (PIT (LVF (LNF (RLO DY (DAYV (fnw 0) (fnw 1)) k7) VL) (TRF (RLO DY (DAYV (fnw 0) (fnw 1)) k7) VC (FAX (shf fnw 12) (shf fnw 32) (VSE fnw kq) kq je))) L8 jj (S0F (KST (shf fnw 104) (VSE fnw kq) (fnw 3).toInt k6) (shf fnw 104) (VSE fnw kq) (shf fnw 32) (shf fnw 12) k6 kq je)) = PIT (LVF (LNF (RLO DY (DAYV (fnw 0) (fnw 1)) k7) VL) (TRF (RLO DY (DAYV (fnw 0) (fnw 1)) k7) VC (FAX (shf fnw 12) (shf fnw 32) (VSE fnw kq) kq je))) L8 jj (S0F (KST (shf fnw 104) (VSE fnw kq) (fnw 3).toInt k6) (shf fnw 104) (VSE fnw kq) (shf fnw 32) (shf fnw 12) k6 kq je))) → va_PD G A [(h0, oX12 nw nk mhasKept nt mtaped nr mrowMany mroundOf mroundFrom 0 nm vfh vth ns mfrom mto msort misFault mdeep mcoded mlines nl nc nF np ntr nb mbestCost nso nsi nit nsh nsf nss nrc mtraced mdealer mnumber mwhose msize misParted), (nw, iA G 1662 fnw), (nm, iA G 36 vA), (ns, iA G 8 w0), (np, iA G 100 w1)] H → va_S A s.heap H locs → lv_has ls 7 [(3, .int eaW), (2, .int (nI v9)), (0, .ref h0), (1, .int (nI je))] → W p l e (RM 8 0 0) s m ([.ref h0, .int (nI je)] : List Value).toArray below meth c H locs 0 0 Q0 (F0 m 42 ls []) := by
          intro nW
          induction nW with
          | zero =>
            intro eaW w0 w1 H locs ls hWW hPD hS hl
            refine Kan2 hPD (fun hP hD => ?_)
            obtain rfl : eaW = 0 := hWW.1.elim (fun h => h) (fun h => absurd h.2 (Nat.not_lt_zero _)); obtain ⟨-, jj, hj1, hj2⟩ := hWW
            refine lv_iload_n hx hb gX12_findShould_2.2.2.2.2.2.1 rfl (lv_at0 hl) ?_
            refine lv_if_eq (tgt := 112) hx hb gX12_findShould_2.2.2.2.2.2.2.1 (by decide) (fun _ => ?_) (fun c9 => absurd (by decide) c9)
            refine toQ hQ0 ?_
            exact RV hC hP hD hS [0, 1, 2, 3, 4] (vfh, vth, vA, w0, w1) rfl rfl (by decide) (⟨by first | assumption | exact hM, (by unfold SHF; rw [show LVN (RLO DY (DAYV (fnw 0) (fnw 1)) k7) VL = L8 from (congrArg (fun z9 => LVN z9 VL) eo9.symm).trans hn9.symm]; exact PIT.end9 hlb9 hj1 (hj2 rfl))⟩) gX12_findShould_6.2.2.2
          | succ nW ihW =>
            intro eaW w0 w1 H locs ls hWW hPD hS hl
            refine Kan2 hPD (fun hP hD => ?_)
            obtain ⟨hWW, jj, hj1, hj2⟩ := hWW; rcases hWW with rfl | ⟨rfl, hWW⟩
            · refine lv_iload_n hx hb gX12_findShould_2.2.2.2.2.2.1 rfl (lv_at0 hl) ?_
              refine lv_if_eq (tgt := 112) hx hb gX12_findShould_2.2.2.2.2.2.2.1 (by decide) (fun _ => ?_) (fun c9 => absurd (by decide) c9)
              refine toQ hQ0 ?_
              exact RV hC hP hD hS [0, 1, 2, 3, 4] (vfh, vth, vA, w0, w1) rfl rfl (by decide) (⟨by first | assumption | exact hM, (by unfold SHF; rw [show LVN (RLO DY (DAYV (fnw 0) (fnw 1)) k7) VL = L8 from (congrArg (fun z9 => LVN z9 VL) eo9.symm).trans hn9.symm]; exact PIT.end9 hlb9 hj1 (hj2 rfl))⟩) gX12_findShould_6.2.2.2
            · refine lv_iload_n hx hb gX12_findShould_2.2.2.2.2.2.1 rfl (lv_at0 hl) ?_
              refine lv_if_eq (tgt := 112) hx hb gX12_findShould_2.2.2.2.2.2.2.1 (by decide) (fun c9 => absurd c9 (by decide)) (fun _ => ?_)
              refine lv_iconst (v := 0) hx hb gX12_findShould_2.2.2.2.2.2.2.2.1 (by decide) ?_
              refine lv_istore_n (lv' := [(3, .int 0), (2, .int (nI v9)), (0, .ref h0), (1, .int (nI je))]) hx hb gX12_findShould_2.2.2.2.2.2.2.2.2.1 rfl hl (by decide) rfl (fun ls hl => ?_)
              refine lv_iconst (v := 0) hx hb gX12_findShould_2.2.2.2.2.2.2.2.2.2 (by decide) ?_
              refine lv_istore (lv' := [(4, .int 0), (3, .int 0), (2, .int (nI v9)), (0, .ref h0), (1, .int (nI je))]) hx hb gX12_findShould_3.1 hl (by decide) rfl (fun ls hl => ?_)
              have hbj9 : HBD (PIT (LVF (LNF (RLO DY (DAYV (fnw 0) (fnw 1)) k7) VL) (TRF (RLO DY (DAYV (fnw 0) (fnw 1)) k7) VC (FAX (shf fnw 12) (shf fnw 32) (VSE fnw kq) kq je))) L8 jj (S0F (KST (shf fnw 104) (VSE fnw kq) (fnw 3).toInt k6) (shf fnw 104) (VSE fnw kq) (shf fnw 32) (shf fnw 12) k6 kq je)) := HBD.pit hb09 hlb9 jj
              have keyQ : ∀ (nQ kQ : Nat) (ea : Int32) (vQ : Nat → Int32) (vR : Nat → Int32) (H : Heap) (locs : List Loc) (ls : Array Slot), kQ + nQ = L8 → ((ea = 0 ∧ mu vQ ≤ mu w0) ∨ (ea = 1 ∧ mu vQ < mu w0)) → (ARS 100000 (PSS (LVF (LNF (RLO DY (DAYV (fnw 0) (fnw 1)) k7) VL) (TRF (RLO DY (DAYV (fnw 0) (fnw 1)) k7) VC (FAX (shf fnw 12) (shf fnw 32) (VSE fnw kq) kq je))) kQ (PIT (LVF (LNF (RLO DY (DAYV (fnw 0) (fnw 1)) k7) VL) (TRF (RLO DY (DAYV (fnw 0) (fnw 1)) k7) VC (FAX (shf fnw 12) (shf fnw 32) (VSE fnw kq) kq je))) L8 jj (S0F (KST (shf fnw 104) (VSE fnw kq) (fnw 3).toInt k6) (shf fnw 104) (VSE fnw kq) (shf fnw 32) (shf fnw 12) k6 kq je))) vQ) → ((ea = 0 ∧ PSS (LVF (LNF (RLO DY (DAYV (fnw 0) (fnw 1)) k7) VL) (TRF (RLO DY (DAYV (fnw 0) (fnw 1)) k7) VC (FAX (shf fnw 12) (shf fnw 32) (VSE fnw kq) kq je))) kQ (PIT (LVF (LNF (RLO DY (DAYV (fnw 0) (fnw 1)) k7) VL) (TRF (RLO DY (DAYV (fnw 0) (fnw 1)) k7) VC (FAX (shf fnw 12) (shf fnw 32) (VSE fnw kq) kq je))) L8 jj (S0F (KST (shf fnw 104) (VSE fnw kq) (fnw 3).toInt k6) (shf fnw 104) (VSE fnw kq) (shf fnw 32) (shf fnw 12) k6 kq je)) = PIT (LVF (LNF (RLO DY (DAYV (fnw 0) (fnw 1)) k7) VL) (TRF (RLO DY (DAYV (fnw 0) (fnw 1)) k7) VC (FAX (shf fnw 12) (shf fnw 32) (VSE fnw kq) kq je))) L8 jj (S0F (KST (shf fnw 104) (VSE fnw kq) (fnw 3).toInt k6) (shf fnw 104) (VSE fnw kq) (shf fnw 32) (shf fnw 12) k6 kq je)) ∨ ea = 1) → va_PD G A [(h0, oX12 nw nk mhasKept nt mtaped nr mrowMany mroundOf mroundFrom 0 nm vfh vth ns mfrom mto msort misFault mdeep mcoded mlines nl nc nF np ntr nb mbestCost nso nsi nit nsh nsf nss nrc mtraced mdealer mnumber mwhose msize misParted), (nw, iA G 1662 fnw), (nm, iA G 36 vA), (ns, iA G 8 vQ), (np, iA G 100 vR)] H → va_S A s.heap H locs → lv_has ls 7 [(4, .int (nI kQ)), (3, .int ea), (2, .int (nI v9)), (0, .ref h0), (1, .int (nI je))] → W p l e (RM 8 0 0) s m ([.ref h0, .int (nI je)] : List Value).toArray below meth c H locs 0 0 Q0 (F0 m 51 ls []) := by
                intro nQ
                induction nQ with
                | zero =>
                  intro kQ ea vQ vR H locs ls hkQ hQ hsv hch hPD hS hl
                  refine Kan2 hPD (fun hP hD => ?_)
                  obtain rfl : L8 = kQ := by omega
                  have hl : lv_has ls 7 [(4, .int (nI L8)), (3, .int ea), (2, .int (nI v9)), (0, .ref h0), (1, .int (nI je))] := hl
                  refine lv_iload hx hb gX12_findShould_3.2.1 (lv_at0 hl) ?_
                  refine lv_aload_n hx hb gX12_findShould_3.2.2.1 rfl (lv_at3 hl) ?_
                  refine lv_iload_n hx hb gX12_findShould_3.2.2.2.1 rfl (lv_at2 hl) ?_
                  refine pV hC hK hl hP hD (m_lines l G L8 h0 v9 nw nk mhasKept nt mtaped nr mrowMany mroundOf mroundFrom 0 nm vfh vth ns mfrom mto msort misFault mdeep mcoded mlines nl nc nF np ntr nb mbestCost nso nsi nit nsh nsf nss nrc mtraced mdealer mnumber mwhose msize misParted fnw (by omega) (eL8)) si_X12_183 [0, 1] sm_0_1 fm_0_1 nd_0_1 rfl rfl rfl rfl rfl (Nat.le_of_ble_eq_true rfl) rm_8_1_2 ⟨by first | exact Nat.le_of_ble_eq_true rfl | exact Nat.zero_le _, by first | exact Nat.le_of_ble_eq_true rfl | exact Nat.zero_le _⟩ gX12_findShould_3.2.2.2.2.1 (Keqr ?_)
                  refine lv_icmp_ge (tgt := 109) hx hb gX12_findShould_3.2.2.2.2.2.1 (by decide) (fun _ => ?_) (fun c9 => absurd (Int32.le_refl _) c9)
                  refine lv_goto (tgt := 42) hx hb gX12_findShould_6.2.2.1 (by decide) ?_
                  exact ihW ea vQ vR _ _ _ (⟨hQ.elim (fun h => Or.inl h.1) (fun h => Or.inr ⟨h.1, by have := h.2; omega⟩), jj + 1, hsv, fun h9 => PIT.sx (hch.elim (fun h8 => h8.2) (fun h8 => absurd (h8.symm.trans h9) (by decide)))⟩) (And.intro hP hD) hS (lv_sub hl [1, 2, 3, 4] rfl)
                | succ nQ ihQ =>
                  intro kQ ea vQ vR H locs ls hkQ hQ hsv hch hPD hS hl
                  refine Kan2 hPD (fun hP hD => ?_)
                  refine lv_iload hx hb gX12_findShould_3.2.1 (lv_at0 hl) ?_
                  refine lv_aload_n hx hb gX12_findShould_3.2.2.1 rfl (lv_at3 hl) ?_
                  refine lv_iload_n hx hb gX12_findShould_3.2.2.2.1 rfl (lv_at2 hl) ?_
                  refine pV hC hK hl hP hD (m_lines l G L8 h0 v9 nw nk mhasKept nt mtaped nr mrowMany mroundOf mroundFrom 0 nm vfh vth ns mfrom mto msort misFault mdeep mcoded mlines nl nc nF np ntr nb mbestCost nso nsi nit nsh nsf nss nrc mtraced mdealer mnumber mwhose msize misParted fnw (by omega) (eL8)) si_X12_183 [0, 1] sm_0_1 fm_0_1 nd_0_1 rfl rfl rfl rfl rfl (Nat.le_of_ble_eq_true rfl) rm_8_1_2 ⟨by first | exact Nat.le_of_ble_eq_true rfl | exact Nat.zero_le _, by first | exact Nat.le_of_ble_eq_true rfl | exact Nat.zero_le _⟩ gX12_findShould_3.2.2.2.2.1 (Keqr ?_)
                  refine lv_icmp_ge (tgt := 109) hx hb gX12_findShould_3.2.2.2.2.2.1 (by decide) (fun c9 => absurd c9 (nI_ge (a := kQ) (b := L8) (by omega) (by omega))) (fun _ => ?_)
                  have hln9 := hLN8 kQ (by omega)
                  have hlz9 := hrow9 kQ (by omega)
                  have hbq9 : HBD (PSS (LVF (LNF (RLO DY (DAYV (fnw 0) (fnw 1)) k7) VL) (TRF (RLO DY (DAYV (fnw 0) (fnw 1)) k7) VC (FAX (shf fnw 12) (shf fnw 32) (VSE fnw kq) kq je))) kQ (PIT (LVF (LNF (RLO DY (DAYV (fnw 0) (fnw 1)) k7) VL) (TRF (RLO DY (DAYV (fnw 0) (fnw 1)) k7) VC (FAX (shf fnw 12) (shf fnw 32) (VSE fnw kq) kq je))) L8 jj (S0F (KST (shf fnw 104) (VSE fnw kq) (fnw 3).toInt k6) (shf fnw 104) (VSE fnw kq) (shf fnw 32) (shf fnw 12) k6 kq je))) := HBD.pss hbj9 hlb9 kQ (by omega)
                  refine lv_aload_n hx hb gX12_findShould_3.2.2.2.2.2.2.1 rfl (lv_at3 hl) ?_
                  refine lv_iload_n hx hb gX12_findShould_3.2.2.2.2.2.2.2.1 rfl (lv_at2 hl) ?_
                  refine lv_iload hx hb gX12_findShould_3.2.2.2.2.2.2.2.2.1 (lv_at0 hl) ?_
                  refine lv_iload_n hx hb gX12_findShould_3.2.2.2.2.2.2.2.2.2 rfl (lv_at4 hl) ?_
                  refine iV (wr := [(nm, iA G 36 vA)]) hC hK hl hP hD hS hA (m_fromLineX l G kq ((VL v9).getD kQ LN0) (VC v9 kQ) (PSS (LVF (LNF (RLO DY (DAYV (fnw 0) (fnw 1)) k7) VL) (TRF (RLO DY (DAYV (fnw 0) (fnw 1)) k7) VC (FAX (shf fnw 12) (shf fnw 32) (VSE fnw kq) kq je))) kQ (PIT (LVF (LNF (RLO DY (DAYV (fnw 0) (fnw 1)) k7) VL) (TRF (RLO DY (DAYV (fnw 0) (fnw 1)) k7) VC (FAX (shf fnw 12) (shf fnw 32) (VSE fnw kq) kq je))) L8 jj (S0F (KST (shf fnw 104) (VSE fnw kq) (fnw 3).toInt k6) (shf fnw 104) (VSE fnw kq) (shf fnw 32) (shf fnw 12) k6 kq je))) h0 v9 kQ je nw nk mhasKept nt mtaped nr mrowMany mroundOf mroundFrom nm vfh vth ns mfrom mto msort misFault mdeep mcoded mlines nl nc nF np ntr nb mbestCost nso nsi nit nsh nsf nss nrc mtraced mdealer mnumber mwhose msize misParted fnw vQ vR (by omega) (by omega) (hln9) (hlz9) (hsv) (hbq9) (hje) (hN) (ekq) (hkq)) si_X12_186 [0, 1, 3, 4] [2] sm_0_1_3_4 fm_0_1_3_4 nd_0_1_3_4 sm_2 nd_2 dj_0_1_3_4__2 rfl rfl rfl rfl rfl (Nat.le_of_ble_eq_true rfl) rm_8_7_6 ⟨Nat.le_of_ble_eq_true rfl, Nat.le_of_ble_eq_true rfl⟩ gX12_findShould_4.1 (fun r7792 gnp7794 H locs hr7792 hP hD hS => ?_)
                  try dsimp only at hr7792
                  refine Kpdr (ws := [(nm, iA G 36 vA), (h0, oX12 nw nk mhasKept nt mtaped nr mrowMany mroundOf mroundFrom 0 nm vfh vth ns mfrom mto msort misFault mdeep mcoded mlines nl nc nF np ntr nb mbestCost nso nsi nit nsh nsf nss nrc mtraced mdealer mnumber mwhose msize misParted), (nw, iA G 1662 fnw), (ns, iA G 8 vQ), (np, iA G 100 gnp7794)]) hP hD (fun hP hD => ?_)
                  obtain ⟨y9_7795, hpx7795, hpe7795⟩ := hr7792
                  subst r7792
                  try dsimp only at hpx7795
                  refine lv_istore (lv' := [(5, .int y9_7795), (4, .int (nI kQ)), (3, .int ea), (2, .int (nI v9)), (0, .ref h0), (1, .int (nI je))]) hx hb gX12_findShould_4.2.1 hl (by decide) rfl (fun ls hl => ?_)
                  refine lv_aload_n hx hb gX12_findShould_4.2.2.1 rfl (lv_at4 hl) ?_
                  refine lv_iload_n hx hb gX12_findShould_4.2.2.2.1 rfl (lv_at3 hl) ?_
                  refine lv_iload hx hb gX12_findShould_4.2.2.2.2.1 (lv_at1 hl) ?_
                  refine pV hC hK hl hP hD (m_thingOfX l G ((VL v9).getD kQ LN0) (VC v9 kQ) h0 v9 kQ nw nk mhasKept nt mtaped nr mrowMany mroundOf mroundFrom 0 nm vfh vth ns mfrom mto msort misFault mdeep mcoded mlines nl nc nF np ntr nb mbestCost nso nsi nit nsh nsf nss nrc mtraced mdealer mnumber mwhose msize misParted fnw (by omega) (by omega) (hln9) (hlz9)) si_X12_190 [1, 2] sm_1_2 fm_1_2 nd_1_2 rfl rfl rfl rfl rfl (Nat.le_of_ble_eq_true rfl) rm_8_2_4 ⟨by first | exact Nat.le_of_ble_eq_true rfl | exact Nat.zero_le _, by first | exact Nat.le_of_ble_eq_true rfl | exact Nat.zero_le _⟩ gX12_findShould_4.2.2.2.2.2.1 (fun r7796 hr7796 => ?_)
                  obtain ⟨t9_7797, hpx7797, rfl⟩ := hr7796
                  try dsimp only at hpx7797
                  refine lv_istore (lv' := [(6, .int (nI t9_7797)), (5, .int y9_7795), (4, .int (nI kQ)), (3, .int ea), (2, .int (nI v9)), (0, .ref h0), (1, .int (nI je))]) hx hb gX12_findShould_4.2.2.2.2.2.2.1 hl (by decide) rfl (fun ls hl => ?_)
                  refine lv_iload hx hb gX12_findShould_4.2.2.2.2.2.2.2.1 (lv_at1 hl) ?_
                  refine lv_aload_n hx hb gX12_findShould_4.2.2.2.2.2.2.2.2.1 rfl (lv_at5 hl) ?_
                  refine gf_X12_29 hC rfl hK hP 1 rfl rfl gX12_findShould_4.2.2.2.2.2.2.2.2.2 ?_
                  refine lv_iload hx hb gX12_findShould_5.1 (lv_at0 hl) ?_
                  refine aldN hC hK hP 3 rfl (k := t9_7797) (by omega) (Nat.le_of_ble_eq_true rfl) (v := vQ t9_7797) rfl gX12_findShould_5.2.1 ?_
                  refine lv_icmp_ge (tgt := 103) hx hb gX12_findShould_5.2.2.1 (by decide) (fun c_89_7798 => ?_) (fun c_89_7798 => ?_)
                  · refine lv_iinc (v := nI (kQ + 1)) (lv' := [(4, .int (nI (kQ + 1))), (6, .int (nI t9_7797)), (5, .int y9_7795), (3, .int ea), (2, .int (nI v9)), (0, .ref h0), (1, .int (nI je))]) hx hb gX12_findShould_6.1 hl (k := 2) rfl (nI_1 _) (by decide) rfl (fun ls hl => ?_)
                    refine lv_goto (tgt := 51) hx hb gX12_findShould_6.2.1 (by decide) ?_
                    refine Kpds (ws' := [(h0, oX12 nw nk mhasKept nt mtaped nr mrowMany mroundOf mroundFrom 0 nm vfh vth ns mfrom mto msort misFault mdeep mcoded mlines nl nc nF np ntr nb mbestCost nso nsi nit nsh nsf nss nrc mtraced mdealer mnumber mwhose msize misParted), (nw, iA G 1662 fnw), (nm, iA G 36 vA), (ns, iA G 8 vQ), (np, iA G 100 gnp7794)]) hP hD [1, 2, 0, 3, 4] fm_1_2_0_3_4 nd_1_2_0_3_4 sm_1_2_0_3_4 (fun hP hD => ?_)
                    have eLV9 : (LVF (LNF (RLO DY (DAYV (fnw 0) (fnw 1)) k7) VL) (TRF (RLO DY (DAYV (fnw 0) (fnw 1)) k7) VC (FAX (shf fnw 12) (shf fnw 32) (VSE fnw kq) kq je))) kQ = LVX ((VL v9).getD kQ LN0) (PLN (FAX (shf fnw 12) (shf fnw 32) (VSE fnw kq) kq je) (VC v9 kQ) 1 % 2 = 1) := by rw [← eo9]; rfl
                    have hlw9 := FLQ.low (L := (LVF (LNF (RLO DY (DAYV (fnw 0) (fnw 1)) k7) VL) (TRF (RLO DY (DAYV (fnw 0) (fnw 1)) k7) VC (FAX (shf fnw 12) (shf fnw 32) (VSE fnw kq) kq je))) kQ) hsv hbq9 (hlb9 kQ (by omega)) (by rw [eLV9]; exact hpx7795) (fun j o w h9 => hpx7797.1.trans (TNO.of (by rw [eLV9] at h9; exact h9))) hpx7797.2 (by decide)
                    have heq9 : PSS (LVF (LNF (RLO DY (DAYV (fnw 0) (fnw 1)) k7) VL) (TRF (RLO DY (DAYV (fnw 0) (fnw 1)) k7) VC (FAX (shf fnw 12) (shf fnw 32) (VSE fnw kq) kq je))) (kQ + 1) (PIT (LVF (LNF (RLO DY (DAYV (fnw 0) (fnw 1)) k7) VL) (TRF (RLO DY (DAYV (fnw 0) (fnw 1)) k7) VC (FAX (shf fnw 12) (shf fnw 32) (VSE fnw kq) kq je))) L8 jj (S0F (KST (shf fnw 104) (VSE fnw kq) (fnw 3).toInt k6) (shf fnw 104) (VSE fnw kq) (shf fnw 32) (shf fnw 12) k6 kq je)) = PSS (LVF (LNF (RLO DY (DAYV (fnw 0) (fnw 1)) k7) VL) (TRF (RLO DY (DAYV (fnw 0) (fnw 1)) k7) VC (FAX (shf fnw 12) (shf fnw 32) (VSE fnw kq) kq je))) kQ (PIT (LVF (LNF (RLO DY (DAYV (fnw 0) (fnw 1)) k7) VL) (TRF (RLO DY (DAYV (fnw 0) (fnw 1)) k7) VC (FAX (shf fnw 12) (shf fnw 32) (VSE fnw kq) kq je))) L8 jj (S0F (KST (shf fnw 104) (VSE fnw kq) (fnw 3).toInt k6) (shf fnw 104) (VSE fnw kq) (shf fnw 32) (shf fnw 12) k6 kq je)) := hlw9.2 (Int32.not_lt.mpr c_89_7798)
                    have hst8 : ARS 100000 (PSS (LVF (LNF (RLO DY (DAYV (fnw 0) (fnw 1)) k7) VL) (TRF (RLO DY (DAYV (fnw 0) (fnw 1)) k7) VC (FAX (shf fnw 12) (shf fnw 32) (VSE fnw kq) kq je))) (kQ + 1) (PIT (LVF (LNF (RLO DY (DAYV (fnw 0) (fnw 1)) k7) VL) (TRF (RLO DY (DAYV (fnw 0) (fnw 1)) k7) VC (FAX (shf fnw 12) (shf fnw 32) (VSE fnw kq) kq je))) L8 jj (S0F (KST (shf fnw 104) (VSE fnw kq) (fnw 3).toInt k6) (shf fnw 104) (VSE fnw kq) (shf fnw 32) (shf fnw 12) k6 kq je))) vQ := by rw [heq9]; exact hsv
                    have hst9 : (ea = 0 ∧ PSS (LVF (LNF (RLO DY (DAYV (fnw 0) (fnw 1)) k7) VL) (TRF (RLO DY (DAYV (fnw 0) (fnw 1)) k7) VC (FAX (shf fnw 12) (shf fnw 32) (VSE fnw kq) kq je))) (kQ + 1) (PIT (LVF (LNF (RLO DY (DAYV (fnw 0) (fnw 1)) k7) VL) (TRF (RLO DY (DAYV (fnw 0) (fnw 1)) k7) VC (FAX (shf fnw 12) (shf fnw 32) (VSE fnw kq) kq je))) L8 jj (S0F (KST (shf fnw 104) (VSE fnw kq) (fnw 3).toInt k6) (shf fnw 104) (VSE fnw kq) (shf fnw 32) (shf fnw 12) k6 kq je)) = PIT (LVF (LNF (RLO DY (DAYV (fnw 0) (fnw 1)) k7) VL) (TRF (RLO DY (DAYV (fnw 0) (fnw 1)) k7) VC (FAX (shf fnw 12) (shf fnw 32) (VSE fnw kq) kq je))) L8 jj (S0F (KST (shf fnw 104) (VSE fnw kq) (fnw 3).toInt k6) (shf fnw 104) (VSE fnw kq) (shf fnw 32) (shf fnw 12) k6 kq je)) ∨ ea = 1 := hch.imp (fun h9 => ⟨h9.1, heq9.trans h9.2⟩) id
                    exact ihQ (kQ + 1) ea vQ gnp7794 _ _ _ (by omega) (by first | assumption | exact Or.inl rfl | exact Or.inr rfl | exact Or.inl ⟨rfl, Nat.le_refl _⟩ | exact hj1 | exact Or.inl ⟨rfl, rfl⟩) (by first | assumption | exact Or.inl rfl | exact Or.inr rfl | exact Or.inl ⟨rfl, Nat.le_refl _⟩ | exact hj1 | exact Or.inl ⟨rfl, rfl⟩) (by first | assumption | exact Or.inl rfl | exact Or.inr rfl | exact Or.inl ⟨rfl, Nat.le_refl _⟩ | exact hj1 | exact Or.inl ⟨rfl, rfl⟩) (And.intro hP hD) hS (lv_sub hl [0, 3, 4, 5, 6] rfl)
                  · refine lv_aload_n hx hb gX12_findShould_5.2.2.2.1 rfl (lv_at5 hl) ?_
                    refine gf_X12_29 hC rfl hK hP 1 rfl rfl gX12_findShould_5.2.2.2.2.1 ?_
                    refine lv_iload hx hb gX12_findShould_5.2.2.2.2.2.1 (lv_at0 hl) ?_
                    refine lv_iload hx hb gX12_findShould_5.2.2.2.2.2.2.1 (lv_at1 hl) ?_
                    refine astN hC hK hP hD hS 3 (ws' := [(nm, iA G 36 vA), (h0, oX12 nw nk mhasKept nt mtaped nr mrowMany mroundOf mroundFrom 0 nm vfh vth ns mfrom mto msort misFault mdeep mcoded mlines nl nc nF np ntr nb mbestCost nso nsi nit nsh nsf nss nrc mtraced mdealer mnumber mwhose msize misParted), (nw, iA G 1662 fnw), (ns, iA G 8 (upd vQ t9_7797 y9_7795)), (np, iA G 100 gnp7794)]) rfl (k := t9_7797) (by omega) (Nat.le_of_ble_eq_true rfl) (rfl) gX12_findShould_5.2.2.2.2.2.2.2.1 (fun H locs hP hD hS => ?_)
                    have hmu9 := mu_upd (f := vQ) (t := t9_7797) (x := y9_7795) (y := vQ t9_7797) (by omega) rfl c_89_7798
                    have hQ2 : mu vQ ≤ mu w0 := hQ.elim (fun h => h.2) (fun h => Nat.le_of_lt h.2)
                    have hQ3 : ((1 : Int32) = 0 ∧ mu (upd vQ t9_7797 y9_7795) ≤ mu w0) ∨ ((1 : Int32) = 1 ∧ mu (upd vQ t9_7797 y9_7795) < mu w0) := Or.inr ⟨rfl, by omega⟩
                    refine lv_iconst (v := 1) hx hb gX12_findShould_5.2.2.2.2.2.2.2.2.1 (by decide) ?_
                    refine lv_istore_n (lv' := [(3, .int 1), (6, .int (nI t9_7797)), (5, .int y9_7795), (4, .int (nI kQ)), (2, .int (nI v9)), (0, .ref h0), (1, .int (nI je))]) hx hb gX12_findShould_5.2.2.2.2.2.2.2.2.2 rfl hl (by decide) rfl (fun ls hl => ?_)
                    refine lv_iinc (v := nI (kQ + 1)) (lv' := [(4, .int (nI (kQ + 1))), (3, .int 1), (6, .int (nI t9_7797)), (5, .int y9_7795), (2, .int (nI v9)), (0, .ref h0), (1, .int (nI je))]) hx hb gX12_findShould_6.1 hl (k := 3) rfl (nI_1 _) (by decide) rfl (fun ls hl => ?_)
                    refine lv_goto (tgt := 51) hx hb gX12_findShould_6.2.1 (by decide) ?_
                    refine Kpds (ws' := [(h0, oX12 nw nk mhasKept nt mtaped nr mrowMany mroundOf mroundFrom 0 nm vfh vth ns mfrom mto msort misFault mdeep mcoded mlines nl nc nF np ntr nb mbestCost nso nsi nit nsh nsf nss nrc mtraced mdealer mnumber mwhose msize misParted), (nw, iA G 1662 fnw), (nm, iA G 36 vA), (ns, iA G 8 (upd vQ t9_7797 y9_7795)), (np, iA G 100 gnp7794)]) hP hD [1, 2, 0, 3, 4] fm_1_2_0_3_4 nd_1_2_0_3_4 sm_1_2_0_3_4 (fun hP hD => ?_)
                    have eLV9 : (LVF (LNF (RLO DY (DAYV (fnw 0) (fnw 1)) k7) VL) (TRF (RLO DY (DAYV (fnw 0) (fnw 1)) k7) VC (FAX (shf fnw 12) (shf fnw 32) (VSE fnw kq) kq je))) kQ = LVX ((VL v9).getD kQ LN0) (PLN (FAX (shf fnw 12) (shf fnw 32) (VSE fnw kq) kq je) (VC v9 kQ) 1 % 2 = 1) := by rw [← eo9]; rfl
                    have hlw9 := FLQ.low (L := (LVF (LNF (RLO DY (DAYV (fnw 0) (fnw 1)) k7) VL) (TRF (RLO DY (DAYV (fnw 0) (fnw 1)) k7) VC (FAX (shf fnw 12) (shf fnw 32) (VSE fnw kq) kq je))) kQ) hsv hbq9 (hlb9 kQ (by omega)) (by rw [eLV9]; exact hpx7795) (fun j o w h9 => hpx7797.1.trans (TNO.of (by rw [eLV9] at h9; exact h9))) hpx7797.2 (by decide)
                    have hst8 : ARS 100000 (PSS (LVF (LNF (RLO DY (DAYV (fnw 0) (fnw 1)) k7) VL) (TRF (RLO DY (DAYV (fnw 0) (fnw 1)) k7) VC (FAX (shf fnw 12) (shf fnw 32) (VSE fnw kq) kq je))) (kQ + 1) (PIT (LVF (LNF (RLO DY (DAYV (fnw 0) (fnw 1)) k7) VL) (TRF (RLO DY (DAYV (fnw 0) (fnw 1)) k7) VC (FAX (shf fnw 12) (shf fnw 32) (VSE fnw kq) kq je))) L8 jj (S0F (KST (shf fnw 104) (VSE fnw kq) (fnw 3).toInt k6) (shf fnw 104) (VSE fnw kq) (shf fnw 32) (shf fnw 12) k6 kq je))) (upd vQ t9_7797 y9_7795) := hlw9.1 (Int32.not_le.mp c_89_7798)
                    have hst9 : ((1 : Int32) = 0 ∧ PSS (LVF (LNF (RLO DY (DAYV (fnw 0) (fnw 1)) k7) VL) (TRF (RLO DY (DAYV (fnw 0) (fnw 1)) k7) VC (FAX (shf fnw 12) (shf fnw 32) (VSE fnw kq) kq je))) (kQ + 1) (PIT (LVF (LNF (RLO DY (DAYV (fnw 0) (fnw 1)) k7) VL) (TRF (RLO DY (DAYV (fnw 0) (fnw 1)) k7) VC (FAX (shf fnw 12) (shf fnw 32) (VSE fnw kq) kq je))) L8 jj (S0F (KST (shf fnw 104) (VSE fnw kq) (fnw 3).toInt k6) (shf fnw 104) (VSE fnw kq) (shf fnw 32) (shf fnw 12) k6 kq je)) = PIT (LVF (LNF (RLO DY (DAYV (fnw 0) (fnw 1)) k7) VL) (TRF (RLO DY (DAYV (fnw 0) (fnw 1)) k7) VC (FAX (shf fnw 12) (shf fnw 32) (VSE fnw kq) kq je))) L8 jj (S0F (KST (shf fnw 104) (VSE fnw kq) (fnw 3).toInt k6) (shf fnw 104) (VSE fnw kq) (shf fnw 32) (shf fnw 12) k6 kq je)) ∨ (1 : Int32) = 1 := Or.inr rfl
                    exact ihQ (kQ + 1) 1 (upd vQ t9_7797 y9_7795) gnp7794 _ _ _ (by omega) (by first | assumption | exact Or.inl rfl | exact Or.inr rfl | exact Or.inl ⟨rfl, Nat.le_refl _⟩ | exact hj1 | exact Or.inl ⟨rfl, rfl⟩) (by first | assumption | exact Or.inl rfl | exact Or.inr rfl | exact Or.inl ⟨rfl, Nat.le_refl _⟩ | exact hj1 | exact Or.inl ⟨rfl, rfl⟩) (by first | assumption | exact Or.inl rfl | exact Or.inr rfl | exact Or.inl ⟨rfl, Nat.le_refl _⟩ | exact hj1 | exact Or.inl ⟨rfl, rfl⟩) (And.intro hP hD) hS (lv_sub hl [0, 1, 4, 5, 6] rfl)
              exact keyQ L8 0 0 w0 w1 _ _ _ (by omega) (by first | assumption | exact Or.inl rfl | exact Or.inr rfl | exact Or.inl ⟨rfl, Nat.le_refl _⟩ | exact hj1 | exact Or.inl ⟨rfl, rfl⟩) (by first | assumption | exact Or.inl rfl | exact Or.inr rfl | exact Or.inl ⟨rfl, Nat.le_refl _⟩ | exact hj1 | exact Or.inl ⟨rfl, rfl⟩) (by first | assumption | exact Or.inl rfl | exact Or.inr rfl | exact Or.inl ⟨rfl, Nat.le_refl _⟩ | exact hj1 | exact Or.inl ⟨rfl, rfl⟩) (And.intro hP hD) hS (lv_sub hl [0, 1, 2, 3, 4] rfl)
        exact keyW (mu vS + 1) 1 vS fnp _ _ _ (⟨Or.inr ⟨rfl, Nat.lt_succ_self _⟩, 0, htd, fun h9 => absurd h9 (by decide)⟩) (And.intro hP hD) hS (lv_sub hl [0, 1, 2, 3] rfl)
    | succ nA ihA =>
      intro kA vfh vth vA vS H locs ls hkA hvA htd hPD hS hl
      refine Kan2 hPD (fun hP hD => ?_)
      refine lv_iload_n hx hb gX12_findShould_0.2.2.1 rfl (lv_at0 hl) ?_
      refine lv_bipush (v := 8) hx hb gX12_findShould_0.2.2.2.1 (by decide) ?_
      refine lv_icmp_ge (tgt := 27) hx hb gX12_findShould_0.2.2.2.2.1 (by decide) (fun c9 => absurd c9 (nI_ge (a := kA) (b := 8) (by omega) (by omega))) (fun _ => ?_)
      refine lv_aload_n hx hb gX12_findShould_0.2.2.2.2.2.1 rfl (lv_at1 hl) ?_
      refine gf_X12_29 hC rfl hK hP 0 rfl rfl gX12_findShould_0.2.2.2.2.2.2.1 ?_
      refine lv_iload_n hx hb gX12_findShould_0.2.2.2.2.2.2.2.1 rfl (lv_at0 hl) ?_
      refine lv_aload_n hx hb gX12_findShould_0.2.2.2.2.2.2.2.2.1 rfl (lv_at1 hl) ?_
      refine lv_iload_n hx hb gX12_findShould_0.2.2.2.2.2.2.2.2.2 rfl (lv_at2 hl) ?_
      refine lv_iload_n hx hb gX12_findShould_1.1 rfl (lv_at0 hl) ?_
      refine lv_iconst (v := 1) hx hb gX12_findShould_1.2.1 (by decide) ?_
      refine iV (wr := [(ns, iA G 8 vS), (np, iA G 100 fnp)]) hC hK hl hP hD hS hA (m_knewByX l G kq k6 h0 je kA 1 nw nk mhasKept nt mtaped nr mrowMany mroundOf mroundFrom nm vfh vth ns mfrom mto msort misFault mdeep mcoded mlines nl nc nF np ntr nb mbestCost nso nsi nit nsh nsf nss nrc mtraced mdealer mnumber mwhose msize misParted fnw vA (hvA) (hN) (hgp) (ekq) (hkq) (e6) (hk6) (hje) (by omega)) si_X12_176 [0, 1, 2] [3, 4] sm_0_1_2 fm_0_1_2 nd_0_1_2 sm_3_4 nd_3_4 dj_0_1_2__3_4 rfl rfl rfl rfl rfl (Nat.le_of_ble_eq_true rfl) rm_8_5_7 ⟨Nat.le_of_ble_eq_true rfl, Nat.le_of_ble_eq_true rfl⟩ gX12_findShould_1.2.2.1 (fun r7799 => Ktu3 fun fh17801 th17802 gnm7803 => ?_)
      intro H locs hr7799 hP hD hS
      try dsimp only at hr7799
      refine Kpdr (ws := [(ns, iA G 8 vS), (np, iA G 100 fnp), (h0, oX12 nw nk mhasKept nt mtaped nr mrowMany mroundOf mroundFrom 0 nm fh17801 th17802 ns mfrom mto msort misFault mdeep mcoded mlines nl nc nF np ntr nb mbestCost nso nsi nit nsh nsf nss nrc mtraced mdealer mnumber mwhose msize misParted), (nw, iA G 1662 fnw), (nm, iA G 36 gnm7803)]) hP hD (fun hP hD => ?_)
      obtain ⟨hr7799, w7804⟩ := hr7799
      obtain ⟨r9_7805, hpx7805, hpe7805⟩ := hr7799
      subst r7799
      try dsimp only at hpx7805
      refine astN hC hK hP hD hS 0 (ws' := [(ns, iA G 8 (upd vS kA r9_7805)), (np, iA G 100 fnp), (h0, oX12 nw nk mhasKept nt mtaped nr mrowMany mroundOf mroundFrom 0 nm fh17801 th17802 ns mfrom mto msort misFault mdeep mcoded mlines nl nc nF np ntr nb mbestCost nso nsi nit nsh nsf nss nrc mtraced mdealer mnumber mwhose msize misParted), (nw, iA G 1662 fnw), (nm, iA G 36 gnm7803)]) rfl (k := kA) (by omega) (Nat.le_of_ble_eq_true rfl) (rfl) gX12_findShould_1.2.2.2.1 (fun H locs hP hD hS => ?_)
      refine lv_iinc (v := nI (kA + 1)) (lv' := [(2, .int (nI (kA + 1))), (0, .ref h0), (1, .int (nI je))]) hx hb gX12_findShould_1.2.2.2.2.1 hl (k := 0) rfl (nI_1 _) (by decide) rfl (fun ls hl => ?_)
      refine lv_goto (tgt := 2) hx hb gX12_findShould_1.2.2.2.2.2.1 (by decide) ?_
      refine Kpds (ws' := [(h0, oX12 nw nk mhasKept nt mtaped nr mrowMany mroundOf mroundFrom 0 nm fh17801 th17802 ns mfrom mto msort misFault mdeep mcoded mlines nl nc nF np ntr nb mbestCost nso nsi nit nsh nsf nss nrc mtraced mdealer mnumber mwhose msize misParted), (nw, iA G 1662 fnw), (nm, iA G 36 gnm7803), (ns, iA G 8 (upd vS kA r9_7805)), (np, iA G 100 fnp)]) hP hD [2, 3, 4, 0, 1] fm_2_3_4_0_1 nd_2_3_4_0_1 sm_2_3_4_0_1 (fun hP hD => ?_)
      have hst9 : TDP 100000 (S0F (KST (shf fnw 104) (VSE fnw kq) (fnw 3).toInt k6) (shf fnw 104) (VSE fnw kq) (shf fnw 32) (shf fnw 12) k6 kq je) (upd vS kA r9_7805) (kA + 1) := TDP.next htd hpx7805
      exact ihA (kA + 1) fh17801 th17802 gnm7803 (upd vS kA r9_7805) _ _ _ (by omega) (by first | assumption | exact Or.inl rfl | exact Or.inr rfl | exact TDP.zero) (by first | assumption | exact Or.inl rfl | exact Or.inr rfl | exact TDP.zero) (And.intro hP hD) hS (lv_sub hl [0, 1, 2] rfl)
  exact keyA 8 0 mfromHour mtoHour fnm fns _ _ _ (by omega) (by first | assumption | exact Or.inl rfl | exact Or.inr rfl | exact TDP.zero) (by first | assumption | exact Or.inl rfl | exact Or.inr rfl | exact TDP.zero) (And.intro hP hD) hS (lv_sub hl [0, 1, 2] rfl)
def K_m_fromOfX (l : Launch) (G : GG) (kq : Nat) (k6 : Nat) (k7 : Nat) (VL : Nat → List LNT) (VC : Nat → Nat → List Int32) (DY : Nat → Int32) (h0 : Nat) (je : Nat) (jt : Nat) (wy : Int32) (nw : Nat) (nk : Nat) (mhasKept : Int32) (nt : Nat) (mtaped : Int32) (nr : Nat) (mrowMany : Int32) (mroundOf : Int32) (mroundFrom : Int32) (nm : Nat) (mfromHour : Int32) (mtoHour : Int32) (ns : Nat) (mfrom : Int32) (mto : Int32) (msort : Int32) (misFault : Int32) (mdeep : Int32) (mcoded : Int32) (mlines : Int32) (nl : Nat) (nc : Nat) (nF : Nat) (np : Nat) (ntr : Nat) (nb : Nat) (mbestCost : Int32) (nso : Nat) (nsi : Nat) (nit : Nat) (nsh : Nat) (nsf : Nat) (nss : Nat) (nrc : Nat) (mtraced : Int32) (mdealer : Int32) (mnumber : Int32) (mwhose : Int32) (msize : Int32) (misParted : Int32) (fnw : Nat → Int32) (fnm : Nat → Int32) (fns : Nat → Int32) (fnp : Nat → Int32) : Prop := MI l G yX12_fromOf cX12_fromOf 4 (some .int) 9 0 0 [.ref h0, .int (nI je), .int (nI jt), .int wy] [(h0, oX12 nw nk mhasKept nt mtaped nr mrowMany mroundOf mroundFrom 0 nm mfromHour mtoHour ns mfrom mto msort misFault mdeep mcoded mlines nl nc nF np ntr nb mbestCost nso nsi nit nsh nsf nss nrc mtraced mdealer mnumber mwhose msize misParted), (nw, iA G 1662 fnw), (nm, iA G 36 fnm), (ns, iA G 8 fns), (np, iA G 100 fnp)] (fun (r : Int32) (u : Int32 × Int32 × (Nat → Int32) × (Nat → Int32) × (Nat → Int32)) => (∃ (w9:Int32), (ARW 100000 (KWO (KST (shf fnw 104) (VSE fnw kq) (fnw 3).toInt k6) (shf fnw 104) (VSE fnw kq) (shf fnw 32) (shf fnw 12) k6 kq je (LVF (LNF (RLO DY (DAYV (fnw 0) (fnw 1)) k7) VL) (TRF (RLO DY (DAYV (fnw 0) (fnw 1)) k7) VC (FAX (shf fnw 12) (shf fnw 32) (VSE fnw kq) kq je))) (LVN (RLO DY (DAYV (fnw 0) (fnw 1)) k7) VL) jt wy) w9) ∧ r = w9) ∧ (MB u.2.2.1)) (fun u : Int32 × Int32 × (Nat → Int32) × (Nat → Int32) × (Nat → Int32) => [(h0, oX12 nw nk mhasKept nt mtaped nr mrowMany mroundOf mroundFrom 0 nm u.1 u.2.1 ns mfrom mto msort misFault mdeep mcoded mlines nl nc nF np ntr nb mbestCost nso nsi nit nsh nsf nss nrc mtraced mdealer mnumber mwhose msize misParted), (nw, iA G 1662 fnw), (nm, iA G 36 u.2.2.1), (ns, iA G 8 u.2.2.2.1), (np, iA G 100 u.2.2.2.2)])
set_option maxHeartbeats 4000000 in
set_option maxRecDepth 100000 in
theorem m_fromOfX (l : Launch) (G : GG) (kq : Nat) (k6 : Nat) (k7 : Nat) (VL : Nat → List LNT) (VC : Nat → Nat → List Int32) (DY : Nat → Int32) (h0 : Nat) (je : Nat) (jt : Nat) (wy : Int32) (nw : Nat) (nk : Nat) (mhasKept : Int32) (nt : Nat) (mtaped : Int32) (nr : Nat) (mrowMany : Int32) (mroundOf : Int32) (mroundFrom : Int32) (nm : Nat) (mfromHour : Int32) (mtoHour : Int32) (ns : Nat) (mfrom : Int32) (mto : Int32) (msort : Int32) (misFault : Int32) (mdeep : Int32) (mcoded : Int32) (mlines : Int32) (nl : Nat) (nc : Nat) (nF : Nat) (np : Nat) (ntr : Nat) (nb : Nat) (mbestCost : Int32) (nso : Nat) (nsi : Nat) (nit : Nat) (nsh : Nat) (nsf : Nat) (nss : Nat) (nrc : Nat) (mtraced : Int32) (mdealer : Int32) (mnumber : Int32) (mwhose : Int32) (msize : Int32) (misParted : Int32) (fnw : Nat → Int32) (fnm : Nat → Int32) (fns : Nat → Int32) (fnp : Nat → Int32) (hje : je < 10) (hjt : jt < 8) (hwy : Wi wy 0 2) (hV : VI fnw) (hM : MB fnm) (hN : NI fnw) (hgp : GPRm (fnw 3)) (ekq : fnw 5 = nI kq) (hkq : kq ≤ 12) (e6 : fnw 6 = nI k6) (hk6 : k6 ≤ 24) (ek7 : fnw 7 = nI k7) (hk7 : k7 ≤ 8) (hVM : VMZ fnw k7 VL VC DY) : K_m_fromOfX l G kq k6 k7 VL VC DY h0 je jt wy nw nk mhasKept nt mtaped nr mrowMany mroundOf mroundFrom nm mfromHour mtoHour ns mfrom mto msort misFault mdeep mcoded mlines nl nc nF np ntr nb mbestCost nso nsi nit nsh nsf nss nrc mtraced mdealer mnumber mwhose msize misParted fnw fnm fns fnp := by
  refine MI.start (by decide +kernel) (Nat.le_of_ble_eq_true rfl) ?_
  intro p e s m below meth c A ls hC hK hP hD hS hA hl
  refine absQ (fun Q0 hQ0 => ?_)
  have hl : lv_has ls 4 [(0, .ref h0), (1, .int (nI je)), (2, .int (nI jt)), (3, .int wy)] := hl
  refine Kan8 hC (fun hx hb hr hml hB hown hlocks hnm => ?_)
  refine lv_iload_n hx hb gX12_fromOf_0.1 rfl (lv_at3 hl) ?_
  refine lv_iconst (v := 2) hx hb gX12_fromOf_0.2.1 (by decide) ?_
  refine lv_icmp_ge (tgt := 21) hx hb gX12_fromOf_0.2.2.1 (by decide) (fun c_2_7806 => ?_) (fun c_2_7806 => ?_)
  · refine lv_aload_n hx hb gX12_fromOf_1.2.2.2.1 rfl (lv_at0 hl) ?_
    refine lv_iload_n hx hb gX12_fromOf_1.2.2.2.2.1 rfl (lv_at1 hl) ?_
    refine vV (wr := []) hC hK hl hP hD hS hA (m_findShouldX l G kq k6 k7 VL VC DY h0 je nw nk mhasKept nt mtaped nr mrowMany mroundOf mroundFrom nm mfromHour mtoHour ns mfrom mto msort misFault mdeep mcoded mlines nl nc nF np ntr nb mbestCost nso nsi nit nsh nsf nss nrc mtraced mdealer mnumber mwhose msize misParted fnw fnm fns fnp (hje) (hV) (hM) (hN) (hgp) (ekq) (hkq) (e6) (hk6) (ek7) (hk7) (hVM)) si_X12_199 [0, 1, 2, 3, 4] [] sm_0_1_2_3_4 fm_0_1_2_3_4 nd_0_1_2_3_4 rfl rfl (by decide) rfl rfl rfl rfl rfl (Nat.le_of_ble_eq_true rfl) rm_9_8_7 ⟨Nat.le_of_ble_eq_true rfl, Nat.le_of_ble_eq_true rfl⟩ gX12_fromOf_1.2.2.2.2.2.1 (Ktu5 fun fh17809 th17810 gnm7811 gns7812 gnp7813 => ?_)
    intro H locs hr7807 hP hD hS
    try dsimp only at hr7807
    refine Kpdr (ws := [(h0, oX12 nw nk mhasKept nt mtaped nr mrowMany mroundOf mroundFrom 0 nm fh17809 th17810 ns mfrom mto msort misFault mdeep mcoded mlines nl nc nF np ntr nb mbestCost nso nsi nit nsh nsf nss nrc mtraced mdealer mnumber mwhose msize misParted), (nw, iA G 1662 fnw), (nm, iA G 36 gnm7811), (ns, iA G 8 gns7812), (np, iA G 100 gnp7813)]) hP hD (fun hP hD => ?_)
    have hu7815 := hr7807.1
    have hu7816 := hr7807.2
    refine lv_aload_n hx hb gX12_fromOf_1.2.2.2.2.2.2.1 rfl (lv_at0 hl) ?_
    refine gf_X12_29 hC rfl hK hP 0 rfl rfl gX12_fromOf_1.2.2.2.2.2.2.2.1 ?_
    refine lv_iload_n hx hb gX12_fromOf_1.2.2.2.2.2.2.2.2.1 rfl (lv_at2 hl) ?_
    refine aldN hC hK hP 3 rfl (k := jt) (by omega) (Nat.le_of_ble_eq_true rfl) (v := gns7812 jt) rfl gX12_fromOf_1.2.2.2.2.2.2.2.2.2 ?_
    refine toQ hQ0 ?_
    exact RI (v := gns7812 jt) hC hP hD hS [0, 1, 2, 3, 4] (fh17809, th17810, gnm7811, gns7812, gnp7813) rfl rfl (by decide) (⟨⟨_, KWO.y (WY2.y hwy c_2_7806) (SHF.w (HBD.pit (S0F.hbd (SVL.ofm hN (by omega)) (NI.slow hN (by omega)).1 (NI.slow hN (by omega)).2) (LVM.lvb hVM) 9) hjt (hu7816 jt hjt)), rfl⟩, by first | assumption | exact hu7815⟩) rfl gX12_fromOf_2
  · refine lv_aload_n hx hb gX12_fromOf_0.2.2.2.1 rfl (lv_at0 hl) ?_
    refine lv_iload_n hx hb gX12_fromOf_0.2.2.2.2.1 rfl (lv_at1 hl) ?_
    refine lv_iload_n hx hb gX12_fromOf_0.2.2.2.2.2.1 rfl (lv_at2 hl) ?_
    refine lv_iload_n hx hb gX12_fromOf_0.2.2.2.2.2.2.1 rfl (lv_at3 hl) ?_
    refine lv_if_ne (tgt := 16) hx hb gX12_fromOf_0.2.2.2.2.2.2.2.1 (by decide) (fun c_9_7817 => ?_) (fun c_9_7817 => ?_)
    · refine lv_iconst (v := 0) hx hb gX12_fromOf_1.1 (by decide) ?_
      refine iV (wr := [(ns, iA G 8 fns), (np, iA G 100 fnp)]) hC hK hl hP hD hS hA (m_knewByX l G kq k6 h0 je jt 0 nw nk mhasKept nt mtaped nr mrowMany mroundOf mroundFrom nm mfromHour mtoHour ns mfrom mto msort misFault mdeep mcoded mlines nl nc nF np ntr nb mbestCost nso nsi nit nsh nsf nss nrc mtraced mdealer mnumber mwhose msize misParted fnw fnm (hM) (hN) (hgp) (ekq) (hkq) (e6) (hk6) (hje) (hjt)) si_X12_176 [0, 1, 2] [3, 4] sm_0_1_2 fm_0_1_2 nd_0_1_2 sm_3_4 nd_3_4 dj_0_1_2__3_4 rfl rfl rfl rfl rfl (Nat.le_of_ble_eq_true rfl) rm_9_5_7 ⟨Nat.le_of_ble_eq_true rfl, Nat.le_of_ble_eq_true rfl⟩ gX12_fromOf_1.2.1 (fun r7818 => Ktu3 fun fh17820 th17821 gnm7822 => ?_)
      intro H locs hr7818 hP hD hS
      try dsimp only at hr7818
      refine Kpdr (ws := [(ns, iA G 8 fns), (np, iA G 100 fnp), (h0, oX12 nw nk mhasKept nt mtaped nr mrowMany mroundOf mroundFrom 0 nm fh17820 th17821 ns mfrom mto msort misFault mdeep mcoded mlines nl nc nF np ntr nb mbestCost nso nsi nit nsh nsf nss nrc mtraced mdealer mnumber mwhose msize misParted), (nw, iA G 1662 fnw), (nm, iA G 36 gnm7822)]) hP hD (fun hP hD => ?_)
      obtain ⟨hr7818, w7823⟩ := hr7818
      obtain ⟨r9_7824, hpx7824, hpe7824⟩ := hr7818
      subst r7818
      try dsimp only at hpx7824
      refine toQ hQ0 ?_
      exact RI (v := r9_7824) hC hP hD hS [2, 3, 4, 0, 1] (fh17820, th17821, gnm7822, fns, fnp) rfl rfl (by decide) (⟨⟨_, KWO.n1 (SVL.ofm hN (by omega)) (NI.slow hN (by omega)).1 (NI.slow hN (by omega)).2 (WY2.n c_2_7806) c_9_7817 hpx7824, rfl⟩, by first | assumption | exact w7823⟩) rfl gX12_fromOf_1.2.2.1
    · refine lv_iconst (v := 1) hx hb gX12_fromOf_0.2.2.2.2.2.2.2.2.1 (by decide) ?_
      refine lv_goto (tgt := 17) hx hb gX12_fromOf_0.2.2.2.2.2.2.2.2.2 (by decide) ?_
      refine iV (wr := [(ns, iA G 8 fns), (np, iA G 100 fnp)]) hC hK hl hP hD hS hA (m_knewByX l G kq k6 h0 je jt 1 nw nk mhasKept nt mtaped nr mrowMany mroundOf mroundFrom nm mfromHour mtoHour ns mfrom mto msort misFault mdeep mcoded mlines nl nc nF np ntr nb mbestCost nso nsi nit nsh nsf nss nrc mtraced mdealer mnumber mwhose msize misParted fnw fnm (hM) (hN) (hgp) (ekq) (hkq) (e6) (hk6) (hje) (hjt)) si_X12_176 [0, 1, 2] [3, 4] sm_0_1_2 fm_0_1_2 nd_0_1_2 sm_3_4 nd_3_4 dj_0_1_2__3_4 rfl rfl rfl rfl rfl (Nat.le_of_ble_eq_true rfl) rm_9_5_7 ⟨Nat.le_of_ble_eq_true rfl, Nat.le_of_ble_eq_true rfl⟩ gX12_fromOf_1.2.1 (fun r7825 => Ktu3 fun fh17827 th17828 gnm7829 => ?_)
      intro H locs hr7825 hP hD hS
      try dsimp only at hr7825
      refine Kpdr (ws := [(ns, iA G 8 fns), (np, iA G 100 fnp), (h0, oX12 nw nk mhasKept nt mtaped nr mrowMany mroundOf mroundFrom 0 nm fh17827 th17828 ns mfrom mto msort misFault mdeep mcoded mlines nl nc nF np ntr nb mbestCost nso nsi nit nsh nsf nss nrc mtraced mdealer mnumber mwhose msize misParted), (nw, iA G 1662 fnw), (nm, iA G 36 gnm7829)]) hP hD (fun hP hD => ?_)
      obtain ⟨hr7825, w7830⟩ := hr7825
      obtain ⟨r9_7831, hpx7831, hpe7831⟩ := hr7825
      subst r7825
      try dsimp only at hpx7831
      refine toQ hQ0 ?_
      exact RI (v := r9_7831) hC hP hD hS [2, 3, 4, 0, 1] (fh17827, th17828, gnm7829, fns, fnp) rfl rfl (by decide) (⟨⟨_, KWO.n0 (SVL.ofm hN (by omega)) (NI.slow hN (by omega)).1 (NI.slow hN (by omega)).2 (WY2.n c_2_7806) c_9_7817 hpx7831, rfl⟩, by first | assumption | exact w7830⟩) rfl gX12_fromOf_1.2.2.1
def K_r_why (l : Launch) (G : GG) (kq : Nat) (k6 : Nat) (k7 : Nat) (kp : Nat) (VL : Nat → List LNT) (VC : Nat → Nat → List Int32) (DY : Nat → Int32) (h0 : Nat) (x1 : Int32) (x2 : Int32) (nw : Nat) (nk : Nat) (mhasKept : Int32) (nt : Nat) (mtaped : Int32) (nr : Nat) (mrowMany : Int32) (mroundOf : Int32) (mroundFrom : Int32) (nm : Nat) (mfromHour : Int32) (mtoHour : Int32) (ns : Nat) (mfrom : Int32) (mto : Int32) (msort : Int32) (misFault : Int32) (mdeep : Int32) (mcoded : Int32) (mlines : Int32) (nl : Nat) (nc : Nat) (nF : Nat) (np : Nat) (ntr : Nat) (nb : Nat) (mbestCost : Int32) (nso : Nat) (nsi : Nat) (nit : Nat) (nsh : Nat) (nsf : Nat) (nss : Nat) (nrc : Nat) (mtraced : Int32) (mdealer : Int32) (mnumber : Int32) (mwhose : Int32) (msize : Int32) (misParted : Int32) (fnw : Nat → Int32) (fnm : Nat → Int32) (fns : Nat → Int32) (fnp : Nat → Int32) : Prop := MI l G yX12_why cX12_why 5 (some .int) 10 0 0 [.ref h0, .int x1, .int x2] [(h0, oX12 nw nk mhasKept nt mtaped nr mrowMany mroundOf mroundFrom 0 nm mfromHour mtoHour ns mfrom mto msort misFault mdeep mcoded mlines nl nc nF np ntr nb mbestCost nso nsi nit nsh nsf nss nrc mtraced mdealer mnumber mwhose msize misParted), (nw, iA G 1662 fnw), (nm, iA G 36 fnm), (ns, iA G 8 fns), (np, iA G 100 fnp)] (fun (r : Int32) (u : Int32 × Int32 × (Nat → Int32) × (Nat → Int32) × (Nat → Int32)) => (∃ s9, (WHQ (KST (shf fnw 104) (VSE fnw kq) (fnw 3).toInt k6) (shf fnw 104) (VSE fnw kq) (shf fnw 32) (shf fnw 12) k6 kq kp (fun e9 => LVF (LNF (RLO DY (DAYV (fnw 0) (fnw 1)) k7) VL) (TRF (RLO DY (DAYV (fnw 0) (fnw 1)) k7) VC (FAX (shf fnw 12) (shf fnw 32) (VSE fnw kq) kq e9))) (LVN (RLO DY (DAYV (fnw 0) (fnw 1)) k7) VL) x1 x2 s9) ∧ r = s9) ∧ (MB u.2.2.1)) (fun u : Int32 × Int32 × (Nat → Int32) × (Nat → Int32) × (Nat → Int32) => [(h0, oX12 nw nk mhasKept nt mtaped nr mrowMany mroundOf mroundFrom 0 nm u.1 u.2.1 ns mfrom mto msort misFault mdeep mcoded mlines nl nc nF np ntr nb mbestCost nso nsi nit nsh nsf nss nrc mtraced mdealer mnumber mwhose msize misParted), (nw, iA G 1662 fnw), (nm, iA G 36 u.2.2.1), (ns, iA G 8 u.2.2.2.1), (np, iA G 100 u.2.2.2.2)])
set_option maxHeartbeats 4000000 in
set_option maxRecDepth 100000 in
theorem r_why (l : Launch) (G : GG) (kq : Nat) (k6 : Nat) (k7 : Nat) (kp : Nat) (VL : Nat → List LNT) (VC : Nat → Nat → List Int32) (DY : Nat → Int32) (h0 : Nat) (x1 : Int32) (x2 : Int32) (nw : Nat) (nk : Nat) (mhasKept : Int32) (nt : Nat) (mtaped : Int32) (nr : Nat) (mrowMany : Int32) (mroundOf : Int32) (mroundFrom : Int32) (nm : Nat) (mfromHour : Int32) (mtoHour : Int32) (ns : Nat) (mfrom : Int32) (mto : Int32) (msort : Int32) (misFault : Int32) (mdeep : Int32) (mcoded : Int32) (mlines : Int32) (nl : Nat) (nc : Nat) (nF : Nat) (np : Nat) (ntr : Nat) (nb : Nat) (mbestCost : Int32) (nso : Nat) (nsi : Nat) (nit : Nat) (nsh : Nat) (nsf : Nat) (nss : Nat) (nrc : Nat) (mtraced : Int32) (mdealer : Int32) (mnumber : Int32) (mwhose : Int32) (msize : Int32) (misParted : Int32) (fnw : Nat → Int32) (fnm : Nat → Int32) (fns : Nat → Int32) (fnp : Nat → Int32) (hV : VI fnw) (hM : MB fnm) (hN : NI fnw) (hgp : GPRm (fnw 3)) (ekq : fnw 5 = nI kq) (hkq : kq ≤ 12) (e6 : fnw 6 = nI k6) (hk6 : k6 ≤ 24) (ek7 : fnw 7 = nI k7) (hk7 : k7 ≤ 8) (ekp : fnw 4 = nI kp) (hkp : kp ≤ 10) (hVM : VMZ fnw k7 VL VC DY) : K_r_why l G kq k6 k7 kp VL VC DY h0 x1 x2 nw nk mhasKept nt mtaped nr mrowMany mroundOf mroundFrom nm mfromHour mtoHour ns mfrom mto msort misFault mdeep mcoded mlines nl nc nF np ntr nb mbestCost nso nsi nit nsh nsf nss nrc mtraced mdealer mnumber mwhose msize misParted fnw fnm fns fnp := by
  refine MI.start (by decide +kernel) (Nat.le_of_ble_eq_true rfl) ?_
  intro p e s m below meth c A ls hC hK hP hD hS hA hl
  refine absQ (fun Q0 hQ0 => ?_)
  have hl : lv_has ls 5 [(0, .ref h0), (1, .int x1), (2, .int x2)] := hl
  refine Kan8 hC (fun hx hb hr hml hB hown hlocks hnm => ?_)
  refine lv_aload_n hx hb gX12_why_0.1 rfl (lv_at0 hl) ?_
  refine lv_iload_n hx hb gX12_why_0.2.1 rfl (lv_at1 hl) ?_
  refine lv_iconst (v := 4) hx hb gX12_why_0.2.2.1 (by decide) ?_
  refine pV hC hK hl hP hD (m_is l G kp h0 x1 4 nw nk mhasKept nt mtaped nr mrowMany mroundOf mroundFrom 0 nm mfromHour mtoHour ns mfrom mto msort misFault mdeep mcoded mlines nl nc nF np ntr nb mbestCost nso nsi nit nsh nsf nss nrc mtraced mdealer mnumber mwhose msize misParted fnw (by omega) (ekp) (by omega)) si_X12_120 [0, 1] sm_0_1 fm_0_1 nd_0_1 rfl rfl rfl rfl rfl (Nat.le_of_ble_eq_true rfl) rm_10_2_3 ⟨by first | exact Nat.le_of_ble_eq_true rfl | exact Nat.zero_le _, by first | exact Nat.le_of_ble_eq_true rfl | exact Nat.zero_le _⟩ gX12_why_0.2.2.2.1 (Kors (Keqa fun a7833 => ?_) (Keqa fun a7833 => ?_))
  · refine lv_if_eq (tgt := 19) hx hb gX12_why_0.2.2.2.2.1 (by decide) (fun c9 => absurd c9 (by decide)) (fun _ => ?_)
    refine lv_iload_n hx hb gX12_why_0.2.2.2.2.2.1 rfl (lv_at2 hl) ?_
    refine lv_iconst (v := 0) hx hb gX12_why_0.2.2.2.2.2.2.1 (by decide) ?_
    refine lv_bipush (v := 7) hx hb gX12_why_0.2.2.2.2.2.2.2.1 (by decide) ?_
    refine pS hC hK hl (m_within l G x2 0 7) si_X12_84 rfl rfl (Nat.le_of_ble_eq_true rfl) rm_10_1_3 ⟨by first | exact Nat.le_of_ble_eq_true rfl | exact Nat.zero_le _, by first | exact Nat.le_of_ble_eq_true rfl | exact Nat.zero_le _⟩ gX12_why_0.2.2.2.2.2.2.2.2.1 (Kors (Keqa fun a7835 => ?_) (Keqa fun a7835 => ?_))
    · refine lv_if_ne (tgt := 21) hx hb gX12_why_0.2.2.2.2.2.2.2.2.2 (by decide) (fun _ => ?_) (fun c9 => absurd c9 (by decide))
      obtain ⟨je, hje, rfl⟩ := Hs_nat (by omega) a7833
      obtain ⟨jt, hjt, rfl⟩ := Wi7 a7835
      refine lv_aload_n hx hb gX12_why_1.2.2.1 rfl (lv_at0 hl) ?_
      refine lv_iload_n hx hb gX12_why_1.2.2.2.1 rfl (lv_at1 hl) ?_
      refine vV (wr := []) hC hK hl hP hD hS hA (m_findShouldX l G kq k6 k7 VL VC DY h0 je nw nk mhasKept nt mtaped nr mrowMany mroundOf mroundFrom nm mfromHour mtoHour ns mfrom mto msort misFault mdeep mcoded mlines nl nc nF np ntr nb mbestCost nso nsi nit nsh nsf nss nrc mtraced mdealer mnumber mwhose msize misParted fnw fnm fns fnp (by omega) (hV) (hM) (hN) (hgp) (ekq) (hkq) (e6) (hk6) (ek7) (hk7) (hVM)) si_X12_199 [0, 1, 2, 3, 4] [] sm_0_1_2_3_4 fm_0_1_2_3_4 nd_0_1_2_3_4 rfl rfl (by decide) rfl rfl rfl rfl rfl (Nat.le_of_ble_eq_true rfl) rm_10_8_7 ⟨Nat.le_of_ble_eq_true rfl, Nat.le_of_ble_eq_true rfl⟩ gX12_why_1.2.2.2.2.1 (Ktu5 fun fh17838 th17839 gnm7840 gns7841 gnp7842 => ?_)
      intro H locs hr7836 hP hD hS
      try dsimp only at hr7836
      refine Kpdr (ws := [(h0, oX12 nw nk mhasKept nt mtaped nr mrowMany mroundOf mroundFrom 0 nm fh17838 th17839 ns mfrom mto msort misFault mdeep mcoded mlines nl nc nF np ntr nb mbestCost nso nsi nit nsh nsf nss nrc mtraced mdealer mnumber mwhose msize misParted), (nw, iA G 1662 fnw), (nm, iA G 36 gnm7840), (ns, iA G 8 gns7841), (np, iA G 100 gnp7842)]) hP hD (fun hP hD => ?_)
      have hu7844 := hr7836.1
      have hu7845 := hr7836.2
      have hb08 : HBD (S0F (KST (shf fnw 104) (VSE fnw kq) (fnw 3).toInt k6) (shf fnw 104) (VSE fnw kq) (shf fnw 32) (shf fnw 12) k6 kq je) := S0F.hbd (SVL.ofm hN (by omega)) (NI.slow hN (by omega)).1 (NI.slow hN (by omega)).2
      have hb07 : HBD (SHF (KST (shf fnw 104) (VSE fnw kq) (fnw 3).toInt k6) (shf fnw 104) (VSE fnw kq) (shf fnw 32) (shf fnw 12) k6 kq je (LVF (LNF (RLO DY (DAYV (fnw 0) (fnw 1)) k7) VL) (TRF (RLO DY (DAYV (fnw 0) (fnw 1)) k7) VC (FAX (shf fnw 12) (shf fnw 32) (VSE fnw kq) kq je))) (LVN (RLO DY (DAYV (fnw 0) (fnw 1)) k7) VL)) := HBD.pit hb08 (LVM.lvb hVM) 9
      refine lv_aload_n hx hb gX12_why_1.2.2.2.2.2.1 rfl (lv_at0 hl) ?_
      have hdy9 : ∀ v9, v9 < k7 → fnw (176 + 156 * v9 + 0) = DY v9 := fun v9 h9 => (hVM v9 h9).1
      refine pV hC hK hl hP hD (m_rulesX l G k7 DY h0 nw nk mhasKept nt mtaped nr mrowMany mroundOf mroundFrom 0 nm fh17838 th17839 ns mfrom mto msort misFault mdeep mcoded mlines nl nc nF np ntr nb mbestCost nso nsi nit nsh nsf nss nrc mtraced mdealer mnumber mwhose msize misParted fnw (hN) (ek7) (hk7) (hdy9)) si_X12_180 [0, 1] sm_0_1 fm_0_1 nd_0_1 rfl rfl rfl rfl rfl (Nat.le_of_ble_eq_true rfl) rm_10_2_3 ⟨by first | exact Nat.le_of_ble_eq_true rfl | exact Nat.zero_le _, by first | exact Nat.le_of_ble_eq_true rfl | exact Nat.zero_le _⟩ gX12_why_1.2.2.2.2.2.2.1 (Keqr ?_)
      obtain ⟨o9, eo9⟩ : ∃ z9, z9 = (RLO DY (DAYV (fnw 0) (fnw 1)) k7) := ⟨_, rfl⟩
      rcases o9 with _ | v9
      · refine eqi (x1 := (-1)) (congrArg LAT eo9.symm) ?_
        refine lv_istore_n (lv' := [(3, .int (-1)), (0, .ref h0), (1, .int (nI je)), (2, .int (nI jt))]) hx hb gX12_why_1.2.2.2.2.2.2.2.1 rfl hl (by decide) rfl (fun ls hl => ?_)
        refine lv_aload_n hx hb gX12_why_1.2.2.2.2.2.2.2.2.1 rfl (lv_at1 hl) ?_
        refine gf_X12_29 hC rfl hK hP 0 rfl rfl gX12_why_1.2.2.2.2.2.2.2.2.2 ?_
        refine lv_iload_n hx hb gX12_why_2.1 rfl (lv_at3 hl) ?_
        refine aldN hC hK hP 3 rfl (k := jt) (by omega) (Nat.le_of_ble_eq_true rfl) (v := gns7841 jt) rfl gX12_why_2.2.1 ?_
        refine lv_ldc hx hb hown (hB _ m_1204) gX12_why_2.2.2.1 ?_
        refine lv_icmp_eq (tgt := 58) hx hb gX12_why_2.2.2.2.1 (by decide) (fun c_39_7848 => ?_) (fun c_39_7848 => ?_)
        · refine lv_bipush (v := (-3)) hx hb gX12_why_3.2.2.2.2.1 (by decide) ?_
          refine toQ hQ0 ?_
          exact RI (v := (-3)) hC hP hD hS [0, 1, 2, 3, 4] (fh17838, th17839, gnm7840, gns7841, gnp7842) rfl rfl (by decide) (⟨⟨_, Or.inr ⟨je, jt, hje, hjt, rfl, rfl, Or.inl ⟨Or.inl ((SHF.nm (by decide) hb07 hjt (hu7845 jt hjt)).mp c_39_7848), rfl⟩⟩, rfl⟩, by first | assumption | exact hu7844⟩) rfl gX12_why_3.2.2.2.2.2.1
        · refine lv_aload_n hx hb gX12_why_2.2.2.2.2.1 rfl (lv_at1 hl) ?_
          refine gf_X12_29 hC rfl hK hP 0 rfl rfl gX12_why_2.2.2.2.2.2.1 ?_
          refine lv_iload_n hx hb gX12_why_2.2.2.2.2.2.2.1 rfl (lv_at3 hl) ?_
          refine aldN hC hK hP 3 rfl (k := jt) (by omega) (Nat.le_of_ble_eq_true rfl) (v := gns7841 jt) rfl gX12_why_2.2.2.2.2.2.2.2.1 ?_
          refine lv_aload_n hx hb gX12_why_2.2.2.2.2.2.2.2.2.1 rfl (lv_at1 hl) ?_
          refine lv_iload_n hx hb gX12_why_2.2.2.2.2.2.2.2.2.2 rfl (lv_at2 hl) ?_
          refine lv_iload_n hx hb gX12_why_3.1 rfl (lv_at3 hl) ?_
          refine lv_iconst (v := 1) hx hb gX12_why_3.2.1 (by decide) ?_
          refine iV (wr := [(ns, iA G 8 gns7841), (np, iA G 100 gnp7842)]) hC hK hl hP hD hS hA (m_knewByX l G kq k6 h0 je jt 1 nw nk mhasKept nt mtaped nr mrowMany mroundOf mroundFrom nm fh17838 th17839 ns mfrom mto msort misFault mdeep mcoded mlines nl nc nF np ntr nb mbestCost nso nsi nit nsh nsf nss nrc mtraced mdealer mnumber mwhose msize misParted fnw gnm7840 (hu7844) (hN) (hgp) (ekq) (hkq) (e6) (hk6) (by omega) (by omega)) si_X12_176 [0, 1, 2] [3, 4] sm_0_1_2 fm_0_1_2 nd_0_1_2 sm_3_4 nd_3_4 dj_0_1_2__3_4 rfl rfl rfl rfl rfl (Nat.le_of_ble_eq_true rfl) rm_10_5_7 ⟨Nat.le_of_ble_eq_true rfl, Nat.le_of_ble_eq_true rfl⟩ gX12_why_3.2.2.1 (fun r7849 => Ktu3 fun fh17851 th17852 gnm7853 => ?_)
          intro H locs hr7849 hP hD hS
          try dsimp only at hr7849
          refine Kpdr (ws := [(ns, iA G 8 gns7841), (np, iA G 100 gnp7842), (h0, oX12 nw nk mhasKept nt mtaped nr mrowMany mroundOf mroundFrom 0 nm fh17851 th17852 ns mfrom mto msort misFault mdeep mcoded mlines nl nc nF np ntr nb mbestCost nso nsi nit nsh nsf nss nrc mtraced mdealer mnumber mwhose msize misParted), (nw, iA G 1662 fnw), (nm, iA G 36 gnm7853)]) hP hD (fun hP hD => ?_)
          obtain ⟨hr7849, w7854⟩ := hr7849
          obtain ⟨r9_7855, hpx7855, hpe7855⟩ := hr7849
          subst r7849
          try dsimp only at hpx7855
          refine lv_icmp_ne (tgt := 61) hx hb gX12_why_3.2.2.2.1 (by decide) (fun c_55_7856 => ?_) (fun c_55_7856 => ?_)
          · refine lv_iconst (v := 0) hx hb gX12_why_3.2.2.2.2.2.2.1 (by decide) ?_
            refine lv_istore (lv' := [(4, .int 0), (3, .int (-1)), (0, .ref h0), (1, .int (nI je)), (2, .int (nI jt))]) hx hb gX12_why_3.2.2.2.2.2.2.2.1 hl (by decide) rfl (fun ls hl => ?_)
            refine lv_iload hx hb gX12_why_3.2.2.2.2.2.2.2.2.1 (lv_at0 hl) ?_
            refine lv_aload_n hx hb gX12_why_3.2.2.2.2.2.2.2.2.2 rfl (lv_at2 hl) ?_
            refine lv_iload_n hx hb gX12_why_4.1 rfl (lv_at1 hl) ?_
            refine pV hC hK hl hP hD (m_linesN l G h0 nw nk mhasKept nt mtaped nr mrowMany mroundOf mroundFrom 0 nm fh17851 th17852 ns mfrom mto msort misFault mdeep mcoded mlines nl nc nF np ntr nb mbestCost nso nsi nit nsh nsf nss nrc mtraced mdealer mnumber mwhose msize misParted fnw) si_X12_183 [2, 3] sm_2_3 fm_2_3 nd_2_3 rfl rfl rfl rfl rfl (Nat.le_of_ble_eq_true rfl) rm_10_1_2 ⟨by first | exact Nat.le_of_ble_eq_true rfl | exact Nat.zero_le _, by first | exact Nat.le_of_ble_eq_true rfl | exact Nat.zero_le _⟩ gX12_why_4.2.1 (Keqr ?_)
            refine lv_icmp_ge (tgt := 111) hx hb gX12_why_4.2.2.1 (by decide) (fun _ => ?_) (fun c9 => absurd (by decide) c9)
            refine lv_bipush (v := (-3)) hx hb gX12_why_6.2.2.2.1 (by decide) ?_
            refine toQ hQ0 ?_
            exact RI (v := (-3)) hC hP hD hS [2, 3, 4, 0, 1] (fh17851, th17852, gnm7853, gns7841, gnp7842) rfl rfl (by decide) (⟨⟨_, Or.inr ⟨je, jt, hje, hjt, rfl, rfl, Or.inr ⟨⟨fun h9 => c_39_7848 ((SHF.nm (by decide) hb07 hjt (hu7845 jt hjt)).mpr h9), fun h9 => c_55_7856 ((SHF.eqm (by decide) hb07 hb08 hjt (hu7845 jt hjt) hpx7855).mpr h9)⟩, Or.inr ⟨fun i9 h9 => absurd h9 (by rw [← eo9]; exact Nat.not_lt_zero i9), rfl⟩⟩⟩, rfl⟩, by first | assumption | exact w7854⟩) rfl gX12_why_6.2.2.2.2
          · refine lv_bipush (v := (-3)) hx hb gX12_why_3.2.2.2.2.1 (by decide) ?_
            refine toQ hQ0 ?_
            exact RI (v := (-3)) hC hP hD hS [2, 3, 4, 0, 1] (fh17851, th17852, gnm7853, gns7841, gnp7842) rfl rfl (by decide) (⟨⟨_, Or.inr ⟨je, jt, hje, hjt, rfl, rfl, Or.inl ⟨Or.inr ((SHF.eqm (by decide) hb07 hb08 hjt (hu7845 jt hjt) hpx7855).mp c_55_7856), rfl⟩⟩, rfl⟩, by first | assumption | exact w7854⟩) rfl gX12_why_3.2.2.2.2.2.1
      · have hv9 := LTS.lt _ _ eo9.symm
        obtain ⟨ed9, hl9, eb9, hrow9⟩ := hVM v9 hv9
        obtain ⟨n9, hn9⟩ : ∃ z9, z9 = (VL v9).length := ⟨_, rfl⟩
        rw [← hn9] at hl9 eb9 hrow9
        obtain ⟨L8, hL8, eL8, hLN8⟩ := VI.line hV (v := v9) (by omega)
        obtain rfl : L8 = n9 := (nI_eq (by omega) (by omega)).mp (eL8.symm.trans eb9)
        have hlb9 : ∀ i, i < L8 → LVB ((LVF (LNF (RLO DY (DAYV (fnw 0) (fnw 1)) k7) VL) (TRF (RLO DY (DAYV (fnw 0) (fnw 1)) k7) VC (FAX (shf fnw 12) (shf fnw 32) (VSE fnw kq) kq je))) i) := fun i hi => by rw [← eo9]; exact LVX.b (hrow9 i hi).1
        refine eqi (x1 := nI v9) (congrArg LAT eo9.symm) ?_
        refine lv_istore_n (lv' := [(3, .int (nI v9)), (0, .ref h0), (1, .int (nI je)), (2, .int (nI jt))]) hx hb gX12_why_1.2.2.2.2.2.2.2.1 rfl hl (by decide) rfl (fun ls hl => ?_)
        refine lv_aload_n hx hb gX12_why_1.2.2.2.2.2.2.2.2.1 rfl (lv_at1 hl) ?_
        refine gf_X12_29 hC rfl hK hP 0 rfl rfl gX12_why_1.2.2.2.2.2.2.2.2.2 ?_
        refine lv_iload_n hx hb gX12_why_2.1 rfl (lv_at3 hl) ?_
        refine aldN hC hK hP 3 rfl (k := jt) (by omega) (Nat.le_of_ble_eq_true rfl) (v := gns7841 jt) rfl gX12_why_2.2.1 ?_
        refine lv_ldc hx hb hown (hB _ m_1204) gX12_why_2.2.2.1 ?_
        refine lv_icmp_eq (tgt := 58) hx hb gX12_why_2.2.2.2.1 (by decide) (fun c_39_7859 => ?_) (fun c_39_7859 => ?_)
        · refine lv_bipush (v := (-3)) hx hb gX12_why_3.2.2.2.2.1 (by decide) ?_
          refine toQ hQ0 ?_
          exact RI (v := (-3)) hC hP hD hS [0, 1, 2, 3, 4] (fh17838, th17839, gnm7840, gns7841, gnp7842) rfl rfl (by decide) (⟨⟨_, Or.inr ⟨je, jt, hje, hjt, rfl, rfl, Or.inl ⟨Or.inl ((SHF.nm (by decide) hb07 hjt (hu7845 jt hjt)).mp c_39_7859), rfl⟩⟩, rfl⟩, by first | assumption | exact hu7844⟩) rfl gX12_why_3.2.2.2.2.2.1
        · refine lv_aload_n hx hb gX12_why_2.2.2.2.2.1 rfl (lv_at1 hl) ?_
          refine gf_X12_29 hC rfl hK hP 0 rfl rfl gX12_why_2.2.2.2.2.2.1 ?_
          refine lv_iload_n hx hb gX12_why_2.2.2.2.2.2.2.1 rfl (lv_at3 hl) ?_
          refine aldN hC hK hP 3 rfl (k := jt) (by omega) (Nat.le_of_ble_eq_true rfl) (v := gns7841 jt) rfl gX12_why_2.2.2.2.2.2.2.2.1 ?_
          refine lv_aload_n hx hb gX12_why_2.2.2.2.2.2.2.2.2.1 rfl (lv_at1 hl) ?_
          refine lv_iload_n hx hb gX12_why_2.2.2.2.2.2.2.2.2.2 rfl (lv_at2 hl) ?_
          refine lv_iload_n hx hb gX12_why_3.1 rfl (lv_at3 hl) ?_
          refine lv_iconst (v := 1) hx hb gX12_why_3.2.1 (by decide) ?_
          refine iV (wr := [(ns, iA G 8 gns7841), (np, iA G 100 gnp7842)]) hC hK hl hP hD hS hA (m_knewByX l G kq k6 h0 je jt 1 nw nk mhasKept nt mtaped nr mrowMany mroundOf mroundFrom nm fh17838 th17839 ns mfrom mto msort misFault mdeep mcoded mlines nl nc nF np ntr nb mbestCost nso nsi nit nsh nsf nss nrc mtraced mdealer mnumber mwhose msize misParted fnw gnm7840 (hu7844) (hN) (hgp) (ekq) (hkq) (e6) (hk6) (by omega) (by omega)) si_X12_176 [0, 1, 2] [3, 4] sm_0_1_2 fm_0_1_2 nd_0_1_2 sm_3_4 nd_3_4 dj_0_1_2__3_4 rfl rfl rfl rfl rfl (Nat.le_of_ble_eq_true rfl) rm_10_5_7 ⟨Nat.le_of_ble_eq_true rfl, Nat.le_of_ble_eq_true rfl⟩ gX12_why_3.2.2.1 (fun r7860 => Ktu3 fun fh17862 th17863 gnm7864 => ?_)
          intro H locs hr7860 hP hD hS
          try dsimp only at hr7860
          refine Kpdr (ws := [(ns, iA G 8 gns7841), (np, iA G 100 gnp7842), (h0, oX12 nw nk mhasKept nt mtaped nr mrowMany mroundOf mroundFrom 0 nm fh17862 th17863 ns mfrom mto msort misFault mdeep mcoded mlines nl nc nF np ntr nb mbestCost nso nsi nit nsh nsf nss nrc mtraced mdealer mnumber mwhose msize misParted), (nw, iA G 1662 fnw), (nm, iA G 36 gnm7864)]) hP hD (fun hP hD => ?_)
          obtain ⟨hr7860, w7865⟩ := hr7860
          obtain ⟨r9_7866, hpx7866, hpe7866⟩ := hr7860
          subst r7860
          try dsimp only at hpx7866
          refine lv_icmp_ne (tgt := 61) hx hb gX12_why_3.2.2.2.1 (by decide) (fun c_55_7867 => ?_) (fun c_55_7867 => ?_)
          · refine lv_iconst (v := 0) hx hb gX12_why_3.2.2.2.2.2.2.1 (by decide) ?_
            refine lv_istore (lv' := [(4, .int 0), (3, .int (nI v9)), (0, .ref h0), (1, .int (nI je)), (2, .int (nI jt))]) hx hb gX12_why_3.2.2.2.2.2.2.2.1 hl (by decide) rfl (fun ls hl => ?_)
            have keyQ : ∀ (nQ kQ : Nat) (vR : Nat → Int32) (H : Heap) (locs : List Loc) (ls : Array Slot), kQ + nQ = L8 → (∀ j, j < kQ → ¬ FLP (LVF (LNF (RLO DY (DAYV (fnw 0) (fnw 1)) k7) VL) (TRF (RLO DY (DAYV (fnw 0) (fnw 1)) k7) VC (FAX (shf fnw 12) (shf fnw 32) (VSE fnw kq) kq je))) (SHF (KST (shf fnw 104) (VSE fnw kq) (fnw 3).toInt k6) (shf fnw 104) (VSE fnw kq) (shf fnw 32) (shf fnw 12) k6 kq je (LVF (LNF (RLO DY (DAYV (fnw 0) (fnw 1)) k7) VL) (TRF (RLO DY (DAYV (fnw 0) (fnw 1)) k7) VC (FAX (shf fnw 12) (shf fnw 32) (VSE fnw kq) kq je))) (LVN (RLO DY (DAYV (fnw 0) (fnw 1)) k7) VL)) jt j) → va_PD G A [(ns, iA G 8 gns7841), (np, iA G 100 vR), (h0, oX12 nw nk mhasKept nt mtaped nr mrowMany mroundOf mroundFrom 0 nm fh17862 th17863 ns mfrom mto msort misFault mdeep mcoded mlines nl nc nF np ntr nb mbestCost nso nsi nit nsh nsf nss nrc mtraced mdealer mnumber mwhose msize misParted), (nw, iA G 1662 fnw), (nm, iA G 36 gnm7864)] H → va_S A s.heap H locs → lv_has ls 5 [(4, .int (nI kQ)), (3, .int (nI v9)), (0, .ref h0), (1, .int (nI je)), (2, .int (nI jt))] → W p l e (RM 10 0 0) s m ([.ref h0, .int (nI je), .int (nI jt)] : List Value).toArray below meth c H locs 0 0 Q0 (F0 m 64 ls []) := by
              intro nQ
              induction nQ with
              | zero =>
                intro kQ vR H locs ls hkQ hno hPD hS hl
                refine Kan2 hPD (fun hP hD => ?_)
                obtain rfl : L8 = kQ := by omega
                have hl : lv_has ls 5 [(4, .int (nI L8)), (3, .int (nI v9)), (0, .ref h0), (1, .int (nI je)), (2, .int (nI jt))] := hl
                refine lv_iload hx hb gX12_why_3.2.2.2.2.2.2.2.2.1 (lv_at0 hl) ?_
                refine lv_aload_n hx hb gX12_why_3.2.2.2.2.2.2.2.2.2 rfl (lv_at2 hl) ?_
                refine lv_iload_n hx hb gX12_why_4.1 rfl (lv_at1 hl) ?_
                refine pV hC hK hl hP hD (m_lines l G L8 h0 v9 nw nk mhasKept nt mtaped nr mrowMany mroundOf mroundFrom 0 nm fh17862 th17863 ns mfrom mto msort misFault mdeep mcoded mlines nl nc nF np ntr nb mbestCost nso nsi nit nsh nsf nss nrc mtraced mdealer mnumber mwhose msize misParted fnw (by omega) (eL8)) si_X12_183 [2, 3] sm_2_3 fm_2_3 nd_2_3 rfl rfl rfl rfl rfl (Nat.le_of_ble_eq_true rfl) rm_10_1_2 ⟨by first | exact Nat.le_of_ble_eq_true rfl | exact Nat.zero_le _, by first | exact Nat.le_of_ble_eq_true rfl | exact Nat.zero_le _⟩ gX12_why_4.2.1 (Keqr ?_)
                refine lv_icmp_ge (tgt := 111) hx hb gX12_why_4.2.2.1 (by decide) (fun _ => ?_) (fun c9 => absurd (Int32.le_refl _) c9)
                refine lv_bipush (v := (-3)) hx hb gX12_why_6.2.2.2.1 (by decide) ?_
                refine toQ hQ0 ?_
                exact RI (v := (-3)) hC hP hD hS [2, 3, 4, 0, 1] (fh17862, th17863, gnm7864, gns7841, vR) rfl rfl (by decide) (⟨⟨_, Or.inr ⟨je, jt, hje, hjt, rfl, rfl, Or.inr ⟨⟨fun h9 => c_39_7859 ((SHF.nm (by decide) hb07 hjt (hu7845 jt hjt)).mpr h9), fun h9 => c_55_7867 ((SHF.eqm (by decide) hb07 hb08 hjt (hu7845 jt hjt) hpx7866).mpr h9)⟩, (FLN.cn (show LVN (RLO DY (DAYV (fnw 0) (fnw 1)) k7) VL = L8 from (congrArg (fun z9 => LVN z9 VL) eo9.symm).trans hn9.symm) (Or.inr ⟨hno, rfl⟩))⟩⟩, rfl⟩, by first | assumption | exact w7865⟩) rfl gX12_why_6.2.2.2.2
              | succ nQ ihQ =>
                intro kQ vR H locs ls hkQ hno hPD hS hl
                refine Kan2 hPD (fun hP hD => ?_)
                refine lv_iload hx hb gX12_why_3.2.2.2.2.2.2.2.2.1 (lv_at0 hl) ?_
                refine lv_aload_n hx hb gX12_why_3.2.2.2.2.2.2.2.2.2 rfl (lv_at2 hl) ?_
                refine lv_iload_n hx hb gX12_why_4.1 rfl (lv_at1 hl) ?_
                refine pV hC hK hl hP hD (m_lines l G L8 h0 v9 nw nk mhasKept nt mtaped nr mrowMany mroundOf mroundFrom 0 nm fh17862 th17863 ns mfrom mto msort misFault mdeep mcoded mlines nl nc nF np ntr nb mbestCost nso nsi nit nsh nsf nss nrc mtraced mdealer mnumber mwhose msize misParted fnw (by omega) (eL8)) si_X12_183 [2, 3] sm_2_3 fm_2_3 nd_2_3 rfl rfl rfl rfl rfl (Nat.le_of_ble_eq_true rfl) rm_10_1_2 ⟨by first | exact Nat.le_of_ble_eq_true rfl | exact Nat.zero_le _, by first | exact Nat.le_of_ble_eq_true rfl | exact Nat.zero_le _⟩ gX12_why_4.2.1 (Keqr ?_)
                refine lv_icmp_ge (tgt := 111) hx hb gX12_why_4.2.2.1 (by decide) (fun c9 => absurd c9 (nI_ge (a := kQ) (b := L8) (by omega) (by omega))) (fun _ => ?_)
                refine lv_aload_n hx hb gX12_why_4.2.2.2.1 rfl (lv_at2 hl) ?_
                refine lv_iload_n hx hb gX12_why_4.2.2.2.2.1 rfl (lv_at1 hl) ?_
                refine lv_iload hx hb gX12_why_4.2.2.2.2.2.1 (lv_at0 hl) ?_
                have eLV9 : (LVF (LNF (RLO DY (DAYV (fnw 0) (fnw 1)) k7) VL) (TRF (RLO DY (DAYV (fnw 0) (fnw 1)) k7) VC (FAX (shf fnw 12) (shf fnw 32) (VSE fnw kq) kq je))) kQ = LVX ((VL v9).getD kQ LN0) (PLN (FAX (shf fnw 12) (shf fnw 32) (VSE fnw kq) kq je) (VC v9 kQ) 1 % 2 = 1) := by rw [← eo9]; rfl
                have hln9 := hLN8 kQ (by omega)
                have hlz9 := hrow9 kQ (by omega)
                refine pV hC hK hl hP hD (m_thingOfX l G ((VL v9).getD kQ LN0) (VC v9 kQ) h0 v9 kQ nw nk mhasKept nt mtaped nr mrowMany mroundOf mroundFrom 0 nm fh17862 th17863 ns mfrom mto msort misFault mdeep mcoded mlines nl nc nF np ntr nb mbestCost nso nsi nit nsh nsf nss nrc mtraced mdealer mnumber mwhose msize misParted fnw (by omega) (by omega) (hln9) (hlz9)) si_X12_190 [2, 3] sm_2_3 fm_2_3 nd_2_3 rfl rfl rfl rfl rfl (Nat.le_of_ble_eq_true rfl) rm_10_2_4 ⟨by first | exact Nat.le_of_ble_eq_true rfl | exact Nat.zero_le _, by first | exact Nat.le_of_ble_eq_true rfl | exact Nat.zero_le _⟩ gX12_why_4.2.2.2.2.2.2.1 (fun r7872 hr7872 => ?_)
                obtain ⟨t9_7873, hpx7873, rfl⟩ := hr7872
                try dsimp only at hpx7873
                refine lv_iload_n hx hb gX12_why_4.2.2.2.2.2.2.2.1 rfl (lv_at4 hl) ?_
                refine lv_icmp_ne (tgt := 105) hx hb gX12_why_4.2.2.2.2.2.2.2.2.1 (by decide) (fun c_82_7874 => ?_) (fun c_82_7874 => ?_)
                · refine lv_iinc (v := nI (kQ + 1)) (lv' := [(4, .int (nI (kQ + 1))), (3, .int (nI v9)), (0, .ref h0), (1, .int (nI je)), (2, .int (nI jt))]) hx hb gX12_why_6.2.1 hl (k := 0) rfl (nI_1 _) (by decide) rfl (fun ls hl => ?_)
                  refine lv_goto (tgt := 64) hx hb gX12_why_6.2.2.1 (by decide) ?_
                  have hst9 : ∀ j, j < kQ + 1 → ¬ FLP (LVF (LNF (RLO DY (DAYV (fnw 0) (fnw 1)) k7) VL) (TRF (RLO DY (DAYV (fnw 0) (fnw 1)) k7) VC (FAX (shf fnw 12) (shf fnw 32) (VSE fnw kq) kq je))) (SHF (KST (shf fnw 104) (VSE fnw kq) (fnw 3).toInt k6) (shf fnw 104) (VSE fnw kq) (shf fnw 32) (shf fnw 12) k6 kq je (LVF (LNF (RLO DY (DAYV (fnw 0) (fnw 1)) k7) VL) (TRF (RLO DY (DAYV (fnw 0) (fnw 1)) k7) VC (FAX (shf fnw 12) (shf fnw 32) (VSE fnw kq) kq je))) (LVN (RLO DY (DAYV (fnw 0) (fnw 1)) k7) VL)) jt j := FLP.next hno (FLP.tno (fun h9 => c_82_7874 (congrArg nI (hpx7873.1.trans (by rw [← eo9] at h9; exact h9)))))
                  exact ihQ (kQ + 1) vR _ _ _ (by omega) (by first | assumption | exact Or.inl rfl | exact Or.inr rfl | exact fun j9 h9 => absurd h9 (Nat.not_lt_zero j9)) (And.intro hP hD) hS (lv_sub hl [0, 1, 2, 3, 4] rfl)
                · refine lv_aload_n hx hb gX12_why_4.2.2.2.2.2.2.2.2.2 rfl (lv_at2 hl) ?_
                  refine lv_iload_n hx hb gX12_why_5.1 rfl (lv_at1 hl) ?_
                  refine lv_iload hx hb gX12_why_5.2.1 (lv_at0 hl) ?_
                  refine lv_iload_n hx hb gX12_why_5.2.2.1 rfl (lv_at3 hl) ?_
                  refine iV (wr := [(nm, iA G 36 gnm7864)]) hC hK hl hP hD hS hA (m_fromLineX l G kq ((VL v9).getD kQ LN0) (VC v9 kQ) (SHF (KST (shf fnw 104) (VSE fnw kq) (fnw 3).toInt k6) (shf fnw 104) (VSE fnw kq) (shf fnw 32) (shf fnw 12) k6 kq je (LVF (LNF (RLO DY (DAYV (fnw 0) (fnw 1)) k7) VL) (TRF (RLO DY (DAYV (fnw 0) (fnw 1)) k7) VC (FAX (shf fnw 12) (shf fnw 32) (VSE fnw kq) kq je))) (LVN (RLO DY (DAYV (fnw 0) (fnw 1)) k7) VL)) h0 v9 kQ je nw nk mhasKept nt mtaped nr mrowMany mroundOf mroundFrom nm fh17862 th17863 ns mfrom mto msort misFault mdeep mcoded mlines nl nc nF np ntr nb mbestCost nso nsi nit nsh nsf nss nrc mtraced mdealer mnumber mwhose msize misParted fnw gns7841 vR (by omega) (by omega) (hln9) (hlz9) (hu7845) (hb07) (by omega) (hN) (ekq) (hkq)) si_X12_186 [2, 3, 0, 1] [4] sm_2_3_0_1 fm_2_3_0_1 nd_2_3_0_1 sm_4 nd_4 dj_2_3_0_1__4 rfl rfl rfl rfl rfl (Nat.le_of_ble_eq_true rfl) rm_10_7_6 ⟨Nat.le_of_ble_eq_true rfl, Nat.le_of_ble_eq_true rfl⟩ gX12_why_5.2.2.2.1 (fun r7875 gnp7877 H locs hr7875 hP hD hS => ?_)
                  try dsimp only at hr7875
                  refine Kpdr (ws := [(nm, iA G 36 gnm7864), (h0, oX12 nw nk mhasKept nt mtaped nr mrowMany mroundOf mroundFrom 0 nm fh17862 th17863 ns mfrom mto msort misFault mdeep mcoded mlines nl nc nF np ntr nb mbestCost nso nsi nit nsh nsf nss nrc mtraced mdealer mnumber mwhose msize misParted), (nw, iA G 1662 fnw), (ns, iA G 8 gns7841), (np, iA G 100 gnp7877)]) hP hD (fun hP hD => ?_)
                  obtain ⟨y9_7878, hpx7878, hpe7878⟩ := hr7875
                  subst r7875
                  try dsimp only at hpx7878
                  refine lv_aload_n hx hb gX12_why_5.2.2.2.2.1 rfl (lv_at2 hl) ?_
                  refine gf_X12_29 hC rfl hK hP 1 rfl rfl gX12_why_5.2.2.2.2.2.1 ?_
                  refine lv_iload_n hx hb gX12_why_5.2.2.2.2.2.2.1 rfl (lv_at4 hl) ?_
                  refine aldN hC hK hP 3 rfl (k := jt) (by omega) (Nat.le_of_ble_eq_true rfl) (v := gns7841 jt) rfl gX12_why_5.2.2.2.2.2.2.2.1 ?_
                  refine lv_icmp_ne (tgt := 105) hx hb gX12_why_5.2.2.2.2.2.2.2.2.1 (by decide) (fun c_99_7879 => ?_) (fun c_99_7879 => ?_)
                  · refine lv_iinc (v := nI (kQ + 1)) (lv' := [(4, .int (nI (kQ + 1))), (3, .int (nI v9)), (0, .ref h0), (1, .int (nI je)), (2, .int (nI jt))]) hx hb gX12_why_6.2.1 hl (k := 0) rfl (nI_1 _) (by decide) rfl (fun ls hl => ?_)
                    refine lv_goto (tgt := 64) hx hb gX12_why_6.2.2.1 (by decide) ?_
                    refine Kpds (ws' := [(ns, iA G 8 gns7841), (np, iA G 100 gnp7877), (h0, oX12 nw nk mhasKept nt mtaped nr mrowMany mroundOf mroundFrom 0 nm fh17862 th17863 ns mfrom mto msort misFault mdeep mcoded mlines nl nc nF np ntr nb mbestCost nso nsi nit nsh nsf nss nrc mtraced mdealer mnumber mwhose msize misParted), (nw, iA G 1662 fnw), (nm, iA G 36 gnm7864)]) hP hD [3, 4, 1, 2, 0] fm_3_4_1_2_0 nd_3_4_1_2_0 sm_3_4_1_2_0 (fun hP hD => ?_)
                    have hst9 : ∀ j, j < kQ + 1 → ¬ FLP (LVF (LNF (RLO DY (DAYV (fnw 0) (fnw 1)) k7) VL) (TRF (RLO DY (DAYV (fnw 0) (fnw 1)) k7) VC (FAX (shf fnw 12) (shf fnw 32) (VSE fnw kq) kq je))) (SHF (KST (shf fnw 104) (VSE fnw kq) (fnw 3).toInt k6) (shf fnw 104) (VSE fnw kq) (shf fnw 32) (shf fnw 12) k6 kq je (LVF (LNF (RLO DY (DAYV (fnw 0) (fnw 1)) k7) VL) (TRF (RLO DY (DAYV (fnw 0) (fnw 1)) k7) VC (FAX (shf fnw 12) (shf fnw 32) (VSE fnw kq) kq je))) (LVN (RLO DY (DAYV (fnw 0) (fnw 1)) k7) VL)) jt j := FLP.next hno (fun h9 => c_99_7879 ((FLP.ref (LV := (LVF (LNF (RLO DY (DAYV (fnw 0) (fnw 1)) k7) VL) (TRF (RLO DY (DAYV (fnw 0) (fnw 1)) k7) VC (FAX (shf fnw 12) (shf fnw 32) (VSE fnw kq) kq je)))) (k := kQ) (by rw [eLV9]; exact hpx7878) (fun j o w h9 => ((TNO.of (by rw [eLV9] at h9; exact h9)).symm.trans (hpx7873.1.symm.trans ((nI_eq (by omega) (by omega)).mp c_82_7874)))) c_39_7859 (hu7845 jt hjt) (hlb9 kQ (by omega)) hb07 (by decide) hjt).mpr h9))
                    exact ihQ (kQ + 1) gnp7877 _ _ _ (by omega) (by first | assumption | exact Or.inl rfl | exact Or.inr rfl | exact fun j9 h9 => absurd h9 (Nat.not_lt_zero j9)) (And.intro hP hD) hS (lv_sub hl [0, 1, 2, 3, 4] rfl)
                  · refine lv_iload hx hb gX12_why_5.2.2.2.2.2.2.2.2.2 (lv_at0 hl) ?_
                    refine toQ hQ0 ?_
                    exact RI (v := nI kQ) hC hP hD hS [1, 2, 0, 3, 4] (fh17862, th17863, gnm7864, gns7841, gnp7877) rfl rfl (by decide) (⟨⟨_, Or.inr ⟨je, jt, hje, hjt, rfl, rfl, Or.inr ⟨⟨fun h9 => c_39_7859 ((SHF.nm (by decide) hb07 hjt (hu7845 jt hjt)).mpr h9), fun h9 => c_55_7867 ((SHF.eqm (by decide) hb07 hb08 hjt (hu7845 jt hjt) hpx7866).mpr h9)⟩, (FLN.cn (show LVN (RLO DY (DAYV (fnw 0) (fnw 1)) k7) VL = L8 from (congrArg (fun z9 => LVN z9 VL) eo9.symm).trans hn9.symm) (Or.inl ⟨kQ, by omega, (FLP.ref (LV := (LVF (LNF (RLO DY (DAYV (fnw 0) (fnw 1)) k7) VL) (TRF (RLO DY (DAYV (fnw 0) (fnw 1)) k7) VC (FAX (shf fnw 12) (shf fnw 32) (VSE fnw kq) kq je)))) (k := kQ) (by rw [eLV9]; exact hpx7878) (fun j o w h9 => ((TNO.of (by rw [eLV9] at h9; exact h9)).symm.trans (hpx7873.1.symm.trans ((nI_eq (by omega) (by omega)).mp c_82_7874)))) c_39_7859 (hu7845 jt hjt) (hlb9 kQ (by omega)) hb07 (by decide) hjt).mp c_99_7879, hno, rfl⟩))⟩⟩, rfl⟩, by first | assumption | exact w7865⟩) rfl gX12_why_6.1
            exact keyQ L8 0 gnp7842 _ _ _ (by omega) (by first | assumption | exact Or.inl rfl | exact Or.inr rfl | exact fun j9 h9 => absurd h9 (Nat.not_lt_zero j9)) (And.intro hP hD) hS (lv_sub hl [0, 1, 2, 3, 4] rfl)
          · refine lv_bipush (v := (-3)) hx hb gX12_why_3.2.2.2.2.1 (by decide) ?_
            refine toQ hQ0 ?_
            exact RI (v := (-3)) hC hP hD hS [2, 3, 4, 0, 1] (fh17862, th17863, gnm7864, gns7841, gnp7842) rfl rfl (by decide) (⟨⟨_, Or.inr ⟨je, jt, hje, hjt, rfl, rfl, Or.inl ⟨Or.inr ((SHF.eqm (by decide) hb07 hb08 hjt (hu7845 jt hjt) hpx7866).mp c_55_7867), rfl⟩⟩, rfl⟩, by first | assumption | exact w7865⟩) rfl gX12_why_3.2.2.2.2.2.1
    · refine lv_if_ne (tgt := 21) hx hb gX12_why_0.2.2.2.2.2.2.2.2.2 (by decide) (fun c9 => absurd (by decide) c9) (fun _ => ?_)
      refine lv_iconst (v := (-1)) hx hb gX12_why_1.1 (by decide) ?_
      refine toQ hQ0 ?_
      exact RI (v := (-1)) hC hP hD hS [0, 1, 2, 3, 4] (mfromHour, mtoHour, fnm, fns, fnp) rfl rfl (by decide) (⟨⟨(-1), Or.inl ⟨fun h9 => a7835 h9.2, rfl⟩, rfl⟩, by first | assumption | exact hM⟩) rfl gX12_why_1.2.1
  · refine lv_if_eq (tgt := 19) hx hb gX12_why_0.2.2.2.2.1 (by decide) (fun _ => ?_) (fun c9 => absurd (by decide) c9)
    refine lv_iconst (v := (-1)) hx hb gX12_why_1.1 (by decide) ?_
    refine toQ hQ0 ?_
    exact RI (v := (-1)) hC hP hD hS [0, 1, 2, 3, 4] (mfromHour, mtoHour, fnm, fns, fnp) rfl rfl (by decide) (⟨⟨(-1), Or.inl ⟨fun h9 => a7833 h9.1, rfl⟩, rfl⟩, by first | assumption | exact hM⟩) rfl gX12_why_1.2.1
