section WR
variable {p : Program} {l : Launch} {e : Env} {R : Room} {s : State} {m : MethodId} {args : Array Value} {below : List Frame} {meth : Method} {c : Code} {H : Heap} {locs : List Loc} {cells slots : Nat} {Q : State → Prop}
variable {pc : Nat} {ls : Array Slot} {rest : List Value} {G : GG} {ws : va_W} {A : Nat → Prop} {y0 : MethodName} {b0 : ByteArray} {mL0 : Nat} {rt0 : Option FieldType} {a : Nat} {H0 : Heap}
end WR
theorem SEE.vse {f : Nat → Int32} {n p : Nat} (hp : p < n) : VSE f n p ↔ SEE (shf f 32) (f 0) (f 1) (f 2) p := ⟨fun h => h.2, fun h => ⟨hp, h⟩⟩
section FARS
variable {f : Nat → Int32} {V S : Nat → Prop} {kq je jk : Nat}
theorem FAR.r0 (h : jk = 0) : nI je = FAX (shf f 12) (shf f 32) V kq je jk := by
  subst h
  rfl
theorem FAR.r1 (h : jk = 1) : f (12 + 2 * je) = FAX (shf f 12) (shf f 32) V kq je jk := by
  subst h
  exact congrArg f (by omega)
theorem FAR.r2 (hv : ∀ p, p < kq → (V p ↔ S p)) (h : jk = 2) : CNT (fun p9 => S p9 ∧ HB (shf f 32 (p9 * 6 + 1)) (nI je)) kq = FAX (shf f 12) (shf f 32) V kq je jk := by
  subst h
  exact CNT.cg kq (fun p hp => and_congr_left (fun _ => (hv p hp).symm))
theorem FAR.r3 (hv : ∀ p, p < kq → (V p ↔ S p)) (h : jk = 3) : CNT (fun p9 => S p9 ∧ shf f 32 (p9 * 6 + 0) = (nI je)) kq = FAX (shf f 12) (shf f 32) V kq je jk := by
  subst h
  exact CNT.cg kq (fun p hp => and_congr_left (fun _ => (hv p hp).symm))
theorem FAR.r4 (h0 : ¬ jk = 0) (h1 : ¬ jk = 1) (h2 : ¬ jk = 2) (h3 : ¬ jk = 3) : f (12 + 2 * je + 1) = FAX (shf f 12) (shf f 32) V kq je jk := by
  have e : FAX (shf f 12) (shf f 32) V kq je jk = shf f 12 (je * 2 + 1) := by
    unfold FAX
    rw [if_neg h0, if_neg h1, if_neg h2, if_neg h3]
  rw [e]
  exact congrArg f (by omega)
end FARS
/-- the pile behind the first k codes -/
def PRK (F : Nat → Int32) (l : List Int32) (f0 : Nat → Int32) (k : Nat) : PRS := PRN F (l.take k) (0, f0)
theorem PRN.tk {F : Nat → Int32} : ∀ (l : List Int32) (k : Nat) (s : PRS), k < l.length → PRN F (l.take (k + 1)) s = PLR F (l.getD k 0) (PRN F (l.take k) s)
  | [], k, _, h => absurd h (Nat.not_lt_zero k)
  | x :: xs, 0, s, _ => rfl
  | x :: xs, k + 1, s, h => PRN.tk xs k (PLR F x s) (Nat.lt_of_succ_lt_succ h)
theorem PRK.all {F : Nat → Int32} {l : List Int32} {f0 : Nat → Int32} {k : Nat} (h : k = l.length) : PRK F l f0 k = PRN F l (0, f0) := by
  unfold PRK
  rw [h, List.take_length]
theorem PRK.zero {F : Nat → Int32} {l : List Int32} {f0 : Nat → Int32} {k : Nat} (h : k = 0) : (0, f0) = PRK F l f0 k := by
  subst h
  rfl
section PRKS
variable {F : Nat → Int32} {l : List Int32} {f0 vp : Nat → Int32} {a k hg : Nat}
theorem PRK.nx {s r : PRS} {x : Int32} (h : s = PRK F l f0 (k - a)) (hk : k - a < l.length) (ha : a ≤ k) (e : l.getD (k - a) 0 = x) (hr : PLR F x s = r) : r = PRK F l f0 (k + 1 - a) := by
  have h2 : PRK F l f0 (k - a + 1) = PLR F (l.getD (k - a) 0) (PRK F l f0 (k - a)) := PRN.tk l (k - a) (0, f0) hk
  rw [show k + 1 - a = k - a + 1 by omega, h2, e, ← h, hr]
theorem PRK.fa1 (h : (hg, vp) = PRK F l f0 (k - a)) (hk : k - a < l.length) (ha : a ≤ k) {v : Nat} (e : l.getD (k - a) 0 = nI v) (hv : v ≤ 14999) (hs : SOV F v = true) : (hg + 1, upd vp hg 1) = PRK F l f0 (k + 1 - a) := PRK.nx h hk ha e (by rw [PLR.fact hv, hs]; rfl)
theorem PRK.fa0 (h : (hg, vp) = PRK F l f0 (k - a)) (hk : k - a < l.length) (ha : a ≤ k) {v : Nat} (e : l.getD (k - a) 0 = nI v) (hv : v ≤ 14999) (hs : SOV F v = false) : (hg + 1, upd vp hg 0) = PRK F l f0 (k + 1 - a) := PRK.nx h hk ha e (by rw [PLR.fact hv, hs]; rfl)
theorem PRK.nt (h : (hg, vp) = PRK F l f0 (k - a)) (hk : k - a < l.length) (ha : a ≤ k) (e : l.getD (k - a) 0 = 30000) : (hg, upd vp (hg - 1) (1 - vp (hg - 1))) = PRK F l f0 (k + 1 - a) := PRK.nx h hk ha e (if_pos rfl)
theorem PRK.an (h : (hg, vp) = PRK F l f0 (k - a)) (hk : k - a < l.length) (ha : a ≤ k) (e : l.getD (k - a) 0 = 30001) : (hg - 1, upd vp (hg - 1 - 1) (vp (hg - 1 - 1) &&& vp (hg - 1))) = PRK F l f0 (k + 1 - a) := PRK.nx h hk ha e (by
  unfold PLR
  rw [if_neg (show ¬ (30001 : Int32) = 30000 by decide), if_pos (show (30001 : Int32) = 30001 from rfl)]
  show (hg - 1, upd vp (hg - 2) (vp (hg - 2) &&& vp (hg - 1))) = _
  rw [show hg - 2 = hg - 1 - 1 by omega])
theorem PRK.or (h : (hg, vp) = PRK F l f0 (k - a)) (hk : k - a < l.length) (ha : a ≤ k) (e : l.getD (k - a) 0 = 30002) : (hg - 1, upd vp (hg - 1 - 1) (vp (hg - 1 - 1) ||| vp (hg - 1))) = PRK F l f0 (k + 1 - a) := PRK.nx h hk ha e (by
  unfold PLR
  rw [if_neg (show ¬ (30002 : Int32) = 30000 by decide), if_neg (show ¬ (30002 : Int32) = 30001 by decide), if_pos (show (30002 : Int32) = 30002 from rfl)]
  show (hg - 1, upd vp (hg - 2) (vp (hg - 2) ||| vp (hg - 1))) = _
  rw [show hg - 2 = hg - 1 - 1 by omega])
theorem SMP.tru {m : Nat} {tc tr : List Int32} (h : SMP m tc tr) (hv : (hg, vp) = PRN F tr (0, f0)) : vp 0 = 1 ↔ PLN F tc 1 % 2 = 1 := by
  obtain ⟨b, h1, h2⟩ := h.2.2 F
  obtain ⟨-, g2, -⟩ := h2 0 f0
  rw [← hv] at g2
  have g3 : vp 0 = BIT b := g2
  rw [(h1 1).1, g3]
  have h3 := BNT.le b
  cases b
  · exact ⟨fun h9 => absurd h9 (by decide), fun h9 => absurd h9 (show ¬ (2 * 1 + 0) % 2 = 1 by decide)⟩
  · exact ⟨fun _ => rfl, fun _ => rfl⟩
end PRKS
theorem SOV.l3 {F : Nat → Int32} {v : Nat} {b : Bool} (h0 : v / 1000 % 3 = 0) (hb : decide (F (v / 3000) < nI (v % 1000)) = b) : SOV F v = b := by
  unfold SOV
  rw [if_pos h0, hb]
theorem SOV.e3 {F : Nat → Int32} {v : Nat} {b : Bool} (h0 : v / 1000 % 3 = 1) (hb : decide (F (v / 3000) = nI (v % 1000)) = b) : SOV F v = b := by
  unfold SOV
  rw [if_neg (by omega), if_pos h0, hb]
theorem SOV.g3 {F : Nat → Int32} {v : Nat} {b : Bool} (h0 : ¬ v / 1000 % 3 = 0) (h1 : ¬ v / 1000 % 3 = 1) (hb : decide (nI (v % 1000) < F (v / 3000)) = b) : SOV F v = b := by
  unfold SOV
  rw [if_neg h0, if_neg h1, hb]
/-- the lines of the version that rules, as the reference goes over them -/
theorem LZM.row {y : Nat → Int32} {v i : Nat} {ln : LNT} {tc : List Int32} (h : LZM y v i ln tc) : LNB ln ∧ y (176 + 156 * v + 2 + 6 * i + 0) = nI ln.1 ∧ y (176 + 156 * v + 2 + 6 * i + 1) = ln.2.1 ∧ y (176 + 156 * v + 2 + 6 * i + 2) = ln.2.2.1 ∧ y (176 + 156 * v + 2 + 6 * i + 3) = ln.2.2.2.1 := ⟨h.1, h.2.1, h.2.2.1, h.2.2.2.1, h.2.2.2.2.1⟩
/-- what a line tells, as fromLine says it -/
theorem FLV.off {N : Int32} {S : HOP} {L : LVT} {x : Int32} (h : L = none) (e : x = N) : ∃ v, ARV N v x ∧ (L = none → v = none) ∧ ∀ j o w, L = some (j, o, w) → v = HRV o w S := ⟨none, Or.inl ⟨rfl, e⟩, fun _ => rfl, fun j o w h2 => by rw [h] at h2; cases h2⟩
def FLQ (N : Int32) (S : HOP) (L : LVT) (x : Int32) : Prop := (L = none ∧ x = N) ∨ ∃ j o w, L = some (j, o, w) ∧ ARV N (HRV o w S) x
theorem FLQ.low {N : Int32} {S : HOP} {f : Nat → Int32} {t : Nat} {x : Int32} {L : LVT} (h : ARS N S f) (hb : HBD S) (hL : LVB L) (hx : FLQ N S L x) (ht : ∀ j o w, L = some (j, o, w) → t = j) (ht8 : t < 8) (hN : 2000 ≤ N.toInt) : (x < f t → ARS N (RLX L S) (upd f t x)) ∧ (¬ x < f t → RLX L S = S) := by
  rcases hx with ⟨e, hx⟩ | ⟨j, o, w, e, hx⟩
  · refine ⟨fun h9 => ?_, fun _ => RLX.off e⟩
    rw [Int32.lt_iff_toInt_lt, hx] at h9
    rcases h.at hb ht8 hN with ⟨h1, -⟩ | ⟨-, y, h1, h2, h3, h4⟩
    · rw [h1] at h9
      exact absurd h9 (Int.lt_irrefl _)
    · omega
  · obtain rfl : t = j := ht j o w e
    exact ⟨fun h9 => RLX.low h e hb ht8 hx h9 hN, fun h9 => RLX.same h hb hL e hx h9 hN⟩
/-- the thing of a line, whether it holds or not -/
def TNO (ln : LNT) : Nat := if ln.1 = 2 then ln.2.1.toNatClampNeg else if ln.1 = 0 then ln.2.2.1.toNatClampNeg else 0
theorem TNO.lt {ln : LNT} (h : LNB ln) : TNO ln < 8 := by
  unfold TNO
  rcases h with ⟨h, a, b, c, ha, hb, hc, e1, e2, e3⟩ | ⟨h, -⟩ | ⟨h, a, b, ha, hb, e1, e2⟩ | ⟨h, -⟩
  · rw [if_neg (by omega), if_pos h, e2, nI_clamp (by omega)]
    omega
  · rw [if_neg (by omega), if_neg (by omega)]
    decide
  · rw [if_pos h, e1, nI_clamp (by omega)]
    omega
  · rw [if_neg (by omega), if_neg (by omega)]
    decide
theorem TNO.of {ln : LNT} {tr : Prop} {j w : Nat} {o : Option Nat} (h : LVX ln tr = some (j, o, w)) : TNO ln = j := by
  by_cases c : tr
  · rw [LVX.y c] at h
    unfold LVO at h
    unfold TNO
    by_cases c0 : ln.1 = 0
    · rw [if_pos c0] at h
      cases h
      rw [if_neg (by omega), if_pos c0]
    · rw [if_neg c0] at h
      by_cases c2 : ln.1 = 2
      · rw [if_pos c2] at h
        cases h
        rw [if_pos c2]
      · rw [if_neg c2] at h
        cases h
  · rw [LVX.n c] at h
    cases h
theorem TNO.v {ln : LNT} (h : LNB ln) : (ln.1 = 2 → ln.2.1 = nI (TNO ln)) ∧ (ln.1 = 0 → ln.2.2.1 = nI (TNO ln)) ∧ (¬ ln.1 = 2 → ¬ ln.1 = 0 → TNO ln = 0) := by
  unfold TNO
  rcases h with ⟨h, a, b, c, ha, hb, hc, e1, e2, e3⟩ | ⟨h, -⟩ | ⟨h, a, b, ha, hb, e1, e2⟩ | ⟨h, -⟩
  · refine ⟨fun h9 => absurd h9 (by omega), fun _ => ?_, fun _ h9 => absurd h h9⟩
    rw [if_neg (by omega), if_pos h, e2, nI_clamp (by omega)]
  · exact ⟨fun h9 => absurd h9 (by omega), fun h9 => absurd h9 (by omega), fun h8 h9 => by rw [if_neg h8, if_neg h9]⟩
  · refine ⟨fun _ => ?_, fun h9 => absurd h9 (by omega), fun h9 => absurd h h9⟩
    rw [if_pos h, e1, nI_clamp (by omega)]
  · exact ⟨fun h9 => absurd h9 (by omega), fun h9 => absurd h9 (by omega), fun h8 h9 => by rw [if_neg h8, if_neg h9]⟩
theorem FLQ.nv {N : Int32} {S : HOP} {f : Nat → Int32} {c w j : Nat} {L : LVT} (e0 : L = some (j, some c, w)) (h : ARS N S f) (hb : HBD S) (hc : c < 8) (hN : 2000 ≤ N.toInt) (e : f c = N) : FLQ N S L (f c) := Or.inr ⟨j, some c, w, e0, by rw [e]; exact HBY.nv h hb hc hN e⟩
theorem FLQ.sm {N : Int32} {S : HOP} {f : Nat → Int32} {c w j : Nat} {L : LVT} (e0 : L = some (j, some c, w)) (h : ARS N S f) (hb : HBD S) (hc : c < 8) (hN : 2000 ≤ N.toInt) (e : ¬ f c = N) (hw : w ≤ 99) : FLQ N S L (f c + nI w) := Or.inr ⟨j, some c, w, e0, HBY.sm h hb hc hN e hw⟩
theorem FLQ.ask {N : Int32} {S : HOP} {w j : Nat} {L : LVT} (e0 : L = some (j, none, w)) (hw : w ≤ 999) : FLQ N S L (nI w) := Or.inr ⟨j, none, w, e0, HBY.ask hw⟩
/-- the numbers of a line that holds -/
theorem LVX.mk {ln : LNT} {tr : Prop} (h : LNB ln) (ht : tr) : (ln.1 = 0 → ∃ j c w, LVX ln tr = some (j, some c, w) ∧ c < 8 ∧ w ≤ 99 ∧ ln.2.1 = nI w ∧ ln.2.2.2.1 = nI c) ∧ (ln.1 = 2 → ∃ j w, LVX ln tr = some (j, none, w) ∧ w ≤ 999 ∧ ln.2.2.1 = nI w) := by
  rw [LVX.y ht]
  unfold LVO
  rcases h with ⟨h, a, b, c, ha, hb, hc, e1, e2, e3⟩ | ⟨h, -⟩ | ⟨h, a, b, ha, hb, e1, e2⟩ | ⟨h, -⟩
  · refine ⟨fun _ => ⟨b, c, a, ?_, by omega, ha, e1, e3⟩, fun h9 => absurd h9 (by omega)⟩
    rw [if_pos h, e1, e2, e3, nI_clamp (by omega), nI_clamp (by omega), nI_clamp (by omega)]
  · exact ⟨fun h9 => absurd h9 (by omega), fun h9 => absurd h9 (by omega)⟩
  · refine ⟨fun h9 => absurd h9 (by omega), fun _ => ⟨a, b, ?_, hb, e2⟩⟩
    rw [if_neg (by omega), if_pos h, e1, e2, nI_clamp (by omega), nI_clamp (by omega)]
  · exact ⟨fun h9 => absurd h9 (by omega), fun h9 => absurd h9 (by omega)⟩
theorem LVX.w {ln : LNT} {tr : Prop} (h : ¬ ln.1 = 0) (h2 : ¬ ln.1 = 2) : LVX ln tr = none := by
  by_cases c : tr
  · rw [LVX.y c]
    unfold LVO
    rw [if_neg h, if_neg h2]
  · exact LVX.n c
theorem PIT.end9 {LV : Nat → LVT} {n j : Nat} {S : HOP} {f : Nat → Int32} {N : Int32} (hB : ∀ i, i < n → LVB (LV i)) (h : ARS N (PIT LV n j S) f) (hf : PSS LV n (PIT LV n j S) = PIT LV n j S) : ARS N (PIT LV n 9 S) f := fun t ht => by
  rw [PIT.eight hB hf t ht]
  exact h t ht
theorem PIT.end0 {LV : Nat → LVT} {n : Nat} {S : HOP} {f : Nat → Int32} {N : Int32} (hn : n = 0) (h : ARS N S f) : ARS N (PIT LV n 9 S) f := by
  subst hn
  have e : PIT LV 0 9 S = S := PIT.fix rfl 9
  rw [e]
  exact h
theorem KNQ.ym {x N : Int32} {o : Option Int} (hN : 2000 ≤ N.toInt) (h : ARW N o x) (e : ¬ x = N) : ∃ v, o = some v ∧ (1000 + x).toInt = v + 1000 := by
  rcases h with h | ⟨v, h1, h2, h3, h4⟩
  · exact absurd h.2 e
  · have e1 : (1000 : Int32).toInt = 1000 := by decide
    refine ⟨v, h1, ?_⟩
    rw [Int32.add_comm, ti_ad (by omega) (by omega) (by omega) (by omega), h2, e1]
theorem KNQ.nm {x N : Int32} {o : Option Int} (hN : 2000 ≤ N.toInt) (h : ARW N o x) (e : x = N) : o = none := by
  rcases h with h | ⟨v, h1, h2, h3, h4⟩
  · exact h.1
  · rw [e] at h2
    omega
theorem SMP.len {m : Nat} {tc tr : List Int32} (h : SMP m tc tr) : 0 < tr.length := by
  cases tr with
  | nil =>
    obtain ⟨b, -, h2⟩ := h.2.2 (fun _ => 0)
    obtain ⟨g1, -⟩ := h2 0 (fun _ => 0)
    have g2 : (0 : Nat) = 0 + 1 := g1
    omega
  | cons x xs => exact Nat.zero_lt_succ _
theorem INQ.re {K : Nat → Nat → Int → Prop} {ft f : Nat → Int32} {V : Nat → Prop} {k p e : Nat} {a b : Int32} (h : INQ K ft V (f (32 + 6 * p + 0)) (f (32 + 6 * p + 1)) (f (12 + 2 * e + 1)) k p e a b) : INQ K ft V (shf f 32 (p * 6 + 0)) (shf f 32 (p * 6 + 1)) (shf f 12 (e * 2 + 1)) k p e a b := by
  rw [shf_pa, shf_pa, shf_pe]
  exact h
theorem THM.hb {f : Nat → Int32} {p t : Nat} (ht : t < 31) (h : (f (32 + 6 * p + 2) >>> (nI t &&& 31)) &&& 1 = 1) : HB (shf f 32 (p * 6 + 2)) (nI t) := by
  rw [shf_pa]
  exact HB.mk ht h
theorem THM.no {f : Nat → Int32} {p t : Nat} (h : ¬ (f (32 + 6 * p + 2) >>> (nI t &&& 31)) &&& 1 = 1) : ¬ HB (shf f 32 (p * 6 + 2)) (nI t) := fun h2 => by
  rw [shf_pa] at h2
  exact h h2.2.2
section WR
variable {p : Program} {l : Launch} {e : Env} {R : Room} {s : State} {m : MethodId} {args : Array Value} {below : List Frame} {meth : Method} {c : Code} {H : Heap} {locs : List Loc} {cells slots : Nat} {Q : State → Prop}
variable {pc : Nat} {ls : Array Slot} {rest : List Value} {G : GG} {K : OO} {ws : va_W} {A : Nat → Prop} {y0 : MethodName} {b0 : ByteArray} {mL0 : Nat} {rt0 : Option FieldType} {a : Nat} {H0 : Heap}
end WR
theorem WY2.y {w : Int32} (h : Wi w 0 2) (h2 : 2 ≤ w) : w = 2 := by
  have h1 := (Wi_iff.mp h).2
  rw [Int32.le_iff_toInt_le] at h2
  have e2 : (2 : Int32).toInt = 2 := by decide
  rw [e2] at h1 h2
  exact Int32.toInt_inj.mp (by rw [e2]; omega)
theorem WY2.n {w : Int32} (h : ¬ 2 ≤ w) : ¬ w = 2 := fun e => h (by rw [e]; exact Int32.le_refl 2)
theorem LVM.lvb {y : Nat → Int32} {kv : Nat} {VL : Nat → List LNT} {VC : Nat → Nat → List Int32} {DY : Nat → Int32} {dv : Int32} {F : Nat → Int32} (h : VMZ y kv VL VC DY) : ∀ i, i < LVN (RLO DY dv kv) VL → LVB (LVF (LNF (RLO DY dv kv) VL) (TRF (RLO DY dv kv) VC F) i) := by
  cases e : RLO DY dv kv with
  | none => exact fun i hi => absurd hi (Nat.not_lt_zero i)
  | some v => exact fun i hi => LVX.b ((h v (LTS.lt _ _ e)).2.2.2 i hi).1
section WR
variable {p : Program} {l : Launch} {e : Env} {R : Room} {s : State} {m : MethodId} {args : Array Value} {below : List Frame} {meth : Method} {c : Code} {H : Heap} {locs : List Loc} {cells slots : Nat} {Q : State → Prop}
variable {pc : Nat} {ls : Array Slot} {rest : List Value} {G : GG} {K : OO} {ws : va_W} {A : Nat → Prop} {y0 : MethodName} {b0 : ByteArray} {mL0 : Nat} {rt0 : Option FieldType} {a : Nat} {H0 : Heap}
end WR
theorem SEO.vso {f : Nat → Int32} {n w p : Nat} (hp : p < n) : VSO f n w p ↔ SEO (shf f 32) (f 0) (f 1) (f 2) w p := ⟨fun h => h.2, fun h => ⟨hp, h⟩⟩
theorem MX0 {a : Nat} (h : a < 2 ^ 31) : (if (0 : Int32) < nI a then nI a else 0) = nI a := by
  by_cases c : (0 : Int32) < nI a
  · exact if_pos c
  · rw [if_neg c]
    rcases Nat.eq_zero_or_pos a with e | e
    · rw [e]
      rfl
    · exact absurd ((nI_ltI (a := 0) (b := a) (by decide) h).mpr e) c
/-- the first such line is found, or none is as yet -/
def FWZ (LN : Nat → LNT) (TR : Nat → Prop) (n : Nat) (r : Int32) : Prop := ((∀ j, j < n → ¬ ((LN j).1 = 1 ∧ TR j)) ∧ r = -1) ∨ ∃ a, a ≤ 99 ∧ r = nI a ∧ ∃ i, i < n ∧ ((LN i).1 = 1 ∧ TR i) ∧ (∀ j, j < i → ¬ ((LN j).1 = 1 ∧ TR j)) ∧ nI a = (LN i).2.1
theorem FWZ.zero {LN : Nat → LNT} {TR : Nat → Prop} : FWZ LN TR 0 (-1) := Or.inl ⟨fun j h => absurd h (Nat.not_lt_zero j), rfl⟩
section FWSS
variable {LN : Nat → LNT} {TR : Nat → Prop} {n : Nat}
theorem FWZ.keep {a : Nat} (h : a ≤ 99 ∧ ∃ i, i < n ∧ ((LN i).1 = 1 ∧ TR i) ∧ (∀ j, j < i → ¬ ((LN j).1 = 1 ∧ TR j)) ∧ nI a = (LN i).2.1) : FWZ LN TR (n + 1) (nI a) := by
  obtain ⟨h1, i, h2, h3⟩ := h
  exact Or.inr ⟨a, h1, rfl, i, Nat.lt_succ_of_lt h2, h3⟩
theorem FWZ.no (h : ∀ j, j < n → ¬ ((LN j).1 = 1 ∧ TR j)) (h2 : ¬ ((LN n).1 = 1 ∧ TR n)) : FWZ LN TR (n + 1) (-1) := Or.inl ⟨fun j hj => (Nat.lt_succ_iff_lt_or_eq.mp hj).elim (h j) (fun e => by rw [e]; exact h2), rfl⟩
theorem FWZ.ye {x : Int32} (h : ∀ j, j < n → ¬ ((LN j).1 = 1 ∧ TR j)) (hb : LNB (LN n)) (h1 : (LN n).1 = 1) (h2 : TR n) (e : x = (LN n).2.1) : FWZ LN TR (n + 1) x := by
  obtain ⟨a, ha, e2⟩ := hb.n1.1 h1
  exact Or.inr ⟨a, ha, e.trans e2, n, Nat.lt_succ_self n, ⟨h1, h2⟩, h, e2.symm⟩
theorem FWZ.end0 (h : ∀ j, j < n → ¬ ((LN j).1 = 1 ∧ TR j)) : FWD LN TR n 0 := Or.inr ⟨h, rfl⟩
theorem FWZ.end1 {a : Nat} (h : a ≤ 99 ∧ ∃ i, i < n ∧ ((LN i).1 = 1 ∧ TR i) ∧ (∀ j, j < i → ¬ ((LN j).1 = 1 ∧ TR j)) ∧ nI a = (LN i).2.1) : FWD LN TR n (nI a) := Or.inl h.2
/-- the last such line -/
def LHS9 (LN : Nat → LNT) (n : Nat) (r : Int32) : Prop := (LHF LN n = 0 ∧ r = -1) ∨ ∃ a, a ≤ 9 ∧ r = nI a ∧ LHF LN n = nI a
theorem LHS9.zero : LHS9 LN 0 (-1) := Or.inl ⟨rfl, rfl⟩
theorem LHS9.no {x : Int32} (h : LHS9 LN n x) (h2 : ¬ (LN n).1 = 3) : LHS9 LN (n + 1) x := by
  unfold LHS9
  rw [LHF.n h2]
  exact h
theorem LHS9.ye {x : Int32} (hb : LNB (LN n)) (h2 : (LN n).1 = 3) (e : x = (LN n).2.1) : LHS9 LN (n + 1) x := by
  obtain ⟨a, ha, e2⟩ := hb.n1.2 h2
  exact Or.inr ⟨a, ha, e.trans e2, (LHF.y h2).trans e2⟩
end FWSS
/-- the papers that aren't warned of in time, after the first k warnings -/
noncomputable def OPN (P : Nat → Prop) (T : Nat → Nat → Prop) (kq k : Nat) : Int32 := IMB (fun q => P q ∧ ∀ w, w < k → ¬ T w q) kq
theorem OPN.zero {P : Nat → Prop} {T : Nat → Nat → Prop} {kq : Nat} {b : Int32} (h : b = IMB P kq) : b = OPN P T kq 0 := h.trans (IMB.cg kq fun q _ => ⟨fun h => ⟨h, fun w hw => absurd hw (Nat.not_lt_zero w)⟩, fun h => h.1⟩)
theorem OPN.n {P : Nat → Prop} {T : Nat → Nat → Prop} {kq k : Nat} {b : Int32} (h : b = OPN P T kq k) (hn : ∀ q, q < kq → ¬ T k q) : b &&& (-1) = OPN P T kq (k + 1) := by
  rw [Int32.and_neg_one, h]
  exact IMB.cg kq fun q hq => ⟨fun h => ⟨h.1, fun w hw => (Nat.lt_succ_iff_lt_or_eq.mp hw).elim (h.2 w) (fun e => by rw [e]; exact hn q hq)⟩, fun h => ⟨h.1, fun w hw => h.2 w (Nat.lt_succ_of_lt hw)⟩⟩
theorem OPN.y {P : Nat → Prop} {T : Nat → Nat → Prop} {kq k p : Nat} {b : Int32} (hkq : kq ≤ 12) (hp : p < 12) (h : b = OPN P T kq k) (hn : ∀ q, q < kq → (T k q ↔ q = p)) : b &&& ((1 <<< (nI p &&& 31)) ^^^ (-1)) = OPN P T kq (k + 1) := by
  rw [IMB.cut hkq hp h]
  exact IMB.cg kq fun q hq => ⟨fun h => ⟨h.1.1, fun w hw => (Nat.lt_succ_iff_lt_or_eq.mp hw).elim (h.1.2 w) (fun e => by rw [e]; exact fun h9 => h.2 ((hn q hq).mp h9))⟩, fun h => ⟨⟨h.1, fun w hw => h.2 w (Nat.lt_succ_of_lt hw)⟩, fun e => h.2 k (Nat.lt_succ_self k) ((hn q hq).mpr e)⟩⟩
/-- told in time of a paper -/
def TLD (fw : Nat → Int32) (e D ago : Int32) (w q : Nat) : Prop := fw (w * 3 + 0) = e ∧ fw (w * 3 + 2) ≤ D ∧ ago ≤ D - fw (w * 3 + 2) ∧ fw (w * 3 + 1) = nI q
theorem ti_sbn {x y : Int32} (h1 : 0 ≤ x.toInt) (h2 : 0 ≤ y.toInt) : (x - y).toInt = x.toInt - y.toInt := by
  rw [Int32.toInt_sub]
  have a1 := ti_hi x
  have a2 := ti_hi y
  exact bmod32 (by omega) (by omega)
theorem TLD.wad {fw : Nat → Int32} {kw kp a : Nat} {e D : Int32} (hW : WNO fw kw kp) (hD : 0 ≤ D.toInt) (ha : a ≤ 99) (q : Nat) : (∃ w, w < kw ∧ TLD fw e D (nI a) w q) ↔ WAD fw kw e (nI q) (D - nI a) := by
  have e1 : (nI a).toInt = (a : Int) := nI_ti (by omega)
  have e2 : (D - nI a).toInt = D.toInt - a := by rw [ti_sbn hD (by omega), e1]
  have key : ∀ w, w < kw → ((fw (w * 3 + 2) ≤ D ∧ nI a ≤ D - fw (w * 3 + 2)) ↔ fw (w * 3 + 2) ≤ D - nI a) := fun w hw => by
    have h0 := (hW w hw).2
    rw [Int32.le_iff_toInt_le, Int32.le_iff_toInt_le, Int32.le_iff_toInt_le, e1, e2]
    constructor
    · intro h
      have e3 : (D - fw (w * 3 + 2)).toInt = D.toInt - (fw (w * 3 + 2)).toInt := ti_sbn hD h0
      rw [e3] at h
      omega
    · intro h
      have e3 : (D - fw (w * 3 + 2)).toInt = D.toInt - (fw (w * 3 + 2)).toInt := ti_sbn hD h0
      rw [e3]
      omega
  constructor
  · intro ⟨w, hw, h1, h2, h3, h4⟩
    exact ⟨w, hw, h1, h4, (key w hw).mp ⟨h2, h3⟩⟩
  · intro ⟨w, hw, h1, h2, h3⟩
    have h4 := (key w hw).mpr h3
    exact ⟨w, hw, h1, h4.1, h4.2, h2⟩
theorem DAYV.bd {td vd : Int32} (h : TDR td) : 0 ≤ (DAYV td vd).toInt := by
  unfold DAYV
  by_cases c : vd < 0
  · rw [ifc_t c]
    exact h.1
  · rw [ifc_f c]
    rw [Int32.lt_iff_toInt_lt] at c
    have e0 : (0 : Int32).toInt = 0 := by decide
    rw [e0] at c
    omega
theorem BB.z0 {p : Nat} (hp : p < 31) : ¬ ((0 : Int32) >>> (nI p &&& 31)) &&& 1 = 1 := by
  have e : ∀ k : Fin 31, ¬ ((0 : Int32) >>> (nI k.1 &&& 31)) &&& 1 = 1 := by decide +kernel
  exact e ⟨p, hp⟩
section WR
variable {p : Program} {l : Launch} {e : Env} {R : Room} {s : State} {m : MethodId} {args : Array Value} {below : List Frame} {meth : Method} {c : Code} {H : Heap} {locs : List Loc} {cells slots : Nat} {Q : State → Prop}
variable {pc : Nat} {ls : Array Slot} {rest : List Value} {G : GG} {K : OO} {ws : va_W} {A : Nat → Prop} {y0 : MethodName} {b0 : ByteArray} {mL0 : Nat} {rt0 : Option FieldType} {a : Nat} {H0 : Heap}
end WR
theorem LVM.lnb {y : Nat → Int32} {kv : Nat} {VL : Nat → List LNT} {VC : Nat → Nat → List Int32} {DY : Nat → Int32} {dv : Int32} (h : VMZ y kv VL VC DY) : ∀ i, i < LVN (RLO DY dv kv) VL → LNB (LNF (RLO DY dv kv) VL i) := by
  cases e : RLO DY dv kv with
  | none => exact fun i hi => absurd hi (Nat.not_lt_zero i)
  | some v => exact fun i hi => ((h v (LTS.lt _ _ e)).2.2.2 i hi).1
theorem OPN.ex {P : Nat → Prop} {fw : Nat → Int32} {kw kp kq a : Nat} {e D : Int32} (hkq : kq ≤ 12) (hW : WNO fw kw kp) (hD : 0 ≤ D.toInt) (ha : a ≤ 99) (h : ¬ OPN P (TLD fw e D (nI a)) kq kw = 0) : ∃ p, p < kq ∧ HB (IMB P kq) (nI p) ∧ ¬ WAD fw kw e (nI p) (D - nI a) := by
  obtain ⟨p, hp, h1, h2⟩ := IMB.nz hkq h
  exact ⟨p, hp, (IMB.hb2 hkq (by omega)).mpr ⟨hp, h1⟩, fun h3 => by
    obtain ⟨w, hw, h4⟩ := (TLD.wad hW hD ha p).mpr h3
    exact h2 w hw h4⟩
theorem OPN.nx {P : Nat → Prop} {fw : Nat → Int32} {kw kp kq a : Nat} {e D : Int32} (hkq : kq ≤ 12) (hW : WNO fw kw kp) (hD : 0 ≤ D.toInt) (ha : a ≤ 99) (h : OPN P (TLD fw e D (nI a)) kq kw = 0) : ∀ p, p < kq → ¬ (HB (IMB P kq) (nI p) ∧ ¬ WAD fw kw e (nI p) (D - nI a)) := fun p hp h1 => by
  refine IMB.nzr (P := fun q => P q ∧ ∀ w, w < kw → ¬ TLD fw e D (nI a) w q) hkq hp ⟨((IMB.hb2 hkq (by omega)).mp h1.1).2, fun w hw h2 => h1.2 ((TLD.wad hW hD ha p).mp ⟨w, hw, h2⟩)⟩ h
section WR
variable {p : Program} {l : Launch} {e : Env} {R : Room} {s : State} {m : MethodId} {args : Array Value} {below : List Frame} {meth : Method} {c : Code} {H : Heap} {locs : List Loc} {cells slots : Nat} {Q : State → Prop}
variable {pc : Nat} {ls : Array Slot} {rest : List Value} {G : GG} {K : OO} {ws : va_W} {A : Nat → Prop} {y0 : MethodName} {b0 : ByteArray} {mL0 : Nat} {rt0 : Option FieldType} {a : Nat} {H0 : Heap}
end WR
theorem FOQ.six {x : Int32} (h : Wi x 0 6) (h4 : 4 ≤ x) (h5 : ¬ x = 4) (h6 : ¬ x = 5) : x = nI 6 := by
  obtain ⟨w, hw, rfl⟩ := Wi_nat (N := 6) (by decide) h
  have h7 := (nI_leI (a := 4) (b := w) (by decide) (by omega)).mp h4
  have h8 : ¬ w = 4 := fun e => h5 (congrArg nI e)
  have h9 : ¬ w = 5 := fun e => h6 (congrArg nI e)
  rw [show w = 6 by omega]
section WR
variable {p : Program} {l : Launch} {e : Env} {R : Room} {s : State} {m : MethodId} {args : Array Value} {below : List Frame} {meth : Method} {c : Code} {H : Heap} {locs : List Loc} {cells slots : Nat} {Q : State → Prop}
variable {pc : Nat} {ls : Array Slot} {rest : List Value} {G : GG} {K : OO} {ws : va_W} {A : Nat → Prop} {y0 : MethodName} {b0 : ByteArray} {mL0 : Nat} {rt0 : Option FieldType} {a : Nat} {H0 : Heap}
theorem gX12_findingOf_0 : (decode cX12_findingOf 0 = .ok (.aload_n 0, 1)) ∧ (decode cX12_findingOf 1 = .ok (.iload_n 1, 1)) ∧ (decode cX12_findingOf 2 = .ok (.bipush 9, 2)) ∧ (decode cX12_findingOf 4 = .ok (.invokevirtual 120, 3)) ∧ (decode cX12_findingOf 7 = .ok (.ifCond .eq 13, 3)) ∧ (decode cX12_findingOf 10 = .ok (.iload_n 2, 1)) ∧ (decode cX12_findingOf 11 = .ok (.iconst 0, 1)) ∧ (decode cX12_findingOf 12 = .ok (.bipush 6, 2)) ∧ (decode cX12_findingOf 14 = .ok (.invokestatic 84, 3)) ∧ (decode cX12_findingOf 17 = .ok (.ifCond .ne 5, 3)) := by decide +kernel
theorem gX12_findingOf_1 : (decode cX12_findingOf 20 = .ok (.iconst (-1), 1)) ∧ (decode cX12_findingOf 21 = .ok (.ireturn, 1)) ∧ (decode cX12_findingOf 22 = .ok (.iload_n 2, 1)) ∧ (decode cX12_findingOf 23 = .ok (.iconst 4, 1)) ∧ (decode cX12_findingOf 24 = .ok (.if_icmp .ge 20, 3)) ∧ (decode cX12_findingOf 27 = .ok (.aload_n 0, 1)) ∧ (decode cX12_findingOf 28 = .ok (.getfield 9, 3)) ∧ (decode cX12_findingOf 31 = .ok (.sipush 1552, 3)) ∧ (decode cX12_findingOf 34 = .ok (.iconst 4, 1)) ∧ (decode cX12_findingOf 35 = .ok (.iload_n 1, 1)) := by decide +kernel
theorem gX12_findingOf_2 : (decode cX12_findingOf 36 = .ok (.imul, 1)) ∧ (decode cX12_findingOf 37 = .ok (.iadd, 1)) ∧ (decode cX12_findingOf 38 = .ok (.iload_n 2, 1)) ∧ (decode cX12_findingOf 39 = .ok (.iadd, 1)) ∧ (decode cX12_findingOf 40 = .ok (.iaload, 1)) ∧ (decode cX12_findingOf 41 = .ok (.goto 50, 3)) ∧ (decode cX12_findingOf 44 = .ok (.iload_n 2, 1)) ∧ (decode cX12_findingOf 45 = .ok (.iconst 4, 1)) ∧ (decode cX12_findingOf 46 = .ok (.if_icmp .ne 19, 3)) ∧ (decode cX12_findingOf 49 = .ok (.aload_n 0, 1)) := by decide +kernel
theorem gX12_findingOf_3 : (decode cX12_findingOf 50 = .ok (.iload_n 1, 1)) ∧ (decode cX12_findingOf 51 = .ok (.invokevirtual 305, 3)) ∧ (decode cX12_findingOf 54 = .ok (.ifCond .eq 7, 3)) ∧ (decode cX12_findingOf 57 = .ok (.iconst 1, 1)) ∧ (decode cX12_findingOf 58 = .ok (.goto 33, 3)) ∧ (decode cX12_findingOf 61 = .ok (.iconst 0, 1)) ∧ (decode cX12_findingOf 62 = .ok (.goto 29, 3)) ∧ (decode cX12_findingOf 65 = .ok (.iload_n 2, 1)) ∧ (decode cX12_findingOf 66 = .ok (.iconst 5, 1)) ∧ (decode cX12_findingOf 67 = .ok (.if_icmp .ne 11, 3)) := by decide +kernel
theorem gX12_findingOf_4 : (decode cX12_findingOf 70 = .ok (.aload_n 0, 1)) ∧ (decode cX12_findingOf 71 = .ok (.iload_n 1, 1)) ∧ (decode cX12_findingOf 72 = .ok (.invokevirtual 311, 3)) ∧ (decode cX12_findingOf 75 = .ok (.goto 16, 3)) ∧ (decode cX12_findingOf 78 = .ok (.aload_n 0, 1)) ∧ (decode cX12_findingOf 79 = .ok (.iload_n 1, 1)) ∧ (decode cX12_findingOf 80 = .ok (.invokevirtual 317, 3)) ∧ (decode cX12_findingOf 83 = .ok (.ifCond .eq 7, 3)) ∧ (decode cX12_findingOf 86 = .ok (.iconst 1, 1)) ∧ (decode cX12_findingOf 87 = .ok (.goto 4, 3)) := by decide +kernel
theorem m_1315 : Cond.code yX12_isBarred cX12_isBarred 8 (some .boolean) ∈ BW := iB_BW70 _ (List.mem_of_getElem? (i := 3) rfl)
theorem m_1313 : Cond.methodLink RX12 317 yX12_isBarred ∈ BW := iB_BW70 _ (List.mem_of_getElem? (i := 1) rfl)
theorem m_1314 : Cond.instanceMethod yX12_isBarred ∈ BW := iB_BW70 _ (List.mem_of_getElem? (i := 2) rfl)
theorem m_92 : Cond.selects RX12 yX12_isBarred yX12_isBarred ∈ BW := iB_BW4 _ (List.mem_of_getElem? (i := 12) rfl)
theorem si_X12_317 : SV RX12 RX12 317 yX12_isBarred cX12_isBarred 8 (some .boolean) 1 := ⟨⟨m_1313, m_1314, m_92, m_115, m_1315⟩, rfl, nK_RX12.1, nK_RX12.2, pd_5⟩
theorem gX12_findingOf_5 : (decode cX12_findingOf 90 = .ok (.iconst 0, 1)) ∧ (decode cX12_findingOf 91 = .ok (.ireturn, 1)) := by decide +kernel
end WR
theorem ifc_iff {p q : Prop} {a b : Int32} (h : p ↔ q) : ifc p a b = ifc q a b := by rw [propext h]
theorem VPO.eq {y f : Nat → Int32} {td vd vl : Int32} {kp p : Nat} (hv : ∀ q, q < 12 → (VSE y kp q ↔ VPP (IVW f td vd vl kp) q)) (hkp : kp ≤ 12) (hp : p < 12) : ∀ q, q < 12 → (VSO y kp (2 ^ p) q ↔ VPP (IVW f td vd vl kp &&& ((1 <<< (nI p &&& 31)) ^^^ (-1))) q) := fun q hq => by
  rw [VSO.eq]
  show (VSE y kp q ∧ (2 ^ p).testBit q = false) ↔ _
  rw [VPP.cut hkp hp hq, hv q hq, Nat.testBit_two_pow]
  exact and_congr_right (fun _ => ⟨fun h e => of_decide_eq_false h e.symm, fun h => decide_eq_false (fun e => h e.symm)⟩)
theorem WAD.cg {f g : Nat → Int32} {kw : Nat} (hk : kw ≤ 16) (h : ∀ i, i < 48 → g i = f i) : WAD g kw = WAD f kw := by
  funext e p la
  refine propext ⟨fun ⟨w, hw, h1, h2, h3⟩ => ⟨w, hw, ?_, ?_, ?_⟩, fun ⟨w, hw, h1, h2, h3⟩ => ⟨w, hw, ?_, ?_, ?_⟩⟩
  · rw [← h _ (by omega)]; exact h1
  · rw [← h _ (by omega)]; exact h2
  · rw [← h _ (by omega)]; exact h3
  · rw [h _ (by omega)]; exact h1
  · rw [h _ (by omega)]; exact h2
  · rw [h _ (by omega)]; exact h3
theorem BRF.cg {LN : Nat → LNT} {TR TS : Nat → Nat → Prop} {n kw kp s kf ke : Nat} {CN CM : Int32 → Int32} {fw gw ff gf : Nat → Int32} {le l2 day : Int32} (hT : ∀ e, e < 10 → TR e = TS e) (hC : ∀ e, CN e = CM e) (hkw : kw ≤ 16) (hW : ∀ i, i < 48 → gw i = fw i) (hl : le = l2) (hF : FNO ff kf ke) (hke : ke ≤ 10) (hf : ∀ i, i < 48 → gf i = ff i) (hkf : kf ≤ 12) (hs : s < kf) : BRF LN TR n CN fw kw ff le day kp s ↔ BRF LN TS n CM gw kw gf l2 day kp s := by
  obtain ⟨je, hje, e2⟩ := Hs_nat (by omega) (hF s hs).1
  rw [BRF.at e2 (by omega), BRF.at ((hf (s * 4 + 0) (by omega)).trans e2) (by omega), hT je (by omega), hC, hl]
  unfold BRD
  rw [WAD.cg hkw hW]
theorem FDL.law {y fbfindings fbpapers fbpersons fbstamps fbsayings fbwarnings DY : Nat → Int32} {td vd vl gp : Int32} {kbfindings kbpapers kbpersons kbstamps kbsayings kbwarnings kbversions : Nat} {VL : Nat → List LNT} {VC : Nat → Nat → List Int32} (e0 : y 0 = td) (e1 : y 1 = vd) (e2 : y 2 = vl) (e3 : y 3 = gp)
    (hst : ∀ i, i < 72 → shf y 104 i = fbstamps i) (hpa : ∀ i, i < 72 → shf y 32 i = fbpapers i) (hpe : ∀ i, i < 20 → shf y 12 i = fbpersons i) (hsa : ∀ i, i < 128 → shf y 1424 i = fbsayings i) (hfi : ∀ i, i < 48 → shf y 1552 i = fbfindings i) (hwa : ∀ i, i < 48 → shf y 1600 i = fbwarnings i)
    (hks : kbstamps ≤ 24) (hkp : kbpapers ≤ 12) (hke : kbpersons ≤ 10) (hk8 : kbsayings ≤ 16) (hkf : kbfindings ≤ 12) (hkw : kbwarnings ≤ 16) (hSV : SVL fbstamps kbstamps) (hFN : FNO fbfindings kbfindings kbpersons) (hSP : SPI fbsayings kbsayings kbpapers)
    (hv : ∀ p, p < 12 → (VSE y kbpapers p ↔ VPP (IVW fbpapers td vd vl kbpapers) p)) : ∀ f9, f9 < kbfindings → [fbfindings (f9 * 4 + 0), fbfindings (f9 * 4 + 1), fbfindings (f9 * 4 + 2), fbfindings (f9 * 4 + 3), ifc ((STD (KST fbstamps (VPP (IVW fbpapers td vd vl kbpapers)) gp.toInt kbstamps) fbstamps (VPP (IVW fbpapers td vd vl kbpapers)) fbpapers fbpersons kbstamps kbpapers (fun e9 => LVF (LNF (RLO DY (DAYV td vd) kbversions) VL) (TRF (RLO DY (DAYV td vd) kbversions) VC (FAX fbpersons fbpapers (VPP (IVW fbpapers td vd vl kbpapers)) kbpapers e9))) (LVN (RLO DY (DAYV td vd) kbversions) VL) fbfindings) f9) 1 0, IMB (fun q9 => (STD (KST fbstamps (VPP (IVW fbpapers td vd vl kbpapers)) gp.toInt kbstamps) fbstamps (VPP (IVW fbpapers td vd vl kbpapers)) fbpapers fbpersons kbstamps kbpapers (fun e9 => LVF (LNF (RLO DY (DAYV td vd) kbversions) VL) (TRF (RLO DY (DAYV td vd) kbversions) VC (FAX fbpersons fbpapers (VPP (IVW fbpapers td vd vl kbpapers)) kbpapers e9))) (LVN (RLO DY (DAYV td vd) kbversions) VL) fbfindings) f9 ∧ HB (IVW fbpapers td vd vl kbpapers) (nI q9) ∧ ¬ (STD (KST fbstamps (VPP ((IVW fbpapers td vd vl kbpapers) &&& ((1 <<< ((nI q9) &&& 31)) ^^^ (-1)))) gp.toInt kbstamps) fbstamps (VPP ((IVW fbpapers td vd vl kbpapers) &&& ((1 <<< ((nI q9) &&& 31)) ^^^ (-1)))) fbpapers fbpersons kbstamps kbpapers (fun e9 => LVF (LNF (RLO DY (DAYV td vd) kbversions) VL) (TRF (RLO DY (DAYV td vd) kbversions) VC (FAX fbpersons fbpapers (VPP ((IVW fbpapers td vd vl kbpapers) &&& ((1 <<< ((nI q9) &&& 31)) ^^^ (-1)))) kbpapers e9))) (LVN (RLO DY (DAYV td vd) kbversions) VL) fbfindings) f9) kbpapers, ifc (BRF (LNF (RLO DY (DAYV td vd) kbversions) VL) (fun e9 => TRF (RLO DY (DAYV td vd) kbversions) VC (FAX fbpersons fbpapers (VPP (IVW fbpapers td vd vl kbpapers)) kbpapers e9)) (LVN (RLO DY (DAYV td vd) kbversions) VL) (fun e9 => CNT (fun s9 => fbsayings (s9 * 8 + 0) = e9 ∧ CSQ fbsayings fbpapers td vd vl s9) kbsayings) fbwarnings kbwarnings fbfindings (IMB (fun q9 => (STD (KST fbstamps (VPP (IVW fbpapers td vd vl kbpapers)) gp.toInt kbstamps) fbstamps (VPP (IVW fbpapers td vd vl kbpapers)) fbpapers fbpersons kbstamps kbpapers (fun e9 => LVF (LNF (RLO DY (DAYV td vd) kbversions) VL) (TRF (RLO DY (DAYV td vd) kbversions) VC (FAX fbpersons fbpapers (VPP (IVW fbpapers td vd vl kbpapers)) kbpapers e9))) (LVN (RLO DY (DAYV td vd) kbversions) VL) fbfindings) f9 ∧ HB (IVW fbpapers td vd vl kbpapers) (nI q9) ∧ ¬ (STD (KST fbstamps (VPP ((IVW fbpapers td vd vl kbpapers) &&& ((1 <<< ((nI q9) &&& 31)) ^^^ (-1)))) gp.toInt kbstamps) fbstamps (VPP ((IVW fbpapers td vd vl kbpapers) &&& ((1 <<< ((nI q9) &&& 31)) ^^^ (-1)))) fbpapers fbpersons kbstamps kbpapers (fun e9 => LVF (LNF (RLO DY (DAYV td vd) kbversions) VL) (TRF (RLO DY (DAYV td vd) kbversions) VC (FAX fbpersons fbpapers (VPP ((IVW fbpapers td vd vl kbpapers) &&& ((1 <<< ((nI q9) &&& 31)) ^^^ (-1)))) kbpapers e9))) (LVN (RLO DY (DAYV td vd) kbversions) VL) fbfindings) f9) kbpapers) (DAYV td vd) kbpapers f9) 1 0] = [shf y 1552 (f9 * 4 + 0), shf y 1552 (f9 * 4 + 1), shf y 1552 (f9 * 4 + 2), shf y 1552 (f9 * 4 + 3), ifc ((STD (KST (shf y 104) (VSE y kbpapers) (y 3).toInt kbstamps) (shf y 104) (VSE y kbpapers) (shf y 32) (shf y 12) kbstamps kbpapers (fun e9 => LVF (LNF (RLO DY (DAYV (y 0) (y 1)) kbversions) VL) (TRF (RLO DY (DAYV (y 0) (y 1)) kbversions) VC (FAX (shf y 12) (shf y 32) (VSE y kbpapers) kbpapers e9))) (LVN (RLO DY (DAYV (y 0) (y 1)) kbversions) VL) (shf y 1552)) f9) 1 0, (IMB (fun q9 => (STD (KST (shf y 104) (VSE y kbpapers) (y 3).toInt kbstamps) (shf y 104) (VSE y kbpapers) (shf y 32) (shf y 12) kbstamps kbpapers (fun e9 => LVF (LNF (RLO DY (DAYV (y 0) (y 1)) kbversions) VL) (TRF (RLO DY (DAYV (y 0) (y 1)) kbversions) VC (FAX (shf y 12) (shf y 32) (VSE y kbpapers) kbpapers e9))) (LVN (RLO DY (DAYV (y 0) (y 1)) kbversions) VL) (shf y 1552)) f9 ∧ VSE y kbpapers q9 ∧ ¬ (STD (KST (shf y 104) (VSO y kbpapers (2 ^ q9)) (y 3).toInt kbstamps) (shf y 104) (VSO y kbpapers (2 ^ q9)) (shf y 32) (shf y 12) kbstamps kbpapers (fun e9 => LVF (LNF (RLO DY (DAYV (y 0) (y 1)) kbversions) VL) (TRF (RLO DY (DAYV (y 0) (y 1)) kbversions) VC (FAX (shf y 12) (shf y 32) (VSO y kbpapers (2 ^ q9)) kbpapers e9))) (LVN (RLO DY (DAYV (y 0) (y 1)) kbversions) VL) (shf y 1552)) f9) kbpapers), ifc (BRF (LNF (RLO DY (DAYV (y 0) (y 1)) kbversions) VL) (fun e9 => TRF (RLO DY (DAYV (y 0) (y 1)) kbversions) VC (FAX (shf y 12) (shf y 32) (VSE y kbpapers) kbpapers e9)) (LVN (RLO DY (DAYV (y 0) (y 1)) kbversions) VL) (fun e9 => CNT (fun s9 => shf y 1424 (s9 * 8 + 0) = e9 ∧ CSQ (shf y 1424) (shf y 32) (y 0) (y 1) (y 2) s9) kbsayings) (shf y 1600) kbwarnings (shf y 1552) (IMB (fun q9 => (STD (KST (shf y 104) (VSE y kbpapers) (y 3).toInt kbstamps) (shf y 104) (VSE y kbpapers) (shf y 32) (shf y 12) kbstamps kbpapers (fun e9 => LVF (LNF (RLO DY (DAYV (y 0) (y 1)) kbversions) VL) (TRF (RLO DY (DAYV (y 0) (y 1)) kbversions) VC (FAX (shf y 12) (shf y 32) (VSE y kbpapers) kbpapers e9))) (LVN (RLO DY (DAYV (y 0) (y 1)) kbversions) VL) (shf y 1552)) f9 ∧ VSE y kbpapers q9 ∧ ¬ (STD (KST (shf y 104) (VSO y kbpapers (2 ^ q9)) (y 3).toInt kbstamps) (shf y 104) (VSO y kbpapers (2 ^ q9)) (shf y 32) (shf y 12) kbstamps kbpapers (fun e9 => LVF (LNF (RLO DY (DAYV (y 0) (y 1)) kbversions) VL) (TRF (RLO DY (DAYV (y 0) (y 1)) kbversions) VC (FAX (shf y 12) (shf y 32) (VSO y kbpapers (2 ^ q9)) kbpapers e9))) (LVN (RLO DY (DAYV (y 0) (y 1)) kbversions) VL) (shf y 1552)) f9) kbpapers) (DAYV (y 0) (y 1)) kbpapers f9) 1 0] := by
  intro f9 hf9
  subst e0 e1 e2 e3
  have hK := KST.cg (gp := (y 3).toInt) hst hks hv hSV
  have h5 := STD.law (VL := VL) (VC := VC) (DY := DY) (kv := kbversions) (y := y) hK hst hks hv hpa hpe hkp hke rfl rfl hFN hfi hkf f9 hf9
  have h6 := IMB.cg kbpapers (fun p hp => and_congr h5 (and_congr (hv p (by omega)).symm (not_congr (STD.law (VL := VL) (VC := VC) (DY := DY) (kv := kbversions) (y := y) (KST.cg (gp := (y 3).toInt) hst hks (VPO.eq hv hkp (show p < 12 by omega)) hSV) hst hks (VPO.eq hv hkp (show p < 12 by omega)) hpa hpe hkp hke rfl rfl hFN hfi hkf f9 hf9))))
  refine FOQ.all (hfi _ (by omega)).symm (hfi _ (by omega)).symm (hfi _ (by omega)).symm (hfi _ (by omega)).symm (ifc_iff h5) h6 (ifc_iff ?_)
  exact BRF.cg (fun e he => congrArg (TRF (RLO DY (DAYV (y 0) (y 1)) kbversions) VC) (FAX.cg hv hpa hpe hkp he).symm) (fun e => CNT.cg _ (fun k9 hk9 => and_congr (by rw [hsa _ (by omega)]) (CSQ.cg hsa hpa (hSP k9 hk9) hkp (by omega)).symm)) hkw hwa h6 hFN hke hfi hkf hf9
section WR
variable {p : Program} {l : Launch} {e : Env} {R : Room} {s : State} {m : MethodId} {args : Array Value} {below : List Frame} {meth : Method} {c : Code} {H : Heap} {locs : List Loc} {cells slots : Nat} {Q : State → Prop}
variable {pc : Nat} {ls : Array Slot} {rest : List Value} {G : GG} {K : OO} {ws : va_W} {A : Nat → Prop} {y0 : MethodName} {b0 : ByteArray} {mL0 : Nat} {rt0 : Option FieldType} {a : Nat} {H0 : Heap}
end WR
theorem rm_6_5_3 {mc ms : Nat} : 5 + 1 ≤ (RM 6 mc ms).frames ∧ 8 + (3 + 11) + 40 * 5 ≤ (RM 6 mc ms).locals := ⟨by show 5 + 1 ≤ 6; decide, by show 8 + (3 + 11) + 40 * 5 ≤ 40 * 6; decide⟩
theorem rm_7_6_12 {mc ms : Nat} : 6 + 1 ≤ (RM 7 mc ms).frames ∧ 8 + (12 + 11) + 40 * 6 ≤ (RM 7 mc ms).locals := ⟨by show 6 + 1 ≤ 7; decide, by show 8 + (12 + 11) + 40 * 6 ≤ 40 * 7; decide⟩
theorem rm_8_2_3 {mc ms : Nat} : 2 + 1 ≤ (RM 8 mc ms).frames ∧ 8 + (3 + 11) + 40 * 2 ≤ (RM 8 mc ms).locals := ⟨by show 2 + 1 ≤ 8; decide, by show 8 + (3 + 11) + 40 * 2 ≤ 40 * 8; decide⟩
theorem rm_8_2_4 {mc ms : Nat} : 2 + 1 ≤ (RM 8 mc ms).frames ∧ 8 + (4 + 11) + 40 * 2 ≤ (RM 8 mc ms).locals := ⟨by show 2 + 1 ≤ 8; decide, by show 8 + (4 + 11) + 40 * 2 ≤ 40 * 8; decide⟩
theorem rm_9_8_7 {mc ms : Nat} : 8 + 1 ≤ (RM 9 mc ms).frames ∧ 8 + (7 + 11) + 40 * 8 ≤ (RM 9 mc ms).locals := ⟨by show 8 + 1 ≤ 9; decide, by show 8 + (7 + 11) + 40 * 8 ≤ 40 * 9; decide⟩
theorem rm_10_9_4 {mc ms : Nat} : 9 + 1 ≤ (RM 10 mc ms).frames ∧ 8 + (4 + 11) + 40 * 9 ≤ (RM 10 mc ms).locals := ⟨by show 9 + 1 ≤ 10; decide, by show 8 + (4 + 11) + 40 * 9 ≤ 40 * 10; decide⟩
theorem rm_11_10_3 {mc ms : Nat} : 10 + 1 ≤ (RM 11 mc ms).frames ∧ 8 + (3 + 11) + 40 * 10 ≤ (RM 11 mc ms).locals := ⟨by show 10 + 1 ≤ 11; decide, by show 8 + (3 + 11) + 40 * 10 ≤ 40 * 11; decide⟩
theorem rm_11_3_3 {mc ms : Nat} : 3 + 1 ≤ (RM 11 mc ms).frames ∧ 8 + (3 + 11) + 40 * 3 ≤ (RM 11 mc ms).locals := ⟨by show 3 + 1 ≤ 11; decide, by show 8 + (3 + 11) + 40 * 3 ≤ 40 * 11; decide⟩
theorem rm_11_1_2 {mc ms : Nat} : 1 + 1 ≤ (RM 11 mc ms).frames ∧ 8 + (2 + 11) + 40 * 1 ≤ (RM 11 mc ms).locals := ⟨by show 1 + 1 ≤ 11; decide, by show 8 + (2 + 11) + 40 * 1 ≤ 40 * 11; decide⟩
theorem rm_8_1_4 {mc ms : Nat} : 1 + 1 ≤ (RM 8 mc ms).frames ∧ 8 + (4 + 11) + 40 * 1 ≤ (RM 8 mc ms).locals := ⟨by show 1 + 1 ≤ 8; decide, by show 8 + (4 + 11) + 40 * 1 ≤ 40 * 8; decide⟩
theorem rm_8_6_12 {mc ms : Nat} : 6 + 1 ≤ (RM 8 mc ms).frames ∧ 8 + (12 + 11) + 40 * 6 ≤ (RM 8 mc ms).locals := ⟨by show 6 + 1 ≤ 8; decide, by show 8 + (12 + 11) + 40 * 6 ≤ 40 * 8; decide⟩
theorem rm_12_11_5 {mc ms : Nat} : 11 + 1 ≤ (RM 12 mc ms).frames ∧ 8 + (5 + 11) + 40 * 11 ≤ (RM 12 mc ms).locals := ⟨by show 11 + 1 ≤ 12; decide, by show 8 + (5 + 11) + 40 * 11 ≤ 40 * 12; decide⟩
theorem rm_12_8_7 {mc ms : Nat} : 8 + 1 ≤ (RM 12 mc ms).frames ∧ 8 + (7 + 11) + 40 * 8 ≤ (RM 12 mc ms).locals := ⟨by show 8 + 1 ≤ 12; decide, by show 8 + (7 + 11) + 40 * 8 ≤ 40 * 12; decide⟩
theorem rm_12_5_4 {mc ms : Nat} : 5 + 1 ≤ (RM 12 mc ms).frames ∧ 8 + (4 + 11) + 40 * 5 ≤ (RM 12 mc ms).locals := ⟨by show 5 + 1 ≤ 12; decide, by show 8 + (4 + 11) + 40 * 5 ≤ 40 * 12; decide⟩
theorem rm_13_2_3 {mc ms : Nat} : 2 + 1 ≤ (RM 13 mc ms).frames ∧ 8 + (3 + 11) + 40 * 2 ≤ (RM 13 mc ms).locals := ⟨by show 2 + 1 ≤ 13; decide, by show 8 + (3 + 11) + 40 * 2 ≤ 40 * 13; decide⟩
theorem rm_13_1_3 {mc ms : Nat} : 1 + 1 ≤ (RM 13 mc ms).frames ∧ 8 + (3 + 11) + 40 * 1 ≤ (RM 13 mc ms).locals := ⟨by show 1 + 1 ≤ 13; decide, by show 8 + (3 + 11) + 40 * 1 ≤ 40 * 13; decide⟩
theorem rm_13_12_8 {mc ms : Nat} : 12 + 1 ≤ (RM 13 mc ms).frames ∧ 8 + (8 + 11) + 40 * 12 ≤ (RM 13 mc ms).locals := ⟨by show 12 + 1 ≤ 13; decide, by show 8 + (8 + 11) + 40 * 12 ≤ 40 * 13; decide⟩
theorem rm_13_11_5 {mc ms : Nat} : 11 + 1 ≤ (RM 13 mc ms).frames ∧ 8 + (5 + 11) + 40 * 11 ≤ (RM 13 mc ms).locals := ⟨by show 11 + 1 ≤ 13; decide, by show 8 + (5 + 11) + 40 * 11 ≤ 40 * 13; decide⟩
theorem rm_13_10_3 {mc ms : Nat} : 10 + 1 ≤ (RM 13 mc ms).frames ∧ 8 + (3 + 11) + 40 * 10 ≤ (RM 13 mc ms).locals := ⟨by show 10 + 1 ≤ 13; decide, by show 8 + (3 + 11) + 40 * 10 ≤ 40 * 13; decide⟩
def K_m_factOfX (l : Launch) (G : GG) (kq : Nat) (h0 : Nat) (jk : Nat) (je : Nat) (nw : Nat) (nk : Nat) (mhasKept : Int32) (nt : Nat) (mtaped : Int32) (nr : Nat) (mrowMany : Int32) (mroundOf : Int32) (mroundFrom : Int32) (nm : Nat) (mfromHour : Int32) (mtoHour : Int32) (ns : Nat) (mfrom : Int32) (mto : Int32) (msort : Int32) (misFault : Int32) (mdeep : Int32) (mcoded : Int32) (mlines : Int32) (nl : Nat) (nc : Nat) (nF : Nat) (np : Nat) (ntr : Nat) (nb : Nat) (mbestCost : Int32) (nso : Nat) (nsi : Nat) (nit : Nat) (nsh : Nat) (nsf : Nat) (nss : Nat) (nrc : Nat) (mtraced : Int32) (mdealer : Int32) (mnumber : Int32) (mwhose : Int32) (msize : Int32) (misParted : Int32) (fnw : Nat → Int32) : Prop := MP l G yX12_factOf cX12_factOf 3 (some .int) 5 [.ref h0, .int (nI jk), .int (nI je)] [(h0, oX12 nw nk mhasKept nt mtaped nr mrowMany mroundOf mroundFrom 0 nm mfromHour mtoHour ns mfrom mto msort misFault mdeep mcoded mlines nl nc nF np ntr nb mbestCost nso nsi nit nsh nsf nss nrc mtraced mdealer mnumber mwhose msize misParted), (nw, iA G 1662 fnw)] (fun r : Int32 => r = ((FAX (shf fnw 12) (shf fnw 32) (VSE fnw kq) kq je) jk))
set_option maxHeartbeats 4000000 in
set_option maxRecDepth 100000 in
theorem m_factOfX (l : Launch) (G : GG) (kq : Nat) (h0 : Nat) (jk : Nat) (je : Nat) (nw : Nat) (nk : Nat) (mhasKept : Int32) (nt : Nat) (mtaped : Int32) (nr : Nat) (mrowMany : Int32) (mroundOf : Int32) (mroundFrom : Int32) (nm : Nat) (mfromHour : Int32) (mtoHour : Int32) (ns : Nat) (mfrom : Int32) (mto : Int32) (msort : Int32) (misFault : Int32) (mdeep : Int32) (mcoded : Int32) (mlines : Int32) (nl : Nat) (nc : Nat) (nF : Nat) (np : Nat) (ntr : Nat) (nb : Nat) (mbestCost : Int32) (nso : Nat) (nsi : Nat) (nit : Nat) (nsh : Nat) (nsf : Nat) (nss : Nat) (nrc : Nat) (mtraced : Int32) (mdealer : Int32) (mnumber : Int32) (mwhose : Int32) (msize : Int32) (misParted : Int32) (fnw : Nat → Int32) (hN : NI fnw) (ekq : fnw 5 = nI kq) (hkq : kq ≤ 12) (hje : je < 10) (hjk : jk < 5) : K_m_factOfX l G kq h0 jk je nw nk mhasKept nt mtaped nr mrowMany mroundOf mroundFrom nm mfromHour mtoHour ns mfrom mto msort misFault mdeep mcoded mlines nl nc nF np ntr nb mbestCost nso nsi nit nsh nsf nss nrc mtraced mdealer mnumber mwhose msize misParted fnw := by
  refine MP.start (by decide +kernel) (Nat.le_of_ble_eq_true rfl) ?_
  intro p e s m below meth c ls hC hK hP hD hl
  refine absQ (fun Q0 hQ0 => ?_)
  have hl : lv_has ls 3 [(0, .ref h0), (1, .int (nI jk)), (2, .int (nI je))] := hl
  refine Kan8 hC (fun hx hb hr hml hB hown hlocks hnm => ?_)
  refine lv_iload_n hx hb gX12_factOf_0.1 rfl (lv_at1 hl) ?_
  by_cases c_1_7896 : nI jk = 0
  · refine lv_tableIn (tgt := 32) hx hb gX12_factOf_0.2.1 (by rw [c_1_7896]; decide) (by rw [c_1_7896]; decide) (by rw [c_1_7896]; rfl) (by decide) ?_
    refine lv_iload_n hx hb gX12_factOf_0.2.2.1 rfl (lv_at2 hl) ?_
    refine toQ hQ0 ?_
    exact RP (v := nI je) hC (FAR.r0 ((nI_eq (b := 0) (by omega) (by decide)).mp c_1_7896)) rfl gX12_factOf_0.2.2.2.1
  by_cases c_1_7897 : nI jk = 1
  · refine lv_tableIn (tgt := 34) hx hb gX12_factOf_0.2.1 (by rw [c_1_7897]; decide) (by rw [c_1_7897]; decide) (by rw [c_1_7897]; rfl) (by decide) ?_
    refine lv_aload_n hx hb gX12_factOf_0.2.2.2.2.1 rfl (lv_at0 hl) ?_
    refine gf_X12_9 hC rfl hK hP 0 rfl rfl gX12_factOf_0.2.2.2.2.2.1 ?_
    refine lv_bipush (v := 12) hx hb gX12_factOf_0.2.2.2.2.2.2.1 (by decide) ?_
    refine lv_iconst (v := 2) hx hb gX12_factOf_0.2.2.2.2.2.2.2.1 (by decide) ?_
    refine lv_iload_n hx hb gX12_factOf_0.2.2.2.2.2.2.2.2.1 rfl (lv_at2 hl) ?_
    refine lv_imul hx hb gX12_factOf_0.2.2.2.2.2.2.2.2.2 ?_
    refine eqi (x1 := nI (2 * je)) (nI_mul 2 je) ?_
    refine lv_iadd hx hb gX12_factOf_1.1 ?_
    refine eqi (x1 := nI (12 + 2 * je)) (nI_add 12 (2 * je)) ?_
    refine aldN hC hK hP 1 rfl (k := (12 + 2 * je)) (by omega) (Nat.le_of_ble_eq_true rfl) (v := fnw (12 + 2 * je)) rfl gX12_factOf_1.2.1 ?_
    refine toQ hQ0 ?_
    exact RP (v := fnw (12 + 2 * je)) hC (FAR.r1 ((nI_eq (b := 1) (by omega) (by decide)).mp c_1_7897)) rfl gX12_factOf_1.2.2.1
  by_cases c_1_7898 : nI jk = 2
  · refine lv_tableIn (tgt := 46) hx hb gX12_factOf_0.2.1 (by rw [c_1_7898]; decide) (by rw [c_1_7898]; decide) (by rw [c_1_7898]; rfl) (by decide) ?_
    refine lv_aload_n hx hb gX12_factOf_1.2.2.2.1 rfl (lv_at0 hl) ?_
    refine lv_iload_n hx hb gX12_factOf_1.2.2.2.2.1 rfl (lv_at2 hl) ?_
    refine lv_iconst (v := 0) hx hb gX12_factOf_1.2.2.2.2.2.1 (by decide) ?_
    refine pV hC hK hl hP hD (m_papersToX l G kq h0 je nw nk mhasKept nt mtaped nr mrowMany mroundOf mroundFrom nm mfromHour mtoHour ns mfrom mto msort misFault mdeep mcoded mlines nl nc nF np ntr nb mbestCost nso nsi nit nsh nsf nss nrc mtraced mdealer mnumber mwhose msize misParted fnw (ekq) (hkq) (hje)) si_X12_123 [0, 1] sm_0_1 fm_0_1 nd_0_1 rfl rfl rfl rfl rfl (Nat.le_of_ble_eq_true rfl) rm_5_4_5 ⟨by first | exact Nat.le_of_ble_eq_true rfl | exact Nat.zero_le _, by first | exact Nat.le_of_ble_eq_true rfl | exact Nat.zero_le _⟩ gX12_factOf_1.2.2.2.2.2.2.1 (Keqr ?_)
    refine toQ hQ0 ?_
    exact RP (v := (CNT (fun p9 => SEE (shf fnw 32) (fnw 0) (fnw 1) (fnw 2) p9 ∧ HB (shf fnw 32 (p9 * 6 + 1)) (nI je)) kq)) hC (FAR.r2 (fun _ h9 => SEE.vse h9) ((nI_eq (b := 2) (by omega) (by decide)).mp c_1_7898)) rfl gX12_factOf_1.2.2.2.2.2.2.2.1
  by_cases c_1_7901 : nI jk = 3
  · refine lv_tableIn (tgt := 53) hx hb gX12_factOf_0.2.1 (by rw [c_1_7901]; decide) (by rw [c_1_7901]; decide) (by rw [c_1_7901]; rfl) (by decide) ?_
    refine lv_aload_n hx hb gX12_factOf_1.2.2.2.2.2.2.2.2.1 rfl (lv_at0 hl) ?_
    refine lv_iload_n hx hb gX12_factOf_1.2.2.2.2.2.2.2.2.2 rfl (lv_at2 hl) ?_
    refine lv_iconst (v := 1) hx hb gX12_factOf_2.1 (by decide) ?_
    refine pV hC hK hl hP hD (m_papersByX l G kq h0 je nw nk mhasKept nt mtaped nr mrowMany mroundOf mroundFrom nm mfromHour mtoHour ns mfrom mto msort misFault mdeep mcoded mlines nl nc nF np ntr nb mbestCost nso nsi nit nsh nsf nss nrc mtraced mdealer mnumber mwhose msize misParted fnw (ekq) (hkq) (hje)) si_X12_123 [0, 1] sm_0_1 fm_0_1 nd_0_1 rfl rfl rfl rfl rfl (Nat.le_of_ble_eq_true rfl) rm_5_4_5 ⟨by first | exact Nat.le_of_ble_eq_true rfl | exact Nat.zero_le _, by first | exact Nat.le_of_ble_eq_true rfl | exact Nat.zero_le _⟩ gX12_factOf_2.2.1 (Keqr ?_)
    refine toQ hQ0 ?_
    exact RP (v := (CNT (fun p9 => SEE (shf fnw 32) (fnw 0) (fnw 1) (fnw 2) p9 ∧ shf fnw 32 (p9 * 6 + 0) = (nI je)) kq)) hC (FAR.r3 (fun _ h9 => SEE.vse h9) ((nI_eq (b := 3) (by omega) (by decide)).mp c_1_7901)) rfl gX12_factOf_2.2.2.1
  refine lv_tableOut (tgt := 60) hx hb gX12_factOf_0.2.1 (by have q9 := sw_0_3 (x := nI jk); simp only [c_1_7896, c_1_7897, c_1_7898, c_1_7901, not_false_eq_true, true_implies] at q9; exact q9) (by decide) ?_
  refine lv_aload_n hx hb gX12_factOf_2.2.2.2.1 rfl (lv_at0 hl) ?_
  refine gf_X12_9 hC rfl hK hP 0 rfl rfl gX12_factOf_2.2.2.2.2.1 ?_
  refine lv_bipush (v := 12) hx hb gX12_factOf_2.2.2.2.2.2.1 (by decide) ?_
  refine lv_iconst (v := 2) hx hb gX12_factOf_2.2.2.2.2.2.2.1 (by decide) ?_
  refine lv_iload_n hx hb gX12_factOf_2.2.2.2.2.2.2.2.1 rfl (lv_at2 hl) ?_
  refine lv_imul hx hb gX12_factOf_2.2.2.2.2.2.2.2.2.1 ?_
  refine eqi (x1 := nI (2 * je)) (nI_mul 2 je) ?_
  refine lv_iadd hx hb gX12_factOf_2.2.2.2.2.2.2.2.2.2 ?_
  refine eqi (x1 := nI (12 + 2 * je)) (nI_add 12 (2 * je)) ?_
  refine lv_iconst (v := 1) hx hb gX12_factOf_3.1 (by decide) ?_
  refine lv_iadd hx hb gX12_factOf_3.2.1 ?_
  refine eqi (x1 := nI (12 + 2 * je + 1)) (nI_add (12 + 2 * je) 1) ?_
  refine aldN hC hK hP 1 rfl (k := (12 + 2 * je + 1)) (by omega) (Nat.le_of_ble_eq_true rfl) (v := fnw (12 + 2 * je + 1)) rfl gX12_factOf_3.2.2.1 ?_
  refine toQ hQ0 ?_
  exact RP (v := fnw (12 + 2 * je + 1)) hC (FAR.r4 (fun h9 => c_1_7896 (congrArg nI h9)) (fun h9 => c_1_7897 (congrArg nI h9)) (fun h9 => c_1_7898 (congrArg nI h9)) (fun h9 => c_1_7901 (congrArg nI h9))) rfl gX12_factOf_3.2.2.2
def K_m_rulesX (l : Launch) (G : GG) (k7 : Nat) (DY : Nat → Int32) (h0 : Nat) (nw : Nat) (nk : Nat) (mhasKept : Int32) (nt : Nat) (mtaped : Int32) (nr : Nat) (mrowMany : Int32) (mroundOf : Int32) (mroundFrom : Int32) (mouts : Int32) (nm : Nat) (mfromHour : Int32) (mtoHour : Int32) (ns : Nat) (mfrom : Int32) (mto : Int32) (msort : Int32) (misFault : Int32) (mdeep : Int32) (mcoded : Int32) (mlines : Int32) (nl : Nat) (nc : Nat) (nF : Nat) (np : Nat) (ntr : Nat) (nb : Nat) (mbestCost : Int32) (nso : Nat) (nsi : Nat) (nit : Nat) (nsh : Nat) (nsf : Nat) (nss : Nat) (nrc : Nat) (mtraced : Int32) (mdealer : Int32) (mnumber : Int32) (mwhose : Int32) (msize : Int32) (misParted : Int32) (fnw : Nat → Int32) : Prop := MP l G yX12_rules cX12_rules 3 (some .int) 2 [.ref h0] [(h0, oX12 nw nk mhasKept nt mtaped nr mrowMany mroundOf mroundFrom mouts nm mfromHour mtoHour ns mfrom mto msort misFault mdeep mcoded mlines nl nc nF np ntr nb mbestCost nso nsi nit nsh nsf nss nrc mtraced mdealer mnumber mwhose msize misParted), (nw, iA G 1662 fnw)] (fun r : Int32 => r = (LAT (RLO DY (DAYV (fnw 0) (fnw 1)) k7)))
set_option maxHeartbeats 4000000 in
set_option maxRecDepth 100000 in
theorem m_rulesX (l : Launch) (G : GG) (k7 : Nat) (DY : Nat → Int32) (h0 : Nat) (nw : Nat) (nk : Nat) (mhasKept : Int32) (nt : Nat) (mtaped : Int32) (nr : Nat) (mrowMany : Int32) (mroundOf : Int32) (mroundFrom : Int32) (mouts : Int32) (nm : Nat) (mfromHour : Int32) (mtoHour : Int32) (ns : Nat) (mfrom : Int32) (mto : Int32) (msort : Int32) (misFault : Int32) (mdeep : Int32) (mcoded : Int32) (mlines : Int32) (nl : Nat) (nc : Nat) (nF : Nat) (np : Nat) (ntr : Nat) (nb : Nat) (mbestCost : Int32) (nso : Nat) (nsi : Nat) (nit : Nat) (nsh : Nat) (nsf : Nat) (nss : Nat) (nrc : Nat) (mtraced : Int32) (mdealer : Int32) (mnumber : Int32) (mwhose : Int32) (msize : Int32) (misParted : Int32) (fnw : Nat → Int32) (hN : NI fnw) (ek7 : fnw 7 = nI k7) (hk7 : k7 ≤ 8) (hDY : ∀ v9, v9 < k7 → fnw (176 + 156 * v9 + 0) = DY v9) : K_m_rulesX l G k7 DY h0 nw nk mhasKept nt mtaped nr mrowMany mroundOf mroundFrom mouts nm mfromHour mtoHour ns mfrom mto msort misFault mdeep mcoded mlines nl nc nF np ntr nb mbestCost nso nsi nit nsh nsf nss nrc mtraced mdealer mnumber mwhose msize misParted fnw := by
  refine MP.start (by decide +kernel) (Nat.le_of_ble_eq_true rfl) ?_
  intro p e s m below meth c ls hC hK hP hD hl
  refine absQ (fun Q0 hQ0 => ?_)
  have hl : lv_has ls 3 [(0, .ref h0)] := hl
  refine Kan8 hC (fun hx hb hr hml hB hown hlocks hnm => ?_)
  refine lv_iconst (v := (-1)) hx hb gX12_rules_0.1 (by decide) ?_
  refine lv_istore_n (lv' := [(1, .int (-1)), (0, .ref h0)]) hx hb gX12_rules_0.2.1 rfl hl (by decide) rfl (fun ls hl => ?_)
  refine lv_iconst (v := 0) hx hb gX12_rules_0.2.2.1 (by decide) ?_
  refine lv_istore_n (lv' := [(2, .int 0), (1, .int (-1)), (0, .ref h0)]) hx hb gX12_rules_0.2.2.2.1 rfl hl (by decide) rfl (fun ls hl => ?_)
  have keyP : ∀ (nP kP : Nat) (lv : Int32) (ls : Array Slot), kP + nP = k7 → (lv = LAT (RLO DY (DAYV (fnw 0) (fnw 1)) kP)) → lv_has ls 3 [(2, .int (nI kP)), (1, .int lv), (0, .ref h0)] → W p l e (RM 2 0 0) s m ([.ref h0] : List Value).toArray below meth c s.heap [] 0 0 Q0 (F0 m 4 ls []) := by
    intro nP
    induction nP with
    | zero =>
      intro kP lv ls hkP hlv hl
      obtain rfl : k7 = kP := by omega
      have hl : lv_has ls 3 [(2, .int (nI k7)), (1, .int lv), (0, .ref h0)] := hl
      refine lv_iload_n hx hb gX12_rules_0.2.2.2.2.1 rfl (lv_at0 hl) ?_
      refine lv_aload_n hx hb gX12_rules_0.2.2.2.2.2.1 rfl (lv_at2 hl) ?_
      refine gf_X12_9 hC rfl hK hP 0 rfl rfl gX12_rules_0.2.2.2.2.2.2.1 ?_
      refine lv_bipush (v := 7) hx hb gX12_rules_0.2.2.2.2.2.2.2.1 (by decide) ?_
      refine ald hC hK hP 1 rfl (vin (by decide +kernel)) (k := 7) (by decide +kernel) (v := nI k7) (ek7) gX12_rules_0.2.2.2.2.2.2.2.2.1 ?_
      refine lv_icmp_ge (tgt := 50) hx hb gX12_rules_0.2.2.2.2.2.2.2.2.2 (by decide) (fun _ => ?_) (fun c9 => absurd (Int32.le_refl _) c9)
      refine lv_iload_n hx hb gX12_rules_2.2.2.2.2.2.2.2.2.2 rfl (lv_at1 hl) ?_
      refine toQ hQ0 ?_
      exact RP (v := lv) hC (hlv) rfl gX12_rules_3
    | succ nP ihP =>
      intro kP lv ls hkP hlv hl
      refine lv_iload_n hx hb gX12_rules_0.2.2.2.2.1 rfl (lv_at0 hl) ?_
      refine lv_aload_n hx hb gX12_rules_0.2.2.2.2.2.1 rfl (lv_at2 hl) ?_
      refine gf_X12_9 hC rfl hK hP 0 rfl rfl gX12_rules_0.2.2.2.2.2.2.1 ?_
      refine lv_bipush (v := 7) hx hb gX12_rules_0.2.2.2.2.2.2.2.1 (by decide) ?_
      refine ald hC hK hP 1 rfl (vin (by decide +kernel)) (k := 7) (by decide +kernel) (v := nI k7) (ek7) gX12_rules_0.2.2.2.2.2.2.2.2.1 ?_
      refine lv_icmp_ge (tgt := 50) hx hb gX12_rules_0.2.2.2.2.2.2.2.2.2 (by decide) (fun c9 => absurd c9 (nI_ge (a := kP) (b := k7) (by omega) (by omega))) (fun _ => ?_)
      refine lv_aload_n hx hb gX12_rules_1.1 rfl (lv_at2 hl) ?_
      refine gf_X12_9 hC rfl hK hP 0 rfl rfl gX12_rules_1.2.1 ?_
      refine lv_sipush (v := 176) hx hb gX12_rules_1.2.2.1 (by decide) ?_
      refine lv_sipush (v := 156) hx hb gX12_rules_1.2.2.2.1 (by decide) ?_
      refine lv_iload_n hx hb gX12_rules_1.2.2.2.2.1 rfl (lv_at0 hl) ?_
      refine lv_imul hx hb gX12_rules_1.2.2.2.2.2.1 ?_
      refine eqi (x1 := nI (156 * kP)) (nI_mul 156 kP) ?_
      refine lv_iadd hx hb gX12_rules_1.2.2.2.2.2.2.1 ?_
      refine eqi (x1 := nI (176 + 156 * kP)) (nI_add 176 (156 * kP)) ?_
      refine lv_iconst (v := 0) hx hb gX12_rules_1.2.2.2.2.2.2.2.1 (by decide) ?_
      refine lv_iadd hx hb gX12_rules_1.2.2.2.2.2.2.2.2.1 ?_
      refine eqi (x1 := nI (176 + 156 * kP + 0)) (nI_add (176 + 156 * kP) 0) ?_
      refine aldN hC hK hP 1 rfl (k := 176 + 156 * kP + 0) (by omega) (Nat.le_of_ble_eq_true rfl) (v := DY kP) (hDY kP (by omega)) gX12_rules_1.2.2.2.2.2.2.2.2.2 ?_
      refine lv_aload_n hx hb gX12_rules_2.1 rfl (lv_at2 hl) ?_
      refine pV hC hK hl hP hD (m_dayX l G h0 nw nk mhasKept nt mtaped nr mrowMany mroundOf mroundFrom mouts nm mfromHour mtoHour ns mfrom mto msort misFault mdeep mcoded mlines nl nc nF np ntr nb mbestCost nso nsi nit nsh nsf nss nrc mtraced mdealer mnumber mwhose msize misParted fnw) si_X12_92 [0, 1] sm_0_1 fm_0_1 nd_0_1 rfl rfl rfl rfl rfl (Nat.le_of_ble_eq_true rfl) rm_2_1_1 ⟨by first | exact Nat.le_of_ble_eq_true rfl | exact Nat.zero_le _, by first | exact Nat.le_of_ble_eq_true rfl | exact Nat.zero_le _⟩ gX12_rules_2.2.1 (Keqr ?_)
      refine lv_icmp_gt (tgt := 42) hx hb gX12_rules_2.2.2.1 (by decide) (fun c_35_7906 => ?_) (fun c_35_7906 => ?_)
      · refine lv_iload_n hx hb gX12_rules_2.2.2.2.2.2.1 rfl (lv_at1 hl) ?_
        refine lv_istore_n (lv' := [(1, .int lv), (2, .int (nI kP)), (0, .ref h0)]) hx hb gX12_rules_2.2.2.2.2.2.2.1 rfl hl (by decide) rfl (fun ls hl => ?_)
        refine lv_iinc (v := nI (kP + 1)) (lv' := [(2, .int (nI (kP + 1))), (1, .int lv), (0, .ref h0)]) hx hb gX12_rules_2.2.2.2.2.2.2.2.1 hl (k := 1) rfl (nI_1 _) (by decide) rfl (fun ls hl => ?_)
        refine lv_goto (tgt := 4) hx hb gX12_rules_2.2.2.2.2.2.2.2.2.1 (by decide) ?_
        have hst9 : lv = LAT (RLO DY (DAYV (fnw 0) (fnw 1)) (kP + 1)) := hlv.trans (congrArg LAT (LTS.n (fun h9 => Int32.not_le.mpr c_35_7906 h9)).symm)
        exact ihP (kP + 1) lv _ (by omega) (by first | assumption | exact Or.inl rfl | exact Or.inr rfl | exact rfl) (lv_sub hl [0, 1, 2] rfl)
      · refine lv_iload_n hx hb gX12_rules_2.2.2.2.1 rfl (lv_at0 hl) ?_
        refine lv_goto (tgt := 43) hx hb gX12_rules_2.2.2.2.2.1 (by decide) ?_
        refine lv_istore_n (lv' := [(1, .int (nI kP)), (2, .int (nI kP)), (0, .ref h0)]) hx hb gX12_rules_2.2.2.2.2.2.2.1 rfl hl (by decide) rfl (fun ls hl => ?_)
        refine lv_iinc (v := nI (kP + 1)) (lv' := [(2, .int (nI (kP + 1))), (1, .int (nI kP)), (0, .ref h0)]) hx hb gX12_rules_2.2.2.2.2.2.2.2.1 hl (k := 1) rfl (nI_1 _) (by decide) rfl (fun ls hl => ?_)
        refine lv_goto (tgt := 4) hx hb gX12_rules_2.2.2.2.2.2.2.2.2.1 (by decide) ?_
        have hst9 : nI kP = LAT (RLO DY (DAYV (fnw 0) (fnw 1)) (kP + 1)) := (congrArg LAT (LTS.y (Int32.not_lt.mp c_35_7906))).symm
        exact ihP (kP + 1) (nI kP) _ (by omega) (by first | assumption | exact Or.inl rfl | exact Or.inr rfl | exact rfl) (lv_sub hl [0, 1, 2] rfl)
  exact keyP k7 0 (-1) _ (by omega) (by first | assumption | exact Or.inl rfl | exact Or.inr rfl | exact rfl) (lv_sub hl [0, 1, 2] rfl)
def K_m_holdsX (l : Launch) (G : GG) (kq : Nat) (T9 : List Int32) (h0 : Nat) (jv : Nat) (jl : Nat) (je : Nat) (nw : Nat) (nk : Nat) (mhasKept : Int32) (nt : Nat) (mtaped : Int32) (nr : Nat) (mrowMany : Int32) (mroundOf : Int32) (mroundFrom : Int32) (nm : Nat) (mfromHour : Int32) (mtoHour : Int32) (ns : Nat) (mfrom : Int32) (mto : Int32) (msort : Int32) (misFault : Int32) (mdeep : Int32) (mcoded : Int32) (mlines : Int32) (nl : Nat) (nc : Nat) (nF : Nat) (np : Nat) (ntr : Nat) (nb : Nat) (mbestCost : Int32) (nso : Nat) (nsi : Nat) (nit : Nat) (nsh : Nat) (nsf : Nat) (nss : Nat) (nrc : Nat) (mtraced : Int32) (mdealer : Int32) (mnumber : Int32) (mwhose : Int32) (msize : Int32) (misParted : Int32) (fnw : Nat → Int32) (fnp : Nat → Int32) : Prop := MI l G yX12_holds cX12_holds 12 (some .boolean) 6 0 0 [.ref h0, .int (nI jv), .int (nI jl), .int (nI je)] [(h0, oX12 nw nk mhasKept nt mtaped nr mrowMany mroundOf mroundFrom 0 nm mfromHour mtoHour ns mfrom mto msort misFault mdeep mcoded mlines nl nc nF np ntr nb mbestCost nso nsi nit nsh nsf nss nrc mtraced mdealer mnumber mwhose msize misParted), (nw, iA G 1662 fnw), (np, iA G 100 fnp)] (fun (r : Int32) (u : (Nat → Int32)) => ((r = 1 ∧ PLN (FAX (shf fnw 12) (shf fnw 32) (VSE fnw kq) kq je) T9 1 % 2 = 1) ∨ (r = 0 ∧ ¬ PLN (FAX (shf fnw 12) (shf fnw 32) (VSE fnw kq) kq je) T9 1 % 2 = 1))) (fun u : (Nat → Int32) => [(h0, oX12 nw nk mhasKept nt mtaped nr mrowMany mroundOf mroundFrom 0 nm mfromHour mtoHour ns mfrom mto msort misFault mdeep mcoded mlines nl nc nF np ntr nb mbestCost nso nsi nit nsh nsf nss nrc mtraced mdealer mnumber mwhose msize misParted), (nw, iA G 1662 fnw), (np, iA G 100 u)])
set_option maxHeartbeats 4000000 in
set_option maxRecDepth 100000 in
theorem m_holdsX (l : Launch) (G : GG) (kq : Nat) (LX9 : LNT) (T9 : List Int32) (h0 : Nat) (jv : Nat) (jl : Nat) (je : Nat) (nw : Nat) (nk : Nat) (mhasKept : Int32) (nt : Nat) (mtaped : Int32) (nr : Nat) (mrowMany : Int32) (mroundOf : Int32) (mroundFrom : Int32) (nm : Nat) (mfromHour : Int32) (mtoHour : Int32) (ns : Nat) (mfrom : Int32) (mto : Int32) (msort : Int32) (misFault : Int32) (mdeep : Int32) (mcoded : Int32) (mlines : Int32) (nl : Nat) (nc : Nat) (nF : Nat) (np : Nat) (ntr : Nat) (nb : Nat) (mbestCost : Int32) (nso : Nat) (nsi : Nat) (nit : Nat) (nsh : Nat) (nsf : Nat) (nss : Nat) (nrc : Nat) (mtraced : Int32) (mdealer : Int32) (mnumber : Int32) (mwhose : Int32) (msize : Int32) (misParted : Int32) (fnw : Nat → Int32) (fnp : Nat → Int32) (hjv : jv < 8) (hjl : jl < 9) (hln : LN fnw jv jl) (hLZ : LZM fnw jv jl LX9 T9) (hje : je < 10) (hN : NI fnw) (ekq : fnw 5 = nI kq) (hkq : kq ≤ 12) : K_m_holdsX l G kq T9 h0 jv jl je nw nk mhasKept nt mtaped nr mrowMany mroundOf mroundFrom nm mfromHour mtoHour ns mfrom mto msort misFault mdeep mcoded mlines nl nc nF np ntr nb mbestCost nso nsi nit nsh nsf nss nrc mtraced mdealer mnumber mwhose msize misParted fnw fnp := by
  refine MI.start (by decide +kernel) (Nat.le_of_ble_eq_true rfl) ?_
  intro p e s m below meth c A ls hC hK hP hD hS hA hl
  refine absQ (fun Q0 hQ0 => ?_)
  have hl : lv_has ls 12 [(0, .ref h0), (1, .int (nI jv)), (2, .int (nI jl)), (3, .int (nI je))] := hl
  refine Kan8 hC (fun hx hb hr hml hB hown hlocks hnm => ?_)
  have hln0 := hln
  obtain ⟨⟨so, hso, e0, hAl, hBl⟩, la9, lb9, e4, e5, hab9, hlb9, ht9, h09, hst9⟩ := hln
  obtain ⟨hlb, -, -, -, -, r0, r1, f4, f5, hr1, hor⟩ := hLZ
  have hr0 : r0 ≤ r1 := hor.elim (fun h9 => by omega) (fun ⟨tr, _, h9, _⟩ => by omega)
  obtain rfl : r0 = la9 := (nI_eq (by omega) (by omega)).mp (f4.symm.trans e4)
  obtain rfl : r1 = lb9 := (nI_eq (by omega) (by omega)).mp (f5.symm.trans e5)
  rcases hor with ⟨rfl, rfl⟩ | ⟨tr9, hsm9, hlt9, hcd9⟩
  · refine lv_aload_n hx hb gX12_holds_0.1 rfl (lv_at0 hl) ?_
    refine lv_iload_n hx hb gX12_holds_0.2.1 rfl (lv_at1 hl) ?_
    refine lv_iload_n hx hb gX12_holds_0.2.2.1 rfl (lv_at2 hl) ?_
    refine lv_iconst (v := 4) hx hb gX12_holds_0.2.2.2.1 (by decide) ?_
    refine pV hC hK hl hP hD (m_lineOf l G h0 jv jl 4 nw nk mhasKept nt mtaped nr mrowMany mroundOf mroundFrom 0 nm mfromHour mtoHour ns mfrom mto msort misFault mdeep mcoded mlines nl nc nF np ntr nb mbestCost nso nsi nit nsh nsf nss nrc mtraced mdealer mnumber mwhose msize misParted fnw (hjv) (hjl) (by omega)) si_X12_193 [0, 1] sm_0_1 fm_0_1 nd_0_1 rfl rfl rfl rfl rfl (Nat.le_of_ble_eq_true rfl) rm_6_1_4 ⟨by first | exact Nat.le_of_ble_eq_true rfl | exact Nat.zero_le _, by first | exact Nat.le_of_ble_eq_true rfl | exact Nat.zero_le _⟩ gX12_holds_0.2.2.2.2.1 (Keqr ?_)
    refine eqi (x1 := nI r0) (e4) ?_
    refine lv_istore (lv' := [(4, .int (nI r0)), (0, .ref h0), (1, .int (nI jv)), (2, .int (nI jl)), (3, .int (nI je))]) hx hb gX12_holds_0.2.2.2.2.2.1 hl (by decide) rfl (fun ls hl => ?_)
    refine lv_aload_n hx hb gX12_holds_0.2.2.2.2.2.2.1 rfl (lv_at1 hl) ?_
    refine lv_iload_n hx hb gX12_holds_0.2.2.2.2.2.2.2.1 rfl (lv_at2 hl) ?_
    refine lv_iload_n hx hb gX12_holds_0.2.2.2.2.2.2.2.2.1 rfl (lv_at3 hl) ?_
    refine lv_iconst (v := 5) hx hb gX12_holds_0.2.2.2.2.2.2.2.2.2 (by decide) ?_
    refine pV hC hK hl hP hD (m_lineOf l G h0 jv jl 5 nw nk mhasKept nt mtaped nr mrowMany mroundOf mroundFrom 0 nm mfromHour mtoHour ns mfrom mto msort misFault mdeep mcoded mlines nl nc nF np ntr nb mbestCost nso nsi nit nsh nsf nss nrc mtraced mdealer mnumber mwhose msize misParted fnw (hjv) (hjl) (by omega)) si_X12_193 [0, 1] sm_0_1 fm_0_1 nd_0_1 rfl rfl rfl rfl rfl (Nat.le_of_ble_eq_true rfl) rm_6_1_4 ⟨by first | exact Nat.le_of_ble_eq_true rfl | exact Nat.zero_le _, by first | exact Nat.le_of_ble_eq_true rfl | exact Nat.zero_le _⟩ gX12_holds_1.1 (Keqr ?_)
    refine eqi (x1 := nI r0) (e5) ?_
    refine lv_istore (lv' := [(5, .int (nI r0)), (4, .int (nI r0)), (0, .ref h0), (1, .int (nI jv)), (2, .int (nI jl)), (3, .int (nI je))]) hx hb gX12_holds_1.2.1 hl (by decide) rfl (fun ls hl => ?_)
    refine lv_iconst (v := 0) hx hb gX12_holds_1.2.2.1 (by decide) ?_
    refine lv_istore (lv' := [(6, .int 0), (5, .int (nI r0)), (4, .int (nI r0)), (0, .ref h0), (1, .int (nI jv)), (2, .int (nI jl)), (3, .int (nI je))]) hx hb gX12_holds_1.2.2.2.1 hl (by decide) rfl (fun ls hl => ?_)
    refine lv_iload hx hb gX12_holds_1.2.2.2.2.1 (lv_at2 hl) ?_
    refine lv_istore (lv' := [(7, .int (nI r0)), (6, .int 0), (5, .int (nI r0)), (4, .int (nI r0)), (0, .ref h0), (1, .int (nI jv)), (2, .int (nI jl)), (3, .int (nI je))]) hx hb gX12_holds_1.2.2.2.2.2.1 hl (by decide) rfl (fun ls hl => ?_)
    refine lv_iload hx hb gX12_holds_1.2.2.2.2.2.2.1 (lv_at0 hl) ?_
    refine lv_iload hx hb gX12_holds_1.2.2.2.2.2.2.2.1 (lv_at2 hl) ?_
    refine lv_icmp_ge (tgt := 243) hx hb gX12_holds_1.2.2.2.2.2.2.2.2.1 (by decide) (fun _ => ?_) (fun c9 => absurd (Int32.le_refl _) c9)
    refine lv_iload hx hb gX12_holds_13.1 (lv_at3 hl) ?_
    refine lv_iload hx hb gX12_holds_13.2.1 (lv_at2 hl) ?_
    refine lv_icmp_eq (tgt := 260) hx hb gX12_holds_13.2.2.1 (by decide) (fun _ => ?_) (fun c9 => absurd (rfl) c9)
    refine lv_iconst (v := 1) hx hb gX12_holds_13.2.2.2.2.2.2.2.2.2 (by decide) ?_
    refine lv_goto (tgt := 265) hx hb gX12_holds_14.1 (by decide) ?_
    refine toQ hQ0 ?_
    exact RI (v := 1) hC hP hD hS [0, 1, 2] fnp rfl rfl (by decide) (Or.inl ⟨rfl, rfl⟩) (by decide +kernel) gX12_holds_14.2.2
  · refine lv_aload_n hx hb gX12_holds_0.1 rfl (lv_at0 hl) ?_
    refine lv_iload_n hx hb gX12_holds_0.2.1 rfl (lv_at1 hl) ?_
    refine lv_iload_n hx hb gX12_holds_0.2.2.1 rfl (lv_at2 hl) ?_
    refine lv_iconst (v := 4) hx hb gX12_holds_0.2.2.2.1 (by decide) ?_
    refine pV hC hK hl hP hD (m_lineOf l G h0 jv jl 4 nw nk mhasKept nt mtaped nr mrowMany mroundOf mroundFrom 0 nm mfromHour mtoHour ns mfrom mto msort misFault mdeep mcoded mlines nl nc nF np ntr nb mbestCost nso nsi nit nsh nsf nss nrc mtraced mdealer mnumber mwhose msize misParted fnw (hjv) (hjl) (by omega)) si_X12_193 [0, 1] sm_0_1 fm_0_1 nd_0_1 rfl rfl rfl rfl rfl (Nat.le_of_ble_eq_true rfl) rm_6_1_4 ⟨by first | exact Nat.le_of_ble_eq_true rfl | exact Nat.zero_le _, by first | exact Nat.le_of_ble_eq_true rfl | exact Nat.zero_le _⟩ gX12_holds_0.2.2.2.2.1 (Keqr ?_)
    refine eqi (x1 := nI r0) (e4) ?_
    refine lv_istore (lv' := [(4, .int (nI r0)), (0, .ref h0), (1, .int (nI jv)), (2, .int (nI jl)), (3, .int (nI je))]) hx hb gX12_holds_0.2.2.2.2.2.1 hl (by decide) rfl (fun ls hl => ?_)
    refine lv_aload_n hx hb gX12_holds_0.2.2.2.2.2.2.1 rfl (lv_at1 hl) ?_
    refine lv_iload_n hx hb gX12_holds_0.2.2.2.2.2.2.2.1 rfl (lv_at2 hl) ?_
    refine lv_iload_n hx hb gX12_holds_0.2.2.2.2.2.2.2.2.1 rfl (lv_at3 hl) ?_
    refine lv_iconst (v := 5) hx hb gX12_holds_0.2.2.2.2.2.2.2.2.2 (by decide) ?_
    refine pV hC hK hl hP hD (m_lineOf l G h0 jv jl 5 nw nk mhasKept nt mtaped nr mrowMany mroundOf mroundFrom 0 nm mfromHour mtoHour ns mfrom mto msort misFault mdeep mcoded mlines nl nc nF np ntr nb mbestCost nso nsi nit nsh nsf nss nrc mtraced mdealer mnumber mwhose msize misParted fnw (hjv) (hjl) (by omega)) si_X12_193 [0, 1] sm_0_1 fm_0_1 nd_0_1 rfl rfl rfl rfl rfl (Nat.le_of_ble_eq_true rfl) rm_6_1_4 ⟨by first | exact Nat.le_of_ble_eq_true rfl | exact Nat.zero_le _, by first | exact Nat.le_of_ble_eq_true rfl | exact Nat.zero_le _⟩ gX12_holds_1.1 (Keqr ?_)
    refine eqi (x1 := nI r1) (e5) ?_
    refine lv_istore (lv' := [(5, .int (nI r1)), (4, .int (nI r0)), (0, .ref h0), (1, .int (nI jv)), (2, .int (nI jl)), (3, .int (nI je))]) hx hb gX12_holds_1.2.1 hl (by decide) rfl (fun ls hl => ?_)
    refine lv_iconst (v := 0) hx hb gX12_holds_1.2.2.1 (by decide) ?_
    refine lv_istore (lv' := [(6, .int 0), (5, .int (nI r1)), (4, .int (nI r0)), (0, .ref h0), (1, .int (nI jv)), (2, .int (nI jl)), (3, .int (nI je))]) hx hb gX12_holds_1.2.2.2.1 hl (by decide) rfl (fun ls hl => ?_)
    refine lv_iload hx hb gX12_holds_1.2.2.2.2.1 (lv_at2 hl) ?_
    refine lv_istore (lv' := [(7, .int (nI r0)), (6, .int 0), (5, .int (nI r1)), (4, .int (nI r0)), (0, .ref h0), (1, .int (nI jv)), (2, .int (nI jl)), (3, .int (nI je))]) hx hb gX12_holds_1.2.2.2.2.2.1 hl (by decide) rfl (fun ls hl => ?_)
    have keyP : ∀ (nP kP : Nat) (vP : Nat → Int32) (hg : Nat) (H : Heap) (locs : List Loc) (ls : Array Slot), kP + nP = r1 → (r0 ≤ kP) → (hg = ht9 kP) → (hg + r0 ≤ kP) → ((hg, vP) = PRK (FAX (shf fnw 12) (shf fnw 32) (VSE fnw kq) kq je) tr9 fnp (kP - r0)) → va_PD G A [(h0, oX12 nw nk mhasKept nt mtaped nr mrowMany mroundOf mroundFrom 0 nm mfromHour mtoHour ns mfrom mto msort misFault mdeep mcoded mlines nl nc nF np ntr nb mbestCost nso nsi nit nsh nsf nss nrc mtraced mdealer mnumber mwhose msize misParted), (nw, iA G 1662 fnw), (np, iA G 100 vP)] H → va_S A s.heap H locs → lv_has ls 12 [(7, .int (nI kP)), (6, .int (nI hg)), (5, .int (nI r1)), (4, .int (nI r0)), (0, .ref h0), (1, .int (nI jv)), (2, .int (nI jl)), (3, .int (nI je))] → W p l e (RM 6 0 0) s m ([.ref h0, .int (nI jv), .int (nI jl), .int (nI je)] : List Value).toArray below meth c H locs 0 0 Q0 (F0 m 25 ls []) := by
      intro nP
      induction nP with
      | zero =>
        intro kP vP hg H locs ls hkP hha hhb hhc hpr hPD hS hl
        refine Kan2 hPD (fun hP hD => ?_)
        obtain rfl : r1 = kP := by omega
        have hl : lv_has ls 12 [(7, .int (nI r1)), (6, .int (nI hg)), (5, .int (nI r1)), (4, .int (nI r0)), (0, .ref h0), (1, .int (nI jv)), (2, .int (nI jl)), (3, .int (nI je))] := hl
        refine lv_iload hx hb gX12_holds_1.2.2.2.2.2.2.1 (lv_at0 hl) ?_
        refine lv_iload hx hb gX12_holds_1.2.2.2.2.2.2.2.1 (lv_at2 hl) ?_
        refine lv_icmp_ge (tgt := 243) hx hb gX12_holds_1.2.2.2.2.2.2.2.2.1 (by decide) (fun _ => ?_) (fun c9 => absurd (Int32.le_refl _) c9)
        have hln9 := hsm9.len
        refine lv_iload hx hb gX12_holds_13.1 (lv_at3 hl) ?_
        refine lv_iload hx hb gX12_holds_13.2.1 (lv_at2 hl) ?_
        refine lv_icmp_eq (tgt := 260) hx hb gX12_holds_13.2.2.1 (by decide) (fun c9 => absurd c9 (fun h9 => absurd ((nI_eq (by omega) (by omega)).mp h9) (by omega))) (fun _ => ?_)
        refine lv_aload_n hx hb gX12_holds_13.2.2.2.1 rfl (lv_at4 hl) ?_
        refine gf_X12_54 hC rfl hK hP 0 rfl rfl gX12_holds_13.2.2.2.2.1 ?_
        refine lv_iconst (v := 0) hx hb gX12_holds_13.2.2.2.2.2.1 (by decide) ?_
        refine ald hC hK hP 2 rfl (vin (by decide +kernel)) (k := 0) (by decide +kernel) (v := vP 0) (rfl) gX12_holds_13.2.2.2.2.2.2.1 ?_
        refine lv_iconst (v := 1) hx hb gX12_holds_13.2.2.2.2.2.2.2.1 (by decide) ?_
        refine lv_icmp_ne (tgt := 264) hx hb gX12_holds_13.2.2.2.2.2.2.2.2.1 (by decide) (fun c_257_7915 => ?_) (fun c_257_7915 => ?_)
        · refine lv_iconst (v := 0) hx hb gX12_holds_14.2.1 (by decide) ?_
          refine toQ hQ0 ?_
          exact RI (v := 0) hC hP hD hS [0, 1, 2] vP rfl rfl (by decide) (Or.inr ⟨rfl, fun h9 => c_257_7915 ((hsm9.tru (hpr.trans (PRK.all (by omega)))).mpr h9)⟩) (by decide +kernel) gX12_holds_14.2.2
        · refine lv_iconst (v := 1) hx hb gX12_holds_13.2.2.2.2.2.2.2.2.2 (by decide) ?_
          refine lv_goto (tgt := 265) hx hb gX12_holds_14.1 (by decide) ?_
          refine toQ hQ0 ?_
          exact RI (v := 1) hC hP hD hS [0, 1, 2] vP rfl rfl (by decide) (Or.inl ⟨rfl, (hsm9.tru (hpr.trans (PRK.all (by omega)))).mp c_257_7915⟩) (by decide +kernel) gX12_holds_14.2.2
      | succ nP ihP =>
        intro kP vP hg H locs ls hkP hha hhb hhc hpr hPD hS hl
        refine Kan2 hPD (fun hP hD => ?_)
        refine lv_iload hx hb gX12_holds_1.2.2.2.2.2.2.1 (lv_at0 hl) ?_
        refine lv_iload hx hb gX12_holds_1.2.2.2.2.2.2.2.1 (lv_at2 hl) ?_
        refine lv_icmp_ge (tgt := 243) hx hb gX12_holds_1.2.2.2.2.2.2.2.2.1 (by decide) (fun c9 => absurd c9 (nI_ge (a := kP) (b := r1) (by omega) (by omega))) (fun _ => ?_)
        refine lv_aload_n hx hb gX12_holds_1.2.2.2.2.2.2.2.2.2 rfl (lv_at4 hl) ?_
        refine gf_X12_9 hC rfl hK hP 0 rfl rfl gX12_holds_2.1 ?_
        refine lv_sipush (v := 176) hx hb gX12_holds_2.2.1 (by decide) ?_
        refine lv_sipush (v := 156) hx hb gX12_holds_2.2.2.1 (by decide) ?_
        refine lv_iload_n hx hb gX12_holds_2.2.2.2.1 rfl (lv_at5 hl) ?_
        refine lv_imul hx hb gX12_holds_2.2.2.2.2.1 ?_
        refine eqi (x1 := nI (156 * jv)) (nI_mul 156 jv) ?_
        refine lv_iadd hx hb gX12_holds_2.2.2.2.2.2.1 ?_
        refine eqi (x1 := nI (176 + 156 * jv)) (nI_add 176 (156 * jv)) ?_
        refine lv_bipush (v := 56) hx hb gX12_holds_2.2.2.2.2.2.2.1 (by decide) ?_
        refine lv_iadd hx hb gX12_holds_2.2.2.2.2.2.2.2.1 ?_
        refine eqi (x1 := nI (176 + 156 * jv + 56)) (nI_add (176 + 156 * jv) 56) ?_
        refine lv_iload hx hb gX12_holds_2.2.2.2.2.2.2.2.2.1 (lv_at0 hl) ?_
        refine lv_iadd hx hb gX12_holds_2.2.2.2.2.2.2.2.2.2 ?_
        refine eqi (x1 := nI (176 + 156 * jv + 56 + kP)) (nI_add (176 + 156 * jv + 56) kP) ?_
        refine aldN hC hK hP 1 rfl (k := (176 + 156 * jv + 56 + kP)) (by omega) (Nat.le_of_ble_eq_true rfl) (v := fnw (176 + 156 * jv + 56 + kP)) rfl gX12_holds_3.1 ?_
        have hcd := hcd9 (kP - r0) (by omega)
        rw [show r0 + (kP - r0) = kP by omega] at hcd
        rcases hsm9.2.1 (tr9.getD (kP - r0) 0) (getD_mem (by omega)) with ev9 | ev9 | ev9 | ⟨jv9, hjv9, ev9⟩
        · have hs9 := STEP.no (hst9 kP (by omega) (by omega)) (hcd.trans ev9).symm (by decide) rfl
          refine eqi (x1 := 30000) (hcd.trans ev9) ?_
          refine lv_istore (lv' := [(8, .int 30000), (7, .int (nI kP)), (6, .int (nI hg)), (5, .int (nI r1)), (4, .int (nI r0)), (0, .ref h0), (1, .int (nI jv)), (2, .int (nI jl)), (3, .int (nI je))]) hx hb gX12_holds_3.2.1 hl (by decide) rfl (fun ls hl => ?_)
          refine lv_iload hx hb gX12_holds_3.2.2.1 (lv_at0 hl) ?_
          refine lv_sipush (v := 30000) hx hb gX12_holds_3.2.2.2.1 (by decide) ?_
          refine lv_icmp_ge (tgt := 149) hx hb gX12_holds_3.2.2.2.2.1 (by decide) (fun _ => ?_) (fun c9 => absurd (by decide) c9)
          refine lv_iload hx hb gX12_holds_7.2.2.2.2.2.2.2.1 (lv_at0 hl) ?_
          refine lv_sipush (v := 30000) hx hb gX12_holds_7.2.2.2.2.2.2.2.2.1 (by decide) ?_
          refine lv_icmp_ne (tgt := 180) hx hb gX12_holds_7.2.2.2.2.2.2.2.2.2 (by decide) (fun c9 => absurd (by decide) c9) (fun _ => ?_)
          refine lv_aload_n hx hb gX12_holds_8.1 rfl (lv_at5 hl) ?_
          refine gf_X12_54 hC rfl hK hP 0 rfl rfl gX12_holds_8.2.1 ?_
          refine lv_iload hx hb gX12_holds_8.2.2.1 (lv_at2 hl) ?_
          refine lv_iconst (v := 1) hx hb gX12_holds_8.2.2.2.1 (by decide) ?_
          refine lv_isub hx hb gX12_holds_8.2.2.2.2.1 ?_
          refine eqi (x1 := nI (hg - 1)) (nI_sb (by omega)) ?_
          refine lv_iconst (v := 1) hx hb gX12_holds_8.2.2.2.2.2.1 (by decide) ?_
          refine lv_aload_n hx hb gX12_holds_8.2.2.2.2.2.2.1 rfl (lv_at5 hl) ?_
          refine gf_X12_54 hC rfl hK hP 0 rfl rfl gX12_holds_8.2.2.2.2.2.2.2.1 ?_
          refine lv_iload hx hb gX12_holds_8.2.2.2.2.2.2.2.2.1 (lv_at2 hl) ?_
          refine lv_iconst (v := 1) hx hb gX12_holds_8.2.2.2.2.2.2.2.2.2 (by decide) ?_
          refine lv_isub hx hb gX12_holds_9.1 ?_
          refine eqi (x1 := nI (hg - 1)) (nI_sb (by omega)) ?_
          refine aldN hC hK hP 2 rfl (k := (hg - 1)) (by omega) (Nat.le_of_ble_eq_true rfl) (v := vP (hg - 1)) rfl gX12_holds_9.2.1 ?_
          refine lv_isub hx hb gX12_holds_9.2.2.1 ?_
          refine astN hC hK hP hD hS 2 (ws' := [(h0, oX12 nw nk mhasKept nt mtaped nr mrowMany mroundOf mroundFrom 0 nm mfromHour mtoHour ns mfrom mto msort misFault mdeep mcoded mlines nl nc nF np ntr nb mbestCost nso nsi nit nsh nsf nss nrc mtraced mdealer mnumber mwhose msize misParted), (nw, iA G 1662 fnw), (np, iA G 100 (upd vP (hg - 1) (1 - (vP (hg - 1)))))]) rfl (k := (hg - 1)) (by omega) (Nat.le_of_ble_eq_true rfl) (rfl) gX12_holds_9.2.2.2.1 (fun H locs hP hD hS => ?_)
          refine lv_goto (tgt := 237) hx hb gX12_holds_9.2.2.2.2.1 (by decide) ?_
          refine lv_iinc (v := nI (kP + 1)) (lv' := [(7, .int (nI (kP + 1))), (8, .int 30000), (6, .int (nI hg)), (5, .int (nI r1)), (4, .int (nI r0)), (0, .ref h0), (1, .int (nI jv)), (2, .int (nI jl)), (3, .int (nI je))]) hx hb gX12_holds_12.2.2.2.2.2.2.2.2.1 hl (k := 1) rfl (nI_1 _) (by decide) rfl (fun ls hl => ?_)
          refine lv_goto (tgt := 25) hx hb gX12_holds_12.2.2.2.2.2.2.2.2.2 (by decide) ?_
          have hst8 : (hg, upd vP (hg - 1) (1 - (vP (hg - 1)))) = PRK (FAX (shf fnw 12) (shf fnw 32) (VSE fnw kq) kq je) tr9 fnp (kP + 1 - r0) := PRK.nt hpr (by omega) (by omega) ev9
          exact ihP (kP + 1) (upd vP (hg - 1) (1 - (vP (hg - 1)))) hg _ _ _ (by omega) (by first | assumption | exact Or.inl rfl | exact Or.inr rfl | omega | exact h09.symm | exact PRK.zero (by omega)) (by first | assumption | exact Or.inl rfl | exact Or.inr rfl | omega | exact h09.symm | exact PRK.zero (by omega)) (by first | assumption | exact Or.inl rfl | exact Or.inr rfl | omega | exact h09.symm | exact PRK.zero (by omega)) (by first | assumption | exact Or.inl rfl | exact Or.inr rfl | omega | exact h09.symm | exact PRK.zero (by omega)) (And.intro hP hD) hS (lv_sub hl [0, 2, 3, 4, 5, 6, 7, 8] rfl)
        · have hs9 := STEP.op (hst9 kP (by omega) (by omega)) (hcd.trans ev9).symm (by decide) (by decide)
          refine eqi (x1 := 30001) (hcd.trans ev9) ?_
          refine lv_istore (lv' := [(8, .int 30001), (7, .int (nI kP)), (6, .int (nI hg)), (5, .int (nI r1)), (4, .int (nI r0)), (0, .ref h0), (1, .int (nI jv)), (2, .int (nI jl)), (3, .int (nI je))]) hx hb gX12_holds_3.2.1 hl (by decide) rfl (fun ls hl => ?_)
          refine lv_iload hx hb gX12_holds_3.2.2.1 (lv_at0 hl) ?_
          refine lv_sipush (v := 30000) hx hb gX12_holds_3.2.2.2.1 (by decide) ?_
          refine lv_icmp_ge (tgt := 149) hx hb gX12_holds_3.2.2.2.2.1 (by decide) (fun _ => ?_) (fun c9 => absurd (by decide) c9)
          refine lv_iload hx hb gX12_holds_7.2.2.2.2.2.2.2.1 (lv_at0 hl) ?_
          refine lv_sipush (v := 30000) hx hb gX12_holds_7.2.2.2.2.2.2.2.2.1 (by decide) ?_
          refine lv_icmp_ne (tgt := 180) hx hb gX12_holds_7.2.2.2.2.2.2.2.2.2 (by decide) (fun _ => ?_) (fun c9 => absurd c9 (by decide))
          refine lv_iinc (v := nI (hg - 1)) (lv' := [(6, .int (nI (hg - 1))), (8, .int 30001), (7, .int (nI kP)), (5, .int (nI r1)), (4, .int (nI r0)), (0, .ref h0), (1, .int (nI jv)), (2, .int (nI jl)), (3, .int (nI je))]) hx hb gX12_holds_9.2.2.2.2.2.1 hl (k := 2) rfl ((nI_dec hg).trans (nI_sb (by omega))) (by decide) rfl (fun ls hl => ?_)
          refine lv_aload_n hx hb gX12_holds_9.2.2.2.2.2.2.1 rfl (lv_at5 hl) ?_
          refine gf_X12_54 hC rfl hK hP 0 rfl rfl gX12_holds_9.2.2.2.2.2.2.2.1 ?_
          refine lv_iload hx hb gX12_holds_9.2.2.2.2.2.2.2.2.1 (lv_at0 hl) ?_
          refine lv_iconst (v := 1) hx hb gX12_holds_9.2.2.2.2.2.2.2.2.2 (by decide) ?_
          refine lv_isub hx hb gX12_holds_10.1 ?_
          refine eqi (x1 := nI ((hg - 1) - 1)) (nI_sb (by omega)) ?_
          refine lv_iload hx hb gX12_holds_10.2.1 (lv_at1 hl) ?_
          refine lv_sipush (v := 30001) hx hb gX12_holds_10.2.2.1 (by decide) ?_
          refine lv_icmp_ne (tgt := 219) hx hb gX12_holds_10.2.2.2.1 (by decide) (fun c9 => absurd (by decide) c9) (fun _ => ?_)
          refine lv_aload_n hx hb gX12_holds_10.2.2.2.2.1 rfl (lv_at5 hl) ?_
          refine gf_X12_54 hC rfl hK hP 0 rfl rfl gX12_holds_10.2.2.2.2.2.1 ?_
          refine lv_iload hx hb gX12_holds_10.2.2.2.2.2.2.1 (lv_at0 hl) ?_
          refine lv_iconst (v := 1) hx hb gX12_holds_10.2.2.2.2.2.2.2.1 (by decide) ?_
          refine lv_isub hx hb gX12_holds_10.2.2.2.2.2.2.2.2.1 ?_
          refine eqi (x1 := nI ((hg - 1) - 1)) (nI_sb (by omega)) ?_
          refine aldN hC hK hP 2 rfl (k := ((hg - 1) - 1)) (by omega) (Nat.le_of_ble_eq_true rfl) (v := vP ((hg - 1) - 1)) rfl gX12_holds_10.2.2.2.2.2.2.2.2.2 ?_
          refine lv_aload_n hx hb gX12_holds_11.1 rfl (lv_at5 hl) ?_
          refine gf_X12_54 hC rfl hK hP 0 rfl rfl gX12_holds_11.2.1 ?_
          refine lv_iload hx hb gX12_holds_11.2.2.1 (lv_at0 hl) ?_
          refine aldN hC hK hP 2 rfl (k := (hg - 1)) (by omega) (Nat.le_of_ble_eq_true rfl) (v := vP (hg - 1)) rfl gX12_holds_11.2.2.2.1 ?_
          refine lv_iand hx hb gX12_holds_11.2.2.2.2.1 ?_
          refine lv_goto (tgt := 236) hx hb gX12_holds_11.2.2.2.2.2.1 (by decide) ?_
          refine astN hC hK hP hD hS 2 (ws' := [(h0, oX12 nw nk mhasKept nt mtaped nr mrowMany mroundOf mroundFrom 0 nm mfromHour mtoHour ns mfrom mto msort misFault mdeep mcoded mlines nl nc nF np ntr nb mbestCost nso nsi nit nsh nsf nss nrc mtraced mdealer mnumber mwhose msize misParted), (nw, iA G 1662 fnw), (np, iA G 100 (upd vP ((hg - 1) - 1) ((vP ((hg - 1) - 1)) &&& (vP (hg - 1)))))]) rfl (k := ((hg - 1) - 1)) (by omega) (Nat.le_of_ble_eq_true rfl) (rfl) gX12_holds_12.2.2.2.2.2.2.2.1 (fun H locs hP hD hS => ?_)
          refine lv_iinc (v := nI (kP + 1)) (lv' := [(7, .int (nI (kP + 1))), (6, .int (nI (hg - 1))), (8, .int 30001), (5, .int (nI r1)), (4, .int (nI r0)), (0, .ref h0), (1, .int (nI jv)), (2, .int (nI jl)), (3, .int (nI je))]) hx hb gX12_holds_12.2.2.2.2.2.2.2.2.1 hl (k := 2) rfl (nI_1 _) (by decide) rfl (fun ls hl => ?_)
          refine lv_goto (tgt := 25) hx hb gX12_holds_12.2.2.2.2.2.2.2.2.2 (by decide) ?_
          have hst8 : ((hg - 1), upd vP ((hg - 1) - 1) ((vP ((hg - 1) - 1)) &&& (vP (hg - 1)))) = PRK (FAX (shf fnw 12) (shf fnw 32) (VSE fnw kq) kq je) tr9 fnp (kP + 1 - r0) := PRK.an hpr (by omega) (by omega) ev9
          exact ihP (kP + 1) (upd vP ((hg - 1) - 1) ((vP ((hg - 1) - 1)) &&& (vP (hg - 1)))) (hg - 1) _ _ _ (by omega) (by first | assumption | exact Or.inl rfl | exact Or.inr rfl | omega | exact h09.symm | exact PRK.zero (by omega)) (by first | assumption | exact Or.inl rfl | exact Or.inr rfl | omega | exact h09.symm | exact PRK.zero (by omega)) (by first | assumption | exact Or.inl rfl | exact Or.inr rfl | omega | exact h09.symm | exact PRK.zero (by omega)) (by first | assumption | exact Or.inl rfl | exact Or.inr rfl | omega | exact h09.symm | exact PRK.zero (by omega)) (And.intro hP hD) hS (lv_sub hl [0, 1, 3, 4, 5, 6, 7, 8] rfl)
        · have hs9 := STEP.op (hst9 kP (by omega) (by omega)) (hcd.trans ev9).symm (by decide) (by decide)
          refine eqi (x1 := 30002) (hcd.trans ev9) ?_
          refine lv_istore (lv' := [(8, .int 30002), (7, .int (nI kP)), (6, .int (nI hg)), (5, .int (nI r1)), (4, .int (nI r0)), (0, .ref h0), (1, .int (nI jv)), (2, .int (nI jl)), (3, .int (nI je))]) hx hb gX12_holds_3.2.1 hl (by decide) rfl (fun ls hl => ?_)
          refine lv_iload hx hb gX12_holds_3.2.2.1 (lv_at0 hl) ?_
          refine lv_sipush (v := 30000) hx hb gX12_holds_3.2.2.2.1 (by decide) ?_
          refine lv_icmp_ge (tgt := 149) hx hb gX12_holds_3.2.2.2.2.1 (by decide) (fun _ => ?_) (fun c9 => absurd (by decide) c9)
          refine lv_iload hx hb gX12_holds_7.2.2.2.2.2.2.2.1 (lv_at0 hl) ?_
          refine lv_sipush (v := 30000) hx hb gX12_holds_7.2.2.2.2.2.2.2.2.1 (by decide) ?_
          refine lv_icmp_ne (tgt := 180) hx hb gX12_holds_7.2.2.2.2.2.2.2.2.2 (by decide) (fun _ => ?_) (fun c9 => absurd c9 (by decide))
          refine lv_iinc (v := nI (hg - 1)) (lv' := [(6, .int (nI (hg - 1))), (8, .int 30002), (7, .int (nI kP)), (5, .int (nI r1)), (4, .int (nI r0)), (0, .ref h0), (1, .int (nI jv)), (2, .int (nI jl)), (3, .int (nI je))]) hx hb gX12_holds_9.2.2.2.2.2.1 hl (k := 2) rfl ((nI_dec hg).trans (nI_sb (by omega))) (by decide) rfl (fun ls hl => ?_)
          refine lv_aload_n hx hb gX12_holds_9.2.2.2.2.2.2.1 rfl (lv_at5 hl) ?_
          refine gf_X12_54 hC rfl hK hP 0 rfl rfl gX12_holds_9.2.2.2.2.2.2.2.1 ?_
          refine lv_iload hx hb gX12_holds_9.2.2.2.2.2.2.2.2.1 (lv_at0 hl) ?_
          refine lv_iconst (v := 1) hx hb gX12_holds_9.2.2.2.2.2.2.2.2.2 (by decide) ?_
          refine lv_isub hx hb gX12_holds_10.1 ?_
          refine eqi (x1 := nI ((hg - 1) - 1)) (nI_sb (by omega)) ?_
          refine lv_iload hx hb gX12_holds_10.2.1 (lv_at1 hl) ?_
          refine lv_sipush (v := 30001) hx hb gX12_holds_10.2.2.1 (by decide) ?_
          refine lv_icmp_ne (tgt := 219) hx hb gX12_holds_10.2.2.2.1 (by decide) (fun _ => ?_) (fun c9 => absurd c9 (by decide))
          refine lv_aload_n hx hb gX12_holds_11.2.2.2.2.2.2.1 rfl (lv_at5 hl) ?_
          refine gf_X12_54 hC rfl hK hP 0 rfl rfl gX12_holds_11.2.2.2.2.2.2.2.1 ?_
          refine lv_iload hx hb gX12_holds_11.2.2.2.2.2.2.2.2.1 (lv_at0 hl) ?_
          refine lv_iconst (v := 1) hx hb gX12_holds_11.2.2.2.2.2.2.2.2.2 (by decide) ?_
          refine lv_isub hx hb gX12_holds_12.1 ?_
          refine eqi (x1 := nI ((hg - 1) - 1)) (nI_sb (by omega)) ?_
          refine aldN hC hK hP 2 rfl (k := ((hg - 1) - 1)) (by omega) (Nat.le_of_ble_eq_true rfl) (v := vP ((hg - 1) - 1)) rfl gX12_holds_12.2.1 ?_
          refine lv_aload_n hx hb gX12_holds_12.2.2.1 rfl (lv_at5 hl) ?_
          refine gf_X12_54 hC rfl hK hP 0 rfl rfl gX12_holds_12.2.2.2.1 ?_
          refine lv_iload hx hb gX12_holds_12.2.2.2.2.1 (lv_at0 hl) ?_
          refine aldN hC hK hP 2 rfl (k := (hg - 1)) (by omega) (Nat.le_of_ble_eq_true rfl) (v := vP (hg - 1)) rfl gX12_holds_12.2.2.2.2.2.1 ?_
          refine lv_ior hx hb gX12_holds_12.2.2.2.2.2.2.1 ?_
          refine astN hC hK hP hD hS 2 (ws' := [(h0, oX12 nw nk mhasKept nt mtaped nr mrowMany mroundOf mroundFrom 0 nm mfromHour mtoHour ns mfrom mto msort misFault mdeep mcoded mlines nl nc nF np ntr nb mbestCost nso nsi nit nsh nsf nss nrc mtraced mdealer mnumber mwhose msize misParted), (nw, iA G 1662 fnw), (np, iA G 100 (upd vP ((hg - 1) - 1) ((vP ((hg - 1) - 1)) ||| (vP (hg - 1)))))]) rfl (k := ((hg - 1) - 1)) (by omega) (Nat.le_of_ble_eq_true rfl) (rfl) gX12_holds_12.2.2.2.2.2.2.2.1 (fun H locs hP hD hS => ?_)
          refine lv_iinc (v := nI (kP + 1)) (lv' := [(7, .int (nI (kP + 1))), (6, .int (nI (hg - 1))), (8, .int 30002), (5, .int (nI r1)), (4, .int (nI r0)), (0, .ref h0), (1, .int (nI jv)), (2, .int (nI jl)), (3, .int (nI je))]) hx hb gX12_holds_12.2.2.2.2.2.2.2.2.1 hl (k := 2) rfl (nI_1 _) (by decide) rfl (fun ls hl => ?_)
          refine lv_goto (tgt := 25) hx hb gX12_holds_12.2.2.2.2.2.2.2.2.2 (by decide) ?_
          have hst8 : ((hg - 1), upd vP ((hg - 1) - 1) ((vP ((hg - 1) - 1)) ||| (vP (hg - 1)))) = PRK (FAX (shf fnw 12) (shf fnw 32) (VSE fnw kq) kq je) tr9 fnp (kP + 1 - r0) := PRK.or hpr (by omega) (by omega) ev9
          exact ihP (kP + 1) (upd vP ((hg - 1) - 1) ((vP ((hg - 1) - 1)) ||| (vP (hg - 1)))) (hg - 1) _ _ _ (by omega) (by first | assumption | exact Or.inl rfl | exact Or.inr rfl | omega | exact h09.symm | exact PRK.zero (by omega)) (by first | assumption | exact Or.inl rfl | exact Or.inr rfl | omega | exact h09.symm | exact PRK.zero (by omega)) (by first | assumption | exact Or.inl rfl | exact Or.inr rfl | omega | exact h09.symm | exact PRK.zero (by omega)) (by first | assumption | exact Or.inl rfl | exact Or.inr rfl | omega | exact h09.symm | exact PRK.zero (by omega)) (And.intro hP hD) hS (lv_sub hl [0, 1, 3, 4, 5, 6, 7, 8] rfl)
        · have hs9 := STEP.lt (hst9 kP (by omega) (by omega)) (hcd.trans ev9).symm (nI_ge (a := jv9) (b := 30000) (by omega) (by omega))
          refine eqi (x1 := nI jv9) (hcd.trans ev9) ?_
          refine lv_istore (lv' := [(8, .int (nI jv9)), (7, .int (nI kP)), (6, .int (nI hg)), (5, .int (nI r1)), (4, .int (nI r0)), (0, .ref h0), (1, .int (nI jv)), (2, .int (nI jl)), (3, .int (nI je))]) hx hb gX12_holds_3.2.1 hl (by decide) rfl (fun ls hl => ?_)
          refine lv_iload hx hb gX12_holds_3.2.2.1 (lv_at0 hl) ?_
          refine lv_sipush (v := 30000) hx hb gX12_holds_3.2.2.2.1 (by decide) ?_
          refine lv_icmp_ge (tgt := 149) hx hb gX12_holds_3.2.2.2.2.1 (by decide) (fun c9 => absurd c9 (nI_ge (a := jv9) (b := 30000) (by omega) (by omega))) (fun _ => ?_)
          refine lv_aload_n hx hb gX12_holds_3.2.2.2.2.2.1 rfl (lv_at5 hl) ?_
          refine lv_iload hx hb gX12_holds_3.2.2.2.2.2.2.1 (lv_at0 hl) ?_
          refine lv_sipush (v := 3000) hx hb gX12_holds_3.2.2.2.2.2.2.2.1 (by decide) ?_
          refine lv_idiv hx hb gX12_holds_3.2.2.2.2.2.2.2.2.1 (by decide) ?_
          refine eqi (x1 := nI (jv9 / 3000)) (pk_div (d := 3000) (by omega) (by decide) (by decide)) ?_
          refine lv_iload_n hx hb gX12_holds_3.2.2.2.2.2.2.2.2.2 rfl (lv_at8 hl) ?_
          refine pV hC hK hl hP hD (m_factOfX l G kq h0 (jv9 / 3000) je nw nk mhasKept nt mtaped nr mrowMany mroundOf mroundFrom nm mfromHour mtoHour ns mfrom mto msort misFault mdeep mcoded mlines nl nc nF np ntr nb mbestCost nso nsi nit nsh nsf nss nrc mtraced mdealer mnumber mwhose msize misParted fnw (hN) (ekq) (hkq) (hje) (by omega)) si_X12_295 [0, 1] sm_0_1 fm_0_1 nd_0_1 rfl rfl rfl rfl rfl (Nat.le_of_ble_eq_true rfl) rm_6_5_3 ⟨by first | exact Nat.le_of_ble_eq_true rfl | exact Nat.zero_le _, by first | exact Nat.le_of_ble_eq_true rfl | exact Nat.zero_le _⟩ gX12_holds_4.1 (Keqr ?_)
          refine lv_istore (lv' := [(9, .int ((FAX (shf fnw 12) (shf fnw 32) (VSE fnw kq) kq je) (jv9 / 3000))), (8, .int (nI jv9)), (7, .int (nI kP)), (6, .int (nI hg)), (5, .int (nI r1)), (4, .int (nI r0)), (0, .ref h0), (1, .int (nI jv)), (2, .int (nI jl)), (3, .int (nI je))]) hx hb gX12_holds_4.2.1 hl (by decide) rfl (fun ls hl => ?_)
          refine lv_iload hx hb gX12_holds_4.2.2.1 (lv_at1 hl) ?_
          refine lv_sipush (v := 1000) hx hb gX12_holds_4.2.2.2.1 (by decide) ?_
          refine lv_irem hx hb gX12_holds_4.2.2.2.2.1 (by decide) ?_
          refine eqi (x1 := nI (jv9 % 1000)) (pk_rem (d := 1000) (by omega) (by decide) (by decide)) ?_
          refine lv_istore (lv' := [(10, .int (nI (jv9 % 1000))), (9, .int ((FAX (shf fnw 12) (shf fnw 32) (VSE fnw kq) kq je) (jv9 / 3000))), (8, .int (nI jv9)), (7, .int (nI kP)), (6, .int (nI hg)), (5, .int (nI r1)), (4, .int (nI r0)), (0, .ref h0), (1, .int (nI jv)), (2, .int (nI jl)), (3, .int (nI je))]) hx hb gX12_holds_4.2.2.2.2.2.1 hl (by decide) rfl (fun ls hl => ?_)
          refine lv_iload hx hb gX12_holds_4.2.2.2.2.2.2.1 (lv_at2 hl) ?_
          refine lv_sipush (v := 1000) hx hb gX12_holds_4.2.2.2.2.2.2.2.1 (by decide) ?_
          refine lv_idiv hx hb gX12_holds_4.2.2.2.2.2.2.2.2.1 (by decide) ?_
          refine eqi (x1 := nI (jv9 / 1000)) (pk_div (d := 1000) (by omega) (by decide) (by decide)) ?_
          refine lv_iconst (v := 3) hx hb gX12_holds_4.2.2.2.2.2.2.2.2.2 (by decide) ?_
          refine lv_irem hx hb gX12_holds_5.1 (by decide) ?_
          refine eqi (x1 := nI ((jv9 / 1000) % 3)) (pk_rem (d := 3) (by omega) (by decide) (by decide)) ?_
          refine lv_istore (lv' := [(11, .int (nI ((jv9 / 1000) % 3))), (10, .int (nI (jv9 % 1000))), (9, .int ((FAX (shf fnw 12) (shf fnw 32) (VSE fnw kq) kq je) (jv9 / 3000))), (8, .int (nI jv9)), (7, .int (nI kP)), (6, .int (nI hg)), (5, .int (nI r1)), (4, .int (nI r0)), (0, .ref h0), (1, .int (nI jv)), (2, .int (nI jl)), (3, .int (nI je))]) hx hb gX12_holds_5.2.1 hl (by decide) rfl (fun ls hl => ?_)
          refine lv_aload_n hx hb gX12_holds_5.2.2.1 rfl (lv_at8 hl) ?_
          refine gf_X12_54 hC rfl hK hP 0 rfl rfl gX12_holds_5.2.2.2.1 ?_
          refine lv_iload hx hb gX12_holds_5.2.2.2.2.1 (lv_at5 hl) ?_
          refine lv_iload hx hb gX12_holds_5.2.2.2.2.2.1 (lv_at0 hl) ?_
          refine lv_if_ne (tgt := 114) hx hb gX12_holds_5.2.2.2.2.2.2.1 (by decide) (fun c_101_7918 => ?_) (fun c_101_7918 => ?_)
          · refine lv_iload hx hb gX12_holds_6.2.1 (lv_at0 hl) ?_
            refine lv_iconst (v := 1) hx hb gX12_holds_6.2.2.1 (by decide) ?_
            refine lv_icmp_ne (tgt := 130) hx hb gX12_holds_6.2.2.2.1 (by decide) (fun c_117_7919 => ?_) (fun c_117_7919 => ?_)
            · refine lv_iload hx hb gX12_holds_6.2.2.2.2.2.2.2.2.1 (lv_at2 hl) ?_
              refine lv_iload hx hb gX12_holds_6.2.2.2.2.2.2.2.2.2 (lv_at1 hl) ?_
              refine lv_icmp_le (tgt := 141) hx hb gX12_holds_7.1 (by decide) (fun c_134_7920 => ?_) (fun c_134_7920 => ?_)
              · refine lv_iconst (v := 0) hx hb gX12_holds_7.2.2.2.1 (by decide) ?_
                refine astN hC hK hP hD hS 2 (ws' := [(h0, oX12 nw nk mhasKept nt mtaped nr mrowMany mroundOf mroundFrom 0 nm mfromHour mtoHour ns mfrom mto msort misFault mdeep mcoded mlines nl nc nF np ntr nb mbestCost nso nsi nit nsh nsf nss nrc mtraced mdealer mnumber mwhose msize misParted), (nw, iA G 1662 fnw), (np, iA G 100 (upd vP hg 0))]) rfl (k := hg) (by omega) (Nat.le_of_ble_eq_true rfl) (rfl) gX12_holds_7.2.2.2.2.1 (fun H locs hP hD hS => ?_)
                refine lv_iinc (v := nI (hg + 1)) (lv' := [(6, .int (nI (hg + 1))), (11, .int (nI ((jv9 / 1000) % 3))), (10, .int (nI (jv9 % 1000))), (9, .int ((FAX (shf fnw 12) (shf fnw 32) (VSE fnw kq) kq je) (jv9 / 3000))), (8, .int (nI jv9)), (7, .int (nI kP)), (5, .int (nI r1)), (4, .int (nI r0)), (0, .ref h0), (1, .int (nI jv)), (2, .int (nI jl)), (3, .int (nI je))]) hx hb gX12_holds_7.2.2.2.2.2.1 hl (k := 5) rfl (nI_1 _) (by decide) rfl (fun ls hl => ?_)
                refine lv_goto (tgt := 237) hx hb gX12_holds_7.2.2.2.2.2.2.1 (by decide) ?_
                refine lv_iinc (v := nI (kP + 1)) (lv' := [(7, .int (nI (kP + 1))), (6, .int (nI (hg + 1))), (11, .int (nI ((jv9 / 1000) % 3))), (10, .int (nI (jv9 % 1000))), (9, .int ((FAX (shf fnw 12) (shf fnw 32) (VSE fnw kq) kq je) (jv9 / 3000))), (8, .int (nI jv9)), (5, .int (nI r1)), (4, .int (nI r0)), (0, .ref h0), (1, .int (nI jv)), (2, .int (nI jl)), (3, .int (nI je))]) hx hb gX12_holds_12.2.2.2.2.2.2.2.2.1 hl (k := 5) rfl (nI_1 _) (by decide) rfl (fun ls hl => ?_)
                refine lv_goto (tgt := 25) hx hb gX12_holds_12.2.2.2.2.2.2.2.2.2 (by decide) ?_
                have hst8 : ((hg + 1), upd vP hg 0) = PRK (FAX (shf fnw 12) (shf fnw 32) (VSE fnw kq) kq je) tr9 fnp (kP + 1 - r0) := PRK.fa0 hpr (by omega) (by omega) ev9 hjv9 (SOV.g3 (fun h9 => c_101_7918 (congrArg nI h9)) (fun h9 => c_117_7919 (congrArg nI h9)) (decide_eq_false (Int32.not_lt.mpr c_134_7920)))
                exact ihP (kP + 1) (upd vP hg 0) (hg + 1) _ _ _ (by omega) (by first | assumption | exact Or.inl rfl | exact Or.inr rfl | omega | exact h09.symm | exact PRK.zero (by omega)) (by first | assumption | exact Or.inl rfl | exact Or.inr rfl | omega | exact h09.symm | exact PRK.zero (by omega)) (by first | assumption | exact Or.inl rfl | exact Or.inr rfl | omega | exact h09.symm | exact PRK.zero (by omega)) (by first | assumption | exact Or.inl rfl | exact Or.inr rfl | omega | exact h09.symm | exact PRK.zero (by omega)) (And.intro hP hD) hS (lv_sub hl [0, 1, 6, 7, 8, 9, 10, 11] rfl)
              · refine lv_iconst (v := 1) hx hb gX12_holds_7.2.1 (by decide) ?_
                refine lv_goto (tgt := 142) hx hb gX12_holds_7.2.2.1 (by decide) ?_
                refine astN hC hK hP hD hS 2 (ws' := [(h0, oX12 nw nk mhasKept nt mtaped nr mrowMany mroundOf mroundFrom 0 nm mfromHour mtoHour ns mfrom mto msort misFault mdeep mcoded mlines nl nc nF np ntr nb mbestCost nso nsi nit nsh nsf nss nrc mtraced mdealer mnumber mwhose msize misParted), (nw, iA G 1662 fnw), (np, iA G 100 (upd vP hg 1))]) rfl (k := hg) (by omega) (Nat.le_of_ble_eq_true rfl) (rfl) gX12_holds_7.2.2.2.2.1 (fun H locs hP hD hS => ?_)
                refine lv_iinc (v := nI (hg + 1)) (lv' := [(6, .int (nI (hg + 1))), (11, .int (nI ((jv9 / 1000) % 3))), (10, .int (nI (jv9 % 1000))), (9, .int ((FAX (shf fnw 12) (shf fnw 32) (VSE fnw kq) kq je) (jv9 / 3000))), (8, .int (nI jv9)), (7, .int (nI kP)), (5, .int (nI r1)), (4, .int (nI r0)), (0, .ref h0), (1, .int (nI jv)), (2, .int (nI jl)), (3, .int (nI je))]) hx hb gX12_holds_7.2.2.2.2.2.1 hl (k := 5) rfl (nI_1 _) (by decide) rfl (fun ls hl => ?_)
                refine lv_goto (tgt := 237) hx hb gX12_holds_7.2.2.2.2.2.2.1 (by decide) ?_
                refine lv_iinc (v := nI (kP + 1)) (lv' := [(7, .int (nI (kP + 1))), (6, .int (nI (hg + 1))), (11, .int (nI ((jv9 / 1000) % 3))), (10, .int (nI (jv9 % 1000))), (9, .int ((FAX (shf fnw 12) (shf fnw 32) (VSE fnw kq) kq je) (jv9 / 3000))), (8, .int (nI jv9)), (5, .int (nI r1)), (4, .int (nI r0)), (0, .ref h0), (1, .int (nI jv)), (2, .int (nI jl)), (3, .int (nI je))]) hx hb gX12_holds_12.2.2.2.2.2.2.2.2.1 hl (k := 5) rfl (nI_1 _) (by decide) rfl (fun ls hl => ?_)
                refine lv_goto (tgt := 25) hx hb gX12_holds_12.2.2.2.2.2.2.2.2.2 (by decide) ?_
                have hst8 : ((hg + 1), upd vP hg 1) = PRK (FAX (shf fnw 12) (shf fnw 32) (VSE fnw kq) kq je) tr9 fnp (kP + 1 - r0) := PRK.fa1 hpr (by omega) (by omega) ev9 hjv9 (SOV.g3 (fun h9 => c_101_7918 (congrArg nI h9)) (fun h9 => c_117_7919 (congrArg nI h9)) (decide_eq_true (Int32.not_le.mp c_134_7920)))
                exact ihP (kP + 1) (upd vP hg 1) (hg + 1) _ _ _ (by omega) (by first | assumption | exact Or.inl rfl | exact Or.inr rfl | omega | exact h09.symm | exact PRK.zero (by omega)) (by first | assumption | exact Or.inl rfl | exact Or.inr rfl | omega | exact h09.symm | exact PRK.zero (by omega)) (by first | assumption | exact Or.inl rfl | exact Or.inr rfl | omega | exact h09.symm | exact PRK.zero (by omega)) (by first | assumption | exact Or.inl rfl | exact Or.inr rfl | omega | exact h09.symm | exact PRK.zero (by omega)) (And.intro hP hD) hS (lv_sub hl [0, 1, 6, 7, 8, 9, 10, 11] rfl)
            · refine lv_iload hx hb gX12_holds_6.2.2.2.2.1 (lv_at2 hl) ?_
              refine lv_iload hx hb gX12_holds_6.2.2.2.2.2.1 (lv_at1 hl) ?_
              refine lv_icmp_ne (tgt := 141) hx hb gX12_holds_6.2.2.2.2.2.2.1 (by decide) (fun c_124_7921 => ?_) (fun c_124_7921 => ?_)
              · refine lv_iconst (v := 0) hx hb gX12_holds_7.2.2.2.1 (by decide) ?_
                refine astN hC hK hP hD hS 2 (ws' := [(h0, oX12 nw nk mhasKept nt mtaped nr mrowMany mroundOf mroundFrom 0 nm mfromHour mtoHour ns mfrom mto msort misFault mdeep mcoded mlines nl nc nF np ntr nb mbestCost nso nsi nit nsh nsf nss nrc mtraced mdealer mnumber mwhose msize misParted), (nw, iA G 1662 fnw), (np, iA G 100 (upd vP hg 0))]) rfl (k := hg) (by omega) (Nat.le_of_ble_eq_true rfl) (rfl) gX12_holds_7.2.2.2.2.1 (fun H locs hP hD hS => ?_)
                refine lv_iinc (v := nI (hg + 1)) (lv' := [(6, .int (nI (hg + 1))), (11, .int (nI ((jv9 / 1000) % 3))), (10, .int (nI (jv9 % 1000))), (9, .int ((FAX (shf fnw 12) (shf fnw 32) (VSE fnw kq) kq je) (jv9 / 3000))), (8, .int (nI jv9)), (7, .int (nI kP)), (5, .int (nI r1)), (4, .int (nI r0)), (0, .ref h0), (1, .int (nI jv)), (2, .int (nI jl)), (3, .int (nI je))]) hx hb gX12_holds_7.2.2.2.2.2.1 hl (k := 5) rfl (nI_1 _) (by decide) rfl (fun ls hl => ?_)
                refine lv_goto (tgt := 237) hx hb gX12_holds_7.2.2.2.2.2.2.1 (by decide) ?_
                refine lv_iinc (v := nI (kP + 1)) (lv' := [(7, .int (nI (kP + 1))), (6, .int (nI (hg + 1))), (11, .int (nI ((jv9 / 1000) % 3))), (10, .int (nI (jv9 % 1000))), (9, .int ((FAX (shf fnw 12) (shf fnw 32) (VSE fnw kq) kq je) (jv9 / 3000))), (8, .int (nI jv9)), (5, .int (nI r1)), (4, .int (nI r0)), (0, .ref h0), (1, .int (nI jv)), (2, .int (nI jl)), (3, .int (nI je))]) hx hb gX12_holds_12.2.2.2.2.2.2.2.2.1 hl (k := 5) rfl (nI_1 _) (by decide) rfl (fun ls hl => ?_)
                refine lv_goto (tgt := 25) hx hb gX12_holds_12.2.2.2.2.2.2.2.2.2 (by decide) ?_
                have hst8 : ((hg + 1), upd vP hg 0) = PRK (FAX (shf fnw 12) (shf fnw 32) (VSE fnw kq) kq je) tr9 fnp (kP + 1 - r0) := PRK.fa0 hpr (by omega) (by omega) ev9 hjv9 (SOV.e3 ((nI_eq (b := 1) (by omega) (by decide)).mp c_117_7919) (decide_eq_false c_124_7921))
                exact ihP (kP + 1) (upd vP hg 0) (hg + 1) _ _ _ (by omega) (by first | assumption | exact Or.inl rfl | exact Or.inr rfl | omega | exact h09.symm | exact PRK.zero (by omega)) (by first | assumption | exact Or.inl rfl | exact Or.inr rfl | omega | exact h09.symm | exact PRK.zero (by omega)) (by first | assumption | exact Or.inl rfl | exact Or.inr rfl | omega | exact h09.symm | exact PRK.zero (by omega)) (by first | assumption | exact Or.inl rfl | exact Or.inr rfl | omega | exact h09.symm | exact PRK.zero (by omega)) (And.intro hP hD) hS (lv_sub hl [0, 1, 6, 7, 8, 9, 10, 11] rfl)
              · refine lv_goto (tgt := 137) hx hb gX12_holds_6.2.2.2.2.2.2.2.1 (by decide) ?_
                refine lv_iconst (v := 1) hx hb gX12_holds_7.2.1 (by decide) ?_
                refine lv_goto (tgt := 142) hx hb gX12_holds_7.2.2.1 (by decide) ?_
                refine astN hC hK hP hD hS 2 (ws' := [(h0, oX12 nw nk mhasKept nt mtaped nr mrowMany mroundOf mroundFrom 0 nm mfromHour mtoHour ns mfrom mto msort misFault mdeep mcoded mlines nl nc nF np ntr nb mbestCost nso nsi nit nsh nsf nss nrc mtraced mdealer mnumber mwhose msize misParted), (nw, iA G 1662 fnw), (np, iA G 100 (upd vP hg 1))]) rfl (k := hg) (by omega) (Nat.le_of_ble_eq_true rfl) (rfl) gX12_holds_7.2.2.2.2.1 (fun H locs hP hD hS => ?_)
                refine lv_iinc (v := nI (hg + 1)) (lv' := [(6, .int (nI (hg + 1))), (11, .int (nI ((jv9 / 1000) % 3))), (10, .int (nI (jv9 % 1000))), (9, .int ((FAX (shf fnw 12) (shf fnw 32) (VSE fnw kq) kq je) (jv9 / 3000))), (8, .int (nI jv9)), (7, .int (nI kP)), (5, .int (nI r1)), (4, .int (nI r0)), (0, .ref h0), (1, .int (nI jv)), (2, .int (nI jl)), (3, .int (nI je))]) hx hb gX12_holds_7.2.2.2.2.2.1 hl (k := 5) rfl (nI_1 _) (by decide) rfl (fun ls hl => ?_)
                refine lv_goto (tgt := 237) hx hb gX12_holds_7.2.2.2.2.2.2.1 (by decide) ?_
                refine lv_iinc (v := nI (kP + 1)) (lv' := [(7, .int (nI (kP + 1))), (6, .int (nI (hg + 1))), (11, .int (nI ((jv9 / 1000) % 3))), (10, .int (nI (jv9 % 1000))), (9, .int ((FAX (shf fnw 12) (shf fnw 32) (VSE fnw kq) kq je) (jv9 / 3000))), (8, .int (nI jv9)), (5, .int (nI r1)), (4, .int (nI r0)), (0, .ref h0), (1, .int (nI jv)), (2, .int (nI jl)), (3, .int (nI je))]) hx hb gX12_holds_12.2.2.2.2.2.2.2.2.1 hl (k := 5) rfl (nI_1 _) (by decide) rfl (fun ls hl => ?_)
                refine lv_goto (tgt := 25) hx hb gX12_holds_12.2.2.2.2.2.2.2.2.2 (by decide) ?_
                have hst8 : ((hg + 1), upd vP hg 1) = PRK (FAX (shf fnw 12) (shf fnw 32) (VSE fnw kq) kq je) tr9 fnp (kP + 1 - r0) := PRK.fa1 hpr (by omega) (by omega) ev9 hjv9 (SOV.e3 ((nI_eq (b := 1) (by omega) (by decide)).mp c_117_7919) (decide_eq_true c_124_7921))
                exact ihP (kP + 1) (upd vP hg 1) (hg + 1) _ _ _ (by omega) (by first | assumption | exact Or.inl rfl | exact Or.inr rfl | omega | exact h09.symm | exact PRK.zero (by omega)) (by first | assumption | exact Or.inl rfl | exact Or.inr rfl | omega | exact h09.symm | exact PRK.zero (by omega)) (by first | assumption | exact Or.inl rfl | exact Or.inr rfl | omega | exact h09.symm | exact PRK.zero (by omega)) (by first | assumption | exact Or.inl rfl | exact Or.inr rfl | omega | exact h09.symm | exact PRK.zero (by omega)) (And.intro hP hD) hS (lv_sub hl [0, 1, 6, 7, 8, 9, 10, 11] rfl)
          · refine lv_iload hx hb gX12_holds_5.2.2.2.2.2.2.2.1 (lv_at2 hl) ?_
            refine lv_iload hx hb gX12_holds_5.2.2.2.2.2.2.2.2.1 (lv_at1 hl) ?_
            refine lv_icmp_ge (tgt := 141) hx hb gX12_holds_5.2.2.2.2.2.2.2.2.2 (by decide) (fun c_108_7922 => ?_) (fun c_108_7922 => ?_)
            · refine lv_iconst (v := 0) hx hb gX12_holds_7.2.2.2.1 (by decide) ?_
              refine astN hC hK hP hD hS 2 (ws' := [(h0, oX12 nw nk mhasKept nt mtaped nr mrowMany mroundOf mroundFrom 0 nm mfromHour mtoHour ns mfrom mto msort misFault mdeep mcoded mlines nl nc nF np ntr nb mbestCost nso nsi nit nsh nsf nss nrc mtraced mdealer mnumber mwhose msize misParted), (nw, iA G 1662 fnw), (np, iA G 100 (upd vP hg 0))]) rfl (k := hg) (by omega) (Nat.le_of_ble_eq_true rfl) (rfl) gX12_holds_7.2.2.2.2.1 (fun H locs hP hD hS => ?_)
              refine lv_iinc (v := nI (hg + 1)) (lv' := [(6, .int (nI (hg + 1))), (11, .int (nI ((jv9 / 1000) % 3))), (10, .int (nI (jv9 % 1000))), (9, .int ((FAX (shf fnw 12) (shf fnw 32) (VSE fnw kq) kq je) (jv9 / 3000))), (8, .int (nI jv9)), (7, .int (nI kP)), (5, .int (nI r1)), (4, .int (nI r0)), (0, .ref h0), (1, .int (nI jv)), (2, .int (nI jl)), (3, .int (nI je))]) hx hb gX12_holds_7.2.2.2.2.2.1 hl (k := 5) rfl (nI_1 _) (by decide) rfl (fun ls hl => ?_)
              refine lv_goto (tgt := 237) hx hb gX12_holds_7.2.2.2.2.2.2.1 (by decide) ?_
              refine lv_iinc (v := nI (kP + 1)) (lv' := [(7, .int (nI (kP + 1))), (6, .int (nI (hg + 1))), (11, .int (nI ((jv9 / 1000) % 3))), (10, .int (nI (jv9 % 1000))), (9, .int ((FAX (shf fnw 12) (shf fnw 32) (VSE fnw kq) kq je) (jv9 / 3000))), (8, .int (nI jv9)), (5, .int (nI r1)), (4, .int (nI r0)), (0, .ref h0), (1, .int (nI jv)), (2, .int (nI jl)), (3, .int (nI je))]) hx hb gX12_holds_12.2.2.2.2.2.2.2.2.1 hl (k := 5) rfl (nI_1 _) (by decide) rfl (fun ls hl => ?_)
              refine lv_goto (tgt := 25) hx hb gX12_holds_12.2.2.2.2.2.2.2.2.2 (by decide) ?_
              have hst8 : ((hg + 1), upd vP hg 0) = PRK (FAX (shf fnw 12) (shf fnw 32) (VSE fnw kq) kq je) tr9 fnp (kP + 1 - r0) := PRK.fa0 hpr (by omega) (by omega) ev9 hjv9 (SOV.l3 ((nI_eq (b := 0) (by omega) (by decide)).mp c_101_7918) (decide_eq_false (Int32.not_lt.mpr c_108_7922)))
              exact ihP (kP + 1) (upd vP hg 0) (hg + 1) _ _ _ (by omega) (by first | assumption | exact Or.inl rfl | exact Or.inr rfl | omega | exact h09.symm | exact PRK.zero (by omega)) (by first | assumption | exact Or.inl rfl | exact Or.inr rfl | omega | exact h09.symm | exact PRK.zero (by omega)) (by first | assumption | exact Or.inl rfl | exact Or.inr rfl | omega | exact h09.symm | exact PRK.zero (by omega)) (by first | assumption | exact Or.inl rfl | exact Or.inr rfl | omega | exact h09.symm | exact PRK.zero (by omega)) (And.intro hP hD) hS (lv_sub hl [0, 1, 6, 7, 8, 9, 10, 11] rfl)
            · refine lv_goto (tgt := 137) hx hb gX12_holds_6.1 (by decide) ?_
              refine lv_iconst (v := 1) hx hb gX12_holds_7.2.1 (by decide) ?_
              refine lv_goto (tgt := 142) hx hb gX12_holds_7.2.2.1 (by decide) ?_
              refine astN hC hK hP hD hS 2 (ws' := [(h0, oX12 nw nk mhasKept nt mtaped nr mrowMany mroundOf mroundFrom 0 nm mfromHour mtoHour ns mfrom mto msort misFault mdeep mcoded mlines nl nc nF np ntr nb mbestCost nso nsi nit nsh nsf nss nrc mtraced mdealer mnumber mwhose msize misParted), (nw, iA G 1662 fnw), (np, iA G 100 (upd vP hg 1))]) rfl (k := hg) (by omega) (Nat.le_of_ble_eq_true rfl) (rfl) gX12_holds_7.2.2.2.2.1 (fun H locs hP hD hS => ?_)
              refine lv_iinc (v := nI (hg + 1)) (lv' := [(6, .int (nI (hg + 1))), (11, .int (nI ((jv9 / 1000) % 3))), (10, .int (nI (jv9 % 1000))), (9, .int ((FAX (shf fnw 12) (shf fnw 32) (VSE fnw kq) kq je) (jv9 / 3000))), (8, .int (nI jv9)), (7, .int (nI kP)), (5, .int (nI r1)), (4, .int (nI r0)), (0, .ref h0), (1, .int (nI jv)), (2, .int (nI jl)), (3, .int (nI je))]) hx hb gX12_holds_7.2.2.2.2.2.1 hl (k := 5) rfl (nI_1 _) (by decide) rfl (fun ls hl => ?_)
              refine lv_goto (tgt := 237) hx hb gX12_holds_7.2.2.2.2.2.2.1 (by decide) ?_
              refine lv_iinc (v := nI (kP + 1)) (lv' := [(7, .int (nI (kP + 1))), (6, .int (nI (hg + 1))), (11, .int (nI ((jv9 / 1000) % 3))), (10, .int (nI (jv9 % 1000))), (9, .int ((FAX (shf fnw 12) (shf fnw 32) (VSE fnw kq) kq je) (jv9 / 3000))), (8, .int (nI jv9)), (5, .int (nI r1)), (4, .int (nI r0)), (0, .ref h0), (1, .int (nI jv)), (2, .int (nI jl)), (3, .int (nI je))]) hx hb gX12_holds_12.2.2.2.2.2.2.2.2.1 hl (k := 5) rfl (nI_1 _) (by decide) rfl (fun ls hl => ?_)
              refine lv_goto (tgt := 25) hx hb gX12_holds_12.2.2.2.2.2.2.2.2.2 (by decide) ?_
              have hst8 : ((hg + 1), upd vP hg 1) = PRK (FAX (shf fnw 12) (shf fnw 32) (VSE fnw kq) kq je) tr9 fnp (kP + 1 - r0) := PRK.fa1 hpr (by omega) (by omega) ev9 hjv9 (SOV.l3 ((nI_eq (b := 0) (by omega) (by decide)).mp c_101_7918) (decide_eq_true (Int32.not_le.mp c_108_7922)))
              exact ihP (kP + 1) (upd vP hg 1) (hg + 1) _ _ _ (by omega) (by first | assumption | exact Or.inl rfl | exact Or.inr rfl | omega | exact h09.symm | exact PRK.zero (by omega)) (by first | assumption | exact Or.inl rfl | exact Or.inr rfl | omega | exact h09.symm | exact PRK.zero (by omega)) (by first | assumption | exact Or.inl rfl | exact Or.inr rfl | omega | exact h09.symm | exact PRK.zero (by omega)) (by first | assumption | exact Or.inl rfl | exact Or.inr rfl | omega | exact h09.symm | exact PRK.zero (by omega)) (And.intro hP hD) hS (lv_sub hl [0, 1, 6, 7, 8, 9, 10, 11] rfl)
    exact keyP (r1 - r0) r0 fnp 0 _ _ _ (by omega) (by first | assumption | exact Or.inl rfl | exact Or.inr rfl | omega | exact h09.symm | exact PRK.zero (by omega)) (by first | assumption | exact Or.inl rfl | exact Or.inr rfl | omega | exact h09.symm | exact PRK.zero (by omega)) (by first | assumption | exact Or.inl rfl | exact Or.inr rfl | omega | exact h09.symm | exact PRK.zero (by omega)) (by first | assumption | exact Or.inl rfl | exact Or.inr rfl | omega | exact h09.symm | exact PRK.zero (by omega)) (And.intro hP hD) hS (lv_sub hl [0, 1, 2, 3, 4, 5, 6, 7] rfl)
def K_m_thingOfX (l : Launch) (G : GG) (LX9 : LNT) (h0 : Nat) (jv : Nat) (jl : Nat) (nw : Nat) (nk : Nat) (mhasKept : Int32) (nt : Nat) (mtaped : Int32) (nr : Nat) (mrowMany : Int32) (mroundOf : Int32) (mroundFrom : Int32) (mouts : Int32) (nm : Nat) (mfromHour : Int32) (mtoHour : Int32) (ns : Nat) (mfrom : Int32) (mto : Int32) (msort : Int32) (misFault : Int32) (mdeep : Int32) (mcoded : Int32) (mlines : Int32) (nl : Nat) (nc : Nat) (nF : Nat) (np : Nat) (ntr : Nat) (nb : Nat) (mbestCost : Int32) (nso : Nat) (nsi : Nat) (nit : Nat) (nsh : Nat) (nsf : Nat) (nss : Nat) (nrc : Nat) (mtraced : Int32) (mdealer : Int32) (mnumber : Int32) (mwhose : Int32) (msize : Int32) (misParted : Int32) (fnw : Nat → Int32) : Prop := MP l G yX12_thingOf cX12_thingOf 4 (some .int) 2 [.ref h0, .int (nI jv), .int (nI jl)] [(h0, oX12 nw nk mhasKept nt mtaped nr mrowMany mroundOf mroundFrom mouts nm mfromHour mtoHour ns mfrom mto msort misFault mdeep mcoded mlines nl nc nF np ntr nb mbestCost nso nsi nit nsh nsf nss nrc mtraced mdealer mnumber mwhose msize misParted), (nw, iA G 1662 fnw)] (fun r : Int32 => ∃ t9, (t9 = TNO LX9 ∧ t9 < 8) ∧ r = nI t9)
set_option maxHeartbeats 4000000 in
set_option maxRecDepth 100000 in
theorem m_thingOfX (l : Launch) (G : GG) (LX9 : LNT) (T9 : List Int32) (h0 : Nat) (jv : Nat) (jl : Nat) (nw : Nat) (nk : Nat) (mhasKept : Int32) (nt : Nat) (mtaped : Int32) (nr : Nat) (mrowMany : Int32) (mroundOf : Int32) (mroundFrom : Int32) (mouts : Int32) (nm : Nat) (mfromHour : Int32) (mtoHour : Int32) (ns : Nat) (mfrom : Int32) (mto : Int32) (msort : Int32) (misFault : Int32) (mdeep : Int32) (mcoded : Int32) (mlines : Int32) (nl : Nat) (nc : Nat) (nF : Nat) (np : Nat) (ntr : Nat) (nb : Nat) (mbestCost : Int32) (nso : Nat) (nsi : Nat) (nit : Nat) (nsh : Nat) (nsf : Nat) (nss : Nat) (nrc : Nat) (mtraced : Int32) (mdealer : Int32) (mnumber : Int32) (mwhose : Int32) (msize : Int32) (misParted : Int32) (fnw : Nat → Int32) (hjv : jv < 8) (hjl : jl < 9) (hln : LN fnw jv jl) (hLZ : LZM fnw jv jl LX9 T9) : K_m_thingOfX l G LX9 h0 jv jl nw nk mhasKept nt mtaped nr mrowMany mroundOf mroundFrom mouts nm mfromHour mtoHour ns mfrom mto msort misFault mdeep mcoded mlines nl nc nF np ntr nb mbestCost nso nsi nit nsh nsf nss nrc mtraced mdealer mnumber mwhose msize misParted fnw := by
  refine MP.start (by decide +kernel) (Nat.le_of_ble_eq_true rfl) ?_
  intro p e s m below meth c ls hC hK hP hD hl
  refine absQ (fun Q0 hQ0 => ?_)
  have hl : lv_has ls 4 [(0, .ref h0), (1, .int (nI jv)), (2, .int (nI jl))] := hl
  refine Kan8 hC (fun hx hb hr hml hB hown hlocks hnm => ?_)
  have hln0 := hln
  obtain ⟨⟨so, hso, e0, hAl, hBl⟩, -⟩ := hln
  obtain ⟨hlb, f0, f1, f2, f3, -⟩ := hLZ
  have hsx : so = LX9.1 := (nI_eq (by omega) (by have h9 := hlb.le; omega)).mp (e0.symm.trans f0)
  refine lv_aload_n hx hb gX12_thingOf_0.1 rfl (lv_at0 hl) ?_
  refine lv_iload_n hx hb gX12_thingOf_0.2.1 rfl (lv_at1 hl) ?_
  refine lv_iload_n hx hb gX12_thingOf_0.2.2.1 rfl (lv_at2 hl) ?_
  refine lv_iconst (v := 0) hx hb gX12_thingOf_0.2.2.2.1 (by decide) ?_
  refine pV hC hK hl hP hD (m_lineOf l G h0 jv jl 0 nw nk mhasKept nt mtaped nr mrowMany mroundOf mroundFrom mouts nm mfromHour mtoHour ns mfrom mto msort misFault mdeep mcoded mlines nl nc nF np ntr nb mbestCost nso nsi nit nsh nsf nss nrc mtraced mdealer mnumber mwhose msize misParted fnw (hjv) (hjl) (by omega)) si_X12_193 [0, 1] sm_0_1 fm_0_1 nd_0_1 rfl rfl rfl rfl rfl (Nat.le_of_ble_eq_true rfl) rm_2_1_4 ⟨by first | exact Nat.le_of_ble_eq_true rfl | exact Nat.zero_le _, by first | exact Nat.le_of_ble_eq_true rfl | exact Nat.zero_le _⟩ gX12_thingOf_0.2.2.2.2.1 (Keqr ?_)
  refine eqi (x1 := nI so) (e0) ?_
  refine lv_istore_n (lv' := [(3, .int (nI so)), (0, .ref h0), (1, .int (nI jv)), (2, .int (nI jl))]) hx hb gX12_thingOf_0.2.2.2.2.2.1 rfl hl (by decide) rfl (fun ls hl => ?_)
  refine lv_iload_n hx hb gX12_thingOf_0.2.2.2.2.2.2.1 rfl (lv_at0 hl) ?_
  refine lv_iconst (v := 2) hx hb gX12_thingOf_0.2.2.2.2.2.2.2.1 (by decide) ?_
  refine lv_icmp_ne (tgt := 23) hx hb gX12_thingOf_0.2.2.2.2.2.2.2.2.1 (by decide) (fun c_10_7925 => ?_) (fun c_10_7925 => ?_)
  · refine lv_iload_n hx hb gX12_thingOf_1.2.2.2.2.2.1 rfl (lv_at0 hl) ?_
    refine lv_if_ne (tgt := 37) hx hb gX12_thingOf_1.2.2.2.2.2.2.1 (by decide) (fun c_24_7926 => ?_) (fun c_24_7926 => ?_)
    · refine lv_iconst (v := 0) hx hb gX12_thingOf_2.2.2.2.1 (by decide) ?_
      refine toQ hQ0 ?_
      exact RP (v := 0) hC (⟨0, ⟨((TNO.v hlb).2.2 (fun h9 => c_10_7925 (congrArg nI (hsx.trans h9))) (fun h9 => c_24_7926 (congrArg nI (hsx.trans h9)))).symm, by decide⟩, rfl⟩) rfl gX12_thingOf_2.2.2.2.2
    · refine lv_aload_n hx hb gX12_thingOf_1.2.2.2.2.2.2.2.1 rfl (lv_at1 hl) ?_
      refine lv_iload_n hx hb gX12_thingOf_1.2.2.2.2.2.2.2.2.1 rfl (lv_at2 hl) ?_
      refine lv_iload_n hx hb gX12_thingOf_1.2.2.2.2.2.2.2.2.2 rfl (lv_at3 hl) ?_
      refine lv_iconst (v := 2) hx hb gX12_thingOf_2.1 (by decide) ?_
      refine pV hC hK hl hP hD (m_lineOf l G h0 jv jl 2 nw nk mhasKept nt mtaped nr mrowMany mroundOf mroundFrom mouts nm mfromHour mtoHour ns mfrom mto msort misFault mdeep mcoded mlines nl nc nF np ntr nb mbestCost nso nsi nit nsh nsf nss nrc mtraced mdealer mnumber mwhose msize misParted fnw (hjv) (hjl) (by omega)) si_X12_193 [0, 1] sm_0_1 fm_0_1 nd_0_1 rfl rfl rfl rfl rfl (Nat.le_of_ble_eq_true rfl) rm_2_1_4 ⟨by first | exact Nat.le_of_ble_eq_true rfl | exact Nat.zero_le _, by first | exact Nat.le_of_ble_eq_true rfl | exact Nat.zero_le _⟩ gX12_thingOf_2.2.1 (Keqr ?_)
      refine eqi (x1 := nI (TNO LX9)) (f2.trans ((TNO.v hlb).2.1 (hsx.symm.trans ((nI_eq (b := 0) (by omega) (by decide)).mp c_24_7926)))) ?_
      refine lv_goto (tgt := 38) hx hb gX12_thingOf_2.2.2.1 (by decide) ?_
      refine toQ hQ0 ?_
      exact RP (v := nI (TNO LX9)) hC (⟨TNO LX9, ⟨rfl, TNO.lt hlb⟩, rfl⟩) rfl gX12_thingOf_2.2.2.2.2
  · refine lv_aload_n hx hb gX12_thingOf_0.2.2.2.2.2.2.2.2.2 rfl (lv_at1 hl) ?_
    refine lv_iload_n hx hb gX12_thingOf_1.1 rfl (lv_at2 hl) ?_
    refine lv_iload_n hx hb gX12_thingOf_1.2.1 rfl (lv_at3 hl) ?_
    refine lv_iconst (v := 1) hx hb gX12_thingOf_1.2.2.1 (by decide) ?_
    refine pV hC hK hl hP hD (m_lineOf l G h0 jv jl 1 nw nk mhasKept nt mtaped nr mrowMany mroundOf mroundFrom mouts nm mfromHour mtoHour ns mfrom mto msort misFault mdeep mcoded mlines nl nc nF np ntr nb mbestCost nso nsi nit nsh nsf nss nrc mtraced mdealer mnumber mwhose msize misParted fnw (hjv) (hjl) (by omega)) si_X12_193 [0, 1] sm_0_1 fm_0_1 nd_0_1 rfl rfl rfl rfl rfl (Nat.le_of_ble_eq_true rfl) rm_2_1_4 ⟨by first | exact Nat.le_of_ble_eq_true rfl | exact Nat.zero_le _, by first | exact Nat.le_of_ble_eq_true rfl | exact Nat.zero_le _⟩ gX12_thingOf_1.2.2.2.1 (Keqr ?_)
    refine eqi (x1 := nI (TNO LX9)) (f1.trans ((TNO.v hlb).1 (hsx.symm.trans ((nI_eq (b := 2) (by omega) (by decide)).mp c_10_7925)))) ?_
    refine lv_goto (tgt := 38) hx hb gX12_thingOf_1.2.2.2.2.1 (by decide) ?_
    refine toQ hQ0 ?_
    exact RP (v := nI (TNO LX9)) hC (⟨TNO LX9, ⟨rfl, TNO.lt hlb⟩, rfl⟩) rfl gX12_thingOf_2.2.2.2.2
def K_m_fromLineX (l : Launch) (G : GG) (kq : Nat) (LX9 : LNT) (T9 : List Int32) (S9 : HOP) (h0 : Nat) (jv : Nat) (jl : Nat) (je : Nat) (nw : Nat) (nk : Nat) (mhasKept : Int32) (nt : Nat) (mtaped : Int32) (nr : Nat) (mrowMany : Int32) (mroundOf : Int32) (mroundFrom : Int32) (nm : Nat) (mfromHour : Int32) (mtoHour : Int32) (ns : Nat) (mfrom : Int32) (mto : Int32) (msort : Int32) (misFault : Int32) (mdeep : Int32) (mcoded : Int32) (mlines : Int32) (nl : Nat) (nc : Nat) (nF : Nat) (np : Nat) (ntr : Nat) (nb : Nat) (mbestCost : Int32) (nso : Nat) (nsi : Nat) (nit : Nat) (nsh : Nat) (nsf : Nat) (nss : Nat) (nrc : Nat) (mtraced : Int32) (mdealer : Int32) (mnumber : Int32) (mwhose : Int32) (msize : Int32) (misParted : Int32) (fnw : Nat → Int32) (fns : Nat → Int32) (fnp : Nat → Int32) : Prop := MI l G yX12_fromLine cX12_fromLine 6 (some .int) 7 0 0 [.ref h0, .int (nI jv), .int (nI jl), .int (nI je)] [(h0, oX12 nw nk mhasKept nt mtaped nr mrowMany mroundOf mroundFrom 0 nm mfromHour mtoHour ns mfrom mto msort misFault mdeep mcoded mlines nl nc nF np ntr nb mbestCost nso nsi nit nsh nsf nss nrc mtraced mdealer mnumber mwhose msize misParted), (nw, iA G 1662 fnw), (ns, iA G 8 fns), (np, iA G 100 fnp)] (fun (r : Int32) (u : (Nat → Int32)) => (∃ (y9:Int32), (FLQ 100000 S9 (LVX LX9 (PLN (FAX (shf fnw 12) (shf fnw 32) (VSE fnw kq) kq je) T9 1 % 2 = 1)) y9) ∧ r = y9)) (fun u : (Nat → Int32) => [(h0, oX12 nw nk mhasKept nt mtaped nr mrowMany mroundOf mroundFrom 0 nm mfromHour mtoHour ns mfrom mto msort misFault mdeep mcoded mlines nl nc nF np ntr nb mbestCost nso nsi nit nsh nsf nss nrc mtraced mdealer mnumber mwhose msize misParted), (nw, iA G 1662 fnw), (ns, iA G 8 fns), (np, iA G 100 u)])
set_option maxHeartbeats 4000000 in
set_option maxRecDepth 100000 in
theorem m_fromLineX (l : Launch) (G : GG) (kq : Nat) (LX9 : LNT) (T9 : List Int32) (S9 : HOP) (h0 : Nat) (jv : Nat) (jl : Nat) (je : Nat) (nw : Nat) (nk : Nat) (mhasKept : Int32) (nt : Nat) (mtaped : Int32) (nr : Nat) (mrowMany : Int32) (mroundOf : Int32) (mroundFrom : Int32) (nm : Nat) (mfromHour : Int32) (mtoHour : Int32) (ns : Nat) (mfrom : Int32) (mto : Int32) (msort : Int32) (misFault : Int32) (mdeep : Int32) (mcoded : Int32) (mlines : Int32) (nl : Nat) (nc : Nat) (nF : Nat) (np : Nat) (ntr : Nat) (nb : Nat) (mbestCost : Int32) (nso : Nat) (nsi : Nat) (nit : Nat) (nsh : Nat) (nsf : Nat) (nss : Nat) (nrc : Nat) (mtraced : Int32) (mdealer : Int32) (mnumber : Int32) (mwhose : Int32) (msize : Int32) (misParted : Int32) (fnw : Nat → Int32) (fns : Nat → Int32) (fnp : Nat → Int32) (hjv : jv < 8) (hjl : jl < 9) (hln : LN fnw jv jl) (hLZ : LZM fnw jv jl LX9 T9) (hAR : ARS 100000 S9 fns) (hBD : HBD S9) (hje : je < 10) (hN : NI fnw) (ekq : fnw 5 = nI kq) (hkq : kq ≤ 12) : K_m_fromLineX l G kq LX9 T9 S9 h0 jv jl je nw nk mhasKept nt mtaped nr mrowMany mroundOf mroundFrom nm mfromHour mtoHour ns mfrom mto msort misFault mdeep mcoded mlines nl nc nF np ntr nb mbestCost nso nsi nit nsh nsf nss nrc mtraced mdealer mnumber mwhose msize misParted fnw fns fnp := by
  refine MI.start (by decide +kernel) (Nat.le_of_ble_eq_true rfl) ?_
  intro p e s m below meth c A ls hC hK hP hD hS hA hl
  refine absQ (fun Q0 hQ0 => ?_)
  have hl : lv_has ls 6 [(0, .ref h0), (1, .int (nI jv)), (2, .int (nI jl)), (3, .int (nI je))] := hl
  refine Kan8 hC (fun hx hb hr hml hB hown hlocks hnm => ?_)
  have hLZ0 := hLZ
  have hln0 := hln
  obtain ⟨⟨so, hso, e0, hAl, hBl⟩, -⟩ := hln
  obtain ⟨hlb, f0, f1, f2, f3, -⟩ := hLZ
  have hsx : so = LX9.1 := (nI_eq (by omega) (by have h9 := hlb.le; omega)).mp (e0.symm.trans f0)
  refine lv_aload_n hx hb gX12_fromLine_0.1 rfl (lv_at0 hl) ?_
  refine lv_iload_n hx hb gX12_fromLine_0.2.1 rfl (lv_at1 hl) ?_
  refine lv_iload_n hx hb gX12_fromLine_0.2.2.1 rfl (lv_at2 hl) ?_
  refine lv_iconst (v := 0) hx hb gX12_fromLine_0.2.2.2.1 (by decide) ?_
  refine pV hC hK hl hP hD (m_lineOf l G h0 jv jl 0 nw nk mhasKept nt mtaped nr mrowMany mroundOf mroundFrom 0 nm mfromHour mtoHour ns mfrom mto msort misFault mdeep mcoded mlines nl nc nF np ntr nb mbestCost nso nsi nit nsh nsf nss nrc mtraced mdealer mnumber mwhose msize misParted fnw (hjv) (hjl) (by omega)) si_X12_193 [0, 1] sm_0_1 fm_0_1 nd_0_1 rfl rfl rfl rfl rfl (Nat.le_of_ble_eq_true rfl) rm_7_1_4 ⟨by first | exact Nat.le_of_ble_eq_true rfl | exact Nat.zero_le _, by first | exact Nat.le_of_ble_eq_true rfl | exact Nat.zero_le _⟩ gX12_fromLine_0.2.2.2.2.1 (Keqr ?_)
  refine eqi (x1 := nI so) (e0) ?_
  refine lv_istore (lv' := [(4, .int (nI so)), (0, .ref h0), (1, .int (nI jv)), (2, .int (nI jl)), (3, .int (nI je))]) hx hb gX12_fromLine_0.2.2.2.2.2.1 hl (by decide) rfl (fun ls hl => ?_)
  refine lv_iload hx hb gX12_fromLine_0.2.2.2.2.2.2.1 (lv_at0 hl) ?_
  refine lv_if_eq (tgt := 20) hx hb gX12_fromLine_0.2.2.2.2.2.2.2.1 (by decide) (fun c_11_7933 => ?_) (fun c_11_7933 => ?_)
  · refine lv_aload_n hx hb gX12_fromLine_1.2.1 rfl (lv_at1 hl) ?_
    refine lv_iload_n hx hb gX12_fromLine_1.2.2.1 rfl (lv_at2 hl) ?_
    refine lv_iload_n hx hb gX12_fromLine_1.2.2.2.1 rfl (lv_at3 hl) ?_
    refine lv_iload_n hx hb gX12_fromLine_1.2.2.2.2.1 rfl (lv_at4 hl) ?_
    refine iV (wr := [(ns, iA G 8 fns)]) hC hK hl hP hD hS hA (m_holdsX l G kq LX9 T9 h0 jv jl je nw nk mhasKept nt mtaped nr mrowMany mroundOf mroundFrom nm mfromHour mtoHour ns mfrom mto msort misFault mdeep mcoded mlines nl nc nF np ntr nb mbestCost nso nsi nit nsh nsf nss nrc mtraced mdealer mnumber mwhose msize misParted fnw fnp (hjv) (hjl) (hln0) (hLZ0) (hje) (hN) (ekq) (hkq)) si_X12_196 [0, 1, 3] [2] sm_0_1_3 fm_0_1_3 nd_0_1_3 sm_2 nd_2 dj_0_1_3__2 rfl rfl rfl rfl rfl (Nat.le_of_ble_eq_true rfl) rm_7_6_12 ⟨Nat.le_of_ble_eq_true rfl, Nat.le_of_ble_eq_true rfl⟩ gX12_fromLine_1.2.2.2.2.2.1 (fun r7934 gnp7936 H locs hr7934 hP hD hS => ?_)
    try dsimp only at hr7934
    refine Kpdr (ws := [(ns, iA G 8 fns), (h0, oX12 nw nk mhasKept nt mtaped nr mrowMany mroundOf mroundFrom 0 nm mfromHour mtoHour ns mfrom mto msort misFault mdeep mcoded mlines nl nc nF np ntr nb mbestCost nso nsi nit nsh nsf nss nrc mtraced mdealer mnumber mwhose msize misParted), (nw, iA G 1662 fnw), (np, iA G 100 gnp7936)]) hP hD (fun hP hD => ?_)
    rcases hr7934 with ⟨rfl, a7937⟩ | ⟨rfl, a7937⟩
    · refine lv_if_ne (tgt := 33) hx hb gX12_fromLine_1.2.2.2.2.2.2.1 (by decide) (fun _ => ?_) (fun c9 => absurd c9 (by decide))
      obtain ⟨jj9, jc9, jw9, eL9, hc9, hw9, g1, g3⟩ := (LVX.mk hlb a7937).1 (hsx.symm.trans ((nI_eq (b := 0) (by omega) (by decide)).mp c_11_7933))
      have hn29 : ¬ nI so = 2 := fun h9 => absurd (c_11_7933.symm.trans h9) (by decide)
      refine lv_iload hx hb gX12_fromLine_1.2.2.2.2.2.2.2.2.2 (lv_at0 hl) ?_
      refine lv_iconst (v := 2) hx hb gX12_fromLine_2.1 (by decide) ?_
      refine lv_icmp_ne (tgt := 49) hx hb gX12_fromLine_2.2.1 (by decide) (fun _ => ?_) (fun c9 => absurd c9 (hn29))
      refine lv_aload_n hx hb gX12_fromLine_2.2.2.2.2.2.2.2.2.1 rfl (lv_at1 hl) ?_
      refine gf_X12_29 hC rfl hK hP 1 rfl rfl gX12_fromLine_2.2.2.2.2.2.2.2.2.2 ?_
      refine lv_aload_n hx hb gX12_fromLine_3.1 rfl (lv_at1 hl) ?_
      refine lv_iload_n hx hb gX12_fromLine_3.2.1 rfl (lv_at2 hl) ?_
      refine lv_iload_n hx hb gX12_fromLine_3.2.2.1 rfl (lv_at3 hl) ?_
      refine lv_iconst (v := 3) hx hb gX12_fromLine_3.2.2.2.1 (by decide) ?_
      refine pV hC hK hl hP hD (m_lineOf l G h0 jv jl 3 nw nk mhasKept nt mtaped nr mrowMany mroundOf mroundFrom 0 nm mfromHour mtoHour ns mfrom mto msort misFault mdeep mcoded mlines nl nc nF np ntr nb mbestCost nso nsi nit nsh nsf nss nrc mtraced mdealer mnumber mwhose msize misParted fnw (hjv) (hjl) (by omega)) si_X12_193 [1, 2] sm_1_2 fm_1_2 nd_1_2 rfl rfl rfl rfl rfl (Nat.le_of_ble_eq_true rfl) rm_7_1_4 ⟨by first | exact Nat.le_of_ble_eq_true rfl | exact Nat.zero_le _, by first | exact Nat.le_of_ble_eq_true rfl | exact Nat.zero_le _⟩ gX12_fromLine_3.2.2.2.2.1 (Keqr ?_)
      refine eqi (x1 := nI jc9) (f3.trans g3) ?_
      refine aldN hC hK hP 0 rfl (k := jc9) (by omega) (Nat.le_of_ble_eq_true rfl) (v := fns jc9) rfl gX12_fromLine_3.2.2.2.2.2.1 ?_
      refine lv_istore (lv' := [(5, .int (fns jc9)), (4, .int (nI so)), (0, .ref h0), (1, .int (nI jv)), (2, .int (nI jl)), (3, .int (nI je))]) hx hb gX12_fromLine_3.2.2.2.2.2.2.1 hl (by decide) rfl (fun ls hl => ?_)
      refine lv_iload hx hb gX12_fromLine_3.2.2.2.2.2.2.2.1 (lv_at1 hl) ?_
      refine lv_iconst (v := 2) hx hb gX12_fromLine_3.2.2.2.2.2.2.2.2.1 (by decide) ?_
      refine lv_icmp_eq (tgt := 76) hx hb gX12_fromLine_3.2.2.2.2.2.2.2.2.2 (by decide) (fun c9 => absurd c9 (hn29)) (fun _ => ?_)
      refine lv_iload hx hb gX12_fromLine_4.1 (lv_at0 hl) ?_
      refine lv_ldc hx hb hown (hB _ m_1204) gX12_fromLine_4.2.1 ?_
      refine lv_icmp_ne (tgt := 81) hx hb gX12_fromLine_4.2.2.1 (by decide) (fun c_73_7940 => ?_) (fun c_73_7940 => ?_)
      · refine lv_iload hx hb gX12_fromLine_4.2.2.2.2.2.1 (lv_at0 hl) ?_
        refine lv_aload_n hx hb gX12_fromLine_4.2.2.2.2.2.2.1 rfl (lv_at2 hl) ?_
        refine lv_iload_n hx hb gX12_fromLine_4.2.2.2.2.2.2.2.1 rfl (lv_at3 hl) ?_
        refine lv_iload_n hx hb gX12_fromLine_4.2.2.2.2.2.2.2.2.1 rfl (lv_at4 hl) ?_
        refine lv_iconst (v := 1) hx hb gX12_fromLine_4.2.2.2.2.2.2.2.2.2 (by decide) ?_
        refine pV hC hK hl hP hD (m_lineOf l G h0 jv jl 1 nw nk mhasKept nt mtaped nr mrowMany mroundOf mroundFrom 0 nm mfromHour mtoHour ns mfrom mto msort misFault mdeep mcoded mlines nl nc nF np ntr nb mbestCost nso nsi nit nsh nsf nss nrc mtraced mdealer mnumber mwhose msize misParted fnw (hjv) (hjl) (by omega)) si_X12_193 [1, 2] sm_1_2 fm_1_2 nd_1_2 rfl rfl rfl rfl rfl (Nat.le_of_ble_eq_true rfl) rm_7_1_4 ⟨by first | exact Nat.le_of_ble_eq_true rfl | exact Nat.zero_le _, by first | exact Nat.le_of_ble_eq_true rfl | exact Nat.zero_le _⟩ gX12_fromLine_5.1 (Keqr ?_)
        refine eqi (x1 := nI jw9) (f1.trans g1) ?_
        refine lv_iadd hx hb gX12_fromLine_5.2.1 ?_
        refine toQ hQ0 ?_
        exact RI (v := (fns jc9) + (nI jw9)) hC hP hD hS [1, 2, 0, 3] gnp7936 rfl rfl (by decide) (⟨_, FLQ.sm eL9 hAR hBD hc9 (by decide) c_73_7940 hw9, rfl⟩) rfl gX12_fromLine_5.2.2
      · refine lv_iload hx hb gX12_fromLine_4.2.2.2.1 (lv_at0 hl) ?_
        refine lv_goto (tgt := 91) hx hb gX12_fromLine_4.2.2.2.2.1 (by decide) ?_
        refine toQ hQ0 ?_
        exact RI (v := fns jc9) hC hP hD hS [1, 2, 0, 3] gnp7936 rfl rfl (by decide) (⟨_, FLQ.nv eL9 hAR hBD hc9 (by decide) c_73_7940, rfl⟩) rfl gX12_fromLine_5.2.2
    · refine lv_if_ne (tgt := 33) hx hb gX12_fromLine_1.2.2.2.2.2.2.1 (by decide) (fun c9 => absurd (by decide) c9) (fun _ => ?_)
      refine lv_ldc hx hb hown (hB _ m_1204) gX12_fromLine_1.2.2.2.2.2.2.2.1 ?_
      refine toQ hQ0 ?_
      exact RI (v := 100000) hC hP hD hS [1, 2, 0, 3] gnp7936 rfl rfl (by decide) (⟨_, Or.inl ⟨LVX.n a7937, rfl⟩, rfl⟩) rfl gX12_fromLine_1.2.2.2.2.2.2.2.2.1
  · refine lv_iload hx hb gX12_fromLine_0.2.2.2.2.2.2.2.2.1 (lv_at0 hl) ?_
    refine lv_iconst (v := 2) hx hb gX12_fromLine_0.2.2.2.2.2.2.2.2.2 (by decide) ?_
    refine lv_icmp_ne (tgt := 30) hx hb gX12_fromLine_1.1 (by decide) (fun c_17_7943 => ?_) (fun c_17_7943 => ?_)
    · refine lv_ldc hx hb hown (hB _ m_1204) gX12_fromLine_1.2.2.2.2.2.2.2.1 ?_
      refine toQ hQ0 ?_
      exact RI (v := 100000) hC hP hD hS [0, 1, 2, 3] fnp rfl rfl (by decide) (⟨_, Or.inl ⟨LVX.w (fun h9 => c_11_7933 (congrArg nI (hsx.trans h9))) (fun h9 => c_17_7943 (congrArg nI (hsx.trans h9))), rfl⟩, rfl⟩) rfl gX12_fromLine_1.2.2.2.2.2.2.2.2.1
    · refine lv_aload_n hx hb gX12_fromLine_1.2.1 rfl (lv_at1 hl) ?_
      refine lv_iload_n hx hb gX12_fromLine_1.2.2.1 rfl (lv_at2 hl) ?_
      refine lv_iload_n hx hb gX12_fromLine_1.2.2.2.1 rfl (lv_at3 hl) ?_
      refine lv_iload_n hx hb gX12_fromLine_1.2.2.2.2.1 rfl (lv_at4 hl) ?_
      refine iV (wr := [(ns, iA G 8 fns)]) hC hK hl hP hD hS hA (m_holdsX l G kq LX9 T9 h0 jv jl je nw nk mhasKept nt mtaped nr mrowMany mroundOf mroundFrom nm mfromHour mtoHour ns mfrom mto msort misFault mdeep mcoded mlines nl nc nF np ntr nb mbestCost nso nsi nit nsh nsf nss nrc mtraced mdealer mnumber mwhose msize misParted fnw fnp (hjv) (hjl) (hln0) (hLZ0) (hje) (hN) (ekq) (hkq)) si_X12_196 [0, 1, 3] [2] sm_0_1_3 fm_0_1_3 nd_0_1_3 sm_2 nd_2 dj_0_1_3__2 rfl rfl rfl rfl rfl (Nat.le_of_ble_eq_true rfl) rm_7_6_12 ⟨Nat.le_of_ble_eq_true rfl, Nat.le_of_ble_eq_true rfl⟩ gX12_fromLine_1.2.2.2.2.2.1 (fun r7944 gnp7946 H locs hr7944 hP hD hS => ?_)
      try dsimp only at hr7944
      refine Kpdr (ws := [(ns, iA G 8 fns), (h0, oX12 nw nk mhasKept nt mtaped nr mrowMany mroundOf mroundFrom 0 nm mfromHour mtoHour ns mfrom mto msort misFault mdeep mcoded mlines nl nc nF np ntr nb mbestCost nso nsi nit nsh nsf nss nrc mtraced mdealer mnumber mwhose msize misParted), (nw, iA G 1662 fnw), (np, iA G 100 gnp7946)]) hP hD (fun hP hD => ?_)
      rcases hr7944 with ⟨rfl, a7947⟩ | ⟨rfl, a7947⟩
      · refine lv_if_ne (tgt := 33) hx hb gX12_fromLine_1.2.2.2.2.2.2.1 (by decide) (fun _ => ?_) (fun c9 => absurd c9 (by decide))
        obtain ⟨jj9, jw9, eL9, hw9, g9⟩ := (LVX.mk hlb a7947).2 (hsx.symm.trans ((nI_eq (b := 2) (by omega) (by decide)).mp c_17_7943))
        refine lv_iload hx hb gX12_fromLine_1.2.2.2.2.2.2.2.2.2 (lv_at0 hl) ?_
        refine lv_iconst (v := 2) hx hb gX12_fromLine_2.1 (by decide) ?_
        refine lv_icmp_ne (tgt := 49) hx hb gX12_fromLine_2.2.1 (by decide) (fun c9 => absurd (c_17_7943) c9) (fun _ => ?_)
        refine lv_aload_n hx hb gX12_fromLine_2.2.2.1 rfl (lv_at1 hl) ?_
        refine lv_iload_n hx hb gX12_fromLine_2.2.2.2.1 rfl (lv_at2 hl) ?_
        refine lv_iload_n hx hb gX12_fromLine_2.2.2.2.2.1 rfl (lv_at3 hl) ?_
        refine lv_iconst (v := 2) hx hb gX12_fromLine_2.2.2.2.2.2.1 (by decide) ?_
        refine pV hC hK hl hP hD (m_lineOf l G h0 jv jl 2 nw nk mhasKept nt mtaped nr mrowMany mroundOf mroundFrom 0 nm mfromHour mtoHour ns mfrom mto msort misFault mdeep mcoded mlines nl nc nF np ntr nb mbestCost nso nsi nit nsh nsf nss nrc mtraced mdealer mnumber mwhose msize misParted fnw (hjv) (hjl) (by omega)) si_X12_193 [1, 2] sm_1_2 fm_1_2 nd_1_2 rfl rfl rfl rfl rfl (Nat.le_of_ble_eq_true rfl) rm_7_1_4 ⟨by first | exact Nat.le_of_ble_eq_true rfl | exact Nat.zero_le _, by first | exact Nat.le_of_ble_eq_true rfl | exact Nat.zero_le _⟩ gX12_fromLine_2.2.2.2.2.2.2.1 (Keqr ?_)
        refine eqi (x1 := nI jw9) (f2.trans g9) ?_
        refine lv_goto (tgt := 61) hx hb gX12_fromLine_2.2.2.2.2.2.2.2.1 (by decide) ?_
        refine lv_istore (lv' := [(5, .int (nI jw9)), (4, .int (nI so)), (0, .ref h0), (1, .int (nI jv)), (2, .int (nI jl)), (3, .int (nI je))]) hx hb gX12_fromLine_3.2.2.2.2.2.2.1 hl (by decide) rfl (fun ls hl => ?_)
        refine lv_iload hx hb gX12_fromLine_3.2.2.2.2.2.2.2.1 (lv_at1 hl) ?_
        refine lv_iconst (v := 2) hx hb gX12_fromLine_3.2.2.2.2.2.2.2.2.1 (by decide) ?_
        refine lv_icmp_eq (tgt := 76) hx hb gX12_fromLine_3.2.2.2.2.2.2.2.2.2 (by decide) (fun _ => ?_) (fun c9 => absurd (c_17_7943) c9)
        refine lv_iload hx hb gX12_fromLine_4.2.2.2.1 (lv_at0 hl) ?_
        refine lv_goto (tgt := 91) hx hb gX12_fromLine_4.2.2.2.2.1 (by decide) ?_
        refine toQ hQ0 ?_
        exact RI (v := nI jw9) hC hP hD hS [1, 2, 0, 3] gnp7946 rfl rfl (by decide) (⟨_, FLQ.ask eL9 hw9, rfl⟩) rfl gX12_fromLine_5.2.2
      · refine lv_if_ne (tgt := 33) hx hb gX12_fromLine_1.2.2.2.2.2.2.1 (by decide) (fun c9 => absurd (by decide) c9) (fun _ => ?_)
        refine lv_ldc hx hb hown (hB _ m_1204) gX12_fromLine_1.2.2.2.2.2.2.2.1 ?_
        refine toQ hQ0 ?_
        exact RI (v := 100000) hC hP hD hS [1, 2, 0, 3] gnp7946 rfl rfl (by decide) (⟨_, Or.inl ⟨LVX.n a7947, rfl⟩, rfl⟩) rfl gX12_fromLine_1.2.2.2.2.2.2.2.2.1
def K_m_knewByX (l : Launch) (G : GG) (kq : Nat) (k6 : Nat) (h0 : Nat) (je : Nat) (jt : Nat) (su : Int32) (nw : Nat) (nk : Nat) (mhasKept : Int32) (nt : Nat) (mtaped : Int32) (nr : Nat) (mrowMany : Int32) (mroundOf : Int32) (mroundFrom : Int32) (nm : Nat) (mfromHour : Int32) (mtoHour : Int32) (ns : Nat) (mfrom : Int32) (mto : Int32) (msort : Int32) (misFault : Int32) (mdeep : Int32) (mcoded : Int32) (mlines : Int32) (nl : Nat) (nc : Nat) (nF : Nat) (np : Nat) (ntr : Nat) (nb : Nat) (mbestCost : Int32) (nso : Nat) (nsi : Nat) (nit : Nat) (nsh : Nat) (nsf : Nat) (nss : Nat) (nrc : Nat) (mtraced : Int32) (mdealer : Int32) (mnumber : Int32) (mwhose : Int32) (msize : Int32) (misParted : Int32) (fnw : Nat → Int32) (fnm : Nat → Int32) : Prop := MI l G yX12_knewBy cX12_knewBy 7 (some .int) 5 0 0 [.ref h0, .int (nI je), .int (nI jt), .int su] [(h0, oX12 nw nk mhasKept nt mtaped nr mrowMany mroundOf mroundFrom 0 nm mfromHour mtoHour ns mfrom mto msort misFault mdeep mcoded mlines nl nc nF np ntr nb mbestCost nso nsi nit nsh nsf nss nrc mtraced mdealer mnumber mwhose msize misParted), (nw, iA G 1662 fnw), (nm, iA G 36 fnm)] (fun (r : Int32) (u : Int32 × Int32 × (Nat → Int32)) => (∃ (r9:Int32), (ARV 100000 (TOF (TCD (KST (shf fnw 104) (VSE fnw kq) (fnw 3).toInt k6) (shf fnw 104) (VSE fnw kq) (shf fnw 32) (shf fnw 12) k6 kq je su jt)) r9) ∧ r = r9) ∧ (MB u.2.2)) (fun u : Int32 × Int32 × (Nat → Int32) => [(h0, oX12 nw nk mhasKept nt mtaped nr mrowMany mroundOf mroundFrom 0 nm u.1 u.2.1 ns mfrom mto msort misFault mdeep mcoded mlines nl nc nF np ntr nb mbestCost nso nsi nit nsh nsf nss nrc mtraced mdealer mnumber mwhose msize misParted), (nw, iA G 1662 fnw), (nm, iA G 36 u.2.2)])
set_option maxHeartbeats 4000000 in
set_option maxRecDepth 100000 in
theorem m_knewByX (l : Launch) (G : GG) (kq : Nat) (k6 : Nat) (h0 : Nat) (je : Nat) (jt : Nat) (su : Int32) (nw : Nat) (nk : Nat) (mhasKept : Int32) (nt : Nat) (mtaped : Int32) (nr : Nat) (mrowMany : Int32) (mroundOf : Int32) (mroundFrom : Int32) (nm : Nat) (mfromHour : Int32) (mtoHour : Int32) (ns : Nat) (mfrom : Int32) (mto : Int32) (msort : Int32) (misFault : Int32) (mdeep : Int32) (mcoded : Int32) (mlines : Int32) (nl : Nat) (nc : Nat) (nF : Nat) (np : Nat) (ntr : Nat) (nb : Nat) (mbestCost : Int32) (nso : Nat) (nsi : Nat) (nit : Nat) (nsh : Nat) (nsf : Nat) (nss : Nat) (nrc : Nat) (mtraced : Int32) (mdealer : Int32) (mnumber : Int32) (mwhose : Int32) (msize : Int32) (misParted : Int32) (fnw : Nat → Int32) (fnm : Nat → Int32) (hM : MB fnm) (hN : NI fnw) (hgp : GPRm (fnw 3)) (ekq : fnw 5 = nI kq) (hkq : kq ≤ 12) (e6 : fnw 6 = nI k6) (hk6 : k6 ≤ 24) (hje : je < 10) (hjt : jt < 8) : K_m_knewByX l G kq k6 h0 je jt su nw nk mhasKept nt mtaped nr mrowMany mroundOf mroundFrom nm mfromHour mtoHour ns mfrom mto msort misFault mdeep mcoded mlines nl nc nF np ntr nb mbestCost nso nsi nit nsh nsf nss nrc mtraced mdealer mnumber mwhose msize misParted fnw fnm := by
  refine MI.start (by decide +kernel) (Nat.le_of_ble_eq_true rfl) ?_
  intro p e s m below meth c A ls hC hK hP hD hS hA hl
  refine absQ (fun Q0 hQ0 => ?_)
  have hl : lv_has ls 7 [(0, .ref h0), (1, .int (nI je)), (2, .int (nI jt)), (3, .int su)] := hl
  refine Kan8 hC (fun hx hb hr hml hB hown hlocks hnm => ?_)
  refine lv_aload_n hx hb gX12_knewBy_0.1 rfl (lv_at0 hl) ?_
  refine iV (wr := []) hC hK hl hP hD hS hA (m_findClocksX l G kq k6 h0 nw nk mhasKept nt mtaped nr mrowMany mroundOf mroundFrom nm mfromHour mtoHour ns mfrom mto msort misFault mdeep mcoded mlines nl nc nF np ntr nb mbestCost nso nsi nit nsh nsf nss nrc mtraced mdealer mnumber mwhose msize misParted fnw fnm (hN) (hgp) (ekq) (hkq) (e6) (hk6)) si_X12_148 [0, 1, 2] [] sm_0_1_2 fm_0_1_2 nd_0_1_2 rfl rfl (by decide) rfl rfl rfl rfl rfl (Nat.le_of_ble_eq_true rfl) rm_5_4_7 ⟨Nat.le_of_ble_eq_true rfl, Nat.le_of_ble_eq_true rfl⟩ gX12_knewBy_0.2.1 (fun r7950 gnm7952 H locs hr7950 hP hD hS => ?_)
  try dsimp only at hr7950
  refine Kpdr (ws := [(h0, oX12 nw nk mhasKept nt mtaped nr mrowMany mroundOf mroundFrom 0 nm mfromHour mtoHour ns mfrom mto msort misFault mdeep mcoded mlines nl nc nF np ntr nb mbestCost nso nsi nit nsh nsf nss nrc mtraced mdealer mnumber mwhose msize misParted), (nw, iA G 1662 fnw), (nm, iA G 36 gnm7952)]) hP hD (fun hP hD => ?_)
  obtain ⟨hr7950, w7953⟩ := hr7950
  rcases hr7950 with ⟨rfl, a7954⟩ | ⟨rfl, a7954⟩
  · refine lv_istore (lv' := [(4, .int 1), (0, .ref h0), (1, .int (nI je)), (2, .int (nI jt)), (3, .int su)]) hx hb gX12_knewBy_0.2.2.1 hl (by decide) rfl (fun ls hl => ?_)
    refine lv_ldc hx hb hown (hB _ m_1204) gX12_knewBy_0.2.2.2.1 ?_
    refine lv_istore (lv' := [(5, .int 100000), (4, .int 1), (0, .ref h0), (1, .int (nI je)), (2, .int (nI jt)), (3, .int su)]) hx hb gX12_knewBy_0.2.2.2.2.1 hl (by decide) rfl (fun ls hl => ?_)
    refine lv_iconst (v := 0) hx hb gX12_knewBy_0.2.2.2.2.2.1 (by decide) ?_
    refine lv_istore (lv' := [(6, .int 0), (5, .int 100000), (4, .int 1), (0, .ref h0), (1, .int (nI je)), (2, .int (nI jt)), (3, .int su)]) hx hb gX12_knewBy_0.2.2.2.2.2.2.1 hl (by decide) rfl (fun ls hl => ?_)
    have hsl9 : 0 ≤ (shf fnw 12 (je * 2 + 1)).toInt ∧ (shf fnw 12 (je * 2 + 1)).toInt ≤ 48 := NI.slow hN (by omega)
    have keyP : ∀ (nP kP : Nat) (be : Int32) (vfh : Int32) (vth : Int32) (H : Heap) (locs : List Loc) (ls : Array Slot), kP + nP = kq → (LST9 (TCD (KST (shf fnw 104) (VSE fnw kq) (fnw 3).toInt k6) (shf fnw 104) (VSE fnw kq) (shf fnw 32) (shf fnw 12) k6 kP je su jt) 100000 be) → va_PD G A [(h0, oX12 nw nk mhasKept nt mtaped nr mrowMany mroundOf mroundFrom 0 nm vfh vth ns mfrom mto msort misFault mdeep mcoded mlines nl nc nF np ntr nb mbestCost nso nsi nit nsh nsf nss nrc mtraced mdealer mnumber mwhose msize misParted), (nw, iA G 1662 fnw), (nm, iA G 36 gnm7952)] H → va_S A s.heap H locs → lv_has ls 7 [(6, .int (nI kP)), (5, .int be), (4, .int 1), (0, .ref h0), (1, .int (nI je)), (2, .int (nI jt)), (3, .int su)] → W p l e (RM 5 0 0) s m ([.ref h0, .int (nI je), .int (nI jt), .int su] : List Value).toArray below meth c H locs 0 0 Q0 (F0 m 13 ls []) := by
      intro nP
      induction nP with
      | zero =>
        intro kP be vfh vth H locs ls hkP hle hPD hS hl
        refine Kan2 hPD (fun hP hD => ?_)
        obtain rfl : kq = kP := by omega
        have hl : lv_has ls 7 [(6, .int (nI kq)), (5, .int be), (4, .int 1), (0, .ref h0), (1, .int (nI je)), (2, .int (nI jt)), (3, .int su)] := hl
        refine lv_iload hx hb gX12_knewBy_0.2.2.2.2.2.2.2.1 (lv_at0 hl) ?_
        refine lv_aload_n hx hb gX12_knewBy_0.2.2.2.2.2.2.2.2.1 rfl (lv_at3 hl) ?_
        refine gf_X12_9 hC rfl hK hP 0 rfl rfl gX12_knewBy_0.2.2.2.2.2.2.2.2.2 ?_
        refine lv_iconst (v := 5) hx hb gX12_knewBy_1.1 (by decide) ?_
        refine ald hC hK hP 1 rfl (vin (by decide +kernel)) (k := 5) (by decide +kernel) (v := nI kq) (ekq) gX12_knewBy_1.2.1 ?_
        refine lv_icmp_ge (tgt := 78) hx hb gX12_knewBy_1.2.2.1 (by decide) (fun _ => ?_) (fun c9 => absurd (Int32.le_refl _) c9)
        refine lv_iload hx hb gX12_knewBy_3.2.2.2.2.2.2.2.2.1 (lv_at1 hl) ?_
        refine toQ hQ0 ?_
        exact RI (v := be) hC hP hD hS [0, 1, 2] (vfh, vth, gnm7952) rfl rfl (by decide) (⟨⟨_, LST9.tof hle, rfl⟩, by first | assumption | exact hM⟩) rfl gX12_knewBy_3.2.2.2.2.2.2.2.2.2
      | succ nP ihP =>
        intro kP be vfh vth H locs ls hkP hle hPD hS hl
        refine Kan2 hPD (fun hP hD => ?_)
        refine lv_iload hx hb gX12_knewBy_0.2.2.2.2.2.2.2.1 (lv_at0 hl) ?_
        refine lv_aload_n hx hb gX12_knewBy_0.2.2.2.2.2.2.2.2.1 rfl (lv_at3 hl) ?_
        refine gf_X12_9 hC rfl hK hP 0 rfl rfl gX12_knewBy_0.2.2.2.2.2.2.2.2.2 ?_
        refine lv_iconst (v := 5) hx hb gX12_knewBy_1.1 (by decide) ?_
        refine ald hC hK hP 1 rfl (vin (by decide +kernel)) (k := 5) (by decide +kernel) (v := nI kq) (ekq) gX12_knewBy_1.2.1 ?_
        refine lv_icmp_ge (tgt := 78) hx hb gX12_knewBy_1.2.2.1 (by decide) (fun c9 => absurd c9 (nI_ge (a := kP) (b := kq) (by omega) (by omega))) (fun _ => ?_)
        refine lv_aload_n hx hb gX12_knewBy_1.2.2.2.1 rfl (lv_at3 hl) ?_
        refine lv_iload hx hb gX12_knewBy_1.2.2.2.2.1 (lv_at0 hl) ?_
        refine lv_iconst (v := 2) hx hb gX12_knewBy_1.2.2.2.2.2.1 (by decide) ?_
        refine pV hC hK hl hP hD (m_paper l G h0 kP 2 nw nk mhasKept nt mtaped nr mrowMany mroundOf mroundFrom 0 nm vfh vth ns mfrom mto msort misFault mdeep mcoded mlines nl nc nF np ntr nb mbestCost nso nsi nit nsh nsf nss nrc mtraced mdealer mnumber mwhose msize misParted fnw (by omega) (by omega)) si_X12_88 [0, 1] sm_0_1 fm_0_1 nd_0_1 rfl rfl rfl rfl rfl (Nat.le_of_ble_eq_true rfl) rm_5_1_3 ⟨by first | exact Nat.le_of_ble_eq_true rfl | exact Nat.zero_le _, by first | exact Nat.le_of_ble_eq_true rfl | exact Nat.zero_le _⟩ gX12_knewBy_1.2.2.2.2.2.2.1 (Keqr ?_)
        refine lv_iload_n hx hb gX12_knewBy_1.2.2.2.2.2.2.2.1 rfl (lv_at5 hl) ?_
        refine pS hC hK hl (m_has l G (fnw (32 + 6 * kP + 2)) (nI jt)) si_X12_99 rfl rfl (Nat.le_of_ble_eq_true rfl) rm_5_1_2 ⟨by first | exact Nat.le_of_ble_eq_true rfl | exact Nat.zero_le _, by first | exact Nat.le_of_ble_eq_true rfl | exact Nat.zero_le _⟩ gX12_knewBy_1.2.2.2.2.2.2.2.2.1 (Kors (Keqa fun a7958 => ?_) (Keqa fun a7958 => ?_))
        · refine lv_if_eq (tgt := 72) hx hb gX12_knewBy_1.2.2.2.2.2.2.2.2.2 (by decide) (fun c9 => absurd c9 (by decide)) (fun _ => ?_)
          refine lv_aload_n hx hb gX12_knewBy_2.1 rfl (lv_at3 hl) ?_
          refine lv_iload hx hb gX12_knewBy_2.2.1 (lv_at0 hl) ?_
          refine lv_iload_n hx hb gX12_knewBy_2.2.2.1 rfl (lv_at4 hl) ?_
          refine lv_iload hx hb gX12_knewBy_2.2.2.2.1 (lv_at2 hl) ?_
          refine pV hC hK hl hP hD (m_inHandC l G k6 h0 kP je nw nk mhasKept nt mtaped nr mrowMany mroundOf mroundFrom 0 nm vfh vth ns mfrom mto msort misFault mdeep mcoded mlines nl nc nF np ntr nb mbestCost nso nsi nit nsh nsf nss nrc mtraced mdealer mnumber mwhose msize misParted fnw (e6) (hk6) (by omega)) si_X12_171 [0, 1] sm_0_1 fm_0_1 nd_0_1 rfl rfl rfl rfl rfl (Nat.le_of_ble_eq_true rfl) rm_5_4_4 ⟨by first | exact Nat.le_of_ble_eq_true rfl | exact Nat.zero_le _, by first | exact Nat.le_of_ble_eq_true rfl | exact Nat.zero_le _⟩ gX12_knewBy_2.2.2.2.2.1 (Keqr ?_)
          refine lv_if_eq (tgt := 72) hx hb gX12_knewBy_2.2.2.2.2.2.1 (by decide) (fun _ => ?_) (fun c9 => absurd (by decide) c9)
          refine lv_iinc (v := nI (kP + 1)) (lv' := [(6, .int (nI (kP + 1))), (5, .int be), (4, .int 1), (0, .ref h0), (1, .int (nI je)), (2, .int (nI jt)), (3, .int su)]) hx hb gX12_knewBy_3.2.2.2.2.2.2.1 hl (k := 0) rfl (nI_1 _) (by decide) rfl (fun ls hl => ?_)
          refine lv_goto (tgt := 13) hx hb gX12_knewBy_3.2.2.2.2.2.2.2.1 (by decide) ?_
          have hst9 : LST9 (TCD (KST (shf fnw 104) (VSE fnw kq) (fnw 3).toInt k6) (shf fnw 104) (VSE fnw kq) (shf fnw 32) (shf fnw 12) k6 (kP + 1) je su jt) 100000 be := hle.sk (TC1.n2 (Or.inl a7954))
          exact ihP (kP + 1) be vfh vth _ _ _ (by omega) (by first | assumption | exact Or.inl rfl | exact Or.inr rfl | exact LST9.zero) (And.intro hP hD) hS (lv_sub hl [0, 1, 2, 3, 4, 5, 6] rfl)
        · refine lv_if_eq (tgt := 72) hx hb gX12_knewBy_1.2.2.2.2.2.2.2.2.2 (by decide) (fun _ => ?_) (fun c9 => absurd (by decide) c9)
          refine lv_iinc (v := nI (kP + 1)) (lv' := [(6, .int (nI (kP + 1))), (5, .int be), (4, .int 1), (0, .ref h0), (1, .int (nI je)), (2, .int (nI jt)), (3, .int su)]) hx hb gX12_knewBy_3.2.2.2.2.2.2.1 hl (k := 0) rfl (nI_1 _) (by decide) rfl (fun ls hl => ?_)
          refine lv_goto (tgt := 13) hx hb gX12_knewBy_3.2.2.2.2.2.2.2.1 (by decide) ?_
          have hst9 : LST9 (TCD (KST (shf fnw 104) (VSE fnw kq) (fnw 3).toInt k6) (shf fnw 104) (VSE fnw kq) (shf fnw 32) (shf fnw 12) k6 (kP + 1) je su jt) 100000 be := hle.sk (TC1.n1 (THM.no a7958))
          exact ihP (kP + 1) be vfh vth _ _ _ (by omega) (by first | assumption | exact Or.inl rfl | exact Or.inr rfl | exact LST9.zero) (And.intro hP hD) hS (lv_sub hl [0, 1, 2, 3, 4, 5, 6] rfl)
    exact keyP kq 0 100000 mfromHour mtoHour _ _ _ (by omega) (by first | assumption | exact Or.inl rfl | exact Or.inr rfl | exact LST9.zero) (And.intro hP hD) hS (lv_sub hl [0, 1, 2, 3, 4, 5, 6] rfl)
  · refine lv_istore (lv' := [(4, .int 0), (0, .ref h0), (1, .int (nI je)), (2, .int (nI jt)), (3, .int su)]) hx hb gX12_knewBy_0.2.2.1 hl (by decide) rfl (fun ls hl => ?_)
    refine lv_ldc hx hb hown (hB _ m_1204) gX12_knewBy_0.2.2.2.1 ?_
    refine lv_istore (lv' := [(5, .int 100000), (4, .int 0), (0, .ref h0), (1, .int (nI je)), (2, .int (nI jt)), (3, .int su)]) hx hb gX12_knewBy_0.2.2.2.2.1 hl (by decide) rfl (fun ls hl => ?_)
    refine lv_iconst (v := 0) hx hb gX12_knewBy_0.2.2.2.2.2.1 (by decide) ?_
    refine lv_istore (lv' := [(6, .int 0), (5, .int 100000), (4, .int 0), (0, .ref h0), (1, .int (nI je)), (2, .int (nI jt)), (3, .int su)]) hx hb gX12_knewBy_0.2.2.2.2.2.2.1 hl (by decide) rfl (fun ls hl => ?_)
    have hsl9 : 0 ≤ (shf fnw 12 (je * 2 + 1)).toInt ∧ (shf fnw 12 (je * 2 + 1)).toInt ≤ 48 := NI.slow hN (by omega)
    have keyP : ∀ (nP kP : Nat) (be : Int32) (vfh : Int32) (vth : Int32) (H : Heap) (locs : List Loc) (ls : Array Slot), kP + nP = kq → (LST9 (TCD (KST (shf fnw 104) (VSE fnw kq) (fnw 3).toInt k6) (shf fnw 104) (VSE fnw kq) (shf fnw 32) (shf fnw 12) k6 kP je su jt) 100000 be) → va_PD G A [(h0, oX12 nw nk mhasKept nt mtaped nr mrowMany mroundOf mroundFrom 0 nm vfh vth ns mfrom mto msort misFault mdeep mcoded mlines nl nc nF np ntr nb mbestCost nso nsi nit nsh nsf nss nrc mtraced mdealer mnumber mwhose msize misParted), (nw, iA G 1662 fnw), (nm, iA G 36 gnm7952)] H → va_S A s.heap H locs → lv_has ls 7 [(6, .int (nI kP)), (5, .int be), (4, .int 0), (0, .ref h0), (1, .int (nI je)), (2, .int (nI jt)), (3, .int su)] → W p l e (RM 5 0 0) s m ([.ref h0, .int (nI je), .int (nI jt), .int su] : List Value).toArray below meth c H locs 0 0 Q0 (F0 m 13 ls []) := by
      intro nP
      induction nP with
      | zero =>
        intro kP be vfh vth H locs ls hkP hle hPD hS hl
        refine Kan2 hPD (fun hP hD => ?_)
        obtain rfl : kq = kP := by omega
        have hl : lv_has ls 7 [(6, .int (nI kq)), (5, .int be), (4, .int 0), (0, .ref h0), (1, .int (nI je)), (2, .int (nI jt)), (3, .int su)] := hl
        refine lv_iload hx hb gX12_knewBy_0.2.2.2.2.2.2.2.1 (lv_at0 hl) ?_
        refine lv_aload_n hx hb gX12_knewBy_0.2.2.2.2.2.2.2.2.1 rfl (lv_at3 hl) ?_
        refine gf_X12_9 hC rfl hK hP 0 rfl rfl gX12_knewBy_0.2.2.2.2.2.2.2.2.2 ?_
        refine lv_iconst (v := 5) hx hb gX12_knewBy_1.1 (by decide) ?_
        refine ald hC hK hP 1 rfl (vin (by decide +kernel)) (k := 5) (by decide +kernel) (v := nI kq) (ekq) gX12_knewBy_1.2.1 ?_
        refine lv_icmp_ge (tgt := 78) hx hb gX12_knewBy_1.2.2.1 (by decide) (fun _ => ?_) (fun c9 => absurd (Int32.le_refl _) c9)
        refine lv_iload hx hb gX12_knewBy_3.2.2.2.2.2.2.2.2.1 (lv_at1 hl) ?_
        refine toQ hQ0 ?_
        exact RI (v := be) hC hP hD hS [0, 1, 2] (vfh, vth, gnm7952) rfl rfl (by decide) (⟨⟨_, LST9.tof hle, rfl⟩, by first | assumption | exact hM⟩) rfl gX12_knewBy_3.2.2.2.2.2.2.2.2.2
      | succ nP ihP =>
        intro kP be vfh vth H locs ls hkP hle hPD hS hl
        refine Kan2 hPD (fun hP hD => ?_)
        refine lv_iload hx hb gX12_knewBy_0.2.2.2.2.2.2.2.1 (lv_at0 hl) ?_
        refine lv_aload_n hx hb gX12_knewBy_0.2.2.2.2.2.2.2.2.1 rfl (lv_at3 hl) ?_
        refine gf_X12_9 hC rfl hK hP 0 rfl rfl gX12_knewBy_0.2.2.2.2.2.2.2.2.2 ?_
        refine lv_iconst (v := 5) hx hb gX12_knewBy_1.1 (by decide) ?_
        refine ald hC hK hP 1 rfl (vin (by decide +kernel)) (k := 5) (by decide +kernel) (v := nI kq) (ekq) gX12_knewBy_1.2.1 ?_
        refine lv_icmp_ge (tgt := 78) hx hb gX12_knewBy_1.2.2.1 (by decide) (fun c9 => absurd c9 (nI_ge (a := kP) (b := kq) (by omega) (by omega))) (fun _ => ?_)
        refine lv_aload_n hx hb gX12_knewBy_1.2.2.2.1 rfl (lv_at3 hl) ?_
        refine lv_iload hx hb gX12_knewBy_1.2.2.2.2.1 (lv_at0 hl) ?_
        refine lv_iconst (v := 2) hx hb gX12_knewBy_1.2.2.2.2.2.1 (by decide) ?_
        refine pV hC hK hl hP hD (m_paper l G h0 kP 2 nw nk mhasKept nt mtaped nr mrowMany mroundOf mroundFrom 0 nm vfh vth ns mfrom mto msort misFault mdeep mcoded mlines nl nc nF np ntr nb mbestCost nso nsi nit nsh nsf nss nrc mtraced mdealer mnumber mwhose msize misParted fnw (by omega) (by omega)) si_X12_88 [0, 1] sm_0_1 fm_0_1 nd_0_1 rfl rfl rfl rfl rfl (Nat.le_of_ble_eq_true rfl) rm_5_1_3 ⟨by first | exact Nat.le_of_ble_eq_true rfl | exact Nat.zero_le _, by first | exact Nat.le_of_ble_eq_true rfl | exact Nat.zero_le _⟩ gX12_knewBy_1.2.2.2.2.2.2.1 (Keqr ?_)
        refine lv_iload_n hx hb gX12_knewBy_1.2.2.2.2.2.2.2.1 rfl (lv_at5 hl) ?_
        refine pS hC hK hl (m_has l G (fnw (32 + 6 * kP + 2)) (nI jt)) si_X12_99 rfl rfl (Nat.le_of_ble_eq_true rfl) rm_5_1_2 ⟨by first | exact Nat.le_of_ble_eq_true rfl | exact Nat.zero_le _, by first | exact Nat.le_of_ble_eq_true rfl | exact Nat.zero_le _⟩ gX12_knewBy_1.2.2.2.2.2.2.2.2.1 (Kors (Keqa fun a7964 => ?_) (Keqa fun a7964 => ?_))
        · refine lv_if_eq (tgt := 72) hx hb gX12_knewBy_1.2.2.2.2.2.2.2.2.2 (by decide) (fun c9 => absurd c9 (by decide)) (fun _ => ?_)
          refine lv_aload_n hx hb gX12_knewBy_2.1 rfl (lv_at3 hl) ?_
          refine lv_iload hx hb gX12_knewBy_2.2.1 (lv_at0 hl) ?_
          refine lv_iload_n hx hb gX12_knewBy_2.2.2.1 rfl (lv_at4 hl) ?_
          refine lv_iload hx hb gX12_knewBy_2.2.2.2.1 (lv_at2 hl) ?_
          refine iV (wr := []) hC hK hl hP hD hS hA (m_inHandL l G kq k6 h0 kP je nw nk mhasKept nt mtaped nr mrowMany mroundOf mroundFrom nm vfh vth ns mfrom mto msort misFault mdeep mcoded mlines nl nc nF np ntr nb mbestCost nso nsi nit nsh nsf nss nrc mtraced mdealer mnumber mwhose msize misParted fnw gnm7952 (hN) (e6) (hk6) (ekq) (by omega) (hkq) (hje)) si_X12_171 [0, 1, 2] [] sm_0_1_2 fm_0_1_2 nd_0_1_2 rfl rfl (by decide) rfl rfl rfl rfl rfl (Nat.le_of_ble_eq_true rfl) rm_5_4_4 ⟨Nat.le_of_ble_eq_true rfl, Nat.le_of_ble_eq_true rfl⟩ gX12_knewBy_2.2.2.2.2.1 (fun r7965 => Ktu2 fun fh17967 th17968 => ?_)
          intro H locs hr7965 hP hD hS
          try dsimp only at hr7965
          refine Kpdr (ws := [(h0, oX12 nw nk mhasKept nt mtaped nr mrowMany mroundOf mroundFrom 0 nm fh17967 th17968 ns mfrom mto msort misFault mdeep mcoded mlines nl nc nF np ntr nb mbestCost nso nsi nit nsh nsf nss nrc mtraced mdealer mnumber mwhose msize misParted), (nw, iA G 1662 fnw), (nm, iA G 36 gnm7952)]) hP hD (fun hP hD => ?_)
          rcases hr7965 with ⟨rfl, a7969⟩ | ⟨rfl, a7969⟩
          · refine lv_if_eq (tgt := 72) hx hb gX12_knewBy_2.2.2.2.2.2.1 (by decide) (fun c9 => absurd c9 (by decide)) (fun _ => ?_)
            refine lv_iload hx hb gX12_knewBy_2.2.2.2.2.2.2.1 (lv_at1 hl) ?_
            refine lv_iload_n hx hb gX12_knewBy_2.2.2.2.2.2.2.2.1 rfl (lv_at6 hl) ?_
            refine lv_if_eq (tgt := 63) hx hb gX12_knewBy_2.2.2.2.2.2.2.2.2.1 (by decide) (fun c_53_7970 => ?_) (fun c_53_7970 => ?_)
            · refine lv_aload_n hx hb gX12_knewBy_3.2.2.1 rfl (lv_at3 hl) ?_
              refine gf_X12_161 hC rfl hK hP 0 rfl rfl gX12_knewBy_3.2.2.2.1 ?_
              refine va_mmin hx hb (hml.trans hl.1.symm) hown (hB _ m_1165) (hB _ m_373) (hB _ m_105) (hB _ m_374) (Nat.le_of_ble_eq_true rfl) (Nat.le_of_ble_eq_true rfl) (by first | exact Nat.le_of_ble_eq_true rfl | exact Nat.zero_le _)  (by first | exact Nat.le_of_ble_eq_true rfl | exact Nat.zero_le _) gX12_knewBy_3.2.2.2.2.1 ?_
              refine eqi (x1 := IMN be fh17967) (rfl) ?_
              refine lv_istore (lv' := [(5, .int (IMN be fh17967)), (6, .int (nI kP)), (4, .int 0), (0, .ref h0), (1, .int (nI je)), (2, .int (nI jt)), (3, .int su)]) hx hb gX12_knewBy_3.2.2.2.2.2.1 hl (by decide) rfl (fun ls hl => ?_)
              refine lv_iinc (v := nI (kP + 1)) (lv' := [(6, .int (nI (kP + 1))), (5, .int (IMN be fh17967)), (4, .int 0), (0, .ref h0), (1, .int (nI je)), (2, .int (nI jt)), (3, .int su)]) hx hb gX12_knewBy_3.2.2.2.2.2.2.1 hl (k := 1) rfl (nI_1 _) (by decide) rfl (fun ls hl => ?_)
              refine lv_goto (tgt := 13) hx hb gX12_knewBy_3.2.2.2.2.2.2.2.1 (by decide) ?_
              have hst9 : LST9 (TCD (KST (shf fnw 104) (VSE fnw kq) (fnw 3).toInt k6) (shf fnw 104) (VSE fnw kq) (shf fnw 32) (shf fnw 12) k6 (kP + 1) je su jt) 100000 (IMN be fh17967) := hle.tk (SVL.ofm hN (by omega)) hsl9.1 hsl9.2 (by decide) (TC1.mk (THM.hb (by omega) a7964) (INQ.re (HIQ.rb (by omega) a7954 a7969)) (Or.inl ⟨c_53_7970, rfl⟩))
              exact ihP (kP + 1) (IMN be fh17967) fh17967 th17968 _ _ _ (by omega) (by first | assumption | exact Or.inl rfl | exact Or.inr rfl | exact LST9.zero) (And.intro hP hD) hS (lv_sub hl [0, 1, 2, 3, 4, 5, 6] rfl)
            · refine lv_aload_n hx hb gX12_knewBy_2.2.2.2.2.2.2.2.2.2 rfl (lv_at3 hl) ?_
              refine gf_X12_164 hC rfl hK hP 0 rfl rfl gX12_knewBy_3.1 ?_
              refine lv_goto (tgt := 67) hx hb gX12_knewBy_3.2.1 (by decide) ?_
              refine va_mmin hx hb (hml.trans hl.1.symm) hown (hB _ m_1165) (hB _ m_373) (hB _ m_105) (hB _ m_374) (Nat.le_of_ble_eq_true rfl) (Nat.le_of_ble_eq_true rfl) (by first | exact Nat.le_of_ble_eq_true rfl | exact Nat.zero_le _)  (by first | exact Nat.le_of_ble_eq_true rfl | exact Nat.zero_le _) gX12_knewBy_3.2.2.2.2.1 ?_
              refine eqi (x1 := IMN be th17968) (rfl) ?_
              refine lv_istore (lv' := [(5, .int (IMN be th17968)), (6, .int (nI kP)), (4, .int 0), (0, .ref h0), (1, .int (nI je)), (2, .int (nI jt)), (3, .int su)]) hx hb gX12_knewBy_3.2.2.2.2.2.1 hl (by decide) rfl (fun ls hl => ?_)
              refine lv_iinc (v := nI (kP + 1)) (lv' := [(6, .int (nI (kP + 1))), (5, .int (IMN be th17968)), (4, .int 0), (0, .ref h0), (1, .int (nI je)), (2, .int (nI jt)), (3, .int su)]) hx hb gX12_knewBy_3.2.2.2.2.2.2.1 hl (k := 1) rfl (nI_1 _) (by decide) rfl (fun ls hl => ?_)
              refine lv_goto (tgt := 13) hx hb gX12_knewBy_3.2.2.2.2.2.2.2.1 (by decide) ?_
              have hst9 : LST9 (TCD (KST (shf fnw 104) (VSE fnw kq) (fnw 3).toInt k6) (shf fnw 104) (VSE fnw kq) (shf fnw 32) (shf fnw 12) k6 (kP + 1) je su jt) 100000 (IMN be th17968) := hle.tk (SVL.ofm hN (by omega)) hsl9.1 hsl9.2 (by decide) (TC1.mk (THM.hb (by omega) a7964) (INQ.re (HIQ.rb (by omega) a7954 a7969)) (Or.inr ⟨c_53_7970, rfl⟩))
              exact ihP (kP + 1) (IMN be th17968) fh17967 th17968 _ _ _ (by omega) (by first | assumption | exact Or.inl rfl | exact Or.inr rfl | exact LST9.zero) (And.intro hP hD) hS (lv_sub hl [0, 1, 2, 3, 4, 5, 6] rfl)
          · refine lv_if_eq (tgt := 72) hx hb gX12_knewBy_2.2.2.2.2.2.1 (by decide) (fun _ => ?_) (fun c9 => absurd (by decide) c9)
            refine lv_iinc (v := nI (kP + 1)) (lv' := [(6, .int (nI (kP + 1))), (5, .int be), (4, .int 0), (0, .ref h0), (1, .int (nI je)), (2, .int (nI jt)), (3, .int su)]) hx hb gX12_knewBy_3.2.2.2.2.2.2.1 hl (k := 0) rfl (nI_1 _) (by decide) rfl (fun ls hl => ?_)
            refine lv_goto (tgt := 13) hx hb gX12_knewBy_3.2.2.2.2.2.2.2.1 (by decide) ?_
            have hst9 : LST9 (TCD (KST (shf fnw 104) (VSE fnw kq) (fnw 3).toInt k6) (shf fnw 104) (VSE fnw kq) (shf fnw 32) (shf fnw 12) k6 (kP + 1) je su jt) 100000 be := hle.sk (TC1.n2 (NIQ.rn (by rw [shf_pa, shf_pa]; exact a7969)))
            exact ihP (kP + 1) be fh17967 th17968 _ _ _ (by omega) (by first | assumption | exact Or.inl rfl | exact Or.inr rfl | exact LST9.zero) (And.intro hP hD) hS (lv_sub hl [0, 1, 2, 3, 4, 5, 6] rfl)
        · refine lv_if_eq (tgt := 72) hx hb gX12_knewBy_1.2.2.2.2.2.2.2.2.2 (by decide) (fun _ => ?_) (fun c9 => absurd (by decide) c9)
          refine lv_iinc (v := nI (kP + 1)) (lv' := [(6, .int (nI (kP + 1))), (5, .int be), (4, .int 0), (0, .ref h0), (1, .int (nI je)), (2, .int (nI jt)), (3, .int su)]) hx hb gX12_knewBy_3.2.2.2.2.2.2.1 hl (k := 0) rfl (nI_1 _) (by decide) rfl (fun ls hl => ?_)
          refine lv_goto (tgt := 13) hx hb gX12_knewBy_3.2.2.2.2.2.2.2.1 (by decide) ?_
          have hst9 : LST9 (TCD (KST (shf fnw 104) (VSE fnw kq) (fnw 3).toInt k6) (shf fnw 104) (VSE fnw kq) (shf fnw 32) (shf fnw 12) k6 (kP + 1) je su jt) 100000 be := hle.sk (TC1.n1 (THM.no a7964))
          exact ihP (kP + 1) be vfh vth _ _ _ (by omega) (by first | assumption | exact Or.inl rfl | exact Or.inr rfl | exact LST9.zero) (And.intro hP hD) hS (lv_sub hl [0, 1, 2, 3, 4, 5, 6] rfl)
    exact keyP kq 0 100000 mfromHour mtoHour _ _ _ (by omega) (by first | assumption | exact Or.inl rfl | exact Or.inr rfl | exact LST9.zero) (And.intro hP hD) hS (lv_sub hl [0, 1, 2, 3, 4, 5, 6] rfl)
def K_m_findShouldX (l : Launch) (G : GG) (kq : Nat) (k6 : Nat) (k7 : Nat) (VL : Nat → List LNT) (VC : Nat → Nat → List Int32) (DY : Nat → Int32) (h0 : Nat) (je : Nat) (nw : Nat) (nk : Nat) (mhasKept : Int32) (nt : Nat) (mtaped : Int32) (nr : Nat) (mrowMany : Int32) (mroundOf : Int32) (mroundFrom : Int32) (nm : Nat) (mfromHour : Int32) (mtoHour : Int32) (ns : Nat) (mfrom : Int32) (mto : Int32) (msort : Int32) (misFault : Int32) (mdeep : Int32) (mcoded : Int32) (mlines : Int32) (nl : Nat) (nc : Nat) (nF : Nat) (np : Nat) (ntr : Nat) (nb : Nat) (mbestCost : Int32) (nso : Nat) (nsi : Nat) (nit : Nat) (nsh : Nat) (nsf : Nat) (nss : Nat) (nrc : Nat) (mtraced : Int32) (mdealer : Int32) (mnumber : Int32) (mwhose : Int32) (msize : Int32) (misParted : Int32) (fnw : Nat → Int32) (fnm : Nat → Int32) (fns : Nat → Int32) (fnp : Nat → Int32) : Prop := MV l G yX12_findShould cX12_findShould 7 8 0 0 [.ref h0, .int (nI je)] [(h0, oX12 nw nk mhasKept nt mtaped nr mrowMany mroundOf mroundFrom 0 nm mfromHour mtoHour ns mfrom mto msort misFault mdeep mcoded mlines nl nc nF np ntr nb mbestCost nso nsi nit nsh nsf nss nrc mtraced mdealer mnumber mwhose msize misParted), (nw, iA G 1662 fnw), (nm, iA G 36 fnm), (ns, iA G 8 fns), (np, iA G 100 fnp)] (fun u : Int32 × Int32 × (Nat → Int32) × (Nat → Int32) × (Nat → Int32) => MB u.2.2.1 ∧ ARS 100000 (SHF (KST (shf fnw 104) (VSE fnw kq) (fnw 3).toInt k6) (shf fnw 104) (VSE fnw kq) (shf fnw 32) (shf fnw 12) k6 kq je (LVF (LNF (RLO DY (DAYV (fnw 0) (fnw 1)) k7) VL) (TRF (RLO DY (DAYV (fnw 0) (fnw 1)) k7) VC (FAX (shf fnw 12) (shf fnw 32) (VSE fnw kq) kq je))) (LVN (RLO DY (DAYV (fnw 0) (fnw 1)) k7) VL)) u.2.2.2.1) (fun u : Int32 × Int32 × (Nat → Int32) × (Nat → Int32) × (Nat → Int32) => [(h0, oX12 nw nk mhasKept nt mtaped nr mrowMany mroundOf mroundFrom 0 nm u.1 u.2.1 ns mfrom mto msort misFault mdeep mcoded mlines nl nc nF np ntr nb mbestCost nso nsi nit nsh nsf nss nrc mtraced mdealer mnumber mwhose msize misParted), (nw, iA G 1662 fnw), (nm, iA G 36 u.2.2.1), (ns, iA G 8 u.2.2.2.1), (np, iA G 100 u.2.2.2.2)])
set_option maxHeartbeats 4000000 in
set_option maxRecDepth 100000 in
theorem m_findShouldX (l : Launch) (G : GG) (kq : Nat) (k6 : Nat) (k7 : Nat) (VL : Nat → List LNT) (VC : Nat → Nat → List Int32) (DY : Nat → Int32) (h0 : Nat) (je : Nat) (nw : Nat) (nk : Nat) (mhasKept : Int32) (nt : Nat) (mtaped : Int32) (nr : Nat) (mrowMany : Int32) (mroundOf : Int32) (mroundFrom : Int32) (nm : Nat) (mfromHour : Int32) (mtoHour : Int32) (ns : Nat) (mfrom : Int32) (mto : Int32) (msort : Int32) (misFault : Int32) (mdeep : Int32) (mcoded : Int32) (mlines : Int32) (nl : Nat) (nc : Nat) (nF : Nat) (np : Nat) (ntr : Nat) (nb : Nat) (mbestCost : Int32) (nso : Nat) (nsi : Nat) (nit : Nat) (nsh : Nat) (nsf : Nat) (nss : Nat) (nrc : Nat) (mtraced : Int32) (mdealer : Int32) (mnumber : Int32) (mwhose : Int32) (msize : Int32) (misParted : Int32) (fnw : Nat → Int32) (fnm : Nat → Int32) (fns : Nat → Int32) (fnp : Nat → Int32) (hje : je < 10) (hV : VI fnw) (hM : MB fnm) (hN : NI fnw) (hgp : GPRm (fnw 3)) (ekq : fnw 5 = nI kq) (hkq : kq ≤ 12) (e6 : fnw 6 = nI k6) (hk6 : k6 ≤ 24) (ek7 : fnw 7 = nI k7) (hk7 : k7 ≤ 8) (hVM : VMZ fnw k7 VL VC DY) : K_m_findShouldX l G kq k6 k7 VL VC DY h0 je nw nk mhasKept nt mtaped nr mrowMany mroundOf mroundFrom nm mfromHour mtoHour ns mfrom mto msort misFault mdeep mcoded mlines nl nc nF np ntr nb mbestCost nso nsi nit nsh nsf nss nrc mtraced mdealer mnumber mwhose msize misParted fnw fnm fns fnp := by
  refine MV.start (by decide +kernel) (Nat.le_of_ble_eq_true rfl) ?_
  intro p e s m below meth c A ls hC hK hP hD hS hA hl
  refine absQ (fun Q0 hQ0 => ?_)
  have hl : lv_has ls 7 [(0, .ref h0), (1, .int (nI je))] := hl
  refine Kan8 hC (fun hx hb hr hml hB hown hlocks hnm => ?_)
  refine lv_iconst (v := 0) hx hb gX12_findShould_0.1 (by decide) ?_
  refine lv_istore_n (lv' := [(2, .int 0), (0, .ref h0), (1, .int (nI je))]) hx hb gX12_findShould_0.2.1 rfl hl (by decide) rfl (fun ls hl => ?_)
  have hsl9 : 0 ≤ (shf fnw 12 (je * 2 + 1)).toInt ∧ (shf fnw 12 (je * 2 + 1)).toInt ≤ 48 := NI.slow hN (by omega)
  have hb09 : HBD (S0F (KST (shf fnw 104) (VSE fnw kq) (fnw 3).toInt k6) (shf fnw 104) (VSE fnw kq) (shf fnw 32) (shf fnw 12) k6 kq je) := S0F.hbd (SVL.ofm hN (by omega)) hsl9.1 hsl9.2
  have keyA : ∀ (nA kA : Nat) (vfh : Int32) (vth : Int32) (vA : Nat → Int32) (vS : Nat → Int32) (H : Heap) (locs : List Loc) (ls : Array Slot), kA + nA = 8 → (MB vA) → (TDP 100000 (S0F (KST (shf fnw 104) (VSE fnw kq) (fnw 3).toInt k6) (shf fnw 104) (VSE fnw kq) (shf fnw 32) (shf fnw 12) k6 kq je) vS kA) → va_PD G A [(h0, oX12 nw nk mhasKept nt mtaped nr mrowMany mroundOf mroundFrom 0 nm vfh vth ns mfrom mto msort misFault mdeep mcoded mlines nl nc nF np ntr nb mbestCost nso nsi nit nsh nsf nss nrc mtraced mdealer mnumber mwhose msize misParted), (nw, iA G 1662 fnw), (nm, iA G 36 vA), (ns, iA G 8 vS), (np, iA G 100 fnp)] H → va_S A s.heap H locs → lv_has ls 7 [(2, .int (nI kA)), (0, .ref h0), (1, .int (nI je))] → W p l e (RM 8 0 0) s m ([.ref h0, .int (nI je)] : List Value).toArray below meth c H locs 0 0 Q0 (F0 m 2 ls []) := by
    intro nA
    induction nA with
    | zero =>
      intro kA vfh vth vA vS H locs ls hkA hvA htd hPD hS hl
      refine Kan2 hPD (fun hP hD => ?_)
      obtain rfl : 8 = kA := by omega
      have hl : lv_has ls 7 [(2, .int 8), (0, .ref h0), (1, .int (nI je))] := hl
      refine lv_iload_n hx hb gX12_findShould_0.2.2.1 rfl (lv_at0 hl) ?_
      refine lv_bipush (v := 8) hx hb gX12_findShould_0.2.2.2.1 (by decide) ?_
      refine lv_icmp_ge (tgt := 27) hx hb gX12_findShould_0.2.2.2.2.1 (by decide) (fun _ => ?_) (fun c9 => absurd (by decide) c9)
      refine lv_aload_n hx hb gX12_findShould_1.2.2.2.2.2.2.1 rfl (lv_at1 hl) ?_
      have hdy9 : ∀ v9, v9 < k7 → fnw (176 + 156 * v9 + 0) = DY v9 := fun v9 h9 => (hVM v9 h9).1
      refine pV hC hK hl hP hD (m_rulesX l G k7 DY h0 nw nk mhasKept nt mtaped nr mrowMany mroundOf mroundFrom 0 nm vfh vth ns mfrom mto msort misFault mdeep mcoded mlines nl nc nF np ntr nb mbestCost nso nsi nit nsh nsf nss nrc mtraced mdealer mnumber mwhose msize misParted fnw (hN) (ek7) (hk7) (hdy9)) si_X12_180 [0, 1] sm_0_1 fm_0_1 nd_0_1 rfl rfl rfl rfl rfl (Nat.le_of_ble_eq_true rfl) rm_8_2_3 ⟨by first | exact Nat.le_of_ble_eq_true rfl | exact Nat.zero_le _, by first | exact Nat.le_of_ble_eq_true rfl | exact Nat.zero_le _⟩ gX12_findShould_1.2.2.2.2.2.2.2.1 (Keqr ?_)
      obtain ⟨o9, eo9⟩ : ∃ z9, z9 = (RLO DY (DAYV (fnw 0) (fnw 1)) k7) := ⟨_, rfl⟩
      rcases o9 with _ | v9
      · refine eqi (x1 := (-1)) (congrArg LAT eo9.symm) ?_
        refine lv_istore_n (lv' := [(2, .int (-1)), (0, .ref h0), (1, .int (nI je))]) hx hb gX12_findShould_1.2.2.2.2.2.2.2.2.1 rfl hl (by decide) rfl (fun ls hl => ?_)
        refine lv_iload_n hx hb gX12_findShould_1.2.2.2.2.2.2.2.2.2 rfl (lv_at0 hl) ?_
        refine lv_if_lt (tgt := 40) hx hb gX12_findShould_2.1 (by decide) (fun _ => ?_) (fun c9 => absurd (by decide) c9)
        refine lv_iconst (v := 0) hx hb gX12_findShould_2.2.2.2.1 (by decide) ?_
        refine lv_istore_n (lv' := [(3, .int 0), (2, .int (-1)), (0, .ref h0), (1, .int (nI je))]) hx hb gX12_findShould_2.2.2.2.2.1 rfl hl (by decide) rfl (fun ls hl => ?_)
        refine lv_iload_n hx hb gX12_findShould_2.2.2.2.2.2.1 rfl (lv_at0 hl) ?_
        refine lv_if_eq (tgt := 112) hx hb gX12_findShould_2.2.2.2.2.2.2.1 (by decide) (fun _ => ?_) (fun c9 => absurd (by decide) c9)
        refine toQ hQ0 ?_
        exact RV hC hP hD hS [0, 1, 2, 3, 4] (vfh, vth, vA, vS, fnp) rfl rfl (by decide) (⟨by first | assumption | exact hM, (by unfold SHF; exact PIT.end0 (by rw [← eo9]; rfl) htd)⟩) gX12_findShould_6.2.2.2
      · have hv9 := LTS.lt _ _ eo9.symm
        obtain ⟨ed9, hl9, eb9, hrow9⟩ := hVM v9 hv9
        obtain ⟨n9, hn9⟩ : ∃ z9, z9 = (VL v9).length := ⟨_, rfl⟩
        rw [← hn9] at hl9 eb9 hrow9
        obtain ⟨L8, hL8, eL8, hLN8⟩ := VI.line hV (v := v9) (by omega)
        obtain rfl : L8 = n9 := (nI_eq (by omega) (by omega)).mp (eL8.symm.trans eb9)
        have hlb9 : ∀ i, i < L8 → LVB ((LVF (LNF (RLO DY (DAYV (fnw 0) (fnw 1)) k7) VL) (TRF (RLO DY (DAYV (fnw 0) (fnw 1)) k7) VC (FAX (shf fnw 12) (shf fnw 32) (VSE fnw kq) kq je))) i) := fun i hi => by rw [← eo9]; exact LVX.b (hrow9 i hi).1
        refine eqi (x1 := nI v9) (congrArg LAT eo9.symm) ?_
        refine lv_istore_n (lv' := [(2, .int (nI v9)), (0, .ref h0), (1, .int (nI je))]) hx hb gX12_findShould_1.2.2.2.2.2.2.2.2.1 rfl hl (by decide) rfl (fun ls hl => ?_)
        refine lv_iload_n hx hb gX12_findShould_1.2.2.2.2.2.2.2.2.2 rfl (lv_at0 hl) ?_
        refine lv_if_lt (tgt := 40) hx hb gX12_findShould_2.1 (by decide) (fun c9 => absurd c9 (nI_pos (by omega))) (fun _ => ?_)
        refine lv_iconst (v := 1) hx hb gX12_findShould_2.2.1 (by decide) ?_
        refine lv_goto (tgt := 41) hx hb gX12_findShould_2.2.2.1 (by decide) ?_
        refine lv_istore_n (lv' := [(3, .int 1), (2, .int (nI v9)), (0, .ref h0), (1, .int (nI je))]) hx hb gX12_findShould_2.2.2.2.2.1 rfl hl (by decide) rfl (fun ls hl => ?_)
        have keyW : ∀ (nW : Nat) (eaW : Int32) (w0 : Nat → Int32) (w1 : Nat → Int32) (H : Heap) (locs : List Loc) (ls : Array Slot), ((eaW = 0 ∨ (eaW = 1 ∧ mu w0 < nW)) ∧ ∃ jj, ARS 100000 (PIT (LVF (LNF (RLO DY (DAYV (fnw 0) (fnw 1)) k7) VL) (TRF (RLO DY (DAYV (fnw 0) (fnw 1)) k7) VC (FAX (shf fnw 12) (shf fnw 32) (VSE fnw kq) kq je))) L8 jj (S0F (KST (shf fnw 104) (VSE fnw kq) (fnw 3).toInt k6) (shf fnw 104) (VSE fnw kq) (shf fnw 32) (shf fnw 12) k6 kq je)) w0 ∧ (eaW = 0 → PSS (LVF (LNF (RLO DY (DAYV (fnw 0) (fnw 1)) k7) VL) (TRF (RLO DY (DAYV (fnw 0) (fnw 1)) k7) VC (FAX (shf fnw 12) (shf fnw 32) (VSE fnw kq) kq je))) L8 (PIT (LVF (LNF (RLO DY (DAYV (fnw 0) (fnw 1)) k7) VL) (TRF (RLO DY (DAYV (fnw 0) (fnw 1)) k7) VC (FAX (shf fnw 12) (shf fnw 32) (VSE fnw kq) kq je))) L8 jj (S0F (KST (shf fnw 104) (VSE fnw kq) (fnw 3).toInt k6) (shf fnw 104) (VSE fnw kq) (shf fnw 32) (shf fnw 12) k6 kq je)) = PIT (LVF (LNF (RLO DY (DAYV (fnw 0) (fnw 1)) k7) VL) (TRF (RLO DY (DAYV (fnw 0) (fnw 1)) k7) VC (FAX (shf fnw 12) (shf fnw 32) (VSE fnw kq) kq je))) L8 jj (S0F (KST (shf fnw 104) (VSE fnw kq) (fnw 3).toInt k6) (shf fnw 104) (VSE fnw kq) (shf fnw 32) (shf fnw 12) k6 kq je))) → va_PD G A [(h0, oX12 nw nk mhasKept nt mtaped nr mrowMany mroundOf mroundFrom 0 nm vfh vth ns mfrom mto msort misFault mdeep mcoded mlines nl nc nF np ntr nb mbestCost nso nsi nit nsh nsf nss nrc mtraced mdealer mnumber mwhose msize misParted), (nw, iA G 1662 fnw), (nm, iA G 36 vA), (ns, iA G 8 w0), (np, iA G 100 w1)] H → va_S A s.heap H locs → lv_has ls 7 [(3, .int eaW), (2, .int (nI v9)), (0, .ref h0), (1, .int (nI je))] → W p l e (RM 8 0 0) s m ([.ref h0, .int (nI je)] : List Value).toArray below meth c H locs 0 0 Q0 (F0 m 42 ls []) := by
          intro nW
          induction nW with
          | zero =>
            intro eaW w0 w1 H locs ls hWW hPD hS hl
            refine Kan2 hPD (fun hP hD => ?_)
            obtain rfl : eaW = 0 := hWW.1.elim (fun h => h) (fun h => absurd h.2 (Nat.not_lt_zero _)); obtain ⟨-, jj, hj1, hj2⟩ := hWW
            refine lv_iload_n hx hb gX12_findShould_2.2.2.2.2.2.1 rfl (lv_at0 hl) ?_
            refine lv_if_eq (tgt := 112) hx hb gX12_findShould_2.2.2.2.2.2.2.1 (by decide) (fun _ => ?_) (fun c9 => absurd (by decide) c9)
            refine toQ hQ0 ?_
            exact RV hC hP hD hS [0, 1, 2, 3, 4] (vfh, vth, vA, w0, w1) rfl rfl (by decide) (⟨by first | assumption | exact hM, (by unfold SHF; rw [show LVN (RLO DY (DAYV (fnw 0) (fnw 1)) k7) VL = L8 from (congrArg (fun z9 => LVN z9 VL) eo9.symm).trans hn9.symm]; exact PIT.end9 hlb9 hj1 (hj2 rfl))⟩) gX12_findShould_6.2.2.2
          | succ nW ihW =>
            intro eaW w0 w1 H locs ls hWW hPD hS hl
            refine Kan2 hPD (fun hP hD => ?_)
            obtain ⟨hWW, jj, hj1, hj2⟩ := hWW; rcases hWW with rfl | ⟨rfl, hWW⟩
            · refine lv_iload_n hx hb gX12_findShould_2.2.2.2.2.2.1 rfl (lv_at0 hl) ?_
              refine lv_if_eq (tgt := 112) hx hb gX12_findShould_2.2.2.2.2.2.2.1 (by decide) (fun _ => ?_) (fun c9 => absurd (by decide) c9)
              refine toQ hQ0 ?_
              exact RV hC hP hD hS [0, 1, 2, 3, 4] (vfh, vth, vA, w0, w1) rfl rfl (by decide) (⟨by first | assumption | exact hM, (by unfold SHF; rw [show LVN (RLO DY (DAYV (fnw 0) (fnw 1)) k7) VL = L8 from (congrArg (fun z9 => LVN z9 VL) eo9.symm).trans hn9.symm]; exact PIT.end9 hlb9 hj1 (hj2 rfl))⟩) gX12_findShould_6.2.2.2
            · refine lv_iload_n hx hb gX12_findShould_2.2.2.2.2.2.1 rfl (lv_at0 hl) ?_
              refine lv_if_eq (tgt := 112) hx hb gX12_findShould_2.2.2.2.2.2.2.1 (by decide) (fun c9 => absurd c9 (by decide)) (fun _ => ?_)
              refine lv_iconst (v := 0) hx hb gX12_findShould_2.2.2.2.2.2.2.2.1 (by decide) ?_
              refine lv_istore_n (lv' := [(3, .int 0), (2, .int (nI v9)), (0, .ref h0), (1, .int (nI je))]) hx hb gX12_findShould_2.2.2.2.2.2.2.2.2.1 rfl hl (by decide) rfl (fun ls hl => ?_)
              refine lv_iconst (v := 0) hx hb gX12_findShould_2.2.2.2.2.2.2.2.2.2 (by decide) ?_
              refine lv_istore (lv' := [(4, .int 0), (3, .int 0), (2, .int (nI v9)), (0, .ref h0), (1, .int (nI je))]) hx hb gX12_findShould_3.1 hl (by decide) rfl (fun ls hl => ?_)
              have hbj9 : HBD (PIT (LVF (LNF (RLO DY (DAYV (fnw 0) (fnw 1)) k7) VL) (TRF (RLO DY (DAYV (fnw 0) (fnw 1)) k7) VC (FAX (shf fnw 12) (shf fnw 32) (VSE fnw kq) kq je))) L8 jj (S0F (KST (shf fnw 104) (VSE fnw kq) (fnw 3).toInt k6) (shf fnw 104) (VSE fnw kq) (shf fnw 32) (shf fnw 12) k6 kq je)) := HBD.pit hb09 hlb9 jj
              have keyQ : ∀ (nQ kQ : Nat) (ea : Int32) (vQ : Nat → Int32) (vR : Nat → Int32) (H : Heap) (locs : List Loc) (ls : Array Slot), kQ + nQ = L8 → ((ea = 0 ∧ mu vQ ≤ mu w0) ∨ (ea = 1 ∧ mu vQ < mu w0)) → (ARS 100000 (PSS (LVF (LNF (RLO DY (DAYV (fnw 0) (fnw 1)) k7) VL) (TRF (RLO DY (DAYV (fnw 0) (fnw 1)) k7) VC (FAX (shf fnw 12) (shf fnw 32) (VSE fnw kq) kq je))) kQ (PIT (LVF (LNF (RLO DY (DAYV (fnw 0) (fnw 1)) k7) VL) (TRF (RLO DY (DAYV (fnw 0) (fnw 1)) k7) VC (FAX (shf fnw 12) (shf fnw 32) (VSE fnw kq) kq je))) L8 jj (S0F (KST (shf fnw 104) (VSE fnw kq) (fnw 3).toInt k6) (shf fnw 104) (VSE fnw kq) (shf fnw 32) (shf fnw 12) k6 kq je))) vQ) → ((ea = 0 ∧ PSS (LVF (LNF (RLO DY (DAYV (fnw 0) (fnw 1)) k7) VL) (TRF (RLO DY (DAYV (fnw 0) (fnw 1)) k7) VC (FAX (shf fnw 12) (shf fnw 32) (VSE fnw kq) kq je))) kQ (PIT (LVF (LNF (RLO DY (DAYV (fnw 0) (fnw 1)) k7) VL) (TRF (RLO DY (DAYV (fnw 0) (fnw 1)) k7) VC (FAX (shf fnw 12) (shf fnw 32) (VSE fnw kq) kq je))) L8 jj (S0F (KST (shf fnw 104) (VSE fnw kq) (fnw 3).toInt k6) (shf fnw 104) (VSE fnw kq) (shf fnw 32) (shf fnw 12) k6 kq je)) = PIT (LVF (LNF (RLO DY (DAYV (fnw 0) (fnw 1)) k7) VL) (TRF (RLO DY (DAYV (fnw 0) (fnw 1)) k7) VC (FAX (shf fnw 12) (shf fnw 32) (VSE fnw kq) kq je))) L8 jj (S0F (KST (shf fnw 104) (VSE fnw kq) (fnw 3).toInt k6) (shf fnw 104) (VSE fnw kq) (shf fnw 32) (shf fnw 12) k6 kq je)) ∨ ea = 1) → va_PD G A [(h0, oX12 nw nk mhasKept nt mtaped nr mrowMany mroundOf mroundFrom 0 nm vfh vth ns mfrom mto msort misFault mdeep mcoded mlines nl nc nF np ntr nb mbestCost nso nsi nit nsh nsf nss nrc mtraced mdealer mnumber mwhose msize misParted), (nw, iA G 1662 fnw), (nm, iA G 36 vA), (ns, iA G 8 vQ), (np, iA G 100 vR)] H → va_S A s.heap H locs → lv_has ls 7 [(4, .int (nI kQ)), (3, .int ea), (2, .int (nI v9)), (0, .ref h0), (1, .int (nI je))] → W p l e (RM 8 0 0) s m ([.ref h0, .int (nI je)] : List Value).toArray below meth c H locs 0 0 Q0 (F0 m 51 ls []) := by
                intro nQ
                induction nQ with
                | zero =>
                  intro kQ ea vQ vR H locs ls hkQ hQ hsv hch hPD hS hl
                  refine Kan2 hPD (fun hP hD => ?_)
                  obtain rfl : L8 = kQ := by omega
                  have hl : lv_has ls 7 [(4, .int (nI L8)), (3, .int ea), (2, .int (nI v9)), (0, .ref h0), (1, .int (nI je))] := hl
                  refine lv_iload hx hb gX12_findShould_3.2.1 (lv_at0 hl) ?_
                  refine lv_aload_n hx hb gX12_findShould_3.2.2.1 rfl (lv_at3 hl) ?_
                  refine lv_iload_n hx hb gX12_findShould_3.2.2.2.1 rfl (lv_at2 hl) ?_
                  refine pV hC hK hl hP hD (m_lines l G L8 h0 v9 nw nk mhasKept nt mtaped nr mrowMany mroundOf mroundFrom 0 nm vfh vth ns mfrom mto msort misFault mdeep mcoded mlines nl nc nF np ntr nb mbestCost nso nsi nit nsh nsf nss nrc mtraced mdealer mnumber mwhose msize misParted fnw (by omega) (eL8)) si_X12_183 [0, 1] sm_0_1 fm_0_1 nd_0_1 rfl rfl rfl rfl rfl (Nat.le_of_ble_eq_true rfl) rm_8_1_2 ⟨by first | exact Nat.le_of_ble_eq_true rfl | exact Nat.zero_le _, by first | exact Nat.le_of_ble_eq_true rfl | exact Nat.zero_le _⟩ gX12_findShould_3.2.2.2.2.1 (Keqr ?_)
                  refine lv_icmp_ge (tgt := 109) hx hb gX12_findShould_3.2.2.2.2.2.1 (by decide) (fun _ => ?_) (fun c9 => absurd (Int32.le_refl _) c9)
                  refine lv_goto (tgt := 42) hx hb gX12_findShould_6.2.2.1 (by decide) ?_
                  exact ihW ea vQ vR _ _ _ (⟨hQ.elim (fun h => Or.inl h.1) (fun h => Or.inr ⟨h.1, by have := h.2; omega⟩), jj + 1, hsv, fun h9 => PIT.sx (hch.elim (fun h8 => h8.2) (fun h8 => absurd (h8.symm.trans h9) (by decide)))⟩) (And.intro hP hD) hS (lv_sub hl [1, 2, 3, 4] rfl)
                | succ nQ ihQ =>
                  intro kQ ea vQ vR H locs ls hkQ hQ hsv hch hPD hS hl
                  refine Kan2 hPD (fun hP hD => ?_)
                  refine lv_iload hx hb gX12_findShould_3.2.1 (lv_at0 hl) ?_
                  refine lv_aload_n hx hb gX12_findShould_3.2.2.1 rfl (lv_at3 hl) ?_
                  refine lv_iload_n hx hb gX12_findShould_3.2.2.2.1 rfl (lv_at2 hl) ?_
                  refine pV hC hK hl hP hD (m_lines l G L8 h0 v9 nw nk mhasKept nt mtaped nr mrowMany mroundOf mroundFrom 0 nm vfh vth ns mfrom mto msort misFault mdeep mcoded mlines nl nc nF np ntr nb mbestCost nso nsi nit nsh nsf nss nrc mtraced mdealer mnumber mwhose msize misParted fnw (by omega) (eL8)) si_X12_183 [0, 1] sm_0_1 fm_0_1 nd_0_1 rfl rfl rfl rfl rfl (Nat.le_of_ble_eq_true rfl) rm_8_1_2 ⟨by first | exact Nat.le_of_ble_eq_true rfl | exact Nat.zero_le _, by first | exact Nat.le_of_ble_eq_true rfl | exact Nat.zero_le _⟩ gX12_findShould_3.2.2.2.2.1 (Keqr ?_)
                  refine lv_icmp_ge (tgt := 109) hx hb gX12_findShould_3.2.2.2.2.2.1 (by decide) (fun c9 => absurd c9 (nI_ge (a := kQ) (b := L8) (by omega) (by omega))) (fun _ => ?_)
                  have hln9 := hLN8 kQ (by omega)
                  have hlz9 := hrow9 kQ (by omega)
                  have hbq9 : HBD (PSS (LVF (LNF (RLO DY (DAYV (fnw 0) (fnw 1)) k7) VL) (TRF (RLO DY (DAYV (fnw 0) (fnw 1)) k7) VC (FAX (shf fnw 12) (shf fnw 32) (VSE fnw kq) kq je))) kQ (PIT (LVF (LNF (RLO DY (DAYV (fnw 0) (fnw 1)) k7) VL) (TRF (RLO DY (DAYV (fnw 0) (fnw 1)) k7) VC (FAX (shf fnw 12) (shf fnw 32) (VSE fnw kq) kq je))) L8 jj (S0F (KST (shf fnw 104) (VSE fnw kq) (fnw 3).toInt k6) (shf fnw 104) (VSE fnw kq) (shf fnw 32) (shf fnw 12) k6 kq je))) := HBD.pss hbj9 hlb9 kQ (by omega)
                  refine lv_aload_n hx hb gX12_findShould_3.2.2.2.2.2.2.1 rfl (lv_at3 hl) ?_
                  refine lv_iload_n hx hb gX12_findShould_3.2.2.2.2.2.2.2.1 rfl (lv_at2 hl) ?_
                  refine lv_iload hx hb gX12_findShould_3.2.2.2.2.2.2.2.2.1 (lv_at0 hl) ?_
                  refine lv_iload_n hx hb gX12_findShould_3.2.2.2.2.2.2.2.2.2 rfl (lv_at4 hl) ?_
                  refine iV (wr := [(nm, iA G 36 vA)]) hC hK hl hP hD hS hA (m_fromLineX l G kq ((VL v9).getD kQ LN0) (VC v9 kQ) (PSS (LVF (LNF (RLO DY (DAYV (fnw 0) (fnw 1)) k7) VL) (TRF (RLO DY (DAYV (fnw 0) (fnw 1)) k7) VC (FAX (shf fnw 12) (shf fnw 32) (VSE fnw kq) kq je))) kQ (PIT (LVF (LNF (RLO DY (DAYV (fnw 0) (fnw 1)) k7) VL) (TRF (RLO DY (DAYV (fnw 0) (fnw 1)) k7) VC (FAX (shf fnw 12) (shf fnw 32) (VSE fnw kq) kq je))) L8 jj (S0F (KST (shf fnw 104) (VSE fnw kq) (fnw 3).toInt k6) (shf fnw 104) (VSE fnw kq) (shf fnw 32) (shf fnw 12) k6 kq je))) h0 v9 kQ je nw nk mhasKept nt mtaped nr mrowMany mroundOf mroundFrom nm vfh vth ns mfrom mto msort misFault mdeep mcoded mlines nl nc nF np ntr nb mbestCost nso nsi nit nsh nsf nss nrc mtraced mdealer mnumber mwhose msize misParted fnw vQ vR (by omega) (by omega) (hln9) (hlz9) (hsv) (hbq9) (hje) (hN) (ekq) (hkq)) si_X12_186 [0, 1, 3, 4] [2] sm_0_1_3_4 fm_0_1_3_4 nd_0_1_3_4 sm_2 nd_2 dj_0_1_3_4__2 rfl rfl rfl rfl rfl (Nat.le_of_ble_eq_true rfl) rm_8_7_6 ⟨Nat.le_of_ble_eq_true rfl, Nat.le_of_ble_eq_true rfl⟩ gX12_findShould_4.1 (fun r7977 gnp7979 H locs hr7977 hP hD hS => ?_)
                  try dsimp only at hr7977
                  refine Kpdr (ws := [(nm, iA G 36 vA), (h0, oX12 nw nk mhasKept nt mtaped nr mrowMany mroundOf mroundFrom 0 nm vfh vth ns mfrom mto msort misFault mdeep mcoded mlines nl nc nF np ntr nb mbestCost nso nsi nit nsh nsf nss nrc mtraced mdealer mnumber mwhose msize misParted), (nw, iA G 1662 fnw), (ns, iA G 8 vQ), (np, iA G 100 gnp7979)]) hP hD (fun hP hD => ?_)
                  obtain ⟨y9_7980, hpx7980, hpe7980⟩ := hr7977
                  subst r7977
                  try dsimp only at hpx7980
                  refine lv_istore (lv' := [(5, .int y9_7980), (4, .int (nI kQ)), (3, .int ea), (2, .int (nI v9)), (0, .ref h0), (1, .int (nI je))]) hx hb gX12_findShould_4.2.1 hl (by decide) rfl (fun ls hl => ?_)
                  refine lv_aload_n hx hb gX12_findShould_4.2.2.1 rfl (lv_at4 hl) ?_
                  refine lv_iload_n hx hb gX12_findShould_4.2.2.2.1 rfl (lv_at3 hl) ?_
                  refine lv_iload hx hb gX12_findShould_4.2.2.2.2.1 (lv_at1 hl) ?_
                  refine pV hC hK hl hP hD (m_thingOfX l G ((VL v9).getD kQ LN0) (VC v9 kQ) h0 v9 kQ nw nk mhasKept nt mtaped nr mrowMany mroundOf mroundFrom 0 nm vfh vth ns mfrom mto msort misFault mdeep mcoded mlines nl nc nF np ntr nb mbestCost nso nsi nit nsh nsf nss nrc mtraced mdealer mnumber mwhose msize misParted fnw (by omega) (by omega) (hln9) (hlz9)) si_X12_190 [1, 2] sm_1_2 fm_1_2 nd_1_2 rfl rfl rfl rfl rfl (Nat.le_of_ble_eq_true rfl) rm_8_2_4 ⟨by first | exact Nat.le_of_ble_eq_true rfl | exact Nat.zero_le _, by first | exact Nat.le_of_ble_eq_true rfl | exact Nat.zero_le _⟩ gX12_findShould_4.2.2.2.2.2.1 (fun r7981 hr7981 => ?_)
                  obtain ⟨t9_7982, hpx7982, rfl⟩ := hr7981
                  try dsimp only at hpx7982
                  refine lv_istore (lv' := [(6, .int (nI t9_7982)), (5, .int y9_7980), (4, .int (nI kQ)), (3, .int ea), (2, .int (nI v9)), (0, .ref h0), (1, .int (nI je))]) hx hb gX12_findShould_4.2.2.2.2.2.2.1 hl (by decide) rfl (fun ls hl => ?_)
                  refine lv_iload hx hb gX12_findShould_4.2.2.2.2.2.2.2.1 (lv_at1 hl) ?_
                  refine lv_aload_n hx hb gX12_findShould_4.2.2.2.2.2.2.2.2.1 rfl (lv_at5 hl) ?_
                  refine gf_X12_29 hC rfl hK hP 1 rfl rfl gX12_findShould_4.2.2.2.2.2.2.2.2.2 ?_
                  refine lv_iload hx hb gX12_findShould_5.1 (lv_at0 hl) ?_
                  refine aldN hC hK hP 3 rfl (k := t9_7982) (by omega) (Nat.le_of_ble_eq_true rfl) (v := vQ t9_7982) rfl gX12_findShould_5.2.1 ?_
                  refine lv_icmp_ge (tgt := 103) hx hb gX12_findShould_5.2.2.1 (by decide) (fun c_89_7983 => ?_) (fun c_89_7983 => ?_)
                  · refine lv_iinc (v := nI (kQ + 1)) (lv' := [(4, .int (nI (kQ + 1))), (6, .int (nI t9_7982)), (5, .int y9_7980), (3, .int ea), (2, .int (nI v9)), (0, .ref h0), (1, .int (nI je))]) hx hb gX12_findShould_6.1 hl (k := 2) rfl (nI_1 _) (by decide) rfl (fun ls hl => ?_)
                    refine lv_goto (tgt := 51) hx hb gX12_findShould_6.2.1 (by decide) ?_
                    refine Kpds (ws' := [(h0, oX12 nw nk mhasKept nt mtaped nr mrowMany mroundOf mroundFrom 0 nm vfh vth ns mfrom mto msort misFault mdeep mcoded mlines nl nc nF np ntr nb mbestCost nso nsi nit nsh nsf nss nrc mtraced mdealer mnumber mwhose msize misParted), (nw, iA G 1662 fnw), (nm, iA G 36 vA), (ns, iA G 8 vQ), (np, iA G 100 gnp7979)]) hP hD [1, 2, 0, 3, 4] fm_1_2_0_3_4 nd_1_2_0_3_4 sm_1_2_0_3_4 (fun hP hD => ?_)
                    have eLV9 : (LVF (LNF (RLO DY (DAYV (fnw 0) (fnw 1)) k7) VL) (TRF (RLO DY (DAYV (fnw 0) (fnw 1)) k7) VC (FAX (shf fnw 12) (shf fnw 32) (VSE fnw kq) kq je))) kQ = LVX ((VL v9).getD kQ LN0) (PLN (FAX (shf fnw 12) (shf fnw 32) (VSE fnw kq) kq je) (VC v9 kQ) 1 % 2 = 1) := by rw [← eo9]; rfl
                    have hlw9 := FLQ.low (L := (LVF (LNF (RLO DY (DAYV (fnw 0) (fnw 1)) k7) VL) (TRF (RLO DY (DAYV (fnw 0) (fnw 1)) k7) VC (FAX (shf fnw 12) (shf fnw 32) (VSE fnw kq) kq je))) kQ) hsv hbq9 (hlb9 kQ (by omega)) (by rw [eLV9]; exact hpx7980) (fun j o w h9 => hpx7982.1.trans (TNO.of (by rw [eLV9] at h9; exact h9))) hpx7982.2 (by decide)
                    have heq9 : PSS (LVF (LNF (RLO DY (DAYV (fnw 0) (fnw 1)) k7) VL) (TRF (RLO DY (DAYV (fnw 0) (fnw 1)) k7) VC (FAX (shf fnw 12) (shf fnw 32) (VSE fnw kq) kq je))) (kQ + 1) (PIT (LVF (LNF (RLO DY (DAYV (fnw 0) (fnw 1)) k7) VL) (TRF (RLO DY (DAYV (fnw 0) (fnw 1)) k7) VC (FAX (shf fnw 12) (shf fnw 32) (VSE fnw kq) kq je))) L8 jj (S0F (KST (shf fnw 104) (VSE fnw kq) (fnw 3).toInt k6) (shf fnw 104) (VSE fnw kq) (shf fnw 32) (shf fnw 12) k6 kq je)) = PSS (LVF (LNF (RLO DY (DAYV (fnw 0) (fnw 1)) k7) VL) (TRF (RLO DY (DAYV (fnw 0) (fnw 1)) k7) VC (FAX (shf fnw 12) (shf fnw 32) (VSE fnw kq) kq je))) kQ (PIT (LVF (LNF (RLO DY (DAYV (fnw 0) (fnw 1)) k7) VL) (TRF (RLO DY (DAYV (fnw 0) (fnw 1)) k7) VC (FAX (shf fnw 12) (shf fnw 32) (VSE fnw kq) kq je))) L8 jj (S0F (KST (shf fnw 104) (VSE fnw kq) (fnw 3).toInt k6) (shf fnw 104) (VSE fnw kq) (shf fnw 32) (shf fnw 12) k6 kq je)) := hlw9.2 (Int32.not_lt.mpr c_89_7983)
                    have hst8 : ARS 100000 (PSS (LVF (LNF (RLO DY (DAYV (fnw 0) (fnw 1)) k7) VL) (TRF (RLO DY (DAYV (fnw 0) (fnw 1)) k7) VC (FAX (shf fnw 12) (shf fnw 32) (VSE fnw kq) kq je))) (kQ + 1) (PIT (LVF (LNF (RLO DY (DAYV (fnw 0) (fnw 1)) k7) VL) (TRF (RLO DY (DAYV (fnw 0) (fnw 1)) k7) VC (FAX (shf fnw 12) (shf fnw 32) (VSE fnw kq) kq je))) L8 jj (S0F (KST (shf fnw 104) (VSE fnw kq) (fnw 3).toInt k6) (shf fnw 104) (VSE fnw kq) (shf fnw 32) (shf fnw 12) k6 kq je))) vQ := by rw [heq9]; exact hsv
                    have hst9 : (ea = 0 ∧ PSS (LVF (LNF (RLO DY (DAYV (fnw 0) (fnw 1)) k7) VL) (TRF (RLO DY (DAYV (fnw 0) (fnw 1)) k7) VC (FAX (shf fnw 12) (shf fnw 32) (VSE fnw kq) kq je))) (kQ + 1) (PIT (LVF (LNF (RLO DY (DAYV (fnw 0) (fnw 1)) k7) VL) (TRF (RLO DY (DAYV (fnw 0) (fnw 1)) k7) VC (FAX (shf fnw 12) (shf fnw 32) (VSE fnw kq) kq je))) L8 jj (S0F (KST (shf fnw 104) (VSE fnw kq) (fnw 3).toInt k6) (shf fnw 104) (VSE fnw kq) (shf fnw 32) (shf fnw 12) k6 kq je)) = PIT (LVF (LNF (RLO DY (DAYV (fnw 0) (fnw 1)) k7) VL) (TRF (RLO DY (DAYV (fnw 0) (fnw 1)) k7) VC (FAX (shf fnw 12) (shf fnw 32) (VSE fnw kq) kq je))) L8 jj (S0F (KST (shf fnw 104) (VSE fnw kq) (fnw 3).toInt k6) (shf fnw 104) (VSE fnw kq) (shf fnw 32) (shf fnw 12) k6 kq je)) ∨ ea = 1 := hch.imp (fun h9 => ⟨h9.1, heq9.trans h9.2⟩) id
                    exact ihQ (kQ + 1) ea vQ gnp7979 _ _ _ (by omega) (by first | assumption | exact Or.inl rfl | exact Or.inr rfl | exact Or.inl ⟨rfl, Nat.le_refl _⟩ | exact hj1 | exact Or.inl ⟨rfl, rfl⟩) (by first | assumption | exact Or.inl rfl | exact Or.inr rfl | exact Or.inl ⟨rfl, Nat.le_refl _⟩ | exact hj1 | exact Or.inl ⟨rfl, rfl⟩) (by first | assumption | exact Or.inl rfl | exact Or.inr rfl | exact Or.inl ⟨rfl, Nat.le_refl _⟩ | exact hj1 | exact Or.inl ⟨rfl, rfl⟩) (And.intro hP hD) hS (lv_sub hl [0, 3, 4, 5, 6] rfl)
                  · refine lv_aload_n hx hb gX12_findShould_5.2.2.2.1 rfl (lv_at5 hl) ?_
                    refine gf_X12_29 hC rfl hK hP 1 rfl rfl gX12_findShould_5.2.2.2.2.1 ?_
                    refine lv_iload hx hb gX12_findShould_5.2.2.2.2.2.1 (lv_at0 hl) ?_
                    refine lv_iload hx hb gX12_findShould_5.2.2.2.2.2.2.1 (lv_at1 hl) ?_
                    refine astN hC hK hP hD hS 3 (ws' := [(nm, iA G 36 vA), (h0, oX12 nw nk mhasKept nt mtaped nr mrowMany mroundOf mroundFrom 0 nm vfh vth ns mfrom mto msort misFault mdeep mcoded mlines nl nc nF np ntr nb mbestCost nso nsi nit nsh nsf nss nrc mtraced mdealer mnumber mwhose msize misParted), (nw, iA G 1662 fnw), (ns, iA G 8 (upd vQ t9_7982 y9_7980)), (np, iA G 100 gnp7979)]) rfl (k := t9_7982) (by omega) (Nat.le_of_ble_eq_true rfl) (rfl) gX12_findShould_5.2.2.2.2.2.2.2.1 (fun H locs hP hD hS => ?_)
                    have hmu9 := mu_upd (f := vQ) (t := t9_7982) (x := y9_7980) (y := vQ t9_7982) (by omega) rfl c_89_7983
                    have hQ2 : mu vQ ≤ mu w0 := hQ.elim (fun h => h.2) (fun h => Nat.le_of_lt h.2)
                    have hQ3 : ((1 : Int32) = 0 ∧ mu (upd vQ t9_7982 y9_7980) ≤ mu w0) ∨ ((1 : Int32) = 1 ∧ mu (upd vQ t9_7982 y9_7980) < mu w0) := Or.inr ⟨rfl, by omega⟩
                    refine lv_iconst (v := 1) hx hb gX12_findShould_5.2.2.2.2.2.2.2.2.1 (by decide) ?_
                    refine lv_istore_n (lv' := [(3, .int 1), (6, .int (nI t9_7982)), (5, .int y9_7980), (4, .int (nI kQ)), (2, .int (nI v9)), (0, .ref h0), (1, .int (nI je))]) hx hb gX12_findShould_5.2.2.2.2.2.2.2.2.2 rfl hl (by decide) rfl (fun ls hl => ?_)
                    refine lv_iinc (v := nI (kQ + 1)) (lv' := [(4, .int (nI (kQ + 1))), (3, .int 1), (6, .int (nI t9_7982)), (5, .int y9_7980), (2, .int (nI v9)), (0, .ref h0), (1, .int (nI je))]) hx hb gX12_findShould_6.1 hl (k := 3) rfl (nI_1 _) (by decide) rfl (fun ls hl => ?_)
                    refine lv_goto (tgt := 51) hx hb gX12_findShould_6.2.1 (by decide) ?_
                    refine Kpds (ws' := [(h0, oX12 nw nk mhasKept nt mtaped nr mrowMany mroundOf mroundFrom 0 nm vfh vth ns mfrom mto msort misFault mdeep mcoded mlines nl nc nF np ntr nb mbestCost nso nsi nit nsh nsf nss nrc mtraced mdealer mnumber mwhose msize misParted), (nw, iA G 1662 fnw), (nm, iA G 36 vA), (ns, iA G 8 (upd vQ t9_7982 y9_7980)), (np, iA G 100 gnp7979)]) hP hD [1, 2, 0, 3, 4] fm_1_2_0_3_4 nd_1_2_0_3_4 sm_1_2_0_3_4 (fun hP hD => ?_)
                    have eLV9 : (LVF (LNF (RLO DY (DAYV (fnw 0) (fnw 1)) k7) VL) (TRF (RLO DY (DAYV (fnw 0) (fnw 1)) k7) VC (FAX (shf fnw 12) (shf fnw 32) (VSE fnw kq) kq je))) kQ = LVX ((VL v9).getD kQ LN0) (PLN (FAX (shf fnw 12) (shf fnw 32) (VSE fnw kq) kq je) (VC v9 kQ) 1 % 2 = 1) := by rw [← eo9]; rfl
                    have hlw9 := FLQ.low (L := (LVF (LNF (RLO DY (DAYV (fnw 0) (fnw 1)) k7) VL) (TRF (RLO DY (DAYV (fnw 0) (fnw 1)) k7) VC (FAX (shf fnw 12) (shf fnw 32) (VSE fnw kq) kq je))) kQ) hsv hbq9 (hlb9 kQ (by omega)) (by rw [eLV9]; exact hpx7980) (fun j o w h9 => hpx7982.1.trans (TNO.of (by rw [eLV9] at h9; exact h9))) hpx7982.2 (by decide)
                    have hst8 : ARS 100000 (PSS (LVF (LNF (RLO DY (DAYV (fnw 0) (fnw 1)) k7) VL) (TRF (RLO DY (DAYV (fnw 0) (fnw 1)) k7) VC (FAX (shf fnw 12) (shf fnw 32) (VSE fnw kq) kq je))) (kQ + 1) (PIT (LVF (LNF (RLO DY (DAYV (fnw 0) (fnw 1)) k7) VL) (TRF (RLO DY (DAYV (fnw 0) (fnw 1)) k7) VC (FAX (shf fnw 12) (shf fnw 32) (VSE fnw kq) kq je))) L8 jj (S0F (KST (shf fnw 104) (VSE fnw kq) (fnw 3).toInt k6) (shf fnw 104) (VSE fnw kq) (shf fnw 32) (shf fnw 12) k6 kq je))) (upd vQ t9_7982 y9_7980) := hlw9.1 (Int32.not_le.mp c_89_7983)
                    have hst9 : ((1 : Int32) = 0 ∧ PSS (LVF (LNF (RLO DY (DAYV (fnw 0) (fnw 1)) k7) VL) (TRF (RLO DY (DAYV (fnw 0) (fnw 1)) k7) VC (FAX (shf fnw 12) (shf fnw 32) (VSE fnw kq) kq je))) (kQ + 1) (PIT (LVF (LNF (RLO DY (DAYV (fnw 0) (fnw 1)) k7) VL) (TRF (RLO DY (DAYV (fnw 0) (fnw 1)) k7) VC (FAX (shf fnw 12) (shf fnw 32) (VSE fnw kq) kq je))) L8 jj (S0F (KST (shf fnw 104) (VSE fnw kq) (fnw 3).toInt k6) (shf fnw 104) (VSE fnw kq) (shf fnw 32) (shf fnw 12) k6 kq je)) = PIT (LVF (LNF (RLO DY (DAYV (fnw 0) (fnw 1)) k7) VL) (TRF (RLO DY (DAYV (fnw 0) (fnw 1)) k7) VC (FAX (shf fnw 12) (shf fnw 32) (VSE fnw kq) kq je))) L8 jj (S0F (KST (shf fnw 104) (VSE fnw kq) (fnw 3).toInt k6) (shf fnw 104) (VSE fnw kq) (shf fnw 32) (shf fnw 12) k6 kq je)) ∨ (1 : Int32) = 1 := Or.inr rfl
                    exact ihQ (kQ + 1) 1 (upd vQ t9_7982 y9_7980) gnp7979 _ _ _ (by omega) (by first | assumption | exact Or.inl rfl | exact Or.inr rfl | exact Or.inl ⟨rfl, Nat.le_refl _⟩ | exact hj1 | exact Or.inl ⟨rfl, rfl⟩) (by first | assumption | exact Or.inl rfl | exact Or.inr rfl | exact Or.inl ⟨rfl, Nat.le_refl _⟩ | exact hj1 | exact Or.inl ⟨rfl, rfl⟩) (by first | assumption | exact Or.inl rfl | exact Or.inr rfl | exact Or.inl ⟨rfl, Nat.le_refl _⟩ | exact hj1 | exact Or.inl ⟨rfl, rfl⟩) (And.intro hP hD) hS (lv_sub hl [0, 1, 4, 5, 6] rfl)
              exact keyQ L8 0 0 w0 w1 _ _ _ (by omega) (by first | assumption | exact Or.inl rfl | exact Or.inr rfl | exact Or.inl ⟨rfl, Nat.le_refl _⟩ | exact hj1 | exact Or.inl ⟨rfl, rfl⟩) (by first | assumption | exact Or.inl rfl | exact Or.inr rfl | exact Or.inl ⟨rfl, Nat.le_refl _⟩ | exact hj1 | exact Or.inl ⟨rfl, rfl⟩) (by first | assumption | exact Or.inl rfl | exact Or.inr rfl | exact Or.inl ⟨rfl, Nat.le_refl _⟩ | exact hj1 | exact Or.inl ⟨rfl, rfl⟩) (And.intro hP hD) hS (lv_sub hl [0, 1, 2, 3, 4] rfl)
        exact keyW (mu vS + 1) 1 vS fnp _ _ _ (⟨Or.inr ⟨rfl, Nat.lt_succ_self _⟩, 0, htd, fun h9 => absurd h9 (by decide)⟩) (And.intro hP hD) hS (lv_sub hl [0, 1, 2, 3] rfl)
    | succ nA ihA =>
      intro kA vfh vth vA vS H locs ls hkA hvA htd hPD hS hl
      refine Kan2 hPD (fun hP hD => ?_)
      refine lv_iload_n hx hb gX12_findShould_0.2.2.1 rfl (lv_at0 hl) ?_
      refine lv_bipush (v := 8) hx hb gX12_findShould_0.2.2.2.1 (by decide) ?_
      refine lv_icmp_ge (tgt := 27) hx hb gX12_findShould_0.2.2.2.2.1 (by decide) (fun c9 => absurd c9 (nI_ge (a := kA) (b := 8) (by omega) (by omega))) (fun _ => ?_)
      refine lv_aload_n hx hb gX12_findShould_0.2.2.2.2.2.1 rfl (lv_at1 hl) ?_
      refine gf_X12_29 hC rfl hK hP 0 rfl rfl gX12_findShould_0.2.2.2.2.2.2.1 ?_
      refine lv_iload_n hx hb gX12_findShould_0.2.2.2.2.2.2.2.1 rfl (lv_at0 hl) ?_
      refine lv_aload_n hx hb gX12_findShould_0.2.2.2.2.2.2.2.2.1 rfl (lv_at1 hl) ?_
      refine lv_iload_n hx hb gX12_findShould_0.2.2.2.2.2.2.2.2.2 rfl (lv_at2 hl) ?_
      refine lv_iload_n hx hb gX12_findShould_1.1 rfl (lv_at0 hl) ?_
      refine lv_iconst (v := 1) hx hb gX12_findShould_1.2.1 (by decide) ?_
      refine iV (wr := [(ns, iA G 8 vS), (np, iA G 100 fnp)]) hC hK hl hP hD hS hA (m_knewByX l G kq k6 h0 je kA 1 nw nk mhasKept nt mtaped nr mrowMany mroundOf mroundFrom nm vfh vth ns mfrom mto msort misFault mdeep mcoded mlines nl nc nF np ntr nb mbestCost nso nsi nit nsh nsf nss nrc mtraced mdealer mnumber mwhose msize misParted fnw vA (hvA) (hN) (hgp) (ekq) (hkq) (e6) (hk6) (hje) (by omega)) si_X12_176 [0, 1, 2] [3, 4] sm_0_1_2 fm_0_1_2 nd_0_1_2 sm_3_4 nd_3_4 dj_0_1_2__3_4 rfl rfl rfl rfl rfl (Nat.le_of_ble_eq_true rfl) rm_8_5_7 ⟨Nat.le_of_ble_eq_true rfl, Nat.le_of_ble_eq_true rfl⟩ gX12_findShould_1.2.2.1 (fun r7984 => Ktu3 fun fh17986 th17987 gnm7988 => ?_)
      intro H locs hr7984 hP hD hS
      try dsimp only at hr7984
      refine Kpdr (ws := [(ns, iA G 8 vS), (np, iA G 100 fnp), (h0, oX12 nw nk mhasKept nt mtaped nr mrowMany mroundOf mroundFrom 0 nm fh17986 th17987 ns mfrom mto msort misFault mdeep mcoded mlines nl nc nF np ntr nb mbestCost nso nsi nit nsh nsf nss nrc mtraced mdealer mnumber mwhose msize misParted), (nw, iA G 1662 fnw), (nm, iA G 36 gnm7988)]) hP hD (fun hP hD => ?_)
      obtain ⟨hr7984, w7989⟩ := hr7984
      obtain ⟨r9_7990, hpx7990, hpe7990⟩ := hr7984
      subst r7984
      try dsimp only at hpx7990
      refine astN hC hK hP hD hS 0 (ws' := [(ns, iA G 8 (upd vS kA r9_7990)), (np, iA G 100 fnp), (h0, oX12 nw nk mhasKept nt mtaped nr mrowMany mroundOf mroundFrom 0 nm fh17986 th17987 ns mfrom mto msort misFault mdeep mcoded mlines nl nc nF np ntr nb mbestCost nso nsi nit nsh nsf nss nrc mtraced mdealer mnumber mwhose msize misParted), (nw, iA G 1662 fnw), (nm, iA G 36 gnm7988)]) rfl (k := kA) (by omega) (Nat.le_of_ble_eq_true rfl) (rfl) gX12_findShould_1.2.2.2.1 (fun H locs hP hD hS => ?_)
      refine lv_iinc (v := nI (kA + 1)) (lv' := [(2, .int (nI (kA + 1))), (0, .ref h0), (1, .int (nI je))]) hx hb gX12_findShould_1.2.2.2.2.1 hl (k := 0) rfl (nI_1 _) (by decide) rfl (fun ls hl => ?_)
      refine lv_goto (tgt := 2) hx hb gX12_findShould_1.2.2.2.2.2.1 (by decide) ?_
      refine Kpds (ws' := [(h0, oX12 nw nk mhasKept nt mtaped nr mrowMany mroundOf mroundFrom 0 nm fh17986 th17987 ns mfrom mto msort misFault mdeep mcoded mlines nl nc nF np ntr nb mbestCost nso nsi nit nsh nsf nss nrc mtraced mdealer mnumber mwhose msize misParted), (nw, iA G 1662 fnw), (nm, iA G 36 gnm7988), (ns, iA G 8 (upd vS kA r9_7990)), (np, iA G 100 fnp)]) hP hD [2, 3, 4, 0, 1] fm_2_3_4_0_1 nd_2_3_4_0_1 sm_2_3_4_0_1 (fun hP hD => ?_)
      have hst9 : TDP 100000 (S0F (KST (shf fnw 104) (VSE fnw kq) (fnw 3).toInt k6) (shf fnw 104) (VSE fnw kq) (shf fnw 32) (shf fnw 12) k6 kq je) (upd vS kA r9_7990) (kA + 1) := TDP.next htd hpx7990
      exact ihA (kA + 1) fh17986 th17987 gnm7988 (upd vS kA r9_7990) _ _ _ (by omega) (by first | assumption | exact Or.inl rfl | exact Or.inr rfl | exact TDP.zero) (by first | assumption | exact Or.inl rfl | exact Or.inr rfl | exact TDP.zero) (And.intro hP hD) hS (lv_sub hl [0, 1, 2] rfl)
  exact keyA 8 0 mfromHour mtoHour fnm fns _ _ _ (by omega) (by first | assumption | exact Or.inl rfl | exact Or.inr rfl | exact TDP.zero) (by first | assumption | exact Or.inl rfl | exact Or.inr rfl | exact TDP.zero) (And.intro hP hD) hS (lv_sub hl [0, 1, 2] rfl)
def K_m_fromOfX (l : Launch) (G : GG) (kq : Nat) (k6 : Nat) (k7 : Nat) (VL : Nat → List LNT) (VC : Nat → Nat → List Int32) (DY : Nat → Int32) (h0 : Nat) (je : Nat) (jt : Nat) (wy : Int32) (nw : Nat) (nk : Nat) (mhasKept : Int32) (nt : Nat) (mtaped : Int32) (nr : Nat) (mrowMany : Int32) (mroundOf : Int32) (mroundFrom : Int32) (nm : Nat) (mfromHour : Int32) (mtoHour : Int32) (ns : Nat) (mfrom : Int32) (mto : Int32) (msort : Int32) (misFault : Int32) (mdeep : Int32) (mcoded : Int32) (mlines : Int32) (nl : Nat) (nc : Nat) (nF : Nat) (np : Nat) (ntr : Nat) (nb : Nat) (mbestCost : Int32) (nso : Nat) (nsi : Nat) (nit : Nat) (nsh : Nat) (nsf : Nat) (nss : Nat) (nrc : Nat) (mtraced : Int32) (mdealer : Int32) (mnumber : Int32) (mwhose : Int32) (msize : Int32) (misParted : Int32) (fnw : Nat → Int32) (fnm : Nat → Int32) (fns : Nat → Int32) (fnp : Nat → Int32) : Prop := MI l G yX12_fromOf cX12_fromOf 4 (some .int) 9 0 0 [.ref h0, .int (nI je), .int (nI jt), .int wy] [(h0, oX12 nw nk mhasKept nt mtaped nr mrowMany mroundOf mroundFrom 0 nm mfromHour mtoHour ns mfrom mto msort misFault mdeep mcoded mlines nl nc nF np ntr nb mbestCost nso nsi nit nsh nsf nss nrc mtraced mdealer mnumber mwhose msize misParted), (nw, iA G 1662 fnw), (nm, iA G 36 fnm), (ns, iA G 8 fns), (np, iA G 100 fnp)] (fun (r : Int32) (u : Int32 × Int32 × (Nat → Int32) × (Nat → Int32) × (Nat → Int32)) => (∃ (w9:Int32), (ARW 100000 (KWO (KST (shf fnw 104) (VSE fnw kq) (fnw 3).toInt k6) (shf fnw 104) (VSE fnw kq) (shf fnw 32) (shf fnw 12) k6 kq je (LVF (LNF (RLO DY (DAYV (fnw 0) (fnw 1)) k7) VL) (TRF (RLO DY (DAYV (fnw 0) (fnw 1)) k7) VC (FAX (shf fnw 12) (shf fnw 32) (VSE fnw kq) kq je))) (LVN (RLO DY (DAYV (fnw 0) (fnw 1)) k7) VL) jt wy) w9) ∧ r = w9) ∧ (MB u.2.2.1)) (fun u : Int32 × Int32 × (Nat → Int32) × (Nat → Int32) × (Nat → Int32) => [(h0, oX12 nw nk mhasKept nt mtaped nr mrowMany mroundOf mroundFrom 0 nm u.1 u.2.1 ns mfrom mto msort misFault mdeep mcoded mlines nl nc nF np ntr nb mbestCost nso nsi nit nsh nsf nss nrc mtraced mdealer mnumber mwhose msize misParted), (nw, iA G 1662 fnw), (nm, iA G 36 u.2.2.1), (ns, iA G 8 u.2.2.2.1), (np, iA G 100 u.2.2.2.2)])
set_option maxHeartbeats 4000000 in
set_option maxRecDepth 100000 in
theorem m_fromOfX (l : Launch) (G : GG) (kq : Nat) (k6 : Nat) (k7 : Nat) (VL : Nat → List LNT) (VC : Nat → Nat → List Int32) (DY : Nat → Int32) (h0 : Nat) (je : Nat) (jt : Nat) (wy : Int32) (nw : Nat) (nk : Nat) (mhasKept : Int32) (nt : Nat) (mtaped : Int32) (nr : Nat) (mrowMany : Int32) (mroundOf : Int32) (mroundFrom : Int32) (nm : Nat) (mfromHour : Int32) (mtoHour : Int32) (ns : Nat) (mfrom : Int32) (mto : Int32) (msort : Int32) (misFault : Int32) (mdeep : Int32) (mcoded : Int32) (mlines : Int32) (nl : Nat) (nc : Nat) (nF : Nat) (np : Nat) (ntr : Nat) (nb : Nat) (mbestCost : Int32) (nso : Nat) (nsi : Nat) (nit : Nat) (nsh : Nat) (nsf : Nat) (nss : Nat) (nrc : Nat) (mtraced : Int32) (mdealer : Int32) (mnumber : Int32) (mwhose : Int32) (msize : Int32) (misParted : Int32) (fnw : Nat → Int32) (fnm : Nat → Int32) (fns : Nat → Int32) (fnp : Nat → Int32) (hje : je < 10) (hjt : jt < 8) (hwy : Wi wy 0 2) (hV : VI fnw) (hM : MB fnm) (hN : NI fnw) (hgp : GPRm (fnw 3)) (ekq : fnw 5 = nI kq) (hkq : kq ≤ 12) (e6 : fnw 6 = nI k6) (hk6 : k6 ≤ 24) (ek7 : fnw 7 = nI k7) (hk7 : k7 ≤ 8) (hVM : VMZ fnw k7 VL VC DY) : K_m_fromOfX l G kq k6 k7 VL VC DY h0 je jt wy nw nk mhasKept nt mtaped nr mrowMany mroundOf mroundFrom nm mfromHour mtoHour ns mfrom mto msort misFault mdeep mcoded mlines nl nc nF np ntr nb mbestCost nso nsi nit nsh nsf nss nrc mtraced mdealer mnumber mwhose msize misParted fnw fnm fns fnp := by
  refine MI.start (by decide +kernel) (Nat.le_of_ble_eq_true rfl) ?_
  intro p e s m below meth c A ls hC hK hP hD hS hA hl
  refine absQ (fun Q0 hQ0 => ?_)
  have hl : lv_has ls 4 [(0, .ref h0), (1, .int (nI je)), (2, .int (nI jt)), (3, .int wy)] := hl
  refine Kan8 hC (fun hx hb hr hml hB hown hlocks hnm => ?_)
  refine lv_iload_n hx hb gX12_fromOf_0.1 rfl (lv_at3 hl) ?_
  refine lv_iconst (v := 2) hx hb gX12_fromOf_0.2.1 (by decide) ?_
  refine lv_icmp_ge (tgt := 21) hx hb gX12_fromOf_0.2.2.1 (by decide) (fun c_2_7991 => ?_) (fun c_2_7991 => ?_)
  · refine lv_aload_n hx hb gX12_fromOf_1.2.2.2.1 rfl (lv_at0 hl) ?_
    refine lv_iload_n hx hb gX12_fromOf_1.2.2.2.2.1 rfl (lv_at1 hl) ?_
    refine vV (wr := []) hC hK hl hP hD hS hA (m_findShouldX l G kq k6 k7 VL VC DY h0 je nw nk mhasKept nt mtaped nr mrowMany mroundOf mroundFrom nm mfromHour mtoHour ns mfrom mto msort misFault mdeep mcoded mlines nl nc nF np ntr nb mbestCost nso nsi nit nsh nsf nss nrc mtraced mdealer mnumber mwhose msize misParted fnw fnm fns fnp (hje) (hV) (hM) (hN) (hgp) (ekq) (hkq) (e6) (hk6) (ek7) (hk7) (hVM)) si_X12_199 [0, 1, 2, 3, 4] [] sm_0_1_2_3_4 fm_0_1_2_3_4 nd_0_1_2_3_4 rfl rfl (by decide) rfl rfl rfl rfl rfl (Nat.le_of_ble_eq_true rfl) rm_9_8_7 ⟨Nat.le_of_ble_eq_true rfl, Nat.le_of_ble_eq_true rfl⟩ gX12_fromOf_1.2.2.2.2.2.1 (Ktu5 fun fh17994 th17995 gnm7996 gns7997 gnp7998 => ?_)
    intro H locs hr7992 hP hD hS
    try dsimp only at hr7992
    refine Kpdr (ws := [(h0, oX12 nw nk mhasKept nt mtaped nr mrowMany mroundOf mroundFrom 0 nm fh17994 th17995 ns mfrom mto msort misFault mdeep mcoded mlines nl nc nF np ntr nb mbestCost nso nsi nit nsh nsf nss nrc mtraced mdealer mnumber mwhose msize misParted), (nw, iA G 1662 fnw), (nm, iA G 36 gnm7996), (ns, iA G 8 gns7997), (np, iA G 100 gnp7998)]) hP hD (fun hP hD => ?_)
    have hu8000 := hr7992.1
    have hu8001 := hr7992.2
    refine lv_aload_n hx hb gX12_fromOf_1.2.2.2.2.2.2.1 rfl (lv_at0 hl) ?_
    refine gf_X12_29 hC rfl hK hP 0 rfl rfl gX12_fromOf_1.2.2.2.2.2.2.2.1 ?_
    refine lv_iload_n hx hb gX12_fromOf_1.2.2.2.2.2.2.2.2.1 rfl (lv_at2 hl) ?_
    refine aldN hC hK hP 3 rfl (k := jt) (by omega) (Nat.le_of_ble_eq_true rfl) (v := gns7997 jt) rfl gX12_fromOf_1.2.2.2.2.2.2.2.2.2 ?_
    refine toQ hQ0 ?_
    exact RI (v := gns7997 jt) hC hP hD hS [0, 1, 2, 3, 4] (fh17994, th17995, gnm7996, gns7997, gnp7998) rfl rfl (by decide) (⟨⟨_, KWO.y (WY2.y hwy c_2_7991) (SHF.w (HBD.pit (S0F.hbd (SVL.ofm hN (by omega)) (NI.slow hN (by omega)).1 (NI.slow hN (by omega)).2) (LVM.lvb hVM) 9) hjt (hu8001 jt hjt)), rfl⟩, by first | assumption | exact hu8000⟩) rfl gX12_fromOf_2
  · refine lv_aload_n hx hb gX12_fromOf_0.2.2.2.1 rfl (lv_at0 hl) ?_
    refine lv_iload_n hx hb gX12_fromOf_0.2.2.2.2.1 rfl (lv_at1 hl) ?_
    refine lv_iload_n hx hb gX12_fromOf_0.2.2.2.2.2.1 rfl (lv_at2 hl) ?_
    refine lv_iload_n hx hb gX12_fromOf_0.2.2.2.2.2.2.1 rfl (lv_at3 hl) ?_
    refine lv_if_ne (tgt := 16) hx hb gX12_fromOf_0.2.2.2.2.2.2.2.1 (by decide) (fun c_9_8002 => ?_) (fun c_9_8002 => ?_)
    · refine lv_iconst (v := 0) hx hb gX12_fromOf_1.1 (by decide) ?_
      refine iV (wr := [(ns, iA G 8 fns), (np, iA G 100 fnp)]) hC hK hl hP hD hS hA (m_knewByX l G kq k6 h0 je jt 0 nw nk mhasKept nt mtaped nr mrowMany mroundOf mroundFrom nm mfromHour mtoHour ns mfrom mto msort misFault mdeep mcoded mlines nl nc nF np ntr nb mbestCost nso nsi nit nsh nsf nss nrc mtraced mdealer mnumber mwhose msize misParted fnw fnm (hM) (hN) (hgp) (ekq) (hkq) (e6) (hk6) (hje) (hjt)) si_X12_176 [0, 1, 2] [3, 4] sm_0_1_2 fm_0_1_2 nd_0_1_2 sm_3_4 nd_3_4 dj_0_1_2__3_4 rfl rfl rfl rfl rfl (Nat.le_of_ble_eq_true rfl) rm_9_5_7 ⟨Nat.le_of_ble_eq_true rfl, Nat.le_of_ble_eq_true rfl⟩ gX12_fromOf_1.2.1 (fun r8003 => Ktu3 fun fh18005 th18006 gnm8007 => ?_)
      intro H locs hr8003 hP hD hS
      try dsimp only at hr8003
      refine Kpdr (ws := [(ns, iA G 8 fns), (np, iA G 100 fnp), (h0, oX12 nw nk mhasKept nt mtaped nr mrowMany mroundOf mroundFrom 0 nm fh18005 th18006 ns mfrom mto msort misFault mdeep mcoded mlines nl nc nF np ntr nb mbestCost nso nsi nit nsh nsf nss nrc mtraced mdealer mnumber mwhose msize misParted), (nw, iA G 1662 fnw), (nm, iA G 36 gnm8007)]) hP hD (fun hP hD => ?_)
      obtain ⟨hr8003, w8008⟩ := hr8003
      obtain ⟨r9_8009, hpx8009, hpe8009⟩ := hr8003
      subst r8003
      try dsimp only at hpx8009
      refine toQ hQ0 ?_
      exact RI (v := r9_8009) hC hP hD hS [2, 3, 4, 0, 1] (fh18005, th18006, gnm8007, fns, fnp) rfl rfl (by decide) (⟨⟨_, KWO.n1 (SVL.ofm hN (by omega)) (NI.slow hN (by omega)).1 (NI.slow hN (by omega)).2 (WY2.n c_2_7991) c_9_8002 hpx8009, rfl⟩, by first | assumption | exact w8008⟩) rfl gX12_fromOf_1.2.2.1
    · refine lv_iconst (v := 1) hx hb gX12_fromOf_0.2.2.2.2.2.2.2.2.1 (by decide) ?_
      refine lv_goto (tgt := 17) hx hb gX12_fromOf_0.2.2.2.2.2.2.2.2.2 (by decide) ?_
      refine iV (wr := [(ns, iA G 8 fns), (np, iA G 100 fnp)]) hC hK hl hP hD hS hA (m_knewByX l G kq k6 h0 je jt 1 nw nk mhasKept nt mtaped nr mrowMany mroundOf mroundFrom nm mfromHour mtoHour ns mfrom mto msort misFault mdeep mcoded mlines nl nc nF np ntr nb mbestCost nso nsi nit nsh nsf nss nrc mtraced mdealer mnumber mwhose msize misParted fnw fnm (hM) (hN) (hgp) (ekq) (hkq) (e6) (hk6) (hje) (hjt)) si_X12_176 [0, 1, 2] [3, 4] sm_0_1_2 fm_0_1_2 nd_0_1_2 sm_3_4 nd_3_4 dj_0_1_2__3_4 rfl rfl rfl rfl rfl (Nat.le_of_ble_eq_true rfl) rm_9_5_7 ⟨Nat.le_of_ble_eq_true rfl, Nat.le_of_ble_eq_true rfl⟩ gX12_fromOf_1.2.1 (fun r8010 => Ktu3 fun fh18012 th18013 gnm8014 => ?_)
      intro H locs hr8010 hP hD hS
      try dsimp only at hr8010
      refine Kpdr (ws := [(ns, iA G 8 fns), (np, iA G 100 fnp), (h0, oX12 nw nk mhasKept nt mtaped nr mrowMany mroundOf mroundFrom 0 nm fh18012 th18013 ns mfrom mto msort misFault mdeep mcoded mlines nl nc nF np ntr nb mbestCost nso nsi nit nsh nsf nss nrc mtraced mdealer mnumber mwhose msize misParted), (nw, iA G 1662 fnw), (nm, iA G 36 gnm8014)]) hP hD (fun hP hD => ?_)
      obtain ⟨hr8010, w8015⟩ := hr8010
      obtain ⟨r9_8016, hpx8016, hpe8016⟩ := hr8010
      subst r8010
      try dsimp only at hpx8016
      refine toQ hQ0 ?_
      exact RI (v := r9_8016) hC hP hD hS [2, 3, 4, 0, 1] (fh18012, th18013, gnm8014, fns, fnp) rfl rfl (by decide) (⟨⟨_, KWO.n0 (SVL.ofm hN (by omega)) (NI.slow hN (by omega)).1 (NI.slow hN (by omega)).2 (WY2.n c_2_7991) c_9_8002 hpx8016, rfl⟩, by first | assumption | exact w8015⟩) rfl gX12_fromOf_1.2.2.1
def K_m_standsX (l : Launch) (G : GG) (kq : Nat) (k6 : Nat) (k7 : Nat) (VL : Nat → List LNT) (VC : Nat → Nat → List Int32) (DY : Nat → Int32) (h0 : Nat) (jf : Nat) (nw : Nat) (nk : Nat) (mhasKept : Int32) (nt : Nat) (mtaped : Int32) (nr : Nat) (mrowMany : Int32) (mroundOf : Int32) (mroundFrom : Int32) (nm : Nat) (mfromHour : Int32) (mtoHour : Int32) (ns : Nat) (mfrom : Int32) (mto : Int32) (msort : Int32) (misFault : Int32) (mdeep : Int32) (mcoded : Int32) (mlines : Int32) (nl : Nat) (nc : Nat) (nF : Nat) (np : Nat) (ntr : Nat) (nb : Nat) (mbestCost : Int32) (nso : Nat) (nsi : Nat) (nit : Nat) (nsh : Nat) (nsf : Nat) (nss : Nat) (nrc : Nat) (mtraced : Int32) (mdealer : Int32) (mnumber : Int32) (mwhose : Int32) (msize : Int32) (misParted : Int32) (fnw : Nat → Int32) (fnm : Nat → Int32) (fns : Nat → Int32) (fnp : Nat → Int32) : Prop := MI l G yX12_stands cX12_stands 3 (some .boolean) 10 0 0 [.ref h0, .int (nI jf)] [(h0, oX12 nw nk mhasKept nt mtaped nr mrowMany mroundOf mroundFrom 0 nm mfromHour mtoHour ns mfrom mto msort misFault mdeep mcoded mlines nl nc nF np ntr nb mbestCost nso nsi nit nsh nsf nss nrc mtraced mdealer mnumber mwhose msize misParted), (nw, iA G 1662 fnw), (nm, iA G 36 fnm), (ns, iA G 8 fns), (np, iA G 100 fnp)] (fun (r : Int32) (u : Int32 × Int32 × (Nat → Int32) × (Nat → Int32) × (Nat → Int32)) => ((r = 1 ∧ (STD (KST (shf fnw 104) (VSE fnw kq) (fnw 3).toInt k6) (shf fnw 104) (VSE fnw kq) (shf fnw 32) (shf fnw 12) k6 kq (fun e9 => LVF (LNF (RLO DY (DAYV (fnw 0) (fnw 1)) k7) VL) (TRF (RLO DY (DAYV (fnw 0) (fnw 1)) k7) VC (FAX (shf fnw 12) (shf fnw 32) (VSE fnw kq) kq e9))) (LVN (RLO DY (DAYV (fnw 0) (fnw 1)) k7) VL) (shf fnw 1552)) jf) ∨ (r = 0 ∧ ¬ (STD (KST (shf fnw 104) (VSE fnw kq) (fnw 3).toInt k6) (shf fnw 104) (VSE fnw kq) (shf fnw 32) (shf fnw 12) k6 kq (fun e9 => LVF (LNF (RLO DY (DAYV (fnw 0) (fnw 1)) k7) VL) (TRF (RLO DY (DAYV (fnw 0) (fnw 1)) k7) VC (FAX (shf fnw 12) (shf fnw 32) (VSE fnw kq) kq e9))) (LVN (RLO DY (DAYV (fnw 0) (fnw 1)) k7) VL) (shf fnw 1552)) jf)) ∧ (MB u.2.2.1)) (fun u : Int32 × Int32 × (Nat → Int32) × (Nat → Int32) × (Nat → Int32) => [(h0, oX12 nw nk mhasKept nt mtaped nr mrowMany mroundOf mroundFrom 0 nm u.1 u.2.1 ns mfrom mto msort misFault mdeep mcoded mlines nl nc nF np ntr nb mbestCost nso nsi nit nsh nsf nss nrc mtraced mdealer mnumber mwhose msize misParted), (nw, iA G 1662 fnw), (nm, iA G 36 u.2.2.1), (ns, iA G 8 u.2.2.2.1), (np, iA G 100 u.2.2.2.2)])
set_option maxHeartbeats 4000000 in
set_option maxRecDepth 100000 in
theorem m_standsX (l : Launch) (G : GG) (kq : Nat) (k6 : Nat) (k7 : Nat) (kp : Nat) (k9 : Nat) (VL : Nat → List LNT) (VC : Nat → Nat → List Int32) (DY : Nat → Int32) (h0 : Nat) (jf : Nat) (nw : Nat) (nk : Nat) (mhasKept : Int32) (nt : Nat) (mtaped : Int32) (nr : Nat) (mrowMany : Int32) (mroundOf : Int32) (mroundFrom : Int32) (nm : Nat) (mfromHour : Int32) (mtoHour : Int32) (ns : Nat) (mfrom : Int32) (mto : Int32) (msort : Int32) (misFault : Int32) (mdeep : Int32) (mcoded : Int32) (mlines : Int32) (nl : Nat) (nc : Nat) (nF : Nat) (np : Nat) (ntr : Nat) (nb : Nat) (mbestCost : Int32) (nso : Nat) (nsi : Nat) (nit : Nat) (nsh : Nat) (nsf : Nat) (nss : Nat) (nrc : Nat) (mtraced : Int32) (mdealer : Int32) (mnumber : Int32) (mwhose : Int32) (msize : Int32) (misParted : Int32) (fnw : Nat → Int32) (fnm : Nat → Int32) (fns : Nat → Int32) (fnp : Nat → Int32) (hjf : jf < k9) (hV : VI fnw) (hM : MB fnm) (hN : NI fnw) (hgp : GPRm (fnw 3)) (ekq : fnw 5 = nI kq) (hkq : kq ≤ 12) (e6 : fnw 6 = nI k6) (hk6 : k6 ≤ 24) (ek7 : fnw 7 = nI k7) (hk7 : k7 ≤ 8) (ekp : fnw 4 = nI kp) (hkp : kp ≤ 10) (hVM : VMZ fnw k7 VL VC DY) (hFN : FNO (shf fnw 1552) k9 kp) (hk9 : k9 ≤ 12) : K_m_standsX l G kq k6 k7 VL VC DY h0 jf nw nk mhasKept nt mtaped nr mrowMany mroundOf mroundFrom nm mfromHour mtoHour ns mfrom mto msort misFault mdeep mcoded mlines nl nc nF np ntr nb mbestCost nso nsi nit nsh nsf nss nrc mtraced mdealer mnumber mwhose msize misParted fnw fnm fns fnp := by
  refine MI.start (by decide +kernel) (Nat.le_of_ble_eq_true rfl) ?_
  intro p e s m below meth c A ls hC hK hP hD hS hA hl
  refine absQ (fun Q0 hQ0 => ?_)
  have hl : lv_has ls 3 [(0, .ref h0), (1, .int (nI jf))] := hl
  refine Kan8 hC (fun hx hb hr hml hB hown hlocks hnm => ?_)
  have hf9 := hFN jf hjf
  obtain ⟨je, hje, e90⟩ := Hs_nat (by omega) hf9.1
  obtain ⟨jt, hjt, e91⟩ := Wi7 hf9.2.1
  have hq0 : fnw (1552 + 4 * jf + 0) = shf fnw 1552 (jf * 4 + 0) := congrArg fnw (by omega)
  have hq1 : fnw (1552 + 4 * jf + 1) = shf fnw 1552 (jf * 4 + 1) := congrArg fnw (by omega)
  have hq2 : fnw (1552 + 4 * jf + 2) = shf fnw 1552 (jf * 4 + 2) := congrArg fnw (by omega)
  have hq3 : fnw (1552 + 4 * jf + 3) = shf fnw 1552 (jf * 4 + 3) := congrArg fnw (by omega)
  refine lv_sipush (v := 1552) hx hb gX12_stands_0.1 (by decide) ?_
  refine lv_iconst (v := 4) hx hb gX12_stands_0.2.1 (by decide) ?_
  refine lv_iload_n hx hb gX12_stands_0.2.2.1 rfl (lv_at1 hl) ?_
  refine lv_imul hx hb gX12_stands_0.2.2.2.1 ?_
  refine eqi (x1 := nI (4 * jf)) (nI_mul 4 jf) ?_
  refine lv_iadd hx hb gX12_stands_0.2.2.2.2.1 ?_
  refine eqi (x1 := nI (1552 + 4 * jf)) (nI_add 1552 (4 * jf)) ?_
  refine lv_istore_n (lv' := [(2, .int (nI (1552 + 4 * jf))), (0, .ref h0), (1, .int (nI jf))]) hx hb gX12_stands_0.2.2.2.2.2.1 rfl hl (by decide) rfl (fun ls hl => ?_)
  refine lv_aload_n hx hb gX12_stands_0.2.2.2.2.2.2.1 rfl (lv_at1 hl) ?_
  refine gf_X12_9 hC rfl hK hP 0 rfl rfl gX12_stands_0.2.2.2.2.2.2.2.1 ?_
  refine lv_iload_n hx hb gX12_stands_0.2.2.2.2.2.2.2.2.1 rfl (lv_at0 hl) ?_
  refine lv_iconst (v := 2) hx hb gX12_stands_0.2.2.2.2.2.2.2.2.2 (by decide) ?_
  refine lv_iadd hx hb gX12_stands_1.1 ?_
  refine eqi (x1 := nI (1552 + 4 * jf + 2)) (nI_add (1552 + 4 * jf) 2) ?_
  refine aldN hC hK hP 1 rfl (k := 1552 + 4 * jf + 2) (by omega) (Nat.le_of_ble_eq_true rfl) (v := shf fnw 1552 (jf * 4 + 2)) (hq2) gX12_stands_1.2.1 ?_
  refine lv_aload_n hx hb gX12_stands_1.2.2.1 rfl (lv_at1 hl) ?_
  refine lv_aload_n hx hb gX12_stands_1.2.2.2.1 rfl (lv_at1 hl) ?_
  refine gf_X12_9 hC rfl hK hP 0 rfl rfl gX12_stands_1.2.2.2.2.1 ?_
  refine lv_iload_n hx hb gX12_stands_1.2.2.2.2.2.1 rfl (lv_at0 hl) ?_
  refine lv_iconst (v := 0) hx hb gX12_stands_1.2.2.2.2.2.2.1 (by decide) ?_
  refine lv_iadd hx hb gX12_stands_1.2.2.2.2.2.2.2.1 ?_
  refine eqi (x1 := nI (1552 + 4 * jf + 0)) (nI_add (1552 + 4 * jf) 0) ?_
  refine aldN hC hK hP 1 rfl (k := 1552 + 4 * jf + 0) (by omega) (Nat.le_of_ble_eq_true rfl) (v := nI je) (hq0.trans e90) gX12_stands_1.2.2.2.2.2.2.2.2.1 ?_
  refine lv_aload_n hx hb gX12_stands_1.2.2.2.2.2.2.2.2.2 rfl (lv_at1 hl) ?_
  refine gf_X12_9 hC rfl hK hP 0 rfl rfl gX12_stands_2.1 ?_
  refine lv_iload_n hx hb gX12_stands_2.2.1 rfl (lv_at0 hl) ?_
  refine lv_iconst (v := 1) hx hb gX12_stands_2.2.2.1 (by decide) ?_
  refine lv_iadd hx hb gX12_stands_2.2.2.2.1 ?_
  refine eqi (x1 := nI (1552 + 4 * jf + 1)) (nI_add (1552 + 4 * jf) 1) ?_
  refine aldN hC hK hP 1 rfl (k := 1552 + 4 * jf + 1) (by omega) (Nat.le_of_ble_eq_true rfl) (v := nI jt) (hq1.trans e91) gX12_stands_2.2.2.2.2.1 ?_
  refine lv_aload_n hx hb gX12_stands_2.2.2.2.2.2.1 rfl (lv_at1 hl) ?_
  refine gf_X12_9 hC rfl hK hP 0 rfl rfl gX12_stands_2.2.2.2.2.2.2.1 ?_
  refine lv_iload_n hx hb gX12_stands_2.2.2.2.2.2.2.2.1 rfl (lv_at0 hl) ?_
  refine lv_iconst (v := 3) hx hb gX12_stands_2.2.2.2.2.2.2.2.2.1 (by decide) ?_
  refine lv_iadd hx hb gX12_stands_2.2.2.2.2.2.2.2.2.2 ?_
  refine eqi (x1 := nI (1552 + 4 * jf + 3)) (nI_add (1552 + 4 * jf) 3) ?_
  refine aldN hC hK hP 1 rfl (k := 1552 + 4 * jf + 3) (by omega) (Nat.le_of_ble_eq_true rfl) (v := shf fnw 1552 (jf * 4 + 3)) (hq3) gX12_stands_3.1 ?_
  refine iV (wr := []) hC hK hl hP hD hS hA (m_fromOfX l G kq k6 k7 VL VC DY h0 je jt (shf fnw 1552 (jf * 4 + 3)) nw nk mhasKept nt mtaped nr mrowMany mroundOf mroundFrom nm mfromHour mtoHour ns mfrom mto msort misFault mdeep mcoded mlines nl nc nF np ntr nb mbestCost nso nsi nit nsh nsf nss nrc mtraced mdealer mnumber mwhose msize misParted fnw fnm fns fnp (by omega) (by omega) (hf9.2.2.2) (hV) (hM) (hN) (hgp) (ekq) (hkq) (e6) (hk6) (ek7) (hk7) (hVM)) si_X12_203 [0, 1, 2, 3, 4] [] sm_0_1_2_3_4 fm_0_1_2_3_4 nd_0_1_2_3_4 rfl rfl (by decide) rfl rfl rfl rfl rfl (Nat.le_of_ble_eq_true rfl) rm_10_9_4 ⟨Nat.le_of_ble_eq_true rfl, Nat.le_of_ble_eq_true rfl⟩ gX12_stands_3.2.1 (fun r8017 => Ktu5 fun fh18019 th18020 gnm8021 gns8022 gnp8023 => ?_)
  intro H locs hr8017 hP hD hS
  try dsimp only at hr8017
  refine Kpdr (ws := [(h0, oX12 nw nk mhasKept nt mtaped nr mrowMany mroundOf mroundFrom 0 nm fh18019 th18020 ns mfrom mto msort misFault mdeep mcoded mlines nl nc nF np ntr nb mbestCost nso nsi nit nsh nsf nss nrc mtraced mdealer mnumber mwhose msize misParted), (nw, iA G 1662 fnw), (nm, iA G 36 gnm8021), (ns, iA G 8 gns8022), (np, iA G 100 gnp8023)]) hP hD (fun hP hD => ?_)
  obtain ⟨hr8017, w8024⟩ := hr8017
  obtain ⟨w9_8025, hpx8025, hpe8025⟩ := hr8017
  subst r8017
  try dsimp only at hpx8025
  refine lv_icmp_lt (tgt := 51) hx hb gX12_stands_3.2.2.1 (by decide) (fun c_44_8026 => ?_) (fun c_44_8026 => ?_)
  · refine lv_iconst (v := 0) hx hb gX12_stands_3.2.2.2.2.2.1 (by decide) ?_
    refine toQ hQ0 ?_
    exact RI (v := 0) hC hP hD hS [0, 1, 2, 3, 4] (fh18019, th18020, gnm8021, gns8022, gnp8023) rfl rfl (by decide) (⟨Or.inr ⟨rfl, fun h9 => Int32.not_le.mpr c_44_8026 ((STD.iff (LV := (fun e9 => LVF (LNF (RLO DY (DAYV (fnw 0) (fnw 1)) k7) VL) (TRF (RLO DY (DAYV (fnw 0) (fnw 1)) k7) VC (FAX (shf fnw 12) (shf fnw 32) (VSE fnw kq) kq e9)))) (ff := shf fnw 1552) (s := jf) e90 e91 (by omega) hjt hf9.2.2.1 (by decide) hpx8025).mpr h9)⟩, by first | assumption | exact w8024⟩) (by decide +kernel) gX12_stands_3.2.2.2.2.2.2
  · refine lv_iconst (v := 1) hx hb gX12_stands_3.2.2.2.1 (by decide) ?_
    refine lv_goto (tgt := 52) hx hb gX12_stands_3.2.2.2.2.1 (by decide) ?_
    refine toQ hQ0 ?_
    exact RI (v := 1) hC hP hD hS [0, 1, 2, 3, 4] (fh18019, th18020, gnm8021, gns8022, gnp8023) rfl rfl (by decide) (⟨Or.inl ⟨rfl, (STD.iff (LV := (fun e9 => LVF (LNF (RLO DY (DAYV (fnw 0) (fnw 1)) k7) VL) (TRF (RLO DY (DAYV (fnw 0) (fnw 1)) k7) VC (FAX (shf fnw 12) (shf fnw 32) (VSE fnw kq) kq e9)))) (ff := shf fnw 1552) (s := jf) e90 e91 (by omega) hjt hf9.2.2.1 (by decide) hpx8025).mp (Int32.not_lt.mp c_44_8026)⟩, by first | assumption | exact w8024⟩) (by decide +kernel) gX12_stands_3.2.2.2.2.2.2
def K_m_papersToO (l : Launch) (G : GG) (kq : Nat) (h0 : Nat) (je : Nat) (nw : Nat) (nk : Nat) (mhasKept : Int32) (nt : Nat) (mtaped : Int32) (nr : Nat) (mrowMany : Int32) (mroundOf : Int32) (mroundFrom : Int32) (jw : Nat) (nm : Nat) (mfromHour : Int32) (mtoHour : Int32) (ns : Nat) (mfrom : Int32) (mto : Int32) (msort : Int32) (misFault : Int32) (mdeep : Int32) (mcoded : Int32) (mlines : Int32) (nl : Nat) (nc : Nat) (nF : Nat) (np : Nat) (ntr : Nat) (nb : Nat) (mbestCost : Int32) (nso : Nat) (nsi : Nat) (nit : Nat) (nsh : Nat) (nsf : Nat) (nss : Nat) (nrc : Nat) (mtraced : Int32) (mdealer : Int32) (mnumber : Int32) (mwhose : Int32) (msize : Int32) (misParted : Int32) (fnw : Nat → Int32) : Prop := MP l G yX12_papersOf cX12_papersOf 5 (some .int) 4 [.ref h0, .int (nI je), .int 0] [(h0, oX12 nw nk mhasKept nt mtaped nr mrowMany mroundOf mroundFrom (nI jw) nm mfromHour mtoHour ns mfrom mto msort misFault mdeep mcoded mlines nl nc nF np ntr nb mbestCost nso nsi nit nsh nsf nss nrc mtraced mdealer mnumber mwhose msize misParted), (nw, iA G 1662 fnw)] (fun r : Int32 => r = (CNT (fun p9 => SEO (shf fnw 32) (fnw 0) (fnw 1) (fnw 2) jw p9 ∧ HB (shf fnw 32 (p9 * 6 + 1)) (nI je)) kq))
set_option maxHeartbeats 4000000 in
set_option maxRecDepth 100000 in
theorem m_papersToO (l : Launch) (G : GG) (kq : Nat) (h0 : Nat) (je : Nat) (nw : Nat) (nk : Nat) (mhasKept : Int32) (nt : Nat) (mtaped : Int32) (nr : Nat) (mrowMany : Int32) (mroundOf : Int32) (mroundFrom : Int32) (jw : Nat) (nm : Nat) (mfromHour : Int32) (mtoHour : Int32) (ns : Nat) (mfrom : Int32) (mto : Int32) (msort : Int32) (misFault : Int32) (mdeep : Int32) (mcoded : Int32) (mlines : Int32) (nl : Nat) (nc : Nat) (nF : Nat) (np : Nat) (ntr : Nat) (nb : Nat) (mbestCost : Int32) (nso : Nat) (nsi : Nat) (nit : Nat) (nsh : Nat) (nsf : Nat) (nss : Nat) (nrc : Nat) (mtraced : Int32) (mdealer : Int32) (mnumber : Int32) (mwhose : Int32) (msize : Int32) (misParted : Int32) (fnw : Nat → Int32) (ekq : fnw 5 = nI kq) (hkq : kq ≤ 12) (hje : je < 10) (hjw : jw < 4096) : K_m_papersToO l G kq h0 je nw nk mhasKept nt mtaped nr mrowMany mroundOf mroundFrom jw nm mfromHour mtoHour ns mfrom mto msort misFault mdeep mcoded mlines nl nc nF np ntr nb mbestCost nso nsi nit nsh nsf nss nrc mtraced mdealer mnumber mwhose msize misParted fnw := by
  refine MP.start (by decide +kernel) (Nat.le_of_ble_eq_true rfl) ?_
  intro p e s m below meth c ls hC hK hP hD hl
  refine absQ (fun Q0 hQ0 => ?_)
  have hl : lv_has ls 5 [(0, .ref h0), (1, .int (nI je)), (2, .int 0)] := hl
  refine Kan8 hC (fun hx hb hr hml hB hown hlocks hnm => ?_)
  refine lv_iconst (v := 0) hx hb gX12_papersOf_0.1 (by decide) ?_
  refine lv_istore_n (lv' := [(3, .int 0), (0, .ref h0), (1, .int (nI je)), (2, .int 0)]) hx hb gX12_papersOf_0.2.1 rfl hl (by decide) rfl (fun ls hl => ?_)
  refine lv_iconst (v := 0) hx hb gX12_papersOf_0.2.2.1 (by decide) ?_
  refine lv_istore (lv' := [(4, .int 0), (3, .int 0), (0, .ref h0), (1, .int (nI je)), (2, .int 0)]) hx hb gX12_papersOf_0.2.2.2.1 hl (by decide) rfl (fun ls hl => ?_)
  have keyP : ∀ (nP kP : Nat) (nn : Int32) (ls : Array Slot), kP + nP = kq → (nn = CNT (fun p9 => SEO (shf fnw 32) (fnw 0) (fnw 1) (fnw 2) jw p9 ∧ HB (shf fnw 32 (p9 * 6 + 1)) (nI je)) kP) → lv_has ls 5 [(4, .int (nI kP)), (3, .int nn), (0, .ref h0), (1, .int (nI je)), (2, .int 0)] → W p l e (RM 4 0 0) s m ([.ref h0, .int (nI je), .int 0] : List Value).toArray below meth c s.heap [] 0 0 Q0 (F0 m 5 ls []) := by
    intro nP
    induction nP with
    | zero =>
      intro kP nn ls hkP hcn hl
      obtain rfl : kq = kP := by omega
      have hl : lv_has ls 5 [(4, .int (nI kq)), (3, .int nn), (0, .ref h0), (1, .int (nI je)), (2, .int 0)] := hl
      refine lv_iload hx hb gX12_papersOf_0.2.2.2.2.1 (lv_at0 hl) ?_
      refine lv_aload_n hx hb gX12_papersOf_0.2.2.2.2.2.1 rfl (lv_at2 hl) ?_
      refine gf_X12_9 hC rfl hK hP 0 rfl rfl gX12_papersOf_0.2.2.2.2.2.2.1 ?_
      refine lv_iconst (v := 5) hx hb gX12_papersOf_0.2.2.2.2.2.2.2.1 (by decide) ?_
      refine ald hC hK hP 1 rfl (vin (by decide +kernel)) (k := 5) (by decide +kernel) (v := nI kq) (ekq) gX12_papersOf_0.2.2.2.2.2.2.2.2.1 ?_
      refine lv_icmp_ge (tgt := 71) hx hb gX12_papersOf_0.2.2.2.2.2.2.2.2.2 (by decide) (fun _ => ?_) (fun c9 => absurd (Int32.le_refl _) c9)
      refine lv_iload_n hx hb gX12_papersOf_3.2.2.2.2.2.2.2.2.1 rfl (lv_at1 hl) ?_
      refine toQ hQ0 ?_
      exact RP (v := nn) hC (hcn) rfl gX12_papersOf_3.2.2.2.2.2.2.2.2.2
    | succ nP ihP =>
      intro kP nn ls hkP hcn hl
      refine lv_iload hx hb gX12_papersOf_0.2.2.2.2.1 (lv_at0 hl) ?_
      refine lv_aload_n hx hb gX12_papersOf_0.2.2.2.2.2.1 rfl (lv_at2 hl) ?_
      refine gf_X12_9 hC rfl hK hP 0 rfl rfl gX12_papersOf_0.2.2.2.2.2.2.1 ?_
      refine lv_iconst (v := 5) hx hb gX12_papersOf_0.2.2.2.2.2.2.2.1 (by decide) ?_
      refine ald hC hK hP 1 rfl (vin (by decide +kernel)) (k := 5) (by decide +kernel) (v := nI kq) (ekq) gX12_papersOf_0.2.2.2.2.2.2.2.2.1 ?_
      refine lv_icmp_ge (tgt := 71) hx hb gX12_papersOf_0.2.2.2.2.2.2.2.2.2 (by decide) (fun c9 => absurd c9 (nI_ge (a := kP) (b := kq) (by omega) (by omega))) (fun _ => ?_)
      refine lv_iload_n hx hb gX12_papersOf_1.1 rfl (lv_at1 hl) ?_
      refine lv_aload_n hx hb gX12_papersOf_1.2.1 rfl (lv_at2 hl) ?_
      refine lv_iload hx hb gX12_papersOf_1.2.2.1 (lv_at0 hl) ?_
      refine pV hC hK hl hP hD (m_isInO l G h0 kP nw nk mhasKept nt mtaped nr mrowMany mroundOf mroundFrom jw nm mfromHour mtoHour ns mfrom mto msort misFault mdeep mcoded mlines nl nc nF np ntr nb mbestCost nso nsi nit nsh nsf nss nrc mtraced mdealer mnumber mwhose msize misParted fnw (by omega) (hjw)) si_X12_103 [0, 1] sm_0_1 fm_0_1 nd_0_1 rfl rfl rfl rfl rfl (Nat.le_of_ble_eq_true rfl) rm_4_2_3 ⟨by first | exact Nat.le_of_ble_eq_true rfl | exact Nat.zero_le _, by first | exact Nat.le_of_ble_eq_true rfl | exact Nat.zero_le _⟩ gX12_papersOf_1.2.2.2.1 (Kors (Keqa fun a8028 => ?_) (Keqa fun a8028 => ?_))
      · refine lv_if_eq (tgt := 62) hx hb gX12_papersOf_1.2.2.2.2.1 (by decide) (fun c9 => absurd c9 (by decide)) (fun _ => ?_)
        refine lv_iload_n hx hb gX12_papersOf_1.2.2.2.2.2.1 rfl (lv_at4 hl) ?_
        refine lv_if_eq (tgt := 44) hx hb gX12_papersOf_1.2.2.2.2.2.2.1 (by decide) (fun _ => ?_) (fun c9 => absurd (by decide) c9)
        refine lv_aload_n hx hb gX12_papersOf_2.2.2.2.2.1 rfl (lv_at2 hl) ?_
        refine lv_iload hx hb gX12_papersOf_2.2.2.2.2.2.1 (lv_at0 hl) ?_
        refine lv_iconst (v := 1) hx hb gX12_papersOf_2.2.2.2.2.2.2.1 (by decide) ?_
        refine pV hC hK hl hP hD (m_paper l G h0 kP 1 nw nk mhasKept nt mtaped nr mrowMany mroundOf mroundFrom (nI jw) nm mfromHour mtoHour ns mfrom mto msort misFault mdeep mcoded mlines nl nc nF np ntr nb mbestCost nso nsi nit nsh nsf nss nrc mtraced mdealer mnumber mwhose msize misParted fnw (by omega) (by omega)) si_X12_88 [0, 1] sm_0_1 fm_0_1 nd_0_1 rfl rfl rfl rfl rfl (Nat.le_of_ble_eq_true rfl) rm_4_1_3 ⟨by first | exact Nat.le_of_ble_eq_true rfl | exact Nat.zero_le _, by first | exact Nat.le_of_ble_eq_true rfl | exact Nat.zero_le _⟩ gX12_papersOf_2.2.2.2.2.2.2.2.1 (Keqr ?_)
        refine lv_iload_n hx hb gX12_papersOf_2.2.2.2.2.2.2.2.2.1 rfl (lv_at3 hl) ?_
        refine pS hC hK hl (m_has l G (fnw (32 + 6 * kP + 1)) (nI je)) si_X12_99 rfl rfl (Nat.le_of_ble_eq_true rfl) rm_4_1_2 ⟨by first | exact Nat.le_of_ble_eq_true rfl | exact Nat.zero_le _, by first | exact Nat.le_of_ble_eq_true rfl | exact Nat.zero_le _⟩ gX12_papersOf_2.2.2.2.2.2.2.2.2.2 (Kors (Keqa fun a8032 => ?_) (Keqa fun a8032 => ?_))
        · refine lv_if_eq (tgt := 62) hx hb gX12_papersOf_3.1 (by decide) (fun c9 => absurd c9 (by decide)) (fun _ => ?_)
          refine lv_iconst (v := 1) hx hb gX12_papersOf_3.2.1 (by decide) ?_
          refine lv_goto (tgt := 63) hx hb gX12_papersOf_3.2.2.1 (by decide) ?_
          refine lv_iadd hx hb gX12_papersOf_3.2.2.2.2.1 ?_
          refine lv_istore_n (lv' := [(3, .int (nn + 1)), (4, .int (nI kP)), (0, .ref h0), (1, .int (nI je)), (2, .int 0)]) hx hb gX12_papersOf_3.2.2.2.2.2.1 rfl hl (by decide) rfl (fun ls hl => ?_)
          refine lv_iinc (v := nI (kP + 1)) (lv' := [(4, .int (nI (kP + 1))), (3, .int (nn + 1)), (0, .ref h0), (1, .int (nI je)), (2, .int 0)]) hx hb gX12_papersOf_3.2.2.2.2.2.2.1 hl (k := 1) rfl (nI_1 _) (by decide) rfl (fun ls hl => ?_)
          refine lv_goto (tgt := 5) hx hb gX12_papersOf_3.2.2.2.2.2.2.2.1 (by decide) ?_
          have q9e : fnw (32 + 6 * kP + 1) = shf fnw 32 (kP * 6 + 1) := congrArg fnw (by omega)
          have hst9 : nn + 1 = CNT (fun p9 => SEO (shf fnw 32) (fnw 0) (fnw 1) (fnw 2) jw p9 ∧ HB (shf fnw 32 (p9 * 6 + 1)) (nI je)) (kP + 1) := CNT.y hcn ⟨a8028, HB.mk (by omega) (by rw [← q9e]; exact a8032)⟩
          exact ihP (kP + 1) (nn + 1) _ (by omega) (by first | assumption | exact Or.inl rfl | exact Or.inr rfl | exact rfl) (lv_sub hl [0, 1, 2, 3, 4] rfl)
        · refine lv_if_eq (tgt := 62) hx hb gX12_papersOf_3.1 (by decide) (fun _ => ?_) (fun c9 => absurd (by decide) c9)
          refine lv_iconst (v := 0) hx hb gX12_papersOf_3.2.2.2.1 (by decide) ?_
          refine lv_iadd hx hb gX12_papersOf_3.2.2.2.2.1 ?_
          refine lv_istore_n (lv' := [(3, .int (nn + 0)), (4, .int (nI kP)), (0, .ref h0), (1, .int (nI je)), (2, .int 0)]) hx hb gX12_papersOf_3.2.2.2.2.2.1 rfl hl (by decide) rfl (fun ls hl => ?_)
          refine lv_iinc (v := nI (kP + 1)) (lv' := [(4, .int (nI (kP + 1))), (3, .int (nn + 0)), (0, .ref h0), (1, .int (nI je)), (2, .int 0)]) hx hb gX12_papersOf_3.2.2.2.2.2.2.1 hl (k := 1) rfl (nI_1 _) (by decide) rfl (fun ls hl => ?_)
          refine lv_goto (tgt := 5) hx hb gX12_papersOf_3.2.2.2.2.2.2.2.1 (by decide) ?_
          have q9e : fnw (32 + 6 * kP + 1) = shf fnw 32 (kP * 6 + 1) := congrArg fnw (by omega)
          have hst9 : nn + 0 = CNT (fun p9 => SEO (shf fnw 32) (fnw 0) (fnw 1) (fnw 2) jw p9 ∧ HB (shf fnw 32 (p9 * 6 + 1)) (nI je)) (kP + 1) := CNT.n0 hcn (fun h9 => a8032 (by have h8 := h9.2.2.2; rw [← q9e] at h8; exact h8))
          exact ihP (kP + 1) (nn + 0) _ (by omega) (by first | assumption | exact Or.inl rfl | exact Or.inr rfl | exact rfl) (lv_sub hl [0, 1, 2, 3, 4] rfl)
      · refine lv_if_eq (tgt := 62) hx hb gX12_papersOf_1.2.2.2.2.1 (by decide) (fun _ => ?_) (fun c9 => absurd (by decide) c9)
        refine lv_iconst (v := 0) hx hb gX12_papersOf_3.2.2.2.1 (by decide) ?_
        refine lv_iadd hx hb gX12_papersOf_3.2.2.2.2.1 ?_
        refine lv_istore_n (lv' := [(3, .int (nn + 0)), (4, .int (nI kP)), (0, .ref h0), (1, .int (nI je)), (2, .int 0)]) hx hb gX12_papersOf_3.2.2.2.2.2.1 rfl hl (by decide) rfl (fun ls hl => ?_)
        refine lv_iinc (v := nI (kP + 1)) (lv' := [(4, .int (nI (kP + 1))), (3, .int (nn + 0)), (0, .ref h0), (1, .int (nI je)), (2, .int 0)]) hx hb gX12_papersOf_3.2.2.2.2.2.2.1 hl (k := 1) rfl (nI_1 _) (by decide) rfl (fun ls hl => ?_)
        refine lv_goto (tgt := 5) hx hb gX12_papersOf_3.2.2.2.2.2.2.2.1 (by decide) ?_
        have hst9 : nn + 0 = CNT (fun p9 => SEO (shf fnw 32) (fnw 0) (fnw 1) (fnw 2) jw p9 ∧ HB (shf fnw 32 (p9 * 6 + 1)) (nI je)) (kP + 1) := CNT.n0 hcn (fun h9 => a8028 h9.1)
        exact ihP (kP + 1) (nn + 0) _ (by omega) (by first | assumption | exact Or.inl rfl | exact Or.inr rfl | exact rfl) (lv_sub hl [0, 1, 2, 3, 4] rfl)
  exact keyP kq 0 0 _ (by omega) (by first | assumption | exact Or.inl rfl | exact Or.inr rfl | exact rfl) (lv_sub hl [0, 1, 2, 3, 4] rfl)
def K_m_papersByO (l : Launch) (G : GG) (kq : Nat) (h0 : Nat) (je : Nat) (nw : Nat) (nk : Nat) (mhasKept : Int32) (nt : Nat) (mtaped : Int32) (nr : Nat) (mrowMany : Int32) (mroundOf : Int32) (mroundFrom : Int32) (jw : Nat) (nm : Nat) (mfromHour : Int32) (mtoHour : Int32) (ns : Nat) (mfrom : Int32) (mto : Int32) (msort : Int32) (misFault : Int32) (mdeep : Int32) (mcoded : Int32) (mlines : Int32) (nl : Nat) (nc : Nat) (nF : Nat) (np : Nat) (ntr : Nat) (nb : Nat) (mbestCost : Int32) (nso : Nat) (nsi : Nat) (nit : Nat) (nsh : Nat) (nsf : Nat) (nss : Nat) (nrc : Nat) (mtraced : Int32) (mdealer : Int32) (mnumber : Int32) (mwhose : Int32) (msize : Int32) (misParted : Int32) (fnw : Nat → Int32) : Prop := MP l G yX12_papersOf cX12_papersOf 5 (some .int) 4 [.ref h0, .int (nI je), .int 1] [(h0, oX12 nw nk mhasKept nt mtaped nr mrowMany mroundOf mroundFrom (nI jw) nm mfromHour mtoHour ns mfrom mto msort misFault mdeep mcoded mlines nl nc nF np ntr nb mbestCost nso nsi nit nsh nsf nss nrc mtraced mdealer mnumber mwhose msize misParted), (nw, iA G 1662 fnw)] (fun r : Int32 => r = (CNT (fun p9 => SEO (shf fnw 32) (fnw 0) (fnw 1) (fnw 2) jw p9 ∧ shf fnw 32 (p9 * 6 + 0) = (nI je)) kq))
set_option maxHeartbeats 4000000 in
set_option maxRecDepth 100000 in
theorem m_papersByO (l : Launch) (G : GG) (kq : Nat) (h0 : Nat) (je : Nat) (nw : Nat) (nk : Nat) (mhasKept : Int32) (nt : Nat) (mtaped : Int32) (nr : Nat) (mrowMany : Int32) (mroundOf : Int32) (mroundFrom : Int32) (jw : Nat) (nm : Nat) (mfromHour : Int32) (mtoHour : Int32) (ns : Nat) (mfrom : Int32) (mto : Int32) (msort : Int32) (misFault : Int32) (mdeep : Int32) (mcoded : Int32) (mlines : Int32) (nl : Nat) (nc : Nat) (nF : Nat) (np : Nat) (ntr : Nat) (nb : Nat) (mbestCost : Int32) (nso : Nat) (nsi : Nat) (nit : Nat) (nsh : Nat) (nsf : Nat) (nss : Nat) (nrc : Nat) (mtraced : Int32) (mdealer : Int32) (mnumber : Int32) (mwhose : Int32) (msize : Int32) (misParted : Int32) (fnw : Nat → Int32) (ekq : fnw 5 = nI kq) (hkq : kq ≤ 12) (hje : je < 10) (hjw : jw < 4096) : K_m_papersByO l G kq h0 je nw nk mhasKept nt mtaped nr mrowMany mroundOf mroundFrom jw nm mfromHour mtoHour ns mfrom mto msort misFault mdeep mcoded mlines nl nc nF np ntr nb mbestCost nso nsi nit nsh nsf nss nrc mtraced mdealer mnumber mwhose msize misParted fnw := by
  refine MP.start (by decide +kernel) (Nat.le_of_ble_eq_true rfl) ?_
  intro p e s m below meth c ls hC hK hP hD hl
  refine absQ (fun Q0 hQ0 => ?_)
  have hl : lv_has ls 5 [(0, .ref h0), (1, .int (nI je)), (2, .int 1)] := hl
  refine Kan8 hC (fun hx hb hr hml hB hown hlocks hnm => ?_)
  refine lv_iconst (v := 0) hx hb gX12_papersOf_0.1 (by decide) ?_
  refine lv_istore_n (lv' := [(3, .int 0), (0, .ref h0), (1, .int (nI je)), (2, .int 1)]) hx hb gX12_papersOf_0.2.1 rfl hl (by decide) rfl (fun ls hl => ?_)
  refine lv_iconst (v := 0) hx hb gX12_papersOf_0.2.2.1 (by decide) ?_
  refine lv_istore (lv' := [(4, .int 0), (3, .int 0), (0, .ref h0), (1, .int (nI je)), (2, .int 1)]) hx hb gX12_papersOf_0.2.2.2.1 hl (by decide) rfl (fun ls hl => ?_)
  have keyP : ∀ (nP kP : Nat) (nn : Int32) (ls : Array Slot), kP + nP = kq → (nn = CNT (fun p9 => SEO (shf fnw 32) (fnw 0) (fnw 1) (fnw 2) jw p9 ∧ shf fnw 32 (p9 * 6 + 0) = (nI je)) kP) → lv_has ls 5 [(4, .int (nI kP)), (3, .int nn), (0, .ref h0), (1, .int (nI je)), (2, .int 1)] → W p l e (RM 4 0 0) s m ([.ref h0, .int (nI je), .int 1] : List Value).toArray below meth c s.heap [] 0 0 Q0 (F0 m 5 ls []) := by
    intro nP
    induction nP with
    | zero =>
      intro kP nn ls hkP hcn hl
      obtain rfl : kq = kP := by omega
      have hl : lv_has ls 5 [(4, .int (nI kq)), (3, .int nn), (0, .ref h0), (1, .int (nI je)), (2, .int 1)] := hl
      refine lv_iload hx hb gX12_papersOf_0.2.2.2.2.1 (lv_at0 hl) ?_
      refine lv_aload_n hx hb gX12_papersOf_0.2.2.2.2.2.1 rfl (lv_at2 hl) ?_
      refine gf_X12_9 hC rfl hK hP 0 rfl rfl gX12_papersOf_0.2.2.2.2.2.2.1 ?_
      refine lv_iconst (v := 5) hx hb gX12_papersOf_0.2.2.2.2.2.2.2.1 (by decide) ?_
      refine ald hC hK hP 1 rfl (vin (by decide +kernel)) (k := 5) (by decide +kernel) (v := nI kq) (ekq) gX12_papersOf_0.2.2.2.2.2.2.2.2.1 ?_
      refine lv_icmp_ge (tgt := 71) hx hb gX12_papersOf_0.2.2.2.2.2.2.2.2.2 (by decide) (fun _ => ?_) (fun c9 => absurd (Int32.le_refl _) c9)
      refine lv_iload_n hx hb gX12_papersOf_3.2.2.2.2.2.2.2.2.1 rfl (lv_at1 hl) ?_
      refine toQ hQ0 ?_
      exact RP (v := nn) hC (hcn) rfl gX12_papersOf_3.2.2.2.2.2.2.2.2.2
    | succ nP ihP =>
      intro kP nn ls hkP hcn hl
      refine lv_iload hx hb gX12_papersOf_0.2.2.2.2.1 (lv_at0 hl) ?_
      refine lv_aload_n hx hb gX12_papersOf_0.2.2.2.2.2.1 rfl (lv_at2 hl) ?_
      refine gf_X12_9 hC rfl hK hP 0 rfl rfl gX12_papersOf_0.2.2.2.2.2.2.1 ?_
      refine lv_iconst (v := 5) hx hb gX12_papersOf_0.2.2.2.2.2.2.2.1 (by decide) ?_
      refine ald hC hK hP 1 rfl (vin (by decide +kernel)) (k := 5) (by decide +kernel) (v := nI kq) (ekq) gX12_papersOf_0.2.2.2.2.2.2.2.2.1 ?_
      refine lv_icmp_ge (tgt := 71) hx hb gX12_papersOf_0.2.2.2.2.2.2.2.2.2 (by decide) (fun c9 => absurd c9 (nI_ge (a := kP) (b := kq) (by omega) (by omega))) (fun _ => ?_)
      refine lv_iload_n hx hb gX12_papersOf_1.1 rfl (lv_at1 hl) ?_
      refine lv_aload_n hx hb gX12_papersOf_1.2.1 rfl (lv_at2 hl) ?_
      refine lv_iload hx hb gX12_papersOf_1.2.2.1 (lv_at0 hl) ?_
      refine pV hC hK hl hP hD (m_isInO l G h0 kP nw nk mhasKept nt mtaped nr mrowMany mroundOf mroundFrom jw nm mfromHour mtoHour ns mfrom mto msort misFault mdeep mcoded mlines nl nc nF np ntr nb mbestCost nso nsi nit nsh nsf nss nrc mtraced mdealer mnumber mwhose msize misParted fnw (by omega) (hjw)) si_X12_103 [0, 1] sm_0_1 fm_0_1 nd_0_1 rfl rfl rfl rfl rfl (Nat.le_of_ble_eq_true rfl) rm_4_2_3 ⟨by first | exact Nat.le_of_ble_eq_true rfl | exact Nat.zero_le _, by first | exact Nat.le_of_ble_eq_true rfl | exact Nat.zero_le _⟩ gX12_papersOf_1.2.2.2.1 (Kors (Keqa fun a8034 => ?_) (Keqa fun a8034 => ?_))
      · refine lv_if_eq (tgt := 62) hx hb gX12_papersOf_1.2.2.2.2.1 (by decide) (fun c9 => absurd c9 (by decide)) (fun _ => ?_)
        refine lv_iload_n hx hb gX12_papersOf_1.2.2.2.2.2.1 rfl (lv_at4 hl) ?_
        refine lv_if_eq (tgt := 44) hx hb gX12_papersOf_1.2.2.2.2.2.2.1 (by decide) (fun c9 => absurd c9 (by decide)) (fun _ => ?_)
        refine lv_aload_n hx hb gX12_papersOf_1.2.2.2.2.2.2.2.1 rfl (lv_at2 hl) ?_
        refine lv_iload hx hb gX12_papersOf_1.2.2.2.2.2.2.2.2.1 (lv_at0 hl) ?_
        refine lv_iconst (v := 0) hx hb gX12_papersOf_1.2.2.2.2.2.2.2.2.2 (by decide) ?_
        refine pV hC hK hl hP hD (m_paper l G h0 kP 0 nw nk mhasKept nt mtaped nr mrowMany mroundOf mroundFrom (nI jw) nm mfromHour mtoHour ns mfrom mto msort misFault mdeep mcoded mlines nl nc nF np ntr nb mbestCost nso nsi nit nsh nsf nss nrc mtraced mdealer mnumber mwhose msize misParted fnw (by omega) (by omega)) si_X12_88 [0, 1] sm_0_1 fm_0_1 nd_0_1 rfl rfl rfl rfl rfl (Nat.le_of_ble_eq_true rfl) rm_4_1_3 ⟨by first | exact Nat.le_of_ble_eq_true rfl | exact Nat.zero_le _, by first | exact Nat.le_of_ble_eq_true rfl | exact Nat.zero_le _⟩ gX12_papersOf_2.1 (Keqr ?_)
        refine lv_iload_n hx hb gX12_papersOf_2.2.1 rfl (lv_at3 hl) ?_
        refine lv_icmp_ne (tgt := 62) hx hb gX12_papersOf_2.2.2.1 (by decide) (fun c_38_8037 => ?_) (fun c_38_8037 => ?_)
        · refine lv_iconst (v := 0) hx hb gX12_papersOf_3.2.2.2.1 (by decide) ?_
          refine lv_iadd hx hb gX12_papersOf_3.2.2.2.2.1 ?_
          refine lv_istore_n (lv' := [(3, .int (nn + 0)), (4, .int (nI kP)), (0, .ref h0), (1, .int (nI je)), (2, .int 1)]) hx hb gX12_papersOf_3.2.2.2.2.2.1 rfl hl (by decide) rfl (fun ls hl => ?_)
          refine lv_iinc (v := nI (kP + 1)) (lv' := [(4, .int (nI (kP + 1))), (3, .int (nn + 0)), (0, .ref h0), (1, .int (nI je)), (2, .int 1)]) hx hb gX12_papersOf_3.2.2.2.2.2.2.1 hl (k := 1) rfl (nI_1 _) (by decide) rfl (fun ls hl => ?_)
          refine lv_goto (tgt := 5) hx hb gX12_papersOf_3.2.2.2.2.2.2.2.1 (by decide) ?_
          have q9e : fnw (32 + 6 * kP + 0) = shf fnw 32 (kP * 6 + 0) := congrArg fnw (by omega)
          have hst9 : nn + 0 = CNT (fun p9 => SEO (shf fnw 32) (fnw 0) (fnw 1) (fnw 2) jw p9 ∧ shf fnw 32 (p9 * 6 + 0) = (nI je)) (kP + 1) := CNT.n0 hcn (fun h9 => c_38_8037 (q9e.trans h9.2))
          exact ihP (kP + 1) (nn + 0) _ (by omega) (by first | assumption | exact Or.inl rfl | exact Or.inr rfl | exact rfl) (lv_sub hl [0, 1, 2, 3, 4] rfl)
        · refine lv_goto (tgt := 58) hx hb gX12_papersOf_2.2.2.2.1 (by decide) ?_
          refine lv_iconst (v := 1) hx hb gX12_papersOf_3.2.1 (by decide) ?_
          refine lv_goto (tgt := 63) hx hb gX12_papersOf_3.2.2.1 (by decide) ?_
          refine lv_iadd hx hb gX12_papersOf_3.2.2.2.2.1 ?_
          refine lv_istore_n (lv' := [(3, .int (nn + 1)), (4, .int (nI kP)), (0, .ref h0), (1, .int (nI je)), (2, .int 1)]) hx hb gX12_papersOf_3.2.2.2.2.2.1 rfl hl (by decide) rfl (fun ls hl => ?_)
          refine lv_iinc (v := nI (kP + 1)) (lv' := [(4, .int (nI (kP + 1))), (3, .int (nn + 1)), (0, .ref h0), (1, .int (nI je)), (2, .int 1)]) hx hb gX12_papersOf_3.2.2.2.2.2.2.1 hl (k := 1) rfl (nI_1 _) (by decide) rfl (fun ls hl => ?_)
          refine lv_goto (tgt := 5) hx hb gX12_papersOf_3.2.2.2.2.2.2.2.1 (by decide) ?_
          have q9e : fnw (32 + 6 * kP + 0) = shf fnw 32 (kP * 6 + 0) := congrArg fnw (by omega)
          have hst9 : nn + 1 = CNT (fun p9 => SEO (shf fnw 32) (fnw 0) (fnw 1) (fnw 2) jw p9 ∧ shf fnw 32 (p9 * 6 + 0) = (nI je)) (kP + 1) := CNT.y hcn ⟨a8034, q9e.symm.trans c_38_8037⟩
          exact ihP (kP + 1) (nn + 1) _ (by omega) (by first | assumption | exact Or.inl rfl | exact Or.inr rfl | exact rfl) (lv_sub hl [0, 1, 2, 3, 4] rfl)
      · refine lv_if_eq (tgt := 62) hx hb gX12_papersOf_1.2.2.2.2.1 (by decide) (fun _ => ?_) (fun c9 => absurd (by decide) c9)
        refine lv_iconst (v := 0) hx hb gX12_papersOf_3.2.2.2.1 (by decide) ?_
        refine lv_iadd hx hb gX12_papersOf_3.2.2.2.2.1 ?_
        refine lv_istore_n (lv' := [(3, .int (nn + 0)), (4, .int (nI kP)), (0, .ref h0), (1, .int (nI je)), (2, .int 1)]) hx hb gX12_papersOf_3.2.2.2.2.2.1 rfl hl (by decide) rfl (fun ls hl => ?_)
        refine lv_iinc (v := nI (kP + 1)) (lv' := [(4, .int (nI (kP + 1))), (3, .int (nn + 0)), (0, .ref h0), (1, .int (nI je)), (2, .int 1)]) hx hb gX12_papersOf_3.2.2.2.2.2.2.1 hl (k := 1) rfl (nI_1 _) (by decide) rfl (fun ls hl => ?_)
        refine lv_goto (tgt := 5) hx hb gX12_papersOf_3.2.2.2.2.2.2.2.1 (by decide) ?_
        have hst9 : nn + 0 = CNT (fun p9 => SEO (shf fnw 32) (fnw 0) (fnw 1) (fnw 2) jw p9 ∧ shf fnw 32 (p9 * 6 + 0) = (nI je)) (kP + 1) := CNT.n0 hcn (fun h9 => a8034 h9.1)
        exact ihP (kP + 1) (nn + 0) _ (by omega) (by first | assumption | exact Or.inl rfl | exact Or.inr rfl | exact rfl) (lv_sub hl [0, 1, 2, 3, 4] rfl)
  exact keyP kq 0 0 _ (by omega) (by first | assumption | exact Or.inl rfl | exact Or.inr rfl | exact rfl) (lv_sub hl [0, 1, 2, 3, 4] rfl)
def K_m_hoursLO (l : Launch) (G : GG) (kq : Nat) (k6 : Nat) (h0 : Nat) (jp : Nat) (nw : Nat) (nk : Nat) (mhasKept : Int32) (nt : Nat) (mtaped : Int32) (nr : Nat) (mrowMany : Int32) (mroundOf : Int32) (mroundFrom : Int32) (jw : Nat) (nm : Nat) (mfromHour : Int32) (mtoHour : Int32) (ns : Nat) (mfrom : Int32) (mto : Int32) (msort : Int32) (misFault : Int32) (mdeep : Int32) (mcoded : Int32) (mlines : Int32) (nl : Nat) (nc : Nat) (nF : Nat) (np : Nat) (ntr : Nat) (nb : Nat) (mbestCost : Int32) (nso : Nat) (nsi : Nat) (nit : Nat) (nsh : Nat) (nsf : Nat) (nss : Nat) (nrc : Nat) (mtraced : Int32) (mdealer : Int32) (mnumber : Int32) (mwhose : Int32) (msize : Int32) (misParted : Int32) (fnw : Nat → Int32) (fnm : Nat → Int32) : Prop := MI l G yX12_hours cX12_hours 6 (some .boolean) 3 0 0 [.ref h0, .int (nI jp), .int 0, .int 1] [(h0, oX12 nw nk mhasKept nt mtaped nr mrowMany mroundOf mroundFrom (nI jw) nm mfromHour mtoHour ns mfrom mto msort misFault mdeep mcoded mlines nl nc nF np ntr nb mbestCost nso nsi nit nsh nsf nss nrc mtraced mdealer mnumber mwhose msize misParted), (nw, iA G 1662 fnw), (nm, iA G 36 fnm)] (fun (r : Int32) (u : Int32 × Int32) => ((r = 1 ∧ ∃ s9, LST (shf fnw 104) k6 jp s9 ∧ VSO fnw kq jw jp ∧ u.1 = TR0 (shf fnw 104) fnm s9 ∧ u.2 = TR1 (shf fnw 104) fnm s9) ∨ (r = 0 ∧ (¬ VSO fnw kq jw jp ∨ ∀ s9, s9 < k6 → ¬ shf fnw 104 (s9 * 3 + 0) = nI jp)))) (fun u : Int32 × Int32 => [(h0, oX12 nw nk mhasKept nt mtaped nr mrowMany mroundOf mroundFrom (nI jw) nm u.1 u.2 ns mfrom mto msort misFault mdeep mcoded mlines nl nc nF np ntr nb mbestCost nso nsi nit nsh nsf nss nrc mtraced mdealer mnumber mwhose msize misParted), (nw, iA G 1662 fnw), (nm, iA G 36 fnm)])
set_option maxHeartbeats 4000000 in
set_option maxRecDepth 100000 in
theorem m_hoursLO (l : Launch) (G : GG) (kq : Nat) (k6 : Nat) (h0 : Nat) (jp : Nat) (nw : Nat) (nk : Nat) (mhasKept : Int32) (nt : Nat) (mtaped : Int32) (nr : Nat) (mrowMany : Int32) (mroundOf : Int32) (mroundFrom : Int32) (jw : Nat) (nm : Nat) (mfromHour : Int32) (mtoHour : Int32) (ns : Nat) (mfrom : Int32) (mto : Int32) (msort : Int32) (misFault : Int32) (mdeep : Int32) (mcoded : Int32) (mlines : Int32) (nl : Nat) (nc : Nat) (nF : Nat) (np : Nat) (ntr : Nat) (nb : Nat) (mbestCost : Int32) (nso : Nat) (nsi : Nat) (nit : Nat) (nsh : Nat) (nsf : Nat) (nss : Nat) (nrc : Nat) (mtraced : Int32) (mdealer : Int32) (mnumber : Int32) (mwhose : Int32) (msize : Int32) (misParted : Int32) (fnw : Nat → Int32) (fnm : Nat → Int32) (hN : NI fnw) (e6 : fnw 6 = nI k6) (hk6 : k6 ≤ 24) (ekq : fnw 5 = nI kq) (hjp : jp < kq) (hkq : kq ≤ 12) (hjw : jw < 4096) : K_m_hoursLO l G kq k6 h0 jp nw nk mhasKept nt mtaped nr mrowMany mroundOf mroundFrom jw nm mfromHour mtoHour ns mfrom mto msort misFault mdeep mcoded mlines nl nc nF np ntr nb mbestCost nso nsi nit nsh nsf nss nrc mtraced mdealer mnumber mwhose msize misParted fnw fnm := by
  refine MI.start (by decide +kernel) (Nat.le_of_ble_eq_true rfl) ?_
  intro p e s m below meth c A ls hC hK hP hD hS hA hl
  refine absQ (fun Q0 hQ0 => ?_)
  have hl : lv_has ls 6 [(0, .ref h0), (1, .int (nI jp)), (2, .int 0), (3, .int 1)] := hl
  refine Kan8 hC (fun hx hb hr hml hB hown hlocks hnm => ?_)
  refine lv_aload_n hx hb gX12_hours_0.1 rfl (lv_at0 hl) ?_
  refine lv_iload_n hx hb gX12_hours_0.2.1 rfl (lv_at1 hl) ?_
  refine pV hC hK hl hP hD (m_stampsOf l G k6 h0 (nI jp) nw nk mhasKept nt mtaped nr mrowMany mroundOf mroundFrom (nI jw) nm mfromHour mtoHour ns mfrom mto msort misFault mdeep mcoded mlines nl nc nF np ntr nb mbestCost nso nsi nit nsh nsf nss nrc mtraced mdealer mnumber mwhose msize misParted fnw (e6) (hk6)) si_X12_130 [0, 1] sm_0_1 fm_0_1 nd_0_1 rfl rfl rfl rfl rfl (Nat.le_of_ble_eq_true rfl) rm_3_2_4 ⟨by first | exact Nat.le_of_ble_eq_true rfl | exact Nat.zero_le _, by first | exact Nat.le_of_ble_eq_true rfl | exact Nat.zero_le _⟩ gX12_hours_0.2.2.1 (Keqr ?_)
  refine lv_istore (lv' := [(4, .int (nI (cntS fnw (nI jp) k6))), (0, .ref h0), (1, .int (nI jp)), (2, .int 0), (3, .int 1)]) hx hb gX12_hours_0.2.2.2.1 hl (by decide) rfl (fun ls hl => ?_)
  refine lv_iload_n hx hb gX12_hours_0.2.2.2.2.1 rfl (lv_at3 hl) ?_
  refine lv_if_ne (tgt := 24) hx hb gX12_hours_0.2.2.2.2.2.1 (by decide) (fun c9 => absurd (by decide) c9) (fun _ => ?_)
  refine lv_iload hx hb gX12_hours_0.2.2.2.2.2.2.1 (lv_at0 hl) ?_
  refine lv_if_eq (tgt := 24) hx hb gX12_hours_0.2.2.2.2.2.2.2.1 (by decide) (fun c_13_8040 => ?_) (fun c_13_8040 => ?_)
  · refine lv_iconst (v := 0) hx hb gX12_hours_1.2.2.1 (by decide) ?_
    refine toQ hQ0 ?_
    exact RI (v := 0) hC hP hD hS [0, 1, 2] (mfromHour, mtoHour) rfl rfl (by decide) (Or.inr ⟨rfl, Or.inr (cntS_no (nI_z9 (by have h9 := cntS_le fnw (nI jp) k6; omega) c_13_8040))⟩) (by decide +kernel) gX12_hours_1.2.2.2.1
  · have hcp9 := nI_nz c_13_8040
    have hcl9 := cntS_le fnw (nI jp) k6
    refine lv_aload_n hx hb gX12_hours_0.2.2.2.2.2.2.2.2.1 rfl (lv_at1 hl) ?_
    refine lv_iload_n hx hb gX12_hours_0.2.2.2.2.2.2.2.2.2 rfl (lv_at2 hl) ?_
    refine pV hC hK hl hP hD (m_isInO l G h0 jp nw nk mhasKept nt mtaped nr mrowMany mroundOf mroundFrom jw nm mfromHour mtoHour ns mfrom mto msort misFault mdeep mcoded mlines nl nc nF np ntr nb mbestCost nso nsi nit nsh nsf nss nrc mtraced mdealer mnumber mwhose msize misParted fnw (by omega) (hjw)) si_X12_103 [0, 1] sm_0_1 fm_0_1 nd_0_1 rfl rfl rfl rfl rfl (Nat.le_of_ble_eq_true rfl) rm_3_2_3 ⟨by first | exact Nat.le_of_ble_eq_true rfl | exact Nat.zero_le _, by first | exact Nat.le_of_ble_eq_true rfl | exact Nat.zero_le _⟩ gX12_hours_1.1 (Kors (Keqa fun a8042 => ?_) (Keqa fun a8042 => ?_))
    · refine lv_if_ne (tgt := 26) hx hb gX12_hours_1.2.1 (by decide) (fun _ => ?_) (fun c9 => absurd c9 (by decide))
      refine lv_bipush (v := 104) hx hb gX12_hours_1.2.2.2.2.1 (by decide) ?_
      refine lv_iconst (v := 3) hx hb gX12_hours_1.2.2.2.2.2.1 (by decide) ?_
      refine lv_aload_n hx hb gX12_hours_1.2.2.2.2.2.2.1 rfl (lv_at1 hl) ?_
      refine lv_iload_n hx hb gX12_hours_1.2.2.2.2.2.2.2.1 rfl (lv_at2 hl) ?_
      refine lv_iload_n hx hb gX12_hours_1.2.2.2.2.2.2.2.2.1 rfl (lv_at4 hl) ?_
      refine lv_if_eq (tgt := 42) hx hb gX12_hours_1.2.2.2.2.2.2.2.2.2 (by decide) (fun c9 => absurd c9 (by decide)) (fun _ => ?_)
      refine lv_iload hx hb gX12_hours_2.1 (lv_at0 hl) ?_
      refine lv_iconst (v := 1) hx hb gX12_hours_2.2.1 (by decide) ?_
      refine lv_isub hx hb gX12_hours_2.2.2.1 ?_
      refine eqi (x1 := nI ((cntS fnw (nI jp) k6) - 1)) (nI_sb (by omega)) ?_
      refine lv_goto (tgt := 43) hx hb gX12_hours_2.2.2.2.1 (by decide) ?_
      refine pV hC hK hl hP hD (m_stampAtX l G k6 h0 jp ((cntS fnw (nI jp) k6) - 1) nw nk mhasKept nt mtaped nr mrowMany mroundOf mroundFrom (nI jw) nm mfromHour mtoHour ns mfrom mto msort misFault mdeep mcoded mlines nl nc nF np ntr nb mbestCost nso nsi nit nsh nsf nss nrc mtraced mdealer mnumber mwhose msize misParted fnw (e6) (hk6) (by omega)) si_X12_142 [0, 1] sm_0_1 fm_0_1 nd_0_1 rfl rfl rfl rfl rfl (Nat.le_of_ble_eq_true rfl) rm_3_2_5 ⟨by first | exact Nat.le_of_ble_eq_true rfl | exact Nat.zero_le _, by first | exact Nat.le_of_ble_eq_true rfl | exact Nat.zero_le _⟩ gX12_hours_2.2.2.2.2.2.1 (fun r8043 hr8043 => ?_)
      obtain ⟨s9_8044, hpx8044, rfl⟩ := hr8043
      try dsimp only at hpx8044
      refine lv_imul hx hb gX12_hours_2.2.2.2.2.2.2.1 ?_
      refine eqi (x1 := nI (3 * s9_8044)) (nI_mul 3 s9_8044) ?_
      refine lv_iadd hx hb gX12_hours_2.2.2.2.2.2.2.2.1 ?_
      refine eqi (x1 := nI (104 + 3 * s9_8044)) (nI_add 104 (3 * s9_8044)) ?_
      refine lv_istore (lv' := [(5, .int (nI (104 + 3 * s9_8044))), (4, .int (nI (cntS fnw (nI jp) k6))), (0, .ref h0), (1, .int (nI jp)), (2, .int 0), (3, .int 1)]) hx hb gX12_hours_2.2.2.2.2.2.2.2.2.1 hl (by decide) rfl (fun ls hl => ?_)
      have hs9b := hpx8044.1
      obtain ⟨cc8045, hcc8045, ecc8045⟩ := NI.nat hN (i := 104 + 3 * s9_8044 + 1) (B := 5) (bnd_st1 (s := s9_8044) rfl (by omega)) (by decide)
      refine lv_aload_n hx hb gX12_hours_2.2.2.2.2.2.2.2.2.2 rfl (lv_at2 hl) ?_
      refine lv_aload_n hx hb gX12_hours_3.1 rfl (lv_at2 hl) ?_
      refine gf_X12_9 hC rfl hK hP 0 rfl rfl gX12_hours_3.2.1 ?_
      refine lv_iload hx hb gX12_hours_3.2.2.1 (lv_at0 hl) ?_
      refine lv_iconst (v := 2) hx hb gX12_hours_3.2.2.2.1 (by decide) ?_
      refine lv_iadd hx hb gX12_hours_3.2.2.2.2.1 ?_
      refine eqi (x1 := nI (104 + 3 * s9_8044 + 2)) (nI_add (104 + 3 * s9_8044) 2) ?_
      refine aldN hC hK hP 1 rfl (k := (104 + 3 * s9_8044 + 2)) (by omega) (Nat.le_of_ble_eq_true rfl) (v := fnw (104 + 3 * s9_8044 + 2)) rfl gX12_hours_3.2.2.2.2.2.1 ?_
      refine lv_aload_n hx hb gX12_hours_3.2.2.2.2.2.2.1 rfl (lv_at2 hl) ?_
      refine lv_aload_n hx hb gX12_hours_3.2.2.2.2.2.2.2.1 rfl (lv_at2 hl) ?_
      refine gf_X12_9 hC rfl hK hP 0 rfl rfl gX12_hours_3.2.2.2.2.2.2.2.2.1 ?_
      refine lv_iload hx hb gX12_hours_3.2.2.2.2.2.2.2.2.2 (lv_at0 hl) ?_
      refine lv_iconst (v := 1) hx hb gX12_hours_4.1 (by decide) ?_
      refine lv_iadd hx hb gX12_hours_4.2.1 ?_
      refine eqi (x1 := nI (104 + 3 * s9_8044 + 1)) (nI_add (104 + 3 * s9_8044) 1) ?_
      refine aldN hC hK hP 1 rfl (k := 104 + 3 * s9_8044 + 1) (by omega) (Nat.le_of_ble_eq_true rfl) (v := nI cc8045) (ecc8045) gX12_hours_4.2.2.1 ?_
      refine pV hC hK hl hP hD (m_greatest l G h0 cc8045 nw nk mhasKept nt mtaped nr mrowMany mroundOf mroundFrom (nI jw) nm mfromHour mtoHour ns mfrom mto msort misFault mdeep mcoded mlines nl nc nF np ntr nb mbestCost nso nsi nit nsh nsf nss nrc mtraced mdealer mnumber mwhose msize misParted fnm (by omega)) si_X12_155 [0, 2] sm_0_2 fm_0_2 nd_0_2 rfl rfl rfl rfl rfl (Nat.le_of_ble_eq_true rfl) rm_3_1_2 ⟨by first | exact Nat.le_of_ble_eq_true rfl | exact Nat.zero_le _, by first | exact Nat.le_of_ble_eq_true rfl | exact Nat.zero_le _⟩ gX12_hours_4.2.2.2.1 (Keqr ?_)
      refine lv_isub hx hb gX12_hours_4.2.2.2.2.1 ?_
      refine pf_X12_161 hC rfl hK hP hD hS 0 (ws' := [(h0, oX12 nw nk mhasKept nt mtaped nr mrowMany mroundOf mroundFrom (nI jw) nm ((fnw (104 + 3 * s9_8044 + 2)) - (fnm cc8045)) mtoHour ns mfrom mto msort misFault mdeep mcoded mlines nl nc nF np ntr nb mbestCost nso nsi nit nsh nsf nss nrc mtraced mdealer mnumber mwhose msize misParted), (nw, iA G 1662 fnw), (nm, iA G 36 fnm)]) rfl (Nat.le_of_ble_eq_true rfl) rfl rfl rfl gX12_hours_4.2.2.2.2.2.1 (fun H locs hP hD hS => ?_)
      refine lv_aload_n hx hb gX12_hours_4.2.2.2.2.2.2.1 rfl (lv_at2 hl) ?_
      refine lv_aload_n hx hb gX12_hours_4.2.2.2.2.2.2.2.1 rfl (lv_at2 hl) ?_
      refine gf_X12_9 hC rfl hK hP 0 rfl rfl gX12_hours_4.2.2.2.2.2.2.2.2.1 ?_
      refine lv_iload hx hb gX12_hours_4.2.2.2.2.2.2.2.2.2 (lv_at0 hl) ?_
      refine lv_iconst (v := 2) hx hb gX12_hours_5.1 (by decide) ?_
      refine lv_iadd hx hb gX12_hours_5.2.1 ?_
      refine eqi (x1 := nI (104 + 3 * s9_8044 + 2)) (nI_add (104 + 3 * s9_8044) 2) ?_
      refine aldN hC hK hP 1 rfl (k := (104 + 3 * s9_8044 + 2)) (by omega) (Nat.le_of_ble_eq_true rfl) (v := fnw (104 + 3 * s9_8044 + 2)) rfl gX12_hours_5.2.2.1 ?_
      refine lv_aload_n hx hb gX12_hours_5.2.2.2.1 rfl (lv_at2 hl) ?_
      refine lv_aload_n hx hb gX12_hours_5.2.2.2.2.1 rfl (lv_at2 hl) ?_
      refine gf_X12_9 hC rfl hK hP 0 rfl rfl gX12_hours_5.2.2.2.2.2.1 ?_
      refine lv_iload hx hb gX12_hours_5.2.2.2.2.2.2.1 (lv_at0 hl) ?_
      refine lv_iconst (v := 1) hx hb gX12_hours_5.2.2.2.2.2.2.2.1 (by decide) ?_
      refine lv_iadd hx hb gX12_hours_5.2.2.2.2.2.2.2.2.1 ?_
      refine eqi (x1 := nI (104 + 3 * s9_8044 + 1)) (nI_add (104 + 3 * s9_8044) 1) ?_
      refine aldN hC hK hP 1 rfl (k := 104 + 3 * s9_8044 + 1) (by omega) (Nat.le_of_ble_eq_true rfl) (v := nI cc8045) (ecc8045) gX12_hours_5.2.2.2.2.2.2.2.2.2 ?_
      refine pV hC hK hl hP hD (m_least l G h0 cc8045 nw nk mhasKept nt mtaped nr mrowMany mroundOf mroundFrom (nI jw) nm ((fnw (104 + 3 * s9_8044 + 2)) - (fnm cc8045)) mtoHour ns mfrom mto msort misFault mdeep mcoded mlines nl nc nF np ntr nb mbestCost nso nsi nit nsh nsf nss nrc mtraced mdealer mnumber mwhose msize misParted fnm (by omega)) si_X12_158 [0, 2] sm_0_2 fm_0_2 nd_0_2 rfl rfl rfl rfl rfl (Nat.le_of_ble_eq_true rfl) rm_3_1_2 ⟨by first | exact Nat.le_of_ble_eq_true rfl | exact Nat.zero_le _, by first | exact Nat.le_of_ble_eq_true rfl | exact Nat.zero_le _⟩ gX12_hours_6.1 (Keqr ?_)
      refine lv_isub hx hb gX12_hours_6.2.1 ?_
      refine pf_X12_164 hC rfl hK hP hD hS 0 (ws' := [(h0, oX12 nw nk mhasKept nt mtaped nr mrowMany mroundOf mroundFrom (nI jw) nm ((fnw (104 + 3 * s9_8044 + 2)) - (fnm cc8045)) ((fnw (104 + 3 * s9_8044 + 2)) - (-(fnm (6 * cc8045)))) ns mfrom mto msort misFault mdeep mcoded mlines nl nc nF np ntr nb mbestCost nso nsi nit nsh nsf nss nrc mtraced mdealer mnumber mwhose msize misParted), (nw, iA G 1662 fnw), (nm, iA G 36 fnm)]) rfl (Nat.le_of_ble_eq_true rfl) rfl rfl rfl gX12_hours_6.2.2.1 (fun H locs hP hD hS => ?_)
      refine lv_iconst (v := 1) hx hb gX12_hours_6.2.2.2.1 (by decide) ?_
      refine toQ hQ0 ?_
      exact RI (v := 1) hC hP hD hS [0, 1, 2] ((fnw (104 + 3 * s9_8044 + 2)) - (fnm cc8045), (fnw (104 + 3 * s9_8044 + 2)) - (-(fnm (6 * cc8045)))) rfl rfl (by decide) (Or.inl ⟨rfl, _, hpx8044.lst (by omega), ⟨by omega, a8042⟩, TR0.mk ecc8045 (by omega), TR1.mk ecc8045 (by omega)⟩) (by decide +kernel) gX12_hours_6.2.2.2.2
    · refine lv_if_ne (tgt := 26) hx hb gX12_hours_1.2.1 (by decide) (fun c9 => absurd (by decide) c9) (fun _ => ?_)
      refine lv_iconst (v := 0) hx hb gX12_hours_1.2.2.1 (by decide) ?_
      refine toQ hQ0 ?_
      exact RI (v := 0) hC hP hD hS [0, 1, 2] (mfromHour, mtoHour) rfl rfl (by decide) (Or.inr ⟨rfl, Or.inl (fun h9 => a8042 h9.2)⟩) (by decide +kernel) gX12_hours_1.2.2.2.1
def K_m_hoursFO (l : Launch) (G : GG) (kq : Nat) (k6 : Nat) (h0 : Nat) (jp : Nat) (nw : Nat) (nk : Nat) (mhasKept : Int32) (nt : Nat) (mtaped : Int32) (nr : Nat) (mrowMany : Int32) (mroundOf : Int32) (mroundFrom : Int32) (jw : Nat) (nm : Nat) (mfromHour : Int32) (mtoHour : Int32) (ns : Nat) (mfrom : Int32) (mto : Int32) (msort : Int32) (misFault : Int32) (mdeep : Int32) (mcoded : Int32) (mlines : Int32) (nl : Nat) (nc : Nat) (nF : Nat) (np : Nat) (ntr : Nat) (nb : Nat) (mbestCost : Int32) (nso : Nat) (nsi : Nat) (nit : Nat) (nsh : Nat) (nsf : Nat) (nss : Nat) (nrc : Nat) (mtraced : Int32) (mdealer : Int32) (mnumber : Int32) (mwhose : Int32) (msize : Int32) (misParted : Int32) (fnw : Nat → Int32) (fnm : Nat → Int32) : Prop := MI l G yX12_hours cX12_hours 6 (some .boolean) 3 0 0 [.ref h0, .int (nI jp), .int 0, .int 0] [(h0, oX12 nw nk mhasKept nt mtaped nr mrowMany mroundOf mroundFrom (nI jw) nm mfromHour mtoHour ns mfrom mto msort misFault mdeep mcoded mlines nl nc nF np ntr nb mbestCost nso nsi nit nsh nsf nss nrc mtraced mdealer mnumber mwhose msize misParted), (nw, iA G 1662 fnw), (nm, iA G 36 fnm)] (fun (r : Int32) (u : Int32 × Int32) => ((r = 1 ∧ ∃ s9, FST (shf fnw 104) k6 jp s9 ∧ VSO fnw kq jw jp ∧ u.1 = TR0 (shf fnw 104) fnm s9 ∧ u.2 = TR1 (shf fnw 104) fnm s9) ∨ (r = 0 ∧ (¬ VSO fnw kq jw jp ∨ ∀ s9, s9 < k6 → ¬ shf fnw 104 (s9 * 3 + 0) = nI jp)))) (fun u : Int32 × Int32 => [(h0, oX12 nw nk mhasKept nt mtaped nr mrowMany mroundOf mroundFrom (nI jw) nm u.1 u.2 ns mfrom mto msort misFault mdeep mcoded mlines nl nc nF np ntr nb mbestCost nso nsi nit nsh nsf nss nrc mtraced mdealer mnumber mwhose msize misParted), (nw, iA G 1662 fnw), (nm, iA G 36 fnm)])
set_option maxHeartbeats 4000000 in
set_option maxRecDepth 100000 in
theorem m_hoursFO (l : Launch) (G : GG) (kq : Nat) (k6 : Nat) (h0 : Nat) (jp : Nat) (nw : Nat) (nk : Nat) (mhasKept : Int32) (nt : Nat) (mtaped : Int32) (nr : Nat) (mrowMany : Int32) (mroundOf : Int32) (mroundFrom : Int32) (jw : Nat) (nm : Nat) (mfromHour : Int32) (mtoHour : Int32) (ns : Nat) (mfrom : Int32) (mto : Int32) (msort : Int32) (misFault : Int32) (mdeep : Int32) (mcoded : Int32) (mlines : Int32) (nl : Nat) (nc : Nat) (nF : Nat) (np : Nat) (ntr : Nat) (nb : Nat) (mbestCost : Int32) (nso : Nat) (nsi : Nat) (nit : Nat) (nsh : Nat) (nsf : Nat) (nss : Nat) (nrc : Nat) (mtraced : Int32) (mdealer : Int32) (mnumber : Int32) (mwhose : Int32) (msize : Int32) (misParted : Int32) (fnw : Nat → Int32) (fnm : Nat → Int32) (hN : NI fnw) (e6 : fnw 6 = nI k6) (hk6 : k6 ≤ 24) (ekq : fnw 5 = nI kq) (hjp : jp < kq) (hkq : kq ≤ 12) (hjw : jw < 4096) : K_m_hoursFO l G kq k6 h0 jp nw nk mhasKept nt mtaped nr mrowMany mroundOf mroundFrom jw nm mfromHour mtoHour ns mfrom mto msort misFault mdeep mcoded mlines nl nc nF np ntr nb mbestCost nso nsi nit nsh nsf nss nrc mtraced mdealer mnumber mwhose msize misParted fnw fnm := by
  refine MI.start (by decide +kernel) (Nat.le_of_ble_eq_true rfl) ?_
  intro p e s m below meth c A ls hC hK hP hD hS hA hl
  refine absQ (fun Q0 hQ0 => ?_)
  have hl : lv_has ls 6 [(0, .ref h0), (1, .int (nI jp)), (2, .int 0), (3, .int 0)] := hl
  refine Kan8 hC (fun hx hb hr hml hB hown hlocks hnm => ?_)
  refine lv_aload_n hx hb gX12_hours_0.1 rfl (lv_at0 hl) ?_
  refine lv_iload_n hx hb gX12_hours_0.2.1 rfl (lv_at1 hl) ?_
  refine pV hC hK hl hP hD (m_stampsOf l G k6 h0 (nI jp) nw nk mhasKept nt mtaped nr mrowMany mroundOf mroundFrom (nI jw) nm mfromHour mtoHour ns mfrom mto msort misFault mdeep mcoded mlines nl nc nF np ntr nb mbestCost nso nsi nit nsh nsf nss nrc mtraced mdealer mnumber mwhose msize misParted fnw (e6) (hk6)) si_X12_130 [0, 1] sm_0_1 fm_0_1 nd_0_1 rfl rfl rfl rfl rfl (Nat.le_of_ble_eq_true rfl) rm_3_2_4 ⟨by first | exact Nat.le_of_ble_eq_true rfl | exact Nat.zero_le _, by first | exact Nat.le_of_ble_eq_true rfl | exact Nat.zero_le _⟩ gX12_hours_0.2.2.1 (Keqr ?_)
  refine lv_istore (lv' := [(4, .int (nI (cntS fnw (nI jp) k6))), (0, .ref h0), (1, .int (nI jp)), (2, .int 0), (3, .int 0)]) hx hb gX12_hours_0.2.2.2.1 hl (by decide) rfl (fun ls hl => ?_)
  refine lv_iload_n hx hb gX12_hours_0.2.2.2.2.1 rfl (lv_at3 hl) ?_
  refine lv_if_ne (tgt := 24) hx hb gX12_hours_0.2.2.2.2.2.1 (by decide) (fun c9 => absurd (by decide) c9) (fun _ => ?_)
  refine lv_iload hx hb gX12_hours_0.2.2.2.2.2.2.1 (lv_at0 hl) ?_
  refine lv_if_eq (tgt := 24) hx hb gX12_hours_0.2.2.2.2.2.2.2.1 (by decide) (fun c_13_8052 => ?_) (fun c_13_8052 => ?_)
  · refine lv_iconst (v := 0) hx hb gX12_hours_1.2.2.1 (by decide) ?_
    refine toQ hQ0 ?_
    exact RI (v := 0) hC hP hD hS [0, 1, 2] (mfromHour, mtoHour) rfl rfl (by decide) (Or.inr ⟨rfl, Or.inr (cntS_no (nI_z9 (by have h9 := cntS_le fnw (nI jp) k6; omega) c_13_8052))⟩) (by decide +kernel) gX12_hours_1.2.2.2.1
  · have hcp9 := nI_nz c_13_8052
    have hcl9 := cntS_le fnw (nI jp) k6
    refine lv_aload_n hx hb gX12_hours_0.2.2.2.2.2.2.2.2.1 rfl (lv_at1 hl) ?_
    refine lv_iload_n hx hb gX12_hours_0.2.2.2.2.2.2.2.2.2 rfl (lv_at2 hl) ?_
    refine pV hC hK hl hP hD (m_isInO l G h0 jp nw nk mhasKept nt mtaped nr mrowMany mroundOf mroundFrom jw nm mfromHour mtoHour ns mfrom mto msort misFault mdeep mcoded mlines nl nc nF np ntr nb mbestCost nso nsi nit nsh nsf nss nrc mtraced mdealer mnumber mwhose msize misParted fnw (by omega) (hjw)) si_X12_103 [0, 1] sm_0_1 fm_0_1 nd_0_1 rfl rfl rfl rfl rfl (Nat.le_of_ble_eq_true rfl) rm_3_2_3 ⟨by first | exact Nat.le_of_ble_eq_true rfl | exact Nat.zero_le _, by first | exact Nat.le_of_ble_eq_true rfl | exact Nat.zero_le _⟩ gX12_hours_1.1 (Kors (Keqa fun a8054 => ?_) (Keqa fun a8054 => ?_))
    · refine lv_if_ne (tgt := 26) hx hb gX12_hours_1.2.1 (by decide) (fun _ => ?_) (fun c9 => absurd c9 (by decide))
      refine lv_bipush (v := 104) hx hb gX12_hours_1.2.2.2.2.1 (by decide) ?_
      refine lv_iconst (v := 3) hx hb gX12_hours_1.2.2.2.2.2.1 (by decide) ?_
      refine lv_aload_n hx hb gX12_hours_1.2.2.2.2.2.2.1 rfl (lv_at1 hl) ?_
      refine lv_iload_n hx hb gX12_hours_1.2.2.2.2.2.2.2.1 rfl (lv_at2 hl) ?_
      refine lv_iload_n hx hb gX12_hours_1.2.2.2.2.2.2.2.2.1 rfl (lv_at4 hl) ?_
      refine lv_if_eq (tgt := 42) hx hb gX12_hours_1.2.2.2.2.2.2.2.2.2 (by decide) (fun _ => ?_) (fun c9 => absurd (by decide) c9)
      refine lv_iconst (v := 0) hx hb gX12_hours_2.2.2.2.2.1 (by decide) ?_
      refine pV hC hK hl hP hD (m_stampAtX l G k6 h0 jp 0 nw nk mhasKept nt mtaped nr mrowMany mroundOf mroundFrom (nI jw) nm mfromHour mtoHour ns mfrom mto msort misFault mdeep mcoded mlines nl nc nF np ntr nb mbestCost nso nsi nit nsh nsf nss nrc mtraced mdealer mnumber mwhose msize misParted fnw (e6) (hk6) (by omega)) si_X12_142 [0, 1] sm_0_1 fm_0_1 nd_0_1 rfl rfl rfl rfl rfl (Nat.le_of_ble_eq_true rfl) rm_3_2_5 ⟨by first | exact Nat.le_of_ble_eq_true rfl | exact Nat.zero_le _, by first | exact Nat.le_of_ble_eq_true rfl | exact Nat.zero_le _⟩ gX12_hours_2.2.2.2.2.2.1 (fun r8055 hr8055 => ?_)
      obtain ⟨s9_8056, hpx8056, rfl⟩ := hr8055
      try dsimp only at hpx8056
      refine lv_imul hx hb gX12_hours_2.2.2.2.2.2.2.1 ?_
      refine eqi (x1 := nI (3 * s9_8056)) (nI_mul 3 s9_8056) ?_
      refine lv_iadd hx hb gX12_hours_2.2.2.2.2.2.2.2.1 ?_
      refine eqi (x1 := nI (104 + 3 * s9_8056)) (nI_add 104 (3 * s9_8056)) ?_
      refine lv_istore (lv' := [(5, .int (nI (104 + 3 * s9_8056))), (4, .int (nI (cntS fnw (nI jp) k6))), (0, .ref h0), (1, .int (nI jp)), (2, .int 0), (3, .int 0)]) hx hb gX12_hours_2.2.2.2.2.2.2.2.2.1 hl (by decide) rfl (fun ls hl => ?_)
      have hs9b := hpx8056.1
      obtain ⟨cc8057, hcc8057, ecc8057⟩ := NI.nat hN (i := 104 + 3 * s9_8056 + 1) (B := 5) (bnd_st1 (s := s9_8056) rfl (by omega)) (by decide)
      refine lv_aload_n hx hb gX12_hours_2.2.2.2.2.2.2.2.2.2 rfl (lv_at2 hl) ?_
      refine lv_aload_n hx hb gX12_hours_3.1 rfl (lv_at2 hl) ?_
      refine gf_X12_9 hC rfl hK hP 0 rfl rfl gX12_hours_3.2.1 ?_
      refine lv_iload hx hb gX12_hours_3.2.2.1 (lv_at0 hl) ?_
      refine lv_iconst (v := 2) hx hb gX12_hours_3.2.2.2.1 (by decide) ?_
      refine lv_iadd hx hb gX12_hours_3.2.2.2.2.1 ?_
      refine eqi (x1 := nI (104 + 3 * s9_8056 + 2)) (nI_add (104 + 3 * s9_8056) 2) ?_
      refine aldN hC hK hP 1 rfl (k := (104 + 3 * s9_8056 + 2)) (by omega) (Nat.le_of_ble_eq_true rfl) (v := fnw (104 + 3 * s9_8056 + 2)) rfl gX12_hours_3.2.2.2.2.2.1 ?_
      refine lv_aload_n hx hb gX12_hours_3.2.2.2.2.2.2.1 rfl (lv_at2 hl) ?_
      refine lv_aload_n hx hb gX12_hours_3.2.2.2.2.2.2.2.1 rfl (lv_at2 hl) ?_
      refine gf_X12_9 hC rfl hK hP 0 rfl rfl gX12_hours_3.2.2.2.2.2.2.2.2.1 ?_
      refine lv_iload hx hb gX12_hours_3.2.2.2.2.2.2.2.2.2 (lv_at0 hl) ?_
      refine lv_iconst (v := 1) hx hb gX12_hours_4.1 (by decide) ?_
      refine lv_iadd hx hb gX12_hours_4.2.1 ?_
      refine eqi (x1 := nI (104 + 3 * s9_8056 + 1)) (nI_add (104 + 3 * s9_8056) 1) ?_
      refine aldN hC hK hP 1 rfl (k := 104 + 3 * s9_8056 + 1) (by omega) (Nat.le_of_ble_eq_true rfl) (v := nI cc8057) (ecc8057) gX12_hours_4.2.2.1 ?_
      refine pV hC hK hl hP hD (m_greatest l G h0 cc8057 nw nk mhasKept nt mtaped nr mrowMany mroundOf mroundFrom (nI jw) nm mfromHour mtoHour ns mfrom mto msort misFault mdeep mcoded mlines nl nc nF np ntr nb mbestCost nso nsi nit nsh nsf nss nrc mtraced mdealer mnumber mwhose msize misParted fnm (by omega)) si_X12_155 [0, 2] sm_0_2 fm_0_2 nd_0_2 rfl rfl rfl rfl rfl (Nat.le_of_ble_eq_true rfl) rm_3_1_2 ⟨by first | exact Nat.le_of_ble_eq_true rfl | exact Nat.zero_le _, by first | exact Nat.le_of_ble_eq_true rfl | exact Nat.zero_le _⟩ gX12_hours_4.2.2.2.1 (Keqr ?_)
      refine lv_isub hx hb gX12_hours_4.2.2.2.2.1 ?_
      refine pf_X12_161 hC rfl hK hP hD hS 0 (ws' := [(h0, oX12 nw nk mhasKept nt mtaped nr mrowMany mroundOf mroundFrom (nI jw) nm ((fnw (104 + 3 * s9_8056 + 2)) - (fnm cc8057)) mtoHour ns mfrom mto msort misFault mdeep mcoded mlines nl nc nF np ntr nb mbestCost nso nsi nit nsh nsf nss nrc mtraced mdealer mnumber mwhose msize misParted), (nw, iA G 1662 fnw), (nm, iA G 36 fnm)]) rfl (Nat.le_of_ble_eq_true rfl) rfl rfl rfl gX12_hours_4.2.2.2.2.2.1 (fun H locs hP hD hS => ?_)
      refine lv_aload_n hx hb gX12_hours_4.2.2.2.2.2.2.1 rfl (lv_at2 hl) ?_
      refine lv_aload_n hx hb gX12_hours_4.2.2.2.2.2.2.2.1 rfl (lv_at2 hl) ?_
      refine gf_X12_9 hC rfl hK hP 0 rfl rfl gX12_hours_4.2.2.2.2.2.2.2.2.1 ?_
      refine lv_iload hx hb gX12_hours_4.2.2.2.2.2.2.2.2.2 (lv_at0 hl) ?_
      refine lv_iconst (v := 2) hx hb gX12_hours_5.1 (by decide) ?_
      refine lv_iadd hx hb gX12_hours_5.2.1 ?_
      refine eqi (x1 := nI (104 + 3 * s9_8056 + 2)) (nI_add (104 + 3 * s9_8056) 2) ?_
      refine aldN hC hK hP 1 rfl (k := (104 + 3 * s9_8056 + 2)) (by omega) (Nat.le_of_ble_eq_true rfl) (v := fnw (104 + 3 * s9_8056 + 2)) rfl gX12_hours_5.2.2.1 ?_
      refine lv_aload_n hx hb gX12_hours_5.2.2.2.1 rfl (lv_at2 hl) ?_
      refine lv_aload_n hx hb gX12_hours_5.2.2.2.2.1 rfl (lv_at2 hl) ?_
      refine gf_X12_9 hC rfl hK hP 0 rfl rfl gX12_hours_5.2.2.2.2.2.1 ?_
      refine lv_iload hx hb gX12_hours_5.2.2.2.2.2.2.1 (lv_at0 hl) ?_
      refine lv_iconst (v := 1) hx hb gX12_hours_5.2.2.2.2.2.2.2.1 (by decide) ?_
      refine lv_iadd hx hb gX12_hours_5.2.2.2.2.2.2.2.2.1 ?_
      refine eqi (x1 := nI (104 + 3 * s9_8056 + 1)) (nI_add (104 + 3 * s9_8056) 1) ?_
      refine aldN hC hK hP 1 rfl (k := 104 + 3 * s9_8056 + 1) (by omega) (Nat.le_of_ble_eq_true rfl) (v := nI cc8057) (ecc8057) gX12_hours_5.2.2.2.2.2.2.2.2.2 ?_
      refine pV hC hK hl hP hD (m_least l G h0 cc8057 nw nk mhasKept nt mtaped nr mrowMany mroundOf mroundFrom (nI jw) nm ((fnw (104 + 3 * s9_8056 + 2)) - (fnm cc8057)) mtoHour ns mfrom mto msort misFault mdeep mcoded mlines nl nc nF np ntr nb mbestCost nso nsi nit nsh nsf nss nrc mtraced mdealer mnumber mwhose msize misParted fnm (by omega)) si_X12_158 [0, 2] sm_0_2 fm_0_2 nd_0_2 rfl rfl rfl rfl rfl (Nat.le_of_ble_eq_true rfl) rm_3_1_2 ⟨by first | exact Nat.le_of_ble_eq_true rfl | exact Nat.zero_le _, by first | exact Nat.le_of_ble_eq_true rfl | exact Nat.zero_le _⟩ gX12_hours_6.1 (Keqr ?_)
      refine lv_isub hx hb gX12_hours_6.2.1 ?_
      refine pf_X12_164 hC rfl hK hP hD hS 0 (ws' := [(h0, oX12 nw nk mhasKept nt mtaped nr mrowMany mroundOf mroundFrom (nI jw) nm ((fnw (104 + 3 * s9_8056 + 2)) - (fnm cc8057)) ((fnw (104 + 3 * s9_8056 + 2)) - (-(fnm (6 * cc8057)))) ns mfrom mto msort misFault mdeep mcoded mlines nl nc nF np ntr nb mbestCost nso nsi nit nsh nsf nss nrc mtraced mdealer mnumber mwhose msize misParted), (nw, iA G 1662 fnw), (nm, iA G 36 fnm)]) rfl (Nat.le_of_ble_eq_true rfl) rfl rfl rfl gX12_hours_6.2.2.1 (fun H locs hP hD hS => ?_)
      refine lv_iconst (v := 1) hx hb gX12_hours_6.2.2.2.1 (by decide) ?_
      refine toQ hQ0 ?_
      exact RI (v := 1) hC hP hD hS [0, 1, 2] ((fnw (104 + 3 * s9_8056 + 2)) - (fnm cc8057), (fnw (104 + 3 * s9_8056 + 2)) - (-(fnm (6 * cc8057)))) rfl rfl (by decide) (Or.inl ⟨rfl, _, hpx8056.fst, ⟨by omega, a8054⟩, TR0.mk ecc8057 (by omega), TR1.mk ecc8057 (by omega)⟩) (by decide +kernel) gX12_hours_6.2.2.2.2
    · refine lv_if_ne (tgt := 26) hx hb gX12_hours_1.2.1 (by decide) (fun c9 => absurd (by decide) c9) (fun _ => ?_)
      refine lv_iconst (v := 0) hx hb gX12_hours_1.2.2.1 (by decide) ?_
      refine toQ hQ0 ?_
      exact RI (v := 0) hC hP hD hS [0, 1, 2] (mfromHour, mtoHour) rfl rfl (by decide) (Or.inr ⟨rfl, Or.inl (fun h9 => a8054 h9.2)⟩) (by decide +kernel) gX12_hours_1.2.2.2.1
def K_m_inHandLO (l : Launch) (G : GG) (kq : Nat) (k6 : Nat) (h0 : Nat) (jp : Nat) (je : Nat) (nw : Nat) (nk : Nat) (mhasKept : Int32) (nt : Nat) (mtaped : Int32) (nr : Nat) (mrowMany : Int32) (mroundOf : Int32) (mroundFrom : Int32) (jw : Nat) (nm : Nat) (mfromHour : Int32) (mtoHour : Int32) (ns : Nat) (mfrom : Int32) (mto : Int32) (msort : Int32) (misFault : Int32) (mdeep : Int32) (mcoded : Int32) (mlines : Int32) (nl : Nat) (nc : Nat) (nF : Nat) (np : Nat) (ntr : Nat) (nb : Nat) (mbestCost : Int32) (nso : Nat) (nsi : Nat) (nit : Nat) (nsh : Nat) (nsf : Nat) (nss : Nat) (nrc : Nat) (mtraced : Int32) (mdealer : Int32) (mnumber : Int32) (mwhose : Int32) (msize : Int32) (misParted : Int32) (fnw : Nat → Int32) (fnm : Nat → Int32) : Prop := MI l G yX12_inHand cX12_inHand 4 (some .boolean) 4 0 0 [.ref h0, .int (nI jp), .int (nI je), .int 0] [(h0, oX12 nw nk mhasKept nt mtaped nr mrowMany mroundOf mroundFrom (nI jw) nm mfromHour mtoHour ns mfrom mto msort misFault mdeep mcoded mlines nl nc nF np ntr nb mbestCost nso nsi nit nsh nsf nss nrc mtraced mdealer mnumber mwhose msize misParted), (nw, iA G 1662 fnw), (nm, iA G 36 fnm)] (fun (r : Int32) (u : Int32 × Int32) => ((r = 1 ∧ ((fnw (32 + 6 * jp + 0) = nI je ∧ ∃ s9, FST (shf fnw 104) k6 jp s9 ∧ VSO fnw kq jw jp ∧ u.1 = TR0 (shf fnw 104) fnm s9 ∧ u.2 = TR1 (shf fnw 104) fnm s9) ∨ (¬ fnw (32 + 6 * jp + 0) = nI je ∧ ((fnw (32 + 6 * jp + 1)) >>> ((nI je) &&& 31)) &&& 1 = 1 ∧ ∃ s9, LST (shf fnw 104) k6 jp s9 ∧ VSO fnw kq jw jp ∧ u.1 = TR0 (shf fnw 104) fnm s9 ∧ u.2 = TR1 (shf fnw 104) fnm s9 + fnw (12 + 2 * je + 1)))) ∨ (r = 0 ∧ ((¬ VSO fnw kq jw jp ∨ ∀ s9, s9 < k6 → ¬ shf fnw 104 (s9 * 3 + 0) = nI jp) ∨ (¬ fnw (32 + 6 * jp + 0) = nI je ∧ ¬ ((fnw (32 + 6 * jp + 1)) >>> ((nI je) &&& 31)) &&& 1 = 1))))) (fun u : Int32 × Int32 => [(h0, oX12 nw nk mhasKept nt mtaped nr mrowMany mroundOf mroundFrom (nI jw) nm u.1 u.2 ns mfrom mto msort misFault mdeep mcoded mlines nl nc nF np ntr nb mbestCost nso nsi nit nsh nsf nss nrc mtraced mdealer mnumber mwhose msize misParted), (nw, iA G 1662 fnw), (nm, iA G 36 fnm)])
set_option maxHeartbeats 4000000 in
set_option maxRecDepth 100000 in
theorem m_inHandLO (l : Launch) (G : GG) (kq : Nat) (k6 : Nat) (h0 : Nat) (jp : Nat) (je : Nat) (nw : Nat) (nk : Nat) (mhasKept : Int32) (nt : Nat) (mtaped : Int32) (nr : Nat) (mrowMany : Int32) (mroundOf : Int32) (mroundFrom : Int32) (jw : Nat) (nm : Nat) (mfromHour : Int32) (mtoHour : Int32) (ns : Nat) (mfrom : Int32) (mto : Int32) (msort : Int32) (misFault : Int32) (mdeep : Int32) (mcoded : Int32) (mlines : Int32) (nl : Nat) (nc : Nat) (nF : Nat) (np : Nat) (ntr : Nat) (nb : Nat) (mbestCost : Int32) (nso : Nat) (nsi : Nat) (nit : Nat) (nsh : Nat) (nsf : Nat) (nss : Nat) (nrc : Nat) (mtraced : Int32) (mdealer : Int32) (mnumber : Int32) (mwhose : Int32) (msize : Int32) (misParted : Int32) (fnw : Nat → Int32) (fnm : Nat → Int32) (hN : NI fnw) (e6 : fnw 6 = nI k6) (hk6 : k6 ≤ 24) (ekq : fnw 5 = nI kq) (hjp : jp < kq) (hkq : kq ≤ 12) (hje : je < 10) (hjw : jw < 4096) : K_m_inHandLO l G kq k6 h0 jp je nw nk mhasKept nt mtaped nr mrowMany mroundOf mroundFrom jw nm mfromHour mtoHour ns mfrom mto msort misFault mdeep mcoded mlines nl nc nF np ntr nb mbestCost nso nsi nit nsh nsf nss nrc mtraced mdealer mnumber mwhose msize misParted fnw fnm := by
  refine MI.start (by decide +kernel) (Nat.le_of_ble_eq_true rfl) ?_
  intro p e s m below meth c A ls hC hK hP hD hS hA hl
  refine absQ (fun Q0 hQ0 => ?_)
  have hl : lv_has ls 4 [(0, .ref h0), (1, .int (nI jp)), (2, .int (nI je)), (3, .int 0)] := hl
  refine Kan8 hC (fun hx hb hr hml hB hown hlocks hnm => ?_)
  refine lv_aload_n hx hb gX12_inHand_0.1 rfl (lv_at0 hl) ?_
  refine lv_iload_n hx hb gX12_inHand_0.2.1 rfl (lv_at1 hl) ?_
  refine lv_iconst (v := 0) hx hb gX12_inHand_0.2.2.1 (by decide) ?_
  refine pV hC hK hl hP hD (m_paper l G h0 jp 0 nw nk mhasKept nt mtaped nr mrowMany mroundOf mroundFrom (nI jw) nm mfromHour mtoHour ns mfrom mto msort misFault mdeep mcoded mlines nl nc nF np ntr nb mbestCost nso nsi nit nsh nsf nss nrc mtraced mdealer mnumber mwhose msize misParted fnw (by omega) (by omega)) si_X12_88 [0, 1] sm_0_1 fm_0_1 nd_0_1 rfl rfl rfl rfl rfl (Nat.le_of_ble_eq_true rfl) rm_4_1_3 ⟨by first | exact Nat.le_of_ble_eq_true rfl | exact Nat.zero_le _, by first | exact Nat.le_of_ble_eq_true rfl | exact Nat.zero_le _⟩ gX12_inHand_0.2.2.2.1 (Keqr ?_)
  refine lv_iload_n hx hb gX12_inHand_0.2.2.2.2.1 rfl (lv_at2 hl) ?_
  refine lv_icmp_ne (tgt := 18) hx hb gX12_inHand_0.2.2.2.2.2.1 (by decide) (fun c_7_8064 => ?_) (fun c_7_8064 => ?_)
  · refine lv_aload_n hx hb gX12_inHand_1.2.2.1 rfl (lv_at0 hl) ?_
    refine lv_iload_n hx hb gX12_inHand_1.2.2.2.1 rfl (lv_at1 hl) ?_
    refine lv_iconst (v := 1) hx hb gX12_inHand_1.2.2.2.2.1 (by decide) ?_
    refine pV hC hK hl hP hD (m_paper l G h0 jp 1 nw nk mhasKept nt mtaped nr mrowMany mroundOf mroundFrom (nI jw) nm mfromHour mtoHour ns mfrom mto msort misFault mdeep mcoded mlines nl nc nF np ntr nb mbestCost nso nsi nit nsh nsf nss nrc mtraced mdealer mnumber mwhose msize misParted fnw (by omega) (by omega)) si_X12_88 [0, 1] sm_0_1 fm_0_1 nd_0_1 rfl rfl rfl rfl rfl (Nat.le_of_ble_eq_true rfl) rm_4_1_3 ⟨by first | exact Nat.le_of_ble_eq_true rfl | exact Nat.zero_le _, by first | exact Nat.le_of_ble_eq_true rfl | exact Nat.zero_le _⟩ gX12_inHand_1.2.2.2.2.2.1 (Keqr ?_)
    refine lv_iload_n hx hb gX12_inHand_1.2.2.2.2.2.2.1 rfl (lv_at2 hl) ?_
    refine pS hC hK hl (m_has l G (fnw (32 + 6 * jp + 1)) (nI je)) si_X12_99 rfl rfl (Nat.le_of_ble_eq_true rfl) rm_4_1_2 ⟨by first | exact Nat.le_of_ble_eq_true rfl | exact Nat.zero_le _, by first | exact Nat.le_of_ble_eq_true rfl | exact Nat.zero_le _⟩ gX12_inHand_1.2.2.2.2.2.2.2.1 (Kors (Keqa fun a8068 => ?_) (Keqa fun a8068 => ?_))
    · refine lv_if_eq (tgt := 41) hx hb gX12_inHand_1.2.2.2.2.2.2.2.2.1 (by decide) (fun c9 => absurd c9 (by decide)) (fun _ => ?_)
      refine lv_aload_n hx hb gX12_inHand_1.2.2.2.2.2.2.2.2.2 rfl (lv_at0 hl) ?_
      refine lv_iload_n hx hb gX12_inHand_2.1 rfl (lv_at1 hl) ?_
      refine lv_iload_n hx hb gX12_inHand_2.2.1 rfl (lv_at3 hl) ?_
      refine lv_iconst (v := 1) hx hb gX12_inHand_2.2.2.1 (by decide) ?_
      refine iV (wr := []) hC hK hl hP hD hS hA (m_hoursLO l G kq k6 h0 jp nw nk mhasKept nt mtaped nr mrowMany mroundOf mroundFrom jw nm mfromHour mtoHour ns mfrom mto msort misFault mdeep mcoded mlines nl nc nF np ntr nb mbestCost nso nsi nit nsh nsf nss nrc mtraced mdealer mnumber mwhose msize misParted fnw fnm (hN) (e6) (hk6) (ekq) (hjp) (hkq) (hjw)) si_X12_167 [0, 1, 2] [] sm_0_1_2 fm_0_1_2 nd_0_1_2 rfl rfl (by decide) rfl rfl rfl rfl rfl (Nat.le_of_ble_eq_true rfl) rm_4_3_6 ⟨Nat.le_of_ble_eq_true rfl, Nat.le_of_ble_eq_true rfl⟩ gX12_inHand_2.2.2.2.1 (fun r8069 => Ktu2 fun fh18071 th18072 => ?_)
      intro H locs hr8069 hP hD hS
      try dsimp only at hr8069
      refine Kpdr (ws := [(h0, oX12 nw nk mhasKept nt mtaped nr mrowMany mroundOf mroundFrom (nI jw) nm fh18071 th18072 ns mfrom mto msort misFault mdeep mcoded mlines nl nc nF np ntr nb mbestCost nso nsi nit nsh nsf nss nrc mtraced mdealer mnumber mwhose msize misParted), (nw, iA G 1662 fnw), (nm, iA G 36 fnm)]) hP hD (fun hP hD => ?_)
      rcases hr8069 with ⟨rfl, a8073⟩ | ⟨rfl, a8073⟩
      · refine lv_if_ne (tgt := 43) hx hb gX12_inHand_2.2.2.2.2.1 (by decide) (fun _ => ?_) (fun c9 => absurd c9 (by decide))
        refine lv_aload_n hx hb gX12_inHand_2.2.2.2.2.2.2.2.1 rfl (lv_at0 hl) ?_
        refine lv_dup hx hb gX12_inHand_2.2.2.2.2.2.2.2.2.1 rfl ?_
        refine gf_X12_164 hC rfl hK hP 0 rfl rfl gX12_inHand_2.2.2.2.2.2.2.2.2.2 ?_
        refine lv_aload_n hx hb gX12_inHand_3.1 rfl (lv_at0 hl) ?_
        refine gf_X12_9 hC rfl hK hP 0 rfl rfl gX12_inHand_3.2.1 ?_
        refine lv_bipush (v := 12) hx hb gX12_inHand_3.2.2.1 (by decide) ?_
        refine lv_iconst (v := 2) hx hb gX12_inHand_3.2.2.2.1 (by decide) ?_
        refine lv_iload_n hx hb gX12_inHand_3.2.2.2.2.1 rfl (lv_at2 hl) ?_
        refine lv_imul hx hb gX12_inHand_3.2.2.2.2.2.1 ?_
        refine eqi (x1 := nI (2 * je)) (nI_mul 2 je) ?_
        refine lv_iadd hx hb gX12_inHand_3.2.2.2.2.2.2.1 ?_
        refine eqi (x1 := nI (12 + 2 * je)) (nI_add 12 (2 * je)) ?_
        refine lv_iconst (v := 1) hx hb gX12_inHand_3.2.2.2.2.2.2.2.1 (by decide) ?_
        refine lv_iadd hx hb gX12_inHand_3.2.2.2.2.2.2.2.2.1 ?_
        refine eqi (x1 := nI (12 + 2 * je + 1)) (nI_add (12 + 2 * je) 1) ?_
        refine aldN hC hK hP 1 rfl (k := (12 + 2 * je + 1)) (by omega) (Nat.le_of_ble_eq_true rfl) (v := fnw (12 + 2 * je + 1)) rfl gX12_inHand_3.2.2.2.2.2.2.2.2.2 ?_
        refine lv_iadd hx hb gX12_inHand_4.1 ?_
        refine pf_X12_164 hC rfl hK hP hD hS 0 (ws' := [(h0, oX12 nw nk mhasKept nt mtaped nr mrowMany mroundOf mroundFrom (nI jw) nm fh18071 (th18072 + (fnw (12 + 2 * je + 1))) ns mfrom mto msort misFault mdeep mcoded mlines nl nc nF np ntr nb mbestCost nso nsi nit nsh nsf nss nrc mtraced mdealer mnumber mwhose msize misParted), (nw, iA G 1662 fnw), (nm, iA G 36 fnm)]) rfl (Nat.le_of_ble_eq_true rfl) rfl rfl rfl gX12_inHand_4.2.1 (fun H locs hP hD hS => ?_)
        refine lv_iconst (v := 1) hx hb gX12_inHand_4.2.2.1 (by decide) ?_
        refine toQ hQ0 ?_
        exact RI (v := 1) hC hP hD hS [0, 1, 2] (fh18071, th18072 + (fnw (12 + 2 * je + 1))) rfl rfl (by decide) (Or.inl ⟨rfl, Or.inr ⟨c_7_8064, a8068, Exists.imp (fun s9 h9 => ⟨h9.1, h9.2.1, h9.2.2.1, congrArg (fun z9 => z9 + fnw (12 + 2 * je + 1)) h9.2.2.2⟩) a8073⟩⟩) (by decide +kernel) gX12_inHand_4.2.2.2
      · refine lv_if_ne (tgt := 43) hx hb gX12_inHand_2.2.2.2.2.1 (by decide) (fun c9 => absurd (by decide) c9) (fun _ => ?_)
        refine lv_iconst (v := 0) hx hb gX12_inHand_2.2.2.2.2.2.1 (by decide) ?_
        refine toQ hQ0 ?_
        exact RI (v := 0) hC hP hD hS [0, 1, 2] (fh18071, th18072) rfl rfl (by decide) (Or.inr ⟨rfl, Or.inl a8073⟩) (by decide +kernel) gX12_inHand_2.2.2.2.2.2.2.1
    · refine lv_if_eq (tgt := 41) hx hb gX12_inHand_1.2.2.2.2.2.2.2.2.1 (by decide) (fun _ => ?_) (fun c9 => absurd (by decide) c9)
      refine lv_iconst (v := 0) hx hb gX12_inHand_2.2.2.2.2.2.1 (by decide) ?_
      refine toQ hQ0 ?_
      exact RI (v := 0) hC hP hD hS [0, 1, 2] (mfromHour, mtoHour) rfl rfl (by decide) (Or.inr ⟨rfl, Or.inr ⟨c_7_8064, a8068⟩⟩) (by decide +kernel) gX12_inHand_2.2.2.2.2.2.2.1
  · refine lv_aload_n hx hb gX12_inHand_0.2.2.2.2.2.2.1 rfl (lv_at0 hl) ?_
    refine lv_iload_n hx hb gX12_inHand_0.2.2.2.2.2.2.2.1 rfl (lv_at1 hl) ?_
    refine lv_iload_n hx hb gX12_inHand_0.2.2.2.2.2.2.2.2.1 rfl (lv_at3 hl) ?_
    refine lv_iconst (v := 0) hx hb gX12_inHand_0.2.2.2.2.2.2.2.2.2 (by decide) ?_
    refine iV (wr := []) hC hK hl hP hD hS hA (m_hoursFO l G kq k6 h0 jp nw nk mhasKept nt mtaped nr mrowMany mroundOf mroundFrom jw nm mfromHour mtoHour ns mfrom mto msort misFault mdeep mcoded mlines nl nc nF np ntr nb mbestCost nso nsi nit nsh nsf nss nrc mtraced mdealer mnumber mwhose msize misParted fnw fnm (hN) (e6) (hk6) (ekq) (hjp) (hkq) (hjw)) si_X12_167 [0, 1, 2] [] sm_0_1_2 fm_0_1_2 nd_0_1_2 rfl rfl (by decide) rfl rfl rfl rfl rfl (Nat.le_of_ble_eq_true rfl) rm_4_3_6 ⟨Nat.le_of_ble_eq_true rfl, Nat.le_of_ble_eq_true rfl⟩ gX12_inHand_1.1 (fun r8074 => Ktu2 fun fh18076 th18077 => ?_)
    intro H locs hr8074 hP hD hS
    try dsimp only at hr8074
    refine Kpdr (ws := [(h0, oX12 nw nk mhasKept nt mtaped nr mrowMany mroundOf mroundFrom (nI jw) nm fh18076 th18077 ns mfrom mto msort misFault mdeep mcoded mlines nl nc nF np ntr nb mbestCost nso nsi nit nsh nsf nss nrc mtraced mdealer mnumber mwhose msize misParted), (nw, iA G 1662 fnw), (nm, iA G 36 fnm)]) hP hD (fun hP hD => ?_)
    rcases hr8074 with ⟨rfl, a8078⟩ | ⟨rfl, a8078⟩
    · refine toQ hQ0 ?_
      exact RI (v := 1) hC hP hD hS [0, 1, 2] (fh18076, th18077) rfl rfl (by decide) (Or.inl ⟨rfl, Or.inl ⟨c_7_8064, a8078⟩⟩) (by decide +kernel) gX12_inHand_1.2.1
    · refine toQ hQ0 ?_
      exact RI (v := 0) hC hP hD hS [0, 1, 2] (fh18076, th18077) rfl rfl (by decide) (Or.inr ⟨rfl, Or.inl a8078⟩) (by decide +kernel) gX12_inHand_1.2.1
def K_m_factOfO (l : Launch) (G : GG) (kq : Nat) (h0 : Nat) (jk : Nat) (je : Nat) (nw : Nat) (nk : Nat) (mhasKept : Int32) (nt : Nat) (mtaped : Int32) (nr : Nat) (mrowMany : Int32) (mroundOf : Int32) (mroundFrom : Int32) (jw : Nat) (nm : Nat) (mfromHour : Int32) (mtoHour : Int32) (ns : Nat) (mfrom : Int32) (mto : Int32) (msort : Int32) (misFault : Int32) (mdeep : Int32) (mcoded : Int32) (mlines : Int32) (nl : Nat) (nc : Nat) (nF : Nat) (np : Nat) (ntr : Nat) (nb : Nat) (mbestCost : Int32) (nso : Nat) (nsi : Nat) (nit : Nat) (nsh : Nat) (nsf : Nat) (nss : Nat) (nrc : Nat) (mtraced : Int32) (mdealer : Int32) (mnumber : Int32) (mwhose : Int32) (msize : Int32) (misParted : Int32) (fnw : Nat → Int32) : Prop := MP l G yX12_factOf cX12_factOf 3 (some .int) 5 [.ref h0, .int (nI jk), .int (nI je)] [(h0, oX12 nw nk mhasKept nt mtaped nr mrowMany mroundOf mroundFrom (nI jw) nm mfromHour mtoHour ns mfrom mto msort misFault mdeep mcoded mlines nl nc nF np ntr nb mbestCost nso nsi nit nsh nsf nss nrc mtraced mdealer mnumber mwhose msize misParted), (nw, iA G 1662 fnw)] (fun r : Int32 => r = ((FAX (shf fnw 12) (shf fnw 32) (VSO fnw kq jw) kq je) jk))
set_option maxHeartbeats 4000000 in
set_option maxRecDepth 100000 in
theorem m_factOfO (l : Launch) (G : GG) (kq : Nat) (h0 : Nat) (jk : Nat) (je : Nat) (nw : Nat) (nk : Nat) (mhasKept : Int32) (nt : Nat) (mtaped : Int32) (nr : Nat) (mrowMany : Int32) (mroundOf : Int32) (mroundFrom : Int32) (jw : Nat) (nm : Nat) (mfromHour : Int32) (mtoHour : Int32) (ns : Nat) (mfrom : Int32) (mto : Int32) (msort : Int32) (misFault : Int32) (mdeep : Int32) (mcoded : Int32) (mlines : Int32) (nl : Nat) (nc : Nat) (nF : Nat) (np : Nat) (ntr : Nat) (nb : Nat) (mbestCost : Int32) (nso : Nat) (nsi : Nat) (nit : Nat) (nsh : Nat) (nsf : Nat) (nss : Nat) (nrc : Nat) (mtraced : Int32) (mdealer : Int32) (mnumber : Int32) (mwhose : Int32) (msize : Int32) (misParted : Int32) (fnw : Nat → Int32) (hN : NI fnw) (ekq : fnw 5 = nI kq) (hkq : kq ≤ 12) (hje : je < 10) (hjk : jk < 5) (hjw : jw < 4096) : K_m_factOfO l G kq h0 jk je nw nk mhasKept nt mtaped nr mrowMany mroundOf mroundFrom jw nm mfromHour mtoHour ns mfrom mto msort misFault mdeep mcoded mlines nl nc nF np ntr nb mbestCost nso nsi nit nsh nsf nss nrc mtraced mdealer mnumber mwhose msize misParted fnw := by
  refine MP.start (by decide +kernel) (Nat.le_of_ble_eq_true rfl) ?_
  intro p e s m below meth c ls hC hK hP hD hl
  refine absQ (fun Q0 hQ0 => ?_)
  have hl : lv_has ls 3 [(0, .ref h0), (1, .int (nI jk)), (2, .int (nI je))] := hl
  refine Kan8 hC (fun hx hb hr hml hB hown hlocks hnm => ?_)
  refine lv_iload_n hx hb gX12_factOf_0.1 rfl (lv_at1 hl) ?_
  by_cases c_1_8079 : nI jk = 0
  · refine lv_tableIn (tgt := 32) hx hb gX12_factOf_0.2.1 (by rw [c_1_8079]; decide) (by rw [c_1_8079]; decide) (by rw [c_1_8079]; rfl) (by decide) ?_
    refine lv_iload_n hx hb gX12_factOf_0.2.2.1 rfl (lv_at2 hl) ?_
    refine toQ hQ0 ?_
    exact RP (v := nI je) hC (FAR.r0 ((nI_eq (b := 0) (by omega) (by decide)).mp c_1_8079)) rfl gX12_factOf_0.2.2.2.1
  by_cases c_1_8080 : nI jk = 1
  · refine lv_tableIn (tgt := 34) hx hb gX12_factOf_0.2.1 (by rw [c_1_8080]; decide) (by rw [c_1_8080]; decide) (by rw [c_1_8080]; rfl) (by decide) ?_
    refine lv_aload_n hx hb gX12_factOf_0.2.2.2.2.1 rfl (lv_at0 hl) ?_
    refine gf_X12_9 hC rfl hK hP 0 rfl rfl gX12_factOf_0.2.2.2.2.2.1 ?_
    refine lv_bipush (v := 12) hx hb gX12_factOf_0.2.2.2.2.2.2.1 (by decide) ?_
    refine lv_iconst (v := 2) hx hb gX12_factOf_0.2.2.2.2.2.2.2.1 (by decide) ?_
    refine lv_iload_n hx hb gX12_factOf_0.2.2.2.2.2.2.2.2.1 rfl (lv_at2 hl) ?_
    refine lv_imul hx hb gX12_factOf_0.2.2.2.2.2.2.2.2.2 ?_
    refine eqi (x1 := nI (2 * je)) (nI_mul 2 je) ?_
    refine lv_iadd hx hb gX12_factOf_1.1 ?_
    refine eqi (x1 := nI (12 + 2 * je)) (nI_add 12 (2 * je)) ?_
    refine aldN hC hK hP 1 rfl (k := (12 + 2 * je)) (by omega) (Nat.le_of_ble_eq_true rfl) (v := fnw (12 + 2 * je)) rfl gX12_factOf_1.2.1 ?_
    refine toQ hQ0 ?_
    exact RP (v := fnw (12 + 2 * je)) hC (FAR.r1 ((nI_eq (b := 1) (by omega) (by decide)).mp c_1_8080)) rfl gX12_factOf_1.2.2.1
  by_cases c_1_8081 : nI jk = 2
  · refine lv_tableIn (tgt := 46) hx hb gX12_factOf_0.2.1 (by rw [c_1_8081]; decide) (by rw [c_1_8081]; decide) (by rw [c_1_8081]; rfl) (by decide) ?_
    refine lv_aload_n hx hb gX12_factOf_1.2.2.2.1 rfl (lv_at0 hl) ?_
    refine lv_iload_n hx hb gX12_factOf_1.2.2.2.2.1 rfl (lv_at2 hl) ?_
    refine lv_iconst (v := 0) hx hb gX12_factOf_1.2.2.2.2.2.1 (by decide) ?_
    refine pV hC hK hl hP hD (m_papersToO l G kq h0 je nw nk mhasKept nt mtaped nr mrowMany mroundOf mroundFrom jw nm mfromHour mtoHour ns mfrom mto msort misFault mdeep mcoded mlines nl nc nF np ntr nb mbestCost nso nsi nit nsh nsf nss nrc mtraced mdealer mnumber mwhose msize misParted fnw (ekq) (hkq) (hje) (hjw)) si_X12_123 [0, 1] sm_0_1 fm_0_1 nd_0_1 rfl rfl rfl rfl rfl (Nat.le_of_ble_eq_true rfl) rm_5_4_5 ⟨by first | exact Nat.le_of_ble_eq_true rfl | exact Nat.zero_le _, by first | exact Nat.le_of_ble_eq_true rfl | exact Nat.zero_le _⟩ gX12_factOf_1.2.2.2.2.2.2.1 (Keqr ?_)
    refine toQ hQ0 ?_
    exact RP (v := (CNT (fun p9 => SEO (shf fnw 32) (fnw 0) (fnw 1) (fnw 2) jw p9 ∧ HB (shf fnw 32 (p9 * 6 + 1)) (nI je)) kq)) hC (FAR.r2 (fun _ h9 => SEO.vso h9) ((nI_eq (b := 2) (by omega) (by decide)).mp c_1_8081)) rfl gX12_factOf_1.2.2.2.2.2.2.2.1
  by_cases c_1_8084 : nI jk = 3
  · refine lv_tableIn (tgt := 53) hx hb gX12_factOf_0.2.1 (by rw [c_1_8084]; decide) (by rw [c_1_8084]; decide) (by rw [c_1_8084]; rfl) (by decide) ?_
    refine lv_aload_n hx hb gX12_factOf_1.2.2.2.2.2.2.2.2.1 rfl (lv_at0 hl) ?_
    refine lv_iload_n hx hb gX12_factOf_1.2.2.2.2.2.2.2.2.2 rfl (lv_at2 hl) ?_
    refine lv_iconst (v := 1) hx hb gX12_factOf_2.1 (by decide) ?_
    refine pV hC hK hl hP hD (m_papersByO l G kq h0 je nw nk mhasKept nt mtaped nr mrowMany mroundOf mroundFrom jw nm mfromHour mtoHour ns mfrom mto msort misFault mdeep mcoded mlines nl nc nF np ntr nb mbestCost nso nsi nit nsh nsf nss nrc mtraced mdealer mnumber mwhose msize misParted fnw (ekq) (hkq) (hje) (hjw)) si_X12_123 [0, 1] sm_0_1 fm_0_1 nd_0_1 rfl rfl rfl rfl rfl (Nat.le_of_ble_eq_true rfl) rm_5_4_5 ⟨by first | exact Nat.le_of_ble_eq_true rfl | exact Nat.zero_le _, by first | exact Nat.le_of_ble_eq_true rfl | exact Nat.zero_le _⟩ gX12_factOf_2.2.1 (Keqr ?_)
    refine toQ hQ0 ?_
    exact RP (v := (CNT (fun p9 => SEO (shf fnw 32) (fnw 0) (fnw 1) (fnw 2) jw p9 ∧ shf fnw 32 (p9 * 6 + 0) = (nI je)) kq)) hC (FAR.r3 (fun _ h9 => SEO.vso h9) ((nI_eq (b := 3) (by omega) (by decide)).mp c_1_8084)) rfl gX12_factOf_2.2.2.1
  refine lv_tableOut (tgt := 60) hx hb gX12_factOf_0.2.1 (by have q9 := sw_0_3 (x := nI jk); simp only [c_1_8079, c_1_8080, c_1_8081, c_1_8084, not_false_eq_true, true_implies] at q9; exact q9) (by decide) ?_
  refine lv_aload_n hx hb gX12_factOf_2.2.2.2.1 rfl (lv_at0 hl) ?_
  refine gf_X12_9 hC rfl hK hP 0 rfl rfl gX12_factOf_2.2.2.2.2.1 ?_
  refine lv_bipush (v := 12) hx hb gX12_factOf_2.2.2.2.2.2.1 (by decide) ?_
  refine lv_iconst (v := 2) hx hb gX12_factOf_2.2.2.2.2.2.2.1 (by decide) ?_
  refine lv_iload_n hx hb gX12_factOf_2.2.2.2.2.2.2.2.1 rfl (lv_at2 hl) ?_
  refine lv_imul hx hb gX12_factOf_2.2.2.2.2.2.2.2.2.1 ?_
  refine eqi (x1 := nI (2 * je)) (nI_mul 2 je) ?_
  refine lv_iadd hx hb gX12_factOf_2.2.2.2.2.2.2.2.2.2 ?_
  refine eqi (x1 := nI (12 + 2 * je)) (nI_add 12 (2 * je)) ?_
  refine lv_iconst (v := 1) hx hb gX12_factOf_3.1 (by decide) ?_
  refine lv_iadd hx hb gX12_factOf_3.2.1 ?_
  refine eqi (x1 := nI (12 + 2 * je + 1)) (nI_add (12 + 2 * je) 1) ?_
  refine aldN hC hK hP 1 rfl (k := (12 + 2 * je + 1)) (by omega) (Nat.le_of_ble_eq_true rfl) (v := fnw (12 + 2 * je + 1)) rfl gX12_factOf_3.2.2.1 ?_
  refine toQ hQ0 ?_
  exact RP (v := fnw (12 + 2 * je + 1)) hC (FAR.r4 (fun h9 => c_1_8079 (congrArg nI h9)) (fun h9 => c_1_8080 (congrArg nI h9)) (fun h9 => c_1_8081 (congrArg nI h9)) (fun h9 => c_1_8084 (congrArg nI h9))) rfl gX12_factOf_3.2.2.2
def K_m_holdsO (l : Launch) (G : GG) (kq : Nat) (T9 : List Int32) (h0 : Nat) (jv : Nat) (jl : Nat) (je : Nat) (nw : Nat) (nk : Nat) (mhasKept : Int32) (nt : Nat) (mtaped : Int32) (nr : Nat) (mrowMany : Int32) (mroundOf : Int32) (mroundFrom : Int32) (jw : Nat) (nm : Nat) (mfromHour : Int32) (mtoHour : Int32) (ns : Nat) (mfrom : Int32) (mto : Int32) (msort : Int32) (misFault : Int32) (mdeep : Int32) (mcoded : Int32) (mlines : Int32) (nl : Nat) (nc : Nat) (nF : Nat) (np : Nat) (ntr : Nat) (nb : Nat) (mbestCost : Int32) (nso : Nat) (nsi : Nat) (nit : Nat) (nsh : Nat) (nsf : Nat) (nss : Nat) (nrc : Nat) (mtraced : Int32) (mdealer : Int32) (mnumber : Int32) (mwhose : Int32) (msize : Int32) (misParted : Int32) (fnw : Nat → Int32) (fnp : Nat → Int32) : Prop := MI l G yX12_holds cX12_holds 12 (some .boolean) 6 0 0 [.ref h0, .int (nI jv), .int (nI jl), .int (nI je)] [(h0, oX12 nw nk mhasKept nt mtaped nr mrowMany mroundOf mroundFrom (nI jw) nm mfromHour mtoHour ns mfrom mto msort misFault mdeep mcoded mlines nl nc nF np ntr nb mbestCost nso nsi nit nsh nsf nss nrc mtraced mdealer mnumber mwhose msize misParted), (nw, iA G 1662 fnw), (np, iA G 100 fnp)] (fun (r : Int32) (u : (Nat → Int32)) => ((r = 1 ∧ PLN (FAX (shf fnw 12) (shf fnw 32) (VSO fnw kq jw) kq je) T9 1 % 2 = 1) ∨ (r = 0 ∧ ¬ PLN (FAX (shf fnw 12) (shf fnw 32) (VSO fnw kq jw) kq je) T9 1 % 2 = 1))) (fun u : (Nat → Int32) => [(h0, oX12 nw nk mhasKept nt mtaped nr mrowMany mroundOf mroundFrom (nI jw) nm mfromHour mtoHour ns mfrom mto msort misFault mdeep mcoded mlines nl nc nF np ntr nb mbestCost nso nsi nit nsh nsf nss nrc mtraced mdealer mnumber mwhose msize misParted), (nw, iA G 1662 fnw), (np, iA G 100 u)])
set_option maxHeartbeats 4000000 in
set_option maxRecDepth 100000 in
theorem m_holdsO (l : Launch) (G : GG) (kq : Nat) (LX9 : LNT) (T9 : List Int32) (h0 : Nat) (jv : Nat) (jl : Nat) (je : Nat) (nw : Nat) (nk : Nat) (mhasKept : Int32) (nt : Nat) (mtaped : Int32) (nr : Nat) (mrowMany : Int32) (mroundOf : Int32) (mroundFrom : Int32) (jw : Nat) (nm : Nat) (mfromHour : Int32) (mtoHour : Int32) (ns : Nat) (mfrom : Int32) (mto : Int32) (msort : Int32) (misFault : Int32) (mdeep : Int32) (mcoded : Int32) (mlines : Int32) (nl : Nat) (nc : Nat) (nF : Nat) (np : Nat) (ntr : Nat) (nb : Nat) (mbestCost : Int32) (nso : Nat) (nsi : Nat) (nit : Nat) (nsh : Nat) (nsf : Nat) (nss : Nat) (nrc : Nat) (mtraced : Int32) (mdealer : Int32) (mnumber : Int32) (mwhose : Int32) (msize : Int32) (misParted : Int32) (fnw : Nat → Int32) (fnp : Nat → Int32) (hjv : jv < 8) (hjl : jl < 9) (hln : LN fnw jv jl) (hLZ : LZM fnw jv jl LX9 T9) (hje : je < 10) (hN : NI fnw) (ekq : fnw 5 = nI kq) (hkq : kq ≤ 12) (hjw : jw < 4096) : K_m_holdsO l G kq T9 h0 jv jl je nw nk mhasKept nt mtaped nr mrowMany mroundOf mroundFrom jw nm mfromHour mtoHour ns mfrom mto msort misFault mdeep mcoded mlines nl nc nF np ntr nb mbestCost nso nsi nit nsh nsf nss nrc mtraced mdealer mnumber mwhose msize misParted fnw fnp := by
  refine MI.start (by decide +kernel) (Nat.le_of_ble_eq_true rfl) ?_
  intro p e s m below meth c A ls hC hK hP hD hS hA hl
  refine absQ (fun Q0 hQ0 => ?_)
  have hl : lv_has ls 12 [(0, .ref h0), (1, .int (nI jv)), (2, .int (nI jl)), (3, .int (nI je))] := hl
  refine Kan8 hC (fun hx hb hr hml hB hown hlocks hnm => ?_)
  have hln0 := hln
  obtain ⟨⟨so, hso, e0, hAl, hBl⟩, la9, lb9, e4, e5, hab9, hlb9, ht9, h09, hst9⟩ := hln
  obtain ⟨hlb, -, -, -, -, r0, r1, f4, f5, hr1, hor⟩ := hLZ
  have hr0 : r0 ≤ r1 := hor.elim (fun h9 => by omega) (fun ⟨tr, _, h9, _⟩ => by omega)
  obtain rfl : r0 = la9 := (nI_eq (by omega) (by omega)).mp (f4.symm.trans e4)
  obtain rfl : r1 = lb9 := (nI_eq (by omega) (by omega)).mp (f5.symm.trans e5)
  rcases hor with ⟨rfl, rfl⟩ | ⟨tr9, hsm9, hlt9, hcd9⟩
  · refine lv_aload_n hx hb gX12_holds_0.1 rfl (lv_at0 hl) ?_
    refine lv_iload_n hx hb gX12_holds_0.2.1 rfl (lv_at1 hl) ?_
    refine lv_iload_n hx hb gX12_holds_0.2.2.1 rfl (lv_at2 hl) ?_
    refine lv_iconst (v := 4) hx hb gX12_holds_0.2.2.2.1 (by decide) ?_
    refine pV hC hK hl hP hD (m_lineOf l G h0 jv jl 4 nw nk mhasKept nt mtaped nr mrowMany mroundOf mroundFrom (nI jw) nm mfromHour mtoHour ns mfrom mto msort misFault mdeep mcoded mlines nl nc nF np ntr nb mbestCost nso nsi nit nsh nsf nss nrc mtraced mdealer mnumber mwhose msize misParted fnw (hjv) (hjl) (by omega)) si_X12_193 [0, 1] sm_0_1 fm_0_1 nd_0_1 rfl rfl rfl rfl rfl (Nat.le_of_ble_eq_true rfl) rm_6_1_4 ⟨by first | exact Nat.le_of_ble_eq_true rfl | exact Nat.zero_le _, by first | exact Nat.le_of_ble_eq_true rfl | exact Nat.zero_le _⟩ gX12_holds_0.2.2.2.2.1 (Keqr ?_)
    refine eqi (x1 := nI r0) (e4) ?_
    refine lv_istore (lv' := [(4, .int (nI r0)), (0, .ref h0), (1, .int (nI jv)), (2, .int (nI jl)), (3, .int (nI je))]) hx hb gX12_holds_0.2.2.2.2.2.1 hl (by decide) rfl (fun ls hl => ?_)
    refine lv_aload_n hx hb gX12_holds_0.2.2.2.2.2.2.1 rfl (lv_at1 hl) ?_
    refine lv_iload_n hx hb gX12_holds_0.2.2.2.2.2.2.2.1 rfl (lv_at2 hl) ?_
    refine lv_iload_n hx hb gX12_holds_0.2.2.2.2.2.2.2.2.1 rfl (lv_at3 hl) ?_
    refine lv_iconst (v := 5) hx hb gX12_holds_0.2.2.2.2.2.2.2.2.2 (by decide) ?_
    refine pV hC hK hl hP hD (m_lineOf l G h0 jv jl 5 nw nk mhasKept nt mtaped nr mrowMany mroundOf mroundFrom (nI jw) nm mfromHour mtoHour ns mfrom mto msort misFault mdeep mcoded mlines nl nc nF np ntr nb mbestCost nso nsi nit nsh nsf nss nrc mtraced mdealer mnumber mwhose msize misParted fnw (hjv) (hjl) (by omega)) si_X12_193 [0, 1] sm_0_1 fm_0_1 nd_0_1 rfl rfl rfl rfl rfl (Nat.le_of_ble_eq_true rfl) rm_6_1_4 ⟨by first | exact Nat.le_of_ble_eq_true rfl | exact Nat.zero_le _, by first | exact Nat.le_of_ble_eq_true rfl | exact Nat.zero_le _⟩ gX12_holds_1.1 (Keqr ?_)
    refine eqi (x1 := nI r0) (e5) ?_
    refine lv_istore (lv' := [(5, .int (nI r0)), (4, .int (nI r0)), (0, .ref h0), (1, .int (nI jv)), (2, .int (nI jl)), (3, .int (nI je))]) hx hb gX12_holds_1.2.1 hl (by decide) rfl (fun ls hl => ?_)
    refine lv_iconst (v := 0) hx hb gX12_holds_1.2.2.1 (by decide) ?_
    refine lv_istore (lv' := [(6, .int 0), (5, .int (nI r0)), (4, .int (nI r0)), (0, .ref h0), (1, .int (nI jv)), (2, .int (nI jl)), (3, .int (nI je))]) hx hb gX12_holds_1.2.2.2.1 hl (by decide) rfl (fun ls hl => ?_)
    refine lv_iload hx hb gX12_holds_1.2.2.2.2.1 (lv_at2 hl) ?_
    refine lv_istore (lv' := [(7, .int (nI r0)), (6, .int 0), (5, .int (nI r0)), (4, .int (nI r0)), (0, .ref h0), (1, .int (nI jv)), (2, .int (nI jl)), (3, .int (nI je))]) hx hb gX12_holds_1.2.2.2.2.2.1 hl (by decide) rfl (fun ls hl => ?_)
    refine lv_iload hx hb gX12_holds_1.2.2.2.2.2.2.1 (lv_at0 hl) ?_
    refine lv_iload hx hb gX12_holds_1.2.2.2.2.2.2.2.1 (lv_at2 hl) ?_
    refine lv_icmp_ge (tgt := 243) hx hb gX12_holds_1.2.2.2.2.2.2.2.2.1 (by decide) (fun _ => ?_) (fun c9 => absurd (Int32.le_refl _) c9)
    refine lv_iload hx hb gX12_holds_13.1 (lv_at3 hl) ?_
    refine lv_iload hx hb gX12_holds_13.2.1 (lv_at2 hl) ?_
    refine lv_icmp_eq (tgt := 260) hx hb gX12_holds_13.2.2.1 (by decide) (fun _ => ?_) (fun c9 => absurd (rfl) c9)
    refine lv_iconst (v := 1) hx hb gX12_holds_13.2.2.2.2.2.2.2.2.2 (by decide) ?_
    refine lv_goto (tgt := 265) hx hb gX12_holds_14.1 (by decide) ?_
    refine toQ hQ0 ?_
    exact RI (v := 1) hC hP hD hS [0, 1, 2] fnp rfl rfl (by decide) (Or.inl ⟨rfl, rfl⟩) (by decide +kernel) gX12_holds_14.2.2
  · refine lv_aload_n hx hb gX12_holds_0.1 rfl (lv_at0 hl) ?_
    refine lv_iload_n hx hb gX12_holds_0.2.1 rfl (lv_at1 hl) ?_
    refine lv_iload_n hx hb gX12_holds_0.2.2.1 rfl (lv_at2 hl) ?_
    refine lv_iconst (v := 4) hx hb gX12_holds_0.2.2.2.1 (by decide) ?_
    refine pV hC hK hl hP hD (m_lineOf l G h0 jv jl 4 nw nk mhasKept nt mtaped nr mrowMany mroundOf mroundFrom (nI jw) nm mfromHour mtoHour ns mfrom mto msort misFault mdeep mcoded mlines nl nc nF np ntr nb mbestCost nso nsi nit nsh nsf nss nrc mtraced mdealer mnumber mwhose msize misParted fnw (hjv) (hjl) (by omega)) si_X12_193 [0, 1] sm_0_1 fm_0_1 nd_0_1 rfl rfl rfl rfl rfl (Nat.le_of_ble_eq_true rfl) rm_6_1_4 ⟨by first | exact Nat.le_of_ble_eq_true rfl | exact Nat.zero_le _, by first | exact Nat.le_of_ble_eq_true rfl | exact Nat.zero_le _⟩ gX12_holds_0.2.2.2.2.1 (Keqr ?_)
    refine eqi (x1 := nI r0) (e4) ?_
    refine lv_istore (lv' := [(4, .int (nI r0)), (0, .ref h0), (1, .int (nI jv)), (2, .int (nI jl)), (3, .int (nI je))]) hx hb gX12_holds_0.2.2.2.2.2.1 hl (by decide) rfl (fun ls hl => ?_)
    refine lv_aload_n hx hb gX12_holds_0.2.2.2.2.2.2.1 rfl (lv_at1 hl) ?_
    refine lv_iload_n hx hb gX12_holds_0.2.2.2.2.2.2.2.1 rfl (lv_at2 hl) ?_
    refine lv_iload_n hx hb gX12_holds_0.2.2.2.2.2.2.2.2.1 rfl (lv_at3 hl) ?_
    refine lv_iconst (v := 5) hx hb gX12_holds_0.2.2.2.2.2.2.2.2.2 (by decide) ?_
    refine pV hC hK hl hP hD (m_lineOf l G h0 jv jl 5 nw nk mhasKept nt mtaped nr mrowMany mroundOf mroundFrom (nI jw) nm mfromHour mtoHour ns mfrom mto msort misFault mdeep mcoded mlines nl nc nF np ntr nb mbestCost nso nsi nit nsh nsf nss nrc mtraced mdealer mnumber mwhose msize misParted fnw (hjv) (hjl) (by omega)) si_X12_193 [0, 1] sm_0_1 fm_0_1 nd_0_1 rfl rfl rfl rfl rfl (Nat.le_of_ble_eq_true rfl) rm_6_1_4 ⟨by first | exact Nat.le_of_ble_eq_true rfl | exact Nat.zero_le _, by first | exact Nat.le_of_ble_eq_true rfl | exact Nat.zero_le _⟩ gX12_holds_1.1 (Keqr ?_)
    refine eqi (x1 := nI r1) (e5) ?_
    refine lv_istore (lv' := [(5, .int (nI r1)), (4, .int (nI r0)), (0, .ref h0), (1, .int (nI jv)), (2, .int (nI jl)), (3, .int (nI je))]) hx hb gX12_holds_1.2.1 hl (by decide) rfl (fun ls hl => ?_)
    refine lv_iconst (v := 0) hx hb gX12_holds_1.2.2.1 (by decide) ?_
    refine lv_istore (lv' := [(6, .int 0), (5, .int (nI r1)), (4, .int (nI r0)), (0, .ref h0), (1, .int (nI jv)), (2, .int (nI jl)), (3, .int (nI je))]) hx hb gX12_holds_1.2.2.2.1 hl (by decide) rfl (fun ls hl => ?_)
    refine lv_iload hx hb gX12_holds_1.2.2.2.2.1 (lv_at2 hl) ?_
    refine lv_istore (lv' := [(7, .int (nI r0)), (6, .int 0), (5, .int (nI r1)), (4, .int (nI r0)), (0, .ref h0), (1, .int (nI jv)), (2, .int (nI jl)), (3, .int (nI je))]) hx hb gX12_holds_1.2.2.2.2.2.1 hl (by decide) rfl (fun ls hl => ?_)
    have keyP : ∀ (nP kP : Nat) (vP : Nat → Int32) (hg : Nat) (H : Heap) (locs : List Loc) (ls : Array Slot), kP + nP = r1 → (r0 ≤ kP) → (hg = ht9 kP) → (hg + r0 ≤ kP) → ((hg, vP) = PRK (FAX (shf fnw 12) (shf fnw 32) (VSO fnw kq jw) kq je) tr9 fnp (kP - r0)) → va_PD G A [(h0, oX12 nw nk mhasKept nt mtaped nr mrowMany mroundOf mroundFrom (nI jw) nm mfromHour mtoHour ns mfrom mto msort misFault mdeep mcoded mlines nl nc nF np ntr nb mbestCost nso nsi nit nsh nsf nss nrc mtraced mdealer mnumber mwhose msize misParted), (nw, iA G 1662 fnw), (np, iA G 100 vP)] H → va_S A s.heap H locs → lv_has ls 12 [(7, .int (nI kP)), (6, .int (nI hg)), (5, .int (nI r1)), (4, .int (nI r0)), (0, .ref h0), (1, .int (nI jv)), (2, .int (nI jl)), (3, .int (nI je))] → W p l e (RM 6 0 0) s m ([.ref h0, .int (nI jv), .int (nI jl), .int (nI je)] : List Value).toArray below meth c H locs 0 0 Q0 (F0 m 25 ls []) := by
      intro nP
      induction nP with
      | zero =>
        intro kP vP hg H locs ls hkP hha hhb hhc hpr hPD hS hl
        refine Kan2 hPD (fun hP hD => ?_)
        obtain rfl : r1 = kP := by omega
        have hl : lv_has ls 12 [(7, .int (nI r1)), (6, .int (nI hg)), (5, .int (nI r1)), (4, .int (nI r0)), (0, .ref h0), (1, .int (nI jv)), (2, .int (nI jl)), (3, .int (nI je))] := hl
        refine lv_iload hx hb gX12_holds_1.2.2.2.2.2.2.1 (lv_at0 hl) ?_
        refine lv_iload hx hb gX12_holds_1.2.2.2.2.2.2.2.1 (lv_at2 hl) ?_
        refine lv_icmp_ge (tgt := 243) hx hb gX12_holds_1.2.2.2.2.2.2.2.2.1 (by decide) (fun _ => ?_) (fun c9 => absurd (Int32.le_refl _) c9)
        have hln9 := hsm9.len
        refine lv_iload hx hb gX12_holds_13.1 (lv_at3 hl) ?_
        refine lv_iload hx hb gX12_holds_13.2.1 (lv_at2 hl) ?_
        refine lv_icmp_eq (tgt := 260) hx hb gX12_holds_13.2.2.1 (by decide) (fun c9 => absurd c9 (fun h9 => absurd ((nI_eq (by omega) (by omega)).mp h9) (by omega))) (fun _ => ?_)
        refine lv_aload_n hx hb gX12_holds_13.2.2.2.1 rfl (lv_at4 hl) ?_
        refine gf_X12_54 hC rfl hK hP 0 rfl rfl gX12_holds_13.2.2.2.2.1 ?_
        refine lv_iconst (v := 0) hx hb gX12_holds_13.2.2.2.2.2.1 (by decide) ?_
        refine ald hC hK hP 2 rfl (vin (by decide +kernel)) (k := 0) (by decide +kernel) (v := vP 0) (rfl) gX12_holds_13.2.2.2.2.2.2.1 ?_
        refine lv_iconst (v := 1) hx hb gX12_holds_13.2.2.2.2.2.2.2.1 (by decide) ?_
        refine lv_icmp_ne (tgt := 264) hx hb gX12_holds_13.2.2.2.2.2.2.2.2.1 (by decide) (fun c_257_8095 => ?_) (fun c_257_8095 => ?_)
        · refine lv_iconst (v := 0) hx hb gX12_holds_14.2.1 (by decide) ?_
          refine toQ hQ0 ?_
          exact RI (v := 0) hC hP hD hS [0, 1, 2] vP rfl rfl (by decide) (Or.inr ⟨rfl, fun h9 => c_257_8095 ((hsm9.tru (hpr.trans (PRK.all (by omega)))).mpr h9)⟩) (by decide +kernel) gX12_holds_14.2.2
        · refine lv_iconst (v := 1) hx hb gX12_holds_13.2.2.2.2.2.2.2.2.2 (by decide) ?_
          refine lv_goto (tgt := 265) hx hb gX12_holds_14.1 (by decide) ?_
          refine toQ hQ0 ?_
          exact RI (v := 1) hC hP hD hS [0, 1, 2] vP rfl rfl (by decide) (Or.inl ⟨rfl, (hsm9.tru (hpr.trans (PRK.all (by omega)))).mp c_257_8095⟩) (by decide +kernel) gX12_holds_14.2.2
      | succ nP ihP =>
        intro kP vP hg H locs ls hkP hha hhb hhc hpr hPD hS hl
        refine Kan2 hPD (fun hP hD => ?_)
        refine lv_iload hx hb gX12_holds_1.2.2.2.2.2.2.1 (lv_at0 hl) ?_
        refine lv_iload hx hb gX12_holds_1.2.2.2.2.2.2.2.1 (lv_at2 hl) ?_
        refine lv_icmp_ge (tgt := 243) hx hb gX12_holds_1.2.2.2.2.2.2.2.2.1 (by decide) (fun c9 => absurd c9 (nI_ge (a := kP) (b := r1) (by omega) (by omega))) (fun _ => ?_)
        refine lv_aload_n hx hb gX12_holds_1.2.2.2.2.2.2.2.2.2 rfl (lv_at4 hl) ?_
        refine gf_X12_9 hC rfl hK hP 0 rfl rfl gX12_holds_2.1 ?_
        refine lv_sipush (v := 176) hx hb gX12_holds_2.2.1 (by decide) ?_
        refine lv_sipush (v := 156) hx hb gX12_holds_2.2.2.1 (by decide) ?_
        refine lv_iload_n hx hb gX12_holds_2.2.2.2.1 rfl (lv_at5 hl) ?_
        refine lv_imul hx hb gX12_holds_2.2.2.2.2.1 ?_
        refine eqi (x1 := nI (156 * jv)) (nI_mul 156 jv) ?_
        refine lv_iadd hx hb gX12_holds_2.2.2.2.2.2.1 ?_
        refine eqi (x1 := nI (176 + 156 * jv)) (nI_add 176 (156 * jv)) ?_
        refine lv_bipush (v := 56) hx hb gX12_holds_2.2.2.2.2.2.2.1 (by decide) ?_
        refine lv_iadd hx hb gX12_holds_2.2.2.2.2.2.2.2.1 ?_
        refine eqi (x1 := nI (176 + 156 * jv + 56)) (nI_add (176 + 156 * jv) 56) ?_
        refine lv_iload hx hb gX12_holds_2.2.2.2.2.2.2.2.2.1 (lv_at0 hl) ?_
        refine lv_iadd hx hb gX12_holds_2.2.2.2.2.2.2.2.2.2 ?_
        refine eqi (x1 := nI (176 + 156 * jv + 56 + kP)) (nI_add (176 + 156 * jv + 56) kP) ?_
        refine aldN hC hK hP 1 rfl (k := (176 + 156 * jv + 56 + kP)) (by omega) (Nat.le_of_ble_eq_true rfl) (v := fnw (176 + 156 * jv + 56 + kP)) rfl gX12_holds_3.1 ?_
        have hcd := hcd9 (kP - r0) (by omega)
        rw [show r0 + (kP - r0) = kP by omega] at hcd
        rcases hsm9.2.1 (tr9.getD (kP - r0) 0) (getD_mem (by omega)) with ev9 | ev9 | ev9 | ⟨jv9, hjv9, ev9⟩
        · have hs9 := STEP.no (hst9 kP (by omega) (by omega)) (hcd.trans ev9).symm (by decide) rfl
          refine eqi (x1 := 30000) (hcd.trans ev9) ?_
          refine lv_istore (lv' := [(8, .int 30000), (7, .int (nI kP)), (6, .int (nI hg)), (5, .int (nI r1)), (4, .int (nI r0)), (0, .ref h0), (1, .int (nI jv)), (2, .int (nI jl)), (3, .int (nI je))]) hx hb gX12_holds_3.2.1 hl (by decide) rfl (fun ls hl => ?_)
          refine lv_iload hx hb gX12_holds_3.2.2.1 (lv_at0 hl) ?_
          refine lv_sipush (v := 30000) hx hb gX12_holds_3.2.2.2.1 (by decide) ?_
          refine lv_icmp_ge (tgt := 149) hx hb gX12_holds_3.2.2.2.2.1 (by decide) (fun _ => ?_) (fun c9 => absurd (by decide) c9)
          refine lv_iload hx hb gX12_holds_7.2.2.2.2.2.2.2.1 (lv_at0 hl) ?_
          refine lv_sipush (v := 30000) hx hb gX12_holds_7.2.2.2.2.2.2.2.2.1 (by decide) ?_
          refine lv_icmp_ne (tgt := 180) hx hb gX12_holds_7.2.2.2.2.2.2.2.2.2 (by decide) (fun c9 => absurd (by decide) c9) (fun _ => ?_)
          refine lv_aload_n hx hb gX12_holds_8.1 rfl (lv_at5 hl) ?_
          refine gf_X12_54 hC rfl hK hP 0 rfl rfl gX12_holds_8.2.1 ?_
          refine lv_iload hx hb gX12_holds_8.2.2.1 (lv_at2 hl) ?_
          refine lv_iconst (v := 1) hx hb gX12_holds_8.2.2.2.1 (by decide) ?_
          refine lv_isub hx hb gX12_holds_8.2.2.2.2.1 ?_
          refine eqi (x1 := nI (hg - 1)) (nI_sb (by omega)) ?_
          refine lv_iconst (v := 1) hx hb gX12_holds_8.2.2.2.2.2.1 (by decide) ?_
          refine lv_aload_n hx hb gX12_holds_8.2.2.2.2.2.2.1 rfl (lv_at5 hl) ?_
          refine gf_X12_54 hC rfl hK hP 0 rfl rfl gX12_holds_8.2.2.2.2.2.2.2.1 ?_
          refine lv_iload hx hb gX12_holds_8.2.2.2.2.2.2.2.2.1 (lv_at2 hl) ?_
          refine lv_iconst (v := 1) hx hb gX12_holds_8.2.2.2.2.2.2.2.2.2 (by decide) ?_
          refine lv_isub hx hb gX12_holds_9.1 ?_
          refine eqi (x1 := nI (hg - 1)) (nI_sb (by omega)) ?_
          refine aldN hC hK hP 2 rfl (k := (hg - 1)) (by omega) (Nat.le_of_ble_eq_true rfl) (v := vP (hg - 1)) rfl gX12_holds_9.2.1 ?_
          refine lv_isub hx hb gX12_holds_9.2.2.1 ?_
          refine astN hC hK hP hD hS 2 (ws' := [(h0, oX12 nw nk mhasKept nt mtaped nr mrowMany mroundOf mroundFrom (nI jw) nm mfromHour mtoHour ns mfrom mto msort misFault mdeep mcoded mlines nl nc nF np ntr nb mbestCost nso nsi nit nsh nsf nss nrc mtraced mdealer mnumber mwhose msize misParted), (nw, iA G 1662 fnw), (np, iA G 100 (upd vP (hg - 1) (1 - (vP (hg - 1)))))]) rfl (k := (hg - 1)) (by omega) (Nat.le_of_ble_eq_true rfl) (rfl) gX12_holds_9.2.2.2.1 (fun H locs hP hD hS => ?_)
          refine lv_goto (tgt := 237) hx hb gX12_holds_9.2.2.2.2.1 (by decide) ?_
          refine lv_iinc (v := nI (kP + 1)) (lv' := [(7, .int (nI (kP + 1))), (8, .int 30000), (6, .int (nI hg)), (5, .int (nI r1)), (4, .int (nI r0)), (0, .ref h0), (1, .int (nI jv)), (2, .int (nI jl)), (3, .int (nI je))]) hx hb gX12_holds_12.2.2.2.2.2.2.2.2.1 hl (k := 1) rfl (nI_1 _) (by decide) rfl (fun ls hl => ?_)
          refine lv_goto (tgt := 25) hx hb gX12_holds_12.2.2.2.2.2.2.2.2.2 (by decide) ?_
          have hst8 : (hg, upd vP (hg - 1) (1 - (vP (hg - 1)))) = PRK (FAX (shf fnw 12) (shf fnw 32) (VSO fnw kq jw) kq je) tr9 fnp (kP + 1 - r0) := PRK.nt hpr (by omega) (by omega) ev9
          exact ihP (kP + 1) (upd vP (hg - 1) (1 - (vP (hg - 1)))) hg _ _ _ (by omega) (by first | assumption | exact Or.inl rfl | exact Or.inr rfl | omega | exact h09.symm | exact PRK.zero (by omega)) (by first | assumption | exact Or.inl rfl | exact Or.inr rfl | omega | exact h09.symm | exact PRK.zero (by omega)) (by first | assumption | exact Or.inl rfl | exact Or.inr rfl | omega | exact h09.symm | exact PRK.zero (by omega)) (by first | assumption | exact Or.inl rfl | exact Or.inr rfl | omega | exact h09.symm | exact PRK.zero (by omega)) (And.intro hP hD) hS (lv_sub hl [0, 2, 3, 4, 5, 6, 7, 8] rfl)
        · have hs9 := STEP.op (hst9 kP (by omega) (by omega)) (hcd.trans ev9).symm (by decide) (by decide)
          refine eqi (x1 := 30001) (hcd.trans ev9) ?_
          refine lv_istore (lv' := [(8, .int 30001), (7, .int (nI kP)), (6, .int (nI hg)), (5, .int (nI r1)), (4, .int (nI r0)), (0, .ref h0), (1, .int (nI jv)), (2, .int (nI jl)), (3, .int (nI je))]) hx hb gX12_holds_3.2.1 hl (by decide) rfl (fun ls hl => ?_)
          refine lv_iload hx hb gX12_holds_3.2.2.1 (lv_at0 hl) ?_
          refine lv_sipush (v := 30000) hx hb gX12_holds_3.2.2.2.1 (by decide) ?_
          refine lv_icmp_ge (tgt := 149) hx hb gX12_holds_3.2.2.2.2.1 (by decide) (fun _ => ?_) (fun c9 => absurd (by decide) c9)
          refine lv_iload hx hb gX12_holds_7.2.2.2.2.2.2.2.1 (lv_at0 hl) ?_
          refine lv_sipush (v := 30000) hx hb gX12_holds_7.2.2.2.2.2.2.2.2.1 (by decide) ?_
          refine lv_icmp_ne (tgt := 180) hx hb gX12_holds_7.2.2.2.2.2.2.2.2.2 (by decide) (fun _ => ?_) (fun c9 => absurd c9 (by decide))
          refine lv_iinc (v := nI (hg - 1)) (lv' := [(6, .int (nI (hg - 1))), (8, .int 30001), (7, .int (nI kP)), (5, .int (nI r1)), (4, .int (nI r0)), (0, .ref h0), (1, .int (nI jv)), (2, .int (nI jl)), (3, .int (nI je))]) hx hb gX12_holds_9.2.2.2.2.2.1 hl (k := 2) rfl ((nI_dec hg).trans (nI_sb (by omega))) (by decide) rfl (fun ls hl => ?_)
          refine lv_aload_n hx hb gX12_holds_9.2.2.2.2.2.2.1 rfl (lv_at5 hl) ?_
          refine gf_X12_54 hC rfl hK hP 0 rfl rfl gX12_holds_9.2.2.2.2.2.2.2.1 ?_
          refine lv_iload hx hb gX12_holds_9.2.2.2.2.2.2.2.2.1 (lv_at0 hl) ?_
          refine lv_iconst (v := 1) hx hb gX12_holds_9.2.2.2.2.2.2.2.2.2 (by decide) ?_
          refine lv_isub hx hb gX12_holds_10.1 ?_
          refine eqi (x1 := nI ((hg - 1) - 1)) (nI_sb (by omega)) ?_
          refine lv_iload hx hb gX12_holds_10.2.1 (lv_at1 hl) ?_
          refine lv_sipush (v := 30001) hx hb gX12_holds_10.2.2.1 (by decide) ?_
          refine lv_icmp_ne (tgt := 219) hx hb gX12_holds_10.2.2.2.1 (by decide) (fun c9 => absurd (by decide) c9) (fun _ => ?_)
          refine lv_aload_n hx hb gX12_holds_10.2.2.2.2.1 rfl (lv_at5 hl) ?_
          refine gf_X12_54 hC rfl hK hP 0 rfl rfl gX12_holds_10.2.2.2.2.2.1 ?_
          refine lv_iload hx hb gX12_holds_10.2.2.2.2.2.2.1 (lv_at0 hl) ?_
          refine lv_iconst (v := 1) hx hb gX12_holds_10.2.2.2.2.2.2.2.1 (by decide) ?_
          refine lv_isub hx hb gX12_holds_10.2.2.2.2.2.2.2.2.1 ?_
          refine eqi (x1 := nI ((hg - 1) - 1)) (nI_sb (by omega)) ?_
          refine aldN hC hK hP 2 rfl (k := ((hg - 1) - 1)) (by omega) (Nat.le_of_ble_eq_true rfl) (v := vP ((hg - 1) - 1)) rfl gX12_holds_10.2.2.2.2.2.2.2.2.2 ?_
          refine lv_aload_n hx hb gX12_holds_11.1 rfl (lv_at5 hl) ?_
          refine gf_X12_54 hC rfl hK hP 0 rfl rfl gX12_holds_11.2.1 ?_
          refine lv_iload hx hb gX12_holds_11.2.2.1 (lv_at0 hl) ?_
          refine aldN hC hK hP 2 rfl (k := (hg - 1)) (by omega) (Nat.le_of_ble_eq_true rfl) (v := vP (hg - 1)) rfl gX12_holds_11.2.2.2.1 ?_
          refine lv_iand hx hb gX12_holds_11.2.2.2.2.1 ?_
          refine lv_goto (tgt := 236) hx hb gX12_holds_11.2.2.2.2.2.1 (by decide) ?_
          refine astN hC hK hP hD hS 2 (ws' := [(h0, oX12 nw nk mhasKept nt mtaped nr mrowMany mroundOf mroundFrom (nI jw) nm mfromHour mtoHour ns mfrom mto msort misFault mdeep mcoded mlines nl nc nF np ntr nb mbestCost nso nsi nit nsh nsf nss nrc mtraced mdealer mnumber mwhose msize misParted), (nw, iA G 1662 fnw), (np, iA G 100 (upd vP ((hg - 1) - 1) ((vP ((hg - 1) - 1)) &&& (vP (hg - 1)))))]) rfl (k := ((hg - 1) - 1)) (by omega) (Nat.le_of_ble_eq_true rfl) (rfl) gX12_holds_12.2.2.2.2.2.2.2.1 (fun H locs hP hD hS => ?_)
          refine lv_iinc (v := nI (kP + 1)) (lv' := [(7, .int (nI (kP + 1))), (6, .int (nI (hg - 1))), (8, .int 30001), (5, .int (nI r1)), (4, .int (nI r0)), (0, .ref h0), (1, .int (nI jv)), (2, .int (nI jl)), (3, .int (nI je))]) hx hb gX12_holds_12.2.2.2.2.2.2.2.2.1 hl (k := 2) rfl (nI_1 _) (by decide) rfl (fun ls hl => ?_)
          refine lv_goto (tgt := 25) hx hb gX12_holds_12.2.2.2.2.2.2.2.2.2 (by decide) ?_
          have hst8 : ((hg - 1), upd vP ((hg - 1) - 1) ((vP ((hg - 1) - 1)) &&& (vP (hg - 1)))) = PRK (FAX (shf fnw 12) (shf fnw 32) (VSO fnw kq jw) kq je) tr9 fnp (kP + 1 - r0) := PRK.an hpr (by omega) (by omega) ev9
          exact ihP (kP + 1) (upd vP ((hg - 1) - 1) ((vP ((hg - 1) - 1)) &&& (vP (hg - 1)))) (hg - 1) _ _ _ (by omega) (by first | assumption | exact Or.inl rfl | exact Or.inr rfl | omega | exact h09.symm | exact PRK.zero (by omega)) (by first | assumption | exact Or.inl rfl | exact Or.inr rfl | omega | exact h09.symm | exact PRK.zero (by omega)) (by first | assumption | exact Or.inl rfl | exact Or.inr rfl | omega | exact h09.symm | exact PRK.zero (by omega)) (by first | assumption | exact Or.inl rfl | exact Or.inr rfl | omega | exact h09.symm | exact PRK.zero (by omega)) (And.intro hP hD) hS (lv_sub hl [0, 1, 3, 4, 5, 6, 7, 8] rfl)
        · have hs9 := STEP.op (hst9 kP (by omega) (by omega)) (hcd.trans ev9).symm (by decide) (by decide)
          refine eqi (x1 := 30002) (hcd.trans ev9) ?_
          refine lv_istore (lv' := [(8, .int 30002), (7, .int (nI kP)), (6, .int (nI hg)), (5, .int (nI r1)), (4, .int (nI r0)), (0, .ref h0), (1, .int (nI jv)), (2, .int (nI jl)), (3, .int (nI je))]) hx hb gX12_holds_3.2.1 hl (by decide) rfl (fun ls hl => ?_)
          refine lv_iload hx hb gX12_holds_3.2.2.1 (lv_at0 hl) ?_
          refine lv_sipush (v := 30000) hx hb gX12_holds_3.2.2.2.1 (by decide) ?_
          refine lv_icmp_ge (tgt := 149) hx hb gX12_holds_3.2.2.2.2.1 (by decide) (fun _ => ?_) (fun c9 => absurd (by decide) c9)
          refine lv_iload hx hb gX12_holds_7.2.2.2.2.2.2.2.1 (lv_at0 hl) ?_
          refine lv_sipush (v := 30000) hx hb gX12_holds_7.2.2.2.2.2.2.2.2.1 (by decide) ?_
          refine lv_icmp_ne (tgt := 180) hx hb gX12_holds_7.2.2.2.2.2.2.2.2.2 (by decide) (fun _ => ?_) (fun c9 => absurd c9 (by decide))
          refine lv_iinc (v := nI (hg - 1)) (lv' := [(6, .int (nI (hg - 1))), (8, .int 30002), (7, .int (nI kP)), (5, .int (nI r1)), (4, .int (nI r0)), (0, .ref h0), (1, .int (nI jv)), (2, .int (nI jl)), (3, .int (nI je))]) hx hb gX12_holds_9.2.2.2.2.2.1 hl (k := 2) rfl ((nI_dec hg).trans (nI_sb (by omega))) (by decide) rfl (fun ls hl => ?_)
          refine lv_aload_n hx hb gX12_holds_9.2.2.2.2.2.2.1 rfl (lv_at5 hl) ?_
          refine gf_X12_54 hC rfl hK hP 0 rfl rfl gX12_holds_9.2.2.2.2.2.2.2.1 ?_
          refine lv_iload hx hb gX12_holds_9.2.2.2.2.2.2.2.2.1 (lv_at0 hl) ?_
          refine lv_iconst (v := 1) hx hb gX12_holds_9.2.2.2.2.2.2.2.2.2 (by decide) ?_
          refine lv_isub hx hb gX12_holds_10.1 ?_
          refine eqi (x1 := nI ((hg - 1) - 1)) (nI_sb (by omega)) ?_
          refine lv_iload hx hb gX12_holds_10.2.1 (lv_at1 hl) ?_
          refine lv_sipush (v := 30001) hx hb gX12_holds_10.2.2.1 (by decide) ?_
          refine lv_icmp_ne (tgt := 219) hx hb gX12_holds_10.2.2.2.1 (by decide) (fun _ => ?_) (fun c9 => absurd c9 (by decide))
          refine lv_aload_n hx hb gX12_holds_11.2.2.2.2.2.2.1 rfl (lv_at5 hl) ?_
          refine gf_X12_54 hC rfl hK hP 0 rfl rfl gX12_holds_11.2.2.2.2.2.2.2.1 ?_
          refine lv_iload hx hb gX12_holds_11.2.2.2.2.2.2.2.2.1 (lv_at0 hl) ?_
          refine lv_iconst (v := 1) hx hb gX12_holds_11.2.2.2.2.2.2.2.2.2 (by decide) ?_
          refine lv_isub hx hb gX12_holds_12.1 ?_
          refine eqi (x1 := nI ((hg - 1) - 1)) (nI_sb (by omega)) ?_
          refine aldN hC hK hP 2 rfl (k := ((hg - 1) - 1)) (by omega) (Nat.le_of_ble_eq_true rfl) (v := vP ((hg - 1) - 1)) rfl gX12_holds_12.2.1 ?_
          refine lv_aload_n hx hb gX12_holds_12.2.2.1 rfl (lv_at5 hl) ?_
          refine gf_X12_54 hC rfl hK hP 0 rfl rfl gX12_holds_12.2.2.2.1 ?_
          refine lv_iload hx hb gX12_holds_12.2.2.2.2.1 (lv_at0 hl) ?_
          refine aldN hC hK hP 2 rfl (k := (hg - 1)) (by omega) (Nat.le_of_ble_eq_true rfl) (v := vP (hg - 1)) rfl gX12_holds_12.2.2.2.2.2.1 ?_
          refine lv_ior hx hb gX12_holds_12.2.2.2.2.2.2.1 ?_
          refine astN hC hK hP hD hS 2 (ws' := [(h0, oX12 nw nk mhasKept nt mtaped nr mrowMany mroundOf mroundFrom (nI jw) nm mfromHour mtoHour ns mfrom mto msort misFault mdeep mcoded mlines nl nc nF np ntr nb mbestCost nso nsi nit nsh nsf nss nrc mtraced mdealer mnumber mwhose msize misParted), (nw, iA G 1662 fnw), (np, iA G 100 (upd vP ((hg - 1) - 1) ((vP ((hg - 1) - 1)) ||| (vP (hg - 1)))))]) rfl (k := ((hg - 1) - 1)) (by omega) (Nat.le_of_ble_eq_true rfl) (rfl) gX12_holds_12.2.2.2.2.2.2.2.1 (fun H locs hP hD hS => ?_)
          refine lv_iinc (v := nI (kP + 1)) (lv' := [(7, .int (nI (kP + 1))), (6, .int (nI (hg - 1))), (8, .int 30002), (5, .int (nI r1)), (4, .int (nI r0)), (0, .ref h0), (1, .int (nI jv)), (2, .int (nI jl)), (3, .int (nI je))]) hx hb gX12_holds_12.2.2.2.2.2.2.2.2.1 hl (k := 2) rfl (nI_1 _) (by decide) rfl (fun ls hl => ?_)
          refine lv_goto (tgt := 25) hx hb gX12_holds_12.2.2.2.2.2.2.2.2.2 (by decide) ?_
          have hst8 : ((hg - 1), upd vP ((hg - 1) - 1) ((vP ((hg - 1) - 1)) ||| (vP (hg - 1)))) = PRK (FAX (shf fnw 12) (shf fnw 32) (VSO fnw kq jw) kq je) tr9 fnp (kP + 1 - r0) := PRK.or hpr (by omega) (by omega) ev9
          exact ihP (kP + 1) (upd vP ((hg - 1) - 1) ((vP ((hg - 1) - 1)) ||| (vP (hg - 1)))) (hg - 1) _ _ _ (by omega) (by first | assumption | exact Or.inl rfl | exact Or.inr rfl | omega | exact h09.symm | exact PRK.zero (by omega)) (by first | assumption | exact Or.inl rfl | exact Or.inr rfl | omega | exact h09.symm | exact PRK.zero (by omega)) (by first | assumption | exact Or.inl rfl | exact Or.inr rfl | omega | exact h09.symm | exact PRK.zero (by omega)) (by first | assumption | exact Or.inl rfl | exact Or.inr rfl | omega | exact h09.symm | exact PRK.zero (by omega)) (And.intro hP hD) hS (lv_sub hl [0, 1, 3, 4, 5, 6, 7, 8] rfl)
        · have hs9 := STEP.lt (hst9 kP (by omega) (by omega)) (hcd.trans ev9).symm (nI_ge (a := jv9) (b := 30000) (by omega) (by omega))
          refine eqi (x1 := nI jv9) (hcd.trans ev9) ?_
          refine lv_istore (lv' := [(8, .int (nI jv9)), (7, .int (nI kP)), (6, .int (nI hg)), (5, .int (nI r1)), (4, .int (nI r0)), (0, .ref h0), (1, .int (nI jv)), (2, .int (nI jl)), (3, .int (nI je))]) hx hb gX12_holds_3.2.1 hl (by decide) rfl (fun ls hl => ?_)
          refine lv_iload hx hb gX12_holds_3.2.2.1 (lv_at0 hl) ?_
          refine lv_sipush (v := 30000) hx hb gX12_holds_3.2.2.2.1 (by decide) ?_
          refine lv_icmp_ge (tgt := 149) hx hb gX12_holds_3.2.2.2.2.1 (by decide) (fun c9 => absurd c9 (nI_ge (a := jv9) (b := 30000) (by omega) (by omega))) (fun _ => ?_)
          refine lv_aload_n hx hb gX12_holds_3.2.2.2.2.2.1 rfl (lv_at5 hl) ?_
          refine lv_iload hx hb gX12_holds_3.2.2.2.2.2.2.1 (lv_at0 hl) ?_
          refine lv_sipush (v := 3000) hx hb gX12_holds_3.2.2.2.2.2.2.2.1 (by decide) ?_
          refine lv_idiv hx hb gX12_holds_3.2.2.2.2.2.2.2.2.1 (by decide) ?_
          refine eqi (x1 := nI (jv9 / 3000)) (pk_div (d := 3000) (by omega) (by decide) (by decide)) ?_
          refine lv_iload_n hx hb gX12_holds_3.2.2.2.2.2.2.2.2.2 rfl (lv_at8 hl) ?_
          refine pV hC hK hl hP hD (m_factOfO l G kq h0 (jv9 / 3000) je nw nk mhasKept nt mtaped nr mrowMany mroundOf mroundFrom jw nm mfromHour mtoHour ns mfrom mto msort misFault mdeep mcoded mlines nl nc nF np ntr nb mbestCost nso nsi nit nsh nsf nss nrc mtraced mdealer mnumber mwhose msize misParted fnw (hN) (ekq) (hkq) (hje) (by omega) (hjw)) si_X12_295 [0, 1] sm_0_1 fm_0_1 nd_0_1 rfl rfl rfl rfl rfl (Nat.le_of_ble_eq_true rfl) rm_6_5_3 ⟨by first | exact Nat.le_of_ble_eq_true rfl | exact Nat.zero_le _, by first | exact Nat.le_of_ble_eq_true rfl | exact Nat.zero_le _⟩ gX12_holds_4.1 (Keqr ?_)
          refine lv_istore (lv' := [(9, .int ((FAX (shf fnw 12) (shf fnw 32) (VSO fnw kq jw) kq je) (jv9 / 3000))), (8, .int (nI jv9)), (7, .int (nI kP)), (6, .int (nI hg)), (5, .int (nI r1)), (4, .int (nI r0)), (0, .ref h0), (1, .int (nI jv)), (2, .int (nI jl)), (3, .int (nI je))]) hx hb gX12_holds_4.2.1 hl (by decide) rfl (fun ls hl => ?_)
          refine lv_iload hx hb gX12_holds_4.2.2.1 (lv_at1 hl) ?_
          refine lv_sipush (v := 1000) hx hb gX12_holds_4.2.2.2.1 (by decide) ?_
          refine lv_irem hx hb gX12_holds_4.2.2.2.2.1 (by decide) ?_
          refine eqi (x1 := nI (jv9 % 1000)) (pk_rem (d := 1000) (by omega) (by decide) (by decide)) ?_
          refine lv_istore (lv' := [(10, .int (nI (jv9 % 1000))), (9, .int ((FAX (shf fnw 12) (shf fnw 32) (VSO fnw kq jw) kq je) (jv9 / 3000))), (8, .int (nI jv9)), (7, .int (nI kP)), (6, .int (nI hg)), (5, .int (nI r1)), (4, .int (nI r0)), (0, .ref h0), (1, .int (nI jv)), (2, .int (nI jl)), (3, .int (nI je))]) hx hb gX12_holds_4.2.2.2.2.2.1 hl (by decide) rfl (fun ls hl => ?_)
          refine lv_iload hx hb gX12_holds_4.2.2.2.2.2.2.1 (lv_at2 hl) ?_
          refine lv_sipush (v := 1000) hx hb gX12_holds_4.2.2.2.2.2.2.2.1 (by decide) ?_
          refine lv_idiv hx hb gX12_holds_4.2.2.2.2.2.2.2.2.1 (by decide) ?_
          refine eqi (x1 := nI (jv9 / 1000)) (pk_div (d := 1000) (by omega) (by decide) (by decide)) ?_
          refine lv_iconst (v := 3) hx hb gX12_holds_4.2.2.2.2.2.2.2.2.2 (by decide) ?_
          refine lv_irem hx hb gX12_holds_5.1 (by decide) ?_
          refine eqi (x1 := nI ((jv9 / 1000) % 3)) (pk_rem (d := 3) (by omega) (by decide) (by decide)) ?_
          refine lv_istore (lv' := [(11, .int (nI ((jv9 / 1000) % 3))), (10, .int (nI (jv9 % 1000))), (9, .int ((FAX (shf fnw 12) (shf fnw 32) (VSO fnw kq jw) kq je) (jv9 / 3000))), (8, .int (nI jv9)), (7, .int (nI kP)), (6, .int (nI hg)), (5, .int (nI r1)), (4, .int (nI r0)), (0, .ref h0), (1, .int (nI jv)), (2, .int (nI jl)), (3, .int (nI je))]) hx hb gX12_holds_5.2.1 hl (by decide) rfl (fun ls hl => ?_)
          refine lv_aload_n hx hb gX12_holds_5.2.2.1 rfl (lv_at8 hl) ?_
          refine gf_X12_54 hC rfl hK hP 0 rfl rfl gX12_holds_5.2.2.2.1 ?_
          refine lv_iload hx hb gX12_holds_5.2.2.2.2.1 (lv_at5 hl) ?_
          refine lv_iload hx hb gX12_holds_5.2.2.2.2.2.1 (lv_at0 hl) ?_
          refine lv_if_ne (tgt := 114) hx hb gX12_holds_5.2.2.2.2.2.2.1 (by decide) (fun c_101_8098 => ?_) (fun c_101_8098 => ?_)
          · refine lv_iload hx hb gX12_holds_6.2.1 (lv_at0 hl) ?_
            refine lv_iconst (v := 1) hx hb gX12_holds_6.2.2.1 (by decide) ?_
            refine lv_icmp_ne (tgt := 130) hx hb gX12_holds_6.2.2.2.1 (by decide) (fun c_117_8099 => ?_) (fun c_117_8099 => ?_)
            · refine lv_iload hx hb gX12_holds_6.2.2.2.2.2.2.2.2.1 (lv_at2 hl) ?_
              refine lv_iload hx hb gX12_holds_6.2.2.2.2.2.2.2.2.2 (lv_at1 hl) ?_
              refine lv_icmp_le (tgt := 141) hx hb gX12_holds_7.1 (by decide) (fun c_134_8100 => ?_) (fun c_134_8100 => ?_)
              · refine lv_iconst (v := 0) hx hb gX12_holds_7.2.2.2.1 (by decide) ?_
                refine astN hC hK hP hD hS 2 (ws' := [(h0, oX12 nw nk mhasKept nt mtaped nr mrowMany mroundOf mroundFrom (nI jw) nm mfromHour mtoHour ns mfrom mto msort misFault mdeep mcoded mlines nl nc nF np ntr nb mbestCost nso nsi nit nsh nsf nss nrc mtraced mdealer mnumber mwhose msize misParted), (nw, iA G 1662 fnw), (np, iA G 100 (upd vP hg 0))]) rfl (k := hg) (by omega) (Nat.le_of_ble_eq_true rfl) (rfl) gX12_holds_7.2.2.2.2.1 (fun H locs hP hD hS => ?_)
                refine lv_iinc (v := nI (hg + 1)) (lv' := [(6, .int (nI (hg + 1))), (11, .int (nI ((jv9 / 1000) % 3))), (10, .int (nI (jv9 % 1000))), (9, .int ((FAX (shf fnw 12) (shf fnw 32) (VSO fnw kq jw) kq je) (jv9 / 3000))), (8, .int (nI jv9)), (7, .int (nI kP)), (5, .int (nI r1)), (4, .int (nI r0)), (0, .ref h0), (1, .int (nI jv)), (2, .int (nI jl)), (3, .int (nI je))]) hx hb gX12_holds_7.2.2.2.2.2.1 hl (k := 5) rfl (nI_1 _) (by decide) rfl (fun ls hl => ?_)
                refine lv_goto (tgt := 237) hx hb gX12_holds_7.2.2.2.2.2.2.1 (by decide) ?_
                refine lv_iinc (v := nI (kP + 1)) (lv' := [(7, .int (nI (kP + 1))), (6, .int (nI (hg + 1))), (11, .int (nI ((jv9 / 1000) % 3))), (10, .int (nI (jv9 % 1000))), (9, .int ((FAX (shf fnw 12) (shf fnw 32) (VSO fnw kq jw) kq je) (jv9 / 3000))), (8, .int (nI jv9)), (5, .int (nI r1)), (4, .int (nI r0)), (0, .ref h0), (1, .int (nI jv)), (2, .int (nI jl)), (3, .int (nI je))]) hx hb gX12_holds_12.2.2.2.2.2.2.2.2.1 hl (k := 5) rfl (nI_1 _) (by decide) rfl (fun ls hl => ?_)
                refine lv_goto (tgt := 25) hx hb gX12_holds_12.2.2.2.2.2.2.2.2.2 (by decide) ?_
                have hst8 : ((hg + 1), upd vP hg 0) = PRK (FAX (shf fnw 12) (shf fnw 32) (VSO fnw kq jw) kq je) tr9 fnp (kP + 1 - r0) := PRK.fa0 hpr (by omega) (by omega) ev9 hjv9 (SOV.g3 (fun h9 => c_101_8098 (congrArg nI h9)) (fun h9 => c_117_8099 (congrArg nI h9)) (decide_eq_false (Int32.not_lt.mpr c_134_8100)))
                exact ihP (kP + 1) (upd vP hg 0) (hg + 1) _ _ _ (by omega) (by first | assumption | exact Or.inl rfl | exact Or.inr rfl | omega | exact h09.symm | exact PRK.zero (by omega)) (by first | assumption | exact Or.inl rfl | exact Or.inr rfl | omega | exact h09.symm | exact PRK.zero (by omega)) (by first | assumption | exact Or.inl rfl | exact Or.inr rfl | omega | exact h09.symm | exact PRK.zero (by omega)) (by first | assumption | exact Or.inl rfl | exact Or.inr rfl | omega | exact h09.symm | exact PRK.zero (by omega)) (And.intro hP hD) hS (lv_sub hl [0, 1, 6, 7, 8, 9, 10, 11] rfl)
              · refine lv_iconst (v := 1) hx hb gX12_holds_7.2.1 (by decide) ?_
                refine lv_goto (tgt := 142) hx hb gX12_holds_7.2.2.1 (by decide) ?_
                refine astN hC hK hP hD hS 2 (ws' := [(h0, oX12 nw nk mhasKept nt mtaped nr mrowMany mroundOf mroundFrom (nI jw) nm mfromHour mtoHour ns mfrom mto msort misFault mdeep mcoded mlines nl nc nF np ntr nb mbestCost nso nsi nit nsh nsf nss nrc mtraced mdealer mnumber mwhose msize misParted), (nw, iA G 1662 fnw), (np, iA G 100 (upd vP hg 1))]) rfl (k := hg) (by omega) (Nat.le_of_ble_eq_true rfl) (rfl) gX12_holds_7.2.2.2.2.1 (fun H locs hP hD hS => ?_)
                refine lv_iinc (v := nI (hg + 1)) (lv' := [(6, .int (nI (hg + 1))), (11, .int (nI ((jv9 / 1000) % 3))), (10, .int (nI (jv9 % 1000))), (9, .int ((FAX (shf fnw 12) (shf fnw 32) (VSO fnw kq jw) kq je) (jv9 / 3000))), (8, .int (nI jv9)), (7, .int (nI kP)), (5, .int (nI r1)), (4, .int (nI r0)), (0, .ref h0), (1, .int (nI jv)), (2, .int (nI jl)), (3, .int (nI je))]) hx hb gX12_holds_7.2.2.2.2.2.1 hl (k := 5) rfl (nI_1 _) (by decide) rfl (fun ls hl => ?_)
                refine lv_goto (tgt := 237) hx hb gX12_holds_7.2.2.2.2.2.2.1 (by decide) ?_
                refine lv_iinc (v := nI (kP + 1)) (lv' := [(7, .int (nI (kP + 1))), (6, .int (nI (hg + 1))), (11, .int (nI ((jv9 / 1000) % 3))), (10, .int (nI (jv9 % 1000))), (9, .int ((FAX (shf fnw 12) (shf fnw 32) (VSO fnw kq jw) kq je) (jv9 / 3000))), (8, .int (nI jv9)), (5, .int (nI r1)), (4, .int (nI r0)), (0, .ref h0), (1, .int (nI jv)), (2, .int (nI jl)), (3, .int (nI je))]) hx hb gX12_holds_12.2.2.2.2.2.2.2.2.1 hl (k := 5) rfl (nI_1 _) (by decide) rfl (fun ls hl => ?_)
                refine lv_goto (tgt := 25) hx hb gX12_holds_12.2.2.2.2.2.2.2.2.2 (by decide) ?_
                have hst8 : ((hg + 1), upd vP hg 1) = PRK (FAX (shf fnw 12) (shf fnw 32) (VSO fnw kq jw) kq je) tr9 fnp (kP + 1 - r0) := PRK.fa1 hpr (by omega) (by omega) ev9 hjv9 (SOV.g3 (fun h9 => c_101_8098 (congrArg nI h9)) (fun h9 => c_117_8099 (congrArg nI h9)) (decide_eq_true (Int32.not_le.mp c_134_8100)))
                exact ihP (kP + 1) (upd vP hg 1) (hg + 1) _ _ _ (by omega) (by first | assumption | exact Or.inl rfl | exact Or.inr rfl | omega | exact h09.symm | exact PRK.zero (by omega)) (by first | assumption | exact Or.inl rfl | exact Or.inr rfl | omega | exact h09.symm | exact PRK.zero (by omega)) (by first | assumption | exact Or.inl rfl | exact Or.inr rfl | omega | exact h09.symm | exact PRK.zero (by omega)) (by first | assumption | exact Or.inl rfl | exact Or.inr rfl | omega | exact h09.symm | exact PRK.zero (by omega)) (And.intro hP hD) hS (lv_sub hl [0, 1, 6, 7, 8, 9, 10, 11] rfl)
            · refine lv_iload hx hb gX12_holds_6.2.2.2.2.1 (lv_at2 hl) ?_
              refine lv_iload hx hb gX12_holds_6.2.2.2.2.2.1 (lv_at1 hl) ?_
              refine lv_icmp_ne (tgt := 141) hx hb gX12_holds_6.2.2.2.2.2.2.1 (by decide) (fun c_124_8101 => ?_) (fun c_124_8101 => ?_)
              · refine lv_iconst (v := 0) hx hb gX12_holds_7.2.2.2.1 (by decide) ?_
                refine astN hC hK hP hD hS 2 (ws' := [(h0, oX12 nw nk mhasKept nt mtaped nr mrowMany mroundOf mroundFrom (nI jw) nm mfromHour mtoHour ns mfrom mto msort misFault mdeep mcoded mlines nl nc nF np ntr nb mbestCost nso nsi nit nsh nsf nss nrc mtraced mdealer mnumber mwhose msize misParted), (nw, iA G 1662 fnw), (np, iA G 100 (upd vP hg 0))]) rfl (k := hg) (by omega) (Nat.le_of_ble_eq_true rfl) (rfl) gX12_holds_7.2.2.2.2.1 (fun H locs hP hD hS => ?_)
                refine lv_iinc (v := nI (hg + 1)) (lv' := [(6, .int (nI (hg + 1))), (11, .int (nI ((jv9 / 1000) % 3))), (10, .int (nI (jv9 % 1000))), (9, .int ((FAX (shf fnw 12) (shf fnw 32) (VSO fnw kq jw) kq je) (jv9 / 3000))), (8, .int (nI jv9)), (7, .int (nI kP)), (5, .int (nI r1)), (4, .int (nI r0)), (0, .ref h0), (1, .int (nI jv)), (2, .int (nI jl)), (3, .int (nI je))]) hx hb gX12_holds_7.2.2.2.2.2.1 hl (k := 5) rfl (nI_1 _) (by decide) rfl (fun ls hl => ?_)
                refine lv_goto (tgt := 237) hx hb gX12_holds_7.2.2.2.2.2.2.1 (by decide) ?_
                refine lv_iinc (v := nI (kP + 1)) (lv' := [(7, .int (nI (kP + 1))), (6, .int (nI (hg + 1))), (11, .int (nI ((jv9 / 1000) % 3))), (10, .int (nI (jv9 % 1000))), (9, .int ((FAX (shf fnw 12) (shf fnw 32) (VSO fnw kq jw) kq je) (jv9 / 3000))), (8, .int (nI jv9)), (5, .int (nI r1)), (4, .int (nI r0)), (0, .ref h0), (1, .int (nI jv)), (2, .int (nI jl)), (3, .int (nI je))]) hx hb gX12_holds_12.2.2.2.2.2.2.2.2.1 hl (k := 5) rfl (nI_1 _) (by decide) rfl (fun ls hl => ?_)
                refine lv_goto (tgt := 25) hx hb gX12_holds_12.2.2.2.2.2.2.2.2.2 (by decide) ?_
                have hst8 : ((hg + 1), upd vP hg 0) = PRK (FAX (shf fnw 12) (shf fnw 32) (VSO fnw kq jw) kq je) tr9 fnp (kP + 1 - r0) := PRK.fa0 hpr (by omega) (by omega) ev9 hjv9 (SOV.e3 ((nI_eq (b := 1) (by omega) (by decide)).mp c_117_8099) (decide_eq_false c_124_8101))
                exact ihP (kP + 1) (upd vP hg 0) (hg + 1) _ _ _ (by omega) (by first | assumption | exact Or.inl rfl | exact Or.inr rfl | omega | exact h09.symm | exact PRK.zero (by omega)) (by first | assumption | exact Or.inl rfl | exact Or.inr rfl | omega | exact h09.symm | exact PRK.zero (by omega)) (by first | assumption | exact Or.inl rfl | exact Or.inr rfl | omega | exact h09.symm | exact PRK.zero (by omega)) (by first | assumption | exact Or.inl rfl | exact Or.inr rfl | omega | exact h09.symm | exact PRK.zero (by omega)) (And.intro hP hD) hS (lv_sub hl [0, 1, 6, 7, 8, 9, 10, 11] rfl)
              · refine lv_goto (tgt := 137) hx hb gX12_holds_6.2.2.2.2.2.2.2.1 (by decide) ?_
                refine lv_iconst (v := 1) hx hb gX12_holds_7.2.1 (by decide) ?_
                refine lv_goto (tgt := 142) hx hb gX12_holds_7.2.2.1 (by decide) ?_
                refine astN hC hK hP hD hS 2 (ws' := [(h0, oX12 nw nk mhasKept nt mtaped nr mrowMany mroundOf mroundFrom (nI jw) nm mfromHour mtoHour ns mfrom mto msort misFault mdeep mcoded mlines nl nc nF np ntr nb mbestCost nso nsi nit nsh nsf nss nrc mtraced mdealer mnumber mwhose msize misParted), (nw, iA G 1662 fnw), (np, iA G 100 (upd vP hg 1))]) rfl (k := hg) (by omega) (Nat.le_of_ble_eq_true rfl) (rfl) gX12_holds_7.2.2.2.2.1 (fun H locs hP hD hS => ?_)
                refine lv_iinc (v := nI (hg + 1)) (lv' := [(6, .int (nI (hg + 1))), (11, .int (nI ((jv9 / 1000) % 3))), (10, .int (nI (jv9 % 1000))), (9, .int ((FAX (shf fnw 12) (shf fnw 32) (VSO fnw kq jw) kq je) (jv9 / 3000))), (8, .int (nI jv9)), (7, .int (nI kP)), (5, .int (nI r1)), (4, .int (nI r0)), (0, .ref h0), (1, .int (nI jv)), (2, .int (nI jl)), (3, .int (nI je))]) hx hb gX12_holds_7.2.2.2.2.2.1 hl (k := 5) rfl (nI_1 _) (by decide) rfl (fun ls hl => ?_)
                refine lv_goto (tgt := 237) hx hb gX12_holds_7.2.2.2.2.2.2.1 (by decide) ?_
                refine lv_iinc (v := nI (kP + 1)) (lv' := [(7, .int (nI (kP + 1))), (6, .int (nI (hg + 1))), (11, .int (nI ((jv9 / 1000) % 3))), (10, .int (nI (jv9 % 1000))), (9, .int ((FAX (shf fnw 12) (shf fnw 32) (VSO fnw kq jw) kq je) (jv9 / 3000))), (8, .int (nI jv9)), (5, .int (nI r1)), (4, .int (nI r0)), (0, .ref h0), (1, .int (nI jv)), (2, .int (nI jl)), (3, .int (nI je))]) hx hb gX12_holds_12.2.2.2.2.2.2.2.2.1 hl (k := 5) rfl (nI_1 _) (by decide) rfl (fun ls hl => ?_)
                refine lv_goto (tgt := 25) hx hb gX12_holds_12.2.2.2.2.2.2.2.2.2 (by decide) ?_
                have hst8 : ((hg + 1), upd vP hg 1) = PRK (FAX (shf fnw 12) (shf fnw 32) (VSO fnw kq jw) kq je) tr9 fnp (kP + 1 - r0) := PRK.fa1 hpr (by omega) (by omega) ev9 hjv9 (SOV.e3 ((nI_eq (b := 1) (by omega) (by decide)).mp c_117_8099) (decide_eq_true c_124_8101))
                exact ihP (kP + 1) (upd vP hg 1) (hg + 1) _ _ _ (by omega) (by first | assumption | exact Or.inl rfl | exact Or.inr rfl | omega | exact h09.symm | exact PRK.zero (by omega)) (by first | assumption | exact Or.inl rfl | exact Or.inr rfl | omega | exact h09.symm | exact PRK.zero (by omega)) (by first | assumption | exact Or.inl rfl | exact Or.inr rfl | omega | exact h09.symm | exact PRK.zero (by omega)) (by first | assumption | exact Or.inl rfl | exact Or.inr rfl | omega | exact h09.symm | exact PRK.zero (by omega)) (And.intro hP hD) hS (lv_sub hl [0, 1, 6, 7, 8, 9, 10, 11] rfl)
          · refine lv_iload hx hb gX12_holds_5.2.2.2.2.2.2.2.1 (lv_at2 hl) ?_
            refine lv_iload hx hb gX12_holds_5.2.2.2.2.2.2.2.2.1 (lv_at1 hl) ?_
            refine lv_icmp_ge (tgt := 141) hx hb gX12_holds_5.2.2.2.2.2.2.2.2.2 (by decide) (fun c_108_8102 => ?_) (fun c_108_8102 => ?_)
            · refine lv_iconst (v := 0) hx hb gX12_holds_7.2.2.2.1 (by decide) ?_
              refine astN hC hK hP hD hS 2 (ws' := [(h0, oX12 nw nk mhasKept nt mtaped nr mrowMany mroundOf mroundFrom (nI jw) nm mfromHour mtoHour ns mfrom mto msort misFault mdeep mcoded mlines nl nc nF np ntr nb mbestCost nso nsi nit nsh nsf nss nrc mtraced mdealer mnumber mwhose msize misParted), (nw, iA G 1662 fnw), (np, iA G 100 (upd vP hg 0))]) rfl (k := hg) (by omega) (Nat.le_of_ble_eq_true rfl) (rfl) gX12_holds_7.2.2.2.2.1 (fun H locs hP hD hS => ?_)
              refine lv_iinc (v := nI (hg + 1)) (lv' := [(6, .int (nI (hg + 1))), (11, .int (nI ((jv9 / 1000) % 3))), (10, .int (nI (jv9 % 1000))), (9, .int ((FAX (shf fnw 12) (shf fnw 32) (VSO fnw kq jw) kq je) (jv9 / 3000))), (8, .int (nI jv9)), (7, .int (nI kP)), (5, .int (nI r1)), (4, .int (nI r0)), (0, .ref h0), (1, .int (nI jv)), (2, .int (nI jl)), (3, .int (nI je))]) hx hb gX12_holds_7.2.2.2.2.2.1 hl (k := 5) rfl (nI_1 _) (by decide) rfl (fun ls hl => ?_)
              refine lv_goto (tgt := 237) hx hb gX12_holds_7.2.2.2.2.2.2.1 (by decide) ?_
              refine lv_iinc (v := nI (kP + 1)) (lv' := [(7, .int (nI (kP + 1))), (6, .int (nI (hg + 1))), (11, .int (nI ((jv9 / 1000) % 3))), (10, .int (nI (jv9 % 1000))), (9, .int ((FAX (shf fnw 12) (shf fnw 32) (VSO fnw kq jw) kq je) (jv9 / 3000))), (8, .int (nI jv9)), (5, .int (nI r1)), (4, .int (nI r0)), (0, .ref h0), (1, .int (nI jv)), (2, .int (nI jl)), (3, .int (nI je))]) hx hb gX12_holds_12.2.2.2.2.2.2.2.2.1 hl (k := 5) rfl (nI_1 _) (by decide) rfl (fun ls hl => ?_)
              refine lv_goto (tgt := 25) hx hb gX12_holds_12.2.2.2.2.2.2.2.2.2 (by decide) ?_
              have hst8 : ((hg + 1), upd vP hg 0) = PRK (FAX (shf fnw 12) (shf fnw 32) (VSO fnw kq jw) kq je) tr9 fnp (kP + 1 - r0) := PRK.fa0 hpr (by omega) (by omega) ev9 hjv9 (SOV.l3 ((nI_eq (b := 0) (by omega) (by decide)).mp c_101_8098) (decide_eq_false (Int32.not_lt.mpr c_108_8102)))
              exact ihP (kP + 1) (upd vP hg 0) (hg + 1) _ _ _ (by omega) (by first | assumption | exact Or.inl rfl | exact Or.inr rfl | omega | exact h09.symm | exact PRK.zero (by omega)) (by first | assumption | exact Or.inl rfl | exact Or.inr rfl | omega | exact h09.symm | exact PRK.zero (by omega)) (by first | assumption | exact Or.inl rfl | exact Or.inr rfl | omega | exact h09.symm | exact PRK.zero (by omega)) (by first | assumption | exact Or.inl rfl | exact Or.inr rfl | omega | exact h09.symm | exact PRK.zero (by omega)) (And.intro hP hD) hS (lv_sub hl [0, 1, 6, 7, 8, 9, 10, 11] rfl)
            · refine lv_goto (tgt := 137) hx hb gX12_holds_6.1 (by decide) ?_
              refine lv_iconst (v := 1) hx hb gX12_holds_7.2.1 (by decide) ?_
              refine lv_goto (tgt := 142) hx hb gX12_holds_7.2.2.1 (by decide) ?_
              refine astN hC hK hP hD hS 2 (ws' := [(h0, oX12 nw nk mhasKept nt mtaped nr mrowMany mroundOf mroundFrom (nI jw) nm mfromHour mtoHour ns mfrom mto msort misFault mdeep mcoded mlines nl nc nF np ntr nb mbestCost nso nsi nit nsh nsf nss nrc mtraced mdealer mnumber mwhose msize misParted), (nw, iA G 1662 fnw), (np, iA G 100 (upd vP hg 1))]) rfl (k := hg) (by omega) (Nat.le_of_ble_eq_true rfl) (rfl) gX12_holds_7.2.2.2.2.1 (fun H locs hP hD hS => ?_)
              refine lv_iinc (v := nI (hg + 1)) (lv' := [(6, .int (nI (hg + 1))), (11, .int (nI ((jv9 / 1000) % 3))), (10, .int (nI (jv9 % 1000))), (9, .int ((FAX (shf fnw 12) (shf fnw 32) (VSO fnw kq jw) kq je) (jv9 / 3000))), (8, .int (nI jv9)), (7, .int (nI kP)), (5, .int (nI r1)), (4, .int (nI r0)), (0, .ref h0), (1, .int (nI jv)), (2, .int (nI jl)), (3, .int (nI je))]) hx hb gX12_holds_7.2.2.2.2.2.1 hl (k := 5) rfl (nI_1 _) (by decide) rfl (fun ls hl => ?_)
              refine lv_goto (tgt := 237) hx hb gX12_holds_7.2.2.2.2.2.2.1 (by decide) ?_
              refine lv_iinc (v := nI (kP + 1)) (lv' := [(7, .int (nI (kP + 1))), (6, .int (nI (hg + 1))), (11, .int (nI ((jv9 / 1000) % 3))), (10, .int (nI (jv9 % 1000))), (9, .int ((FAX (shf fnw 12) (shf fnw 32) (VSO fnw kq jw) kq je) (jv9 / 3000))), (8, .int (nI jv9)), (5, .int (nI r1)), (4, .int (nI r0)), (0, .ref h0), (1, .int (nI jv)), (2, .int (nI jl)), (3, .int (nI je))]) hx hb gX12_holds_12.2.2.2.2.2.2.2.2.1 hl (k := 5) rfl (nI_1 _) (by decide) rfl (fun ls hl => ?_)
              refine lv_goto (tgt := 25) hx hb gX12_holds_12.2.2.2.2.2.2.2.2.2 (by decide) ?_
              have hst8 : ((hg + 1), upd vP hg 1) = PRK (FAX (shf fnw 12) (shf fnw 32) (VSO fnw kq jw) kq je) tr9 fnp (kP + 1 - r0) := PRK.fa1 hpr (by omega) (by omega) ev9 hjv9 (SOV.l3 ((nI_eq (b := 0) (by omega) (by decide)).mp c_101_8098) (decide_eq_true (Int32.not_le.mp c_108_8102)))
              exact ihP (kP + 1) (upd vP hg 1) (hg + 1) _ _ _ (by omega) (by first | assumption | exact Or.inl rfl | exact Or.inr rfl | omega | exact h09.symm | exact PRK.zero (by omega)) (by first | assumption | exact Or.inl rfl | exact Or.inr rfl | omega | exact h09.symm | exact PRK.zero (by omega)) (by first | assumption | exact Or.inl rfl | exact Or.inr rfl | omega | exact h09.symm | exact PRK.zero (by omega)) (by first | assumption | exact Or.inl rfl | exact Or.inr rfl | omega | exact h09.symm | exact PRK.zero (by omega)) (And.intro hP hD) hS (lv_sub hl [0, 1, 6, 7, 8, 9, 10, 11] rfl)
    exact keyP (r1 - r0) r0 fnp 0 _ _ _ (by omega) (by first | assumption | exact Or.inl rfl | exact Or.inr rfl | omega | exact h09.symm | exact PRK.zero (by omega)) (by first | assumption | exact Or.inl rfl | exact Or.inr rfl | omega | exact h09.symm | exact PRK.zero (by omega)) (by first | assumption | exact Or.inl rfl | exact Or.inr rfl | omega | exact h09.symm | exact PRK.zero (by omega)) (by first | assumption | exact Or.inl rfl | exact Or.inr rfl | omega | exact h09.symm | exact PRK.zero (by omega)) (And.intro hP hD) hS (lv_sub hl [0, 1, 2, 3, 4, 5, 6, 7] rfl)
def K_m_fromLineO (l : Launch) (G : GG) (kq : Nat) (LX9 : LNT) (T9 : List Int32) (S9 : HOP) (h0 : Nat) (jv : Nat) (jl : Nat) (je : Nat) (nw : Nat) (nk : Nat) (mhasKept : Int32) (nt : Nat) (mtaped : Int32) (nr : Nat) (mrowMany : Int32) (mroundOf : Int32) (mroundFrom : Int32) (jw : Nat) (nm : Nat) (mfromHour : Int32) (mtoHour : Int32) (ns : Nat) (mfrom : Int32) (mto : Int32) (msort : Int32) (misFault : Int32) (mdeep : Int32) (mcoded : Int32) (mlines : Int32) (nl : Nat) (nc : Nat) (nF : Nat) (np : Nat) (ntr : Nat) (nb : Nat) (mbestCost : Int32) (nso : Nat) (nsi : Nat) (nit : Nat) (nsh : Nat) (nsf : Nat) (nss : Nat) (nrc : Nat) (mtraced : Int32) (mdealer : Int32) (mnumber : Int32) (mwhose : Int32) (msize : Int32) (misParted : Int32) (fnw : Nat → Int32) (fns : Nat → Int32) (fnp : Nat → Int32) : Prop := MI l G yX12_fromLine cX12_fromLine 6 (some .int) 7 0 0 [.ref h0, .int (nI jv), .int (nI jl), .int (nI je)] [(h0, oX12 nw nk mhasKept nt mtaped nr mrowMany mroundOf mroundFrom (nI jw) nm mfromHour mtoHour ns mfrom mto msort misFault mdeep mcoded mlines nl nc nF np ntr nb mbestCost nso nsi nit nsh nsf nss nrc mtraced mdealer mnumber mwhose msize misParted), (nw, iA G 1662 fnw), (ns, iA G 8 fns), (np, iA G 100 fnp)] (fun (r : Int32) (u : (Nat → Int32)) => (∃ (y9:Int32), (FLQ 100000 S9 (LVX LX9 (PLN (FAX (shf fnw 12) (shf fnw 32) (VSO fnw kq jw) kq je) T9 1 % 2 = 1)) y9) ∧ r = y9)) (fun u : (Nat → Int32) => [(h0, oX12 nw nk mhasKept nt mtaped nr mrowMany mroundOf mroundFrom (nI jw) nm mfromHour mtoHour ns mfrom mto msort misFault mdeep mcoded mlines nl nc nF np ntr nb mbestCost nso nsi nit nsh nsf nss nrc mtraced mdealer mnumber mwhose msize misParted), (nw, iA G 1662 fnw), (ns, iA G 8 fns), (np, iA G 100 u)])
set_option maxHeartbeats 4000000 in
set_option maxRecDepth 100000 in
theorem m_fromLineO (l : Launch) (G : GG) (kq : Nat) (LX9 : LNT) (T9 : List Int32) (S9 : HOP) (h0 : Nat) (jv : Nat) (jl : Nat) (je : Nat) (nw : Nat) (nk : Nat) (mhasKept : Int32) (nt : Nat) (mtaped : Int32) (nr : Nat) (mrowMany : Int32) (mroundOf : Int32) (mroundFrom : Int32) (jw : Nat) (nm : Nat) (mfromHour : Int32) (mtoHour : Int32) (ns : Nat) (mfrom : Int32) (mto : Int32) (msort : Int32) (misFault : Int32) (mdeep : Int32) (mcoded : Int32) (mlines : Int32) (nl : Nat) (nc : Nat) (nF : Nat) (np : Nat) (ntr : Nat) (nb : Nat) (mbestCost : Int32) (nso : Nat) (nsi : Nat) (nit : Nat) (nsh : Nat) (nsf : Nat) (nss : Nat) (nrc : Nat) (mtraced : Int32) (mdealer : Int32) (mnumber : Int32) (mwhose : Int32) (msize : Int32) (misParted : Int32) (fnw : Nat → Int32) (fns : Nat → Int32) (fnp : Nat → Int32) (hjv : jv < 8) (hjl : jl < 9) (hln : LN fnw jv jl) (hLZ : LZM fnw jv jl LX9 T9) (hAR : ARS 100000 S9 fns) (hBD : HBD S9) (hje : je < 10) (hN : NI fnw) (ekq : fnw 5 = nI kq) (hkq : kq ≤ 12) (hjw : jw < 4096) : K_m_fromLineO l G kq LX9 T9 S9 h0 jv jl je nw nk mhasKept nt mtaped nr mrowMany mroundOf mroundFrom jw nm mfromHour mtoHour ns mfrom mto msort misFault mdeep mcoded mlines nl nc nF np ntr nb mbestCost nso nsi nit nsh nsf nss nrc mtraced mdealer mnumber mwhose msize misParted fnw fns fnp := by
  refine MI.start (by decide +kernel) (Nat.le_of_ble_eq_true rfl) ?_
  intro p e s m below meth c A ls hC hK hP hD hS hA hl
  refine absQ (fun Q0 hQ0 => ?_)
  have hl : lv_has ls 6 [(0, .ref h0), (1, .int (nI jv)), (2, .int (nI jl)), (3, .int (nI je))] := hl
  refine Kan8 hC (fun hx hb hr hml hB hown hlocks hnm => ?_)
  have hLZ0 := hLZ
  have hln0 := hln
  obtain ⟨⟨so, hso, e0, hAl, hBl⟩, -⟩ := hln
  obtain ⟨hlb, f0, f1, f2, f3, -⟩ := hLZ
  have hsx : so = LX9.1 := (nI_eq (by omega) (by have h9 := hlb.le; omega)).mp (e0.symm.trans f0)
  refine lv_aload_n hx hb gX12_fromLine_0.1 rfl (lv_at0 hl) ?_
  refine lv_iload_n hx hb gX12_fromLine_0.2.1 rfl (lv_at1 hl) ?_
  refine lv_iload_n hx hb gX12_fromLine_0.2.2.1 rfl (lv_at2 hl) ?_
  refine lv_iconst (v := 0) hx hb gX12_fromLine_0.2.2.2.1 (by decide) ?_
  refine pV hC hK hl hP hD (m_lineOf l G h0 jv jl 0 nw nk mhasKept nt mtaped nr mrowMany mroundOf mroundFrom (nI jw) nm mfromHour mtoHour ns mfrom mto msort misFault mdeep mcoded mlines nl nc nF np ntr nb mbestCost nso nsi nit nsh nsf nss nrc mtraced mdealer mnumber mwhose msize misParted fnw (hjv) (hjl) (by omega)) si_X12_193 [0, 1] sm_0_1 fm_0_1 nd_0_1 rfl rfl rfl rfl rfl (Nat.le_of_ble_eq_true rfl) rm_7_1_4 ⟨by first | exact Nat.le_of_ble_eq_true rfl | exact Nat.zero_le _, by first | exact Nat.le_of_ble_eq_true rfl | exact Nat.zero_le _⟩ gX12_fromLine_0.2.2.2.2.1 (Keqr ?_)
  refine eqi (x1 := nI so) (e0) ?_
  refine lv_istore (lv' := [(4, .int (nI so)), (0, .ref h0), (1, .int (nI jv)), (2, .int (nI jl)), (3, .int (nI je))]) hx hb gX12_fromLine_0.2.2.2.2.2.1 hl (by decide) rfl (fun ls hl => ?_)
  refine lv_iload hx hb gX12_fromLine_0.2.2.2.2.2.2.1 (lv_at0 hl) ?_
  refine lv_if_eq (tgt := 20) hx hb gX12_fromLine_0.2.2.2.2.2.2.2.1 (by decide) (fun c_11_8105 => ?_) (fun c_11_8105 => ?_)
  · refine lv_aload_n hx hb gX12_fromLine_1.2.1 rfl (lv_at1 hl) ?_
    refine lv_iload_n hx hb gX12_fromLine_1.2.2.1 rfl (lv_at2 hl) ?_
    refine lv_iload_n hx hb gX12_fromLine_1.2.2.2.1 rfl (lv_at3 hl) ?_
    refine lv_iload_n hx hb gX12_fromLine_1.2.2.2.2.1 rfl (lv_at4 hl) ?_
    refine iV (wr := [(ns, iA G 8 fns)]) hC hK hl hP hD hS hA (m_holdsO l G kq LX9 T9 h0 jv jl je nw nk mhasKept nt mtaped nr mrowMany mroundOf mroundFrom jw nm mfromHour mtoHour ns mfrom mto msort misFault mdeep mcoded mlines nl nc nF np ntr nb mbestCost nso nsi nit nsh nsf nss nrc mtraced mdealer mnumber mwhose msize misParted fnw fnp (hjv) (hjl) (hln0) (hLZ0) (hje) (hN) (ekq) (hkq) (hjw)) si_X12_196 [0, 1, 3] [2] sm_0_1_3 fm_0_1_3 nd_0_1_3 sm_2 nd_2 dj_0_1_3__2 rfl rfl rfl rfl rfl (Nat.le_of_ble_eq_true rfl) rm_7_6_12 ⟨Nat.le_of_ble_eq_true rfl, Nat.le_of_ble_eq_true rfl⟩ gX12_fromLine_1.2.2.2.2.2.1 (fun r8106 gnp8108 H locs hr8106 hP hD hS => ?_)
    try dsimp only at hr8106
    refine Kpdr (ws := [(ns, iA G 8 fns), (h0, oX12 nw nk mhasKept nt mtaped nr mrowMany mroundOf mroundFrom (nI jw) nm mfromHour mtoHour ns mfrom mto msort misFault mdeep mcoded mlines nl nc nF np ntr nb mbestCost nso nsi nit nsh nsf nss nrc mtraced mdealer mnumber mwhose msize misParted), (nw, iA G 1662 fnw), (np, iA G 100 gnp8108)]) hP hD (fun hP hD => ?_)
    rcases hr8106 with ⟨rfl, a8109⟩ | ⟨rfl, a8109⟩
    · refine lv_if_ne (tgt := 33) hx hb gX12_fromLine_1.2.2.2.2.2.2.1 (by decide) (fun _ => ?_) (fun c9 => absurd c9 (by decide))
      obtain ⟨jj9, jc9, jw9, eL9, hc9, hw9, g1, g3⟩ := (LVX.mk hlb a8109).1 (hsx.symm.trans ((nI_eq (b := 0) (by omega) (by decide)).mp c_11_8105))
      have hn29 : ¬ nI so = 2 := fun h9 => absurd (c_11_8105.symm.trans h9) (by decide)
      refine lv_iload hx hb gX12_fromLine_1.2.2.2.2.2.2.2.2.2 (lv_at0 hl) ?_
      refine lv_iconst (v := 2) hx hb gX12_fromLine_2.1 (by decide) ?_
      refine lv_icmp_ne (tgt := 49) hx hb gX12_fromLine_2.2.1 (by decide) (fun _ => ?_) (fun c9 => absurd c9 (hn29))
      refine lv_aload_n hx hb gX12_fromLine_2.2.2.2.2.2.2.2.2.1 rfl (lv_at1 hl) ?_
      refine gf_X12_29 hC rfl hK hP 1 rfl rfl gX12_fromLine_2.2.2.2.2.2.2.2.2.2 ?_
      refine lv_aload_n hx hb gX12_fromLine_3.1 rfl (lv_at1 hl) ?_
      refine lv_iload_n hx hb gX12_fromLine_3.2.1 rfl (lv_at2 hl) ?_
      refine lv_iload_n hx hb gX12_fromLine_3.2.2.1 rfl (lv_at3 hl) ?_
      refine lv_iconst (v := 3) hx hb gX12_fromLine_3.2.2.2.1 (by decide) ?_
      refine pV hC hK hl hP hD (m_lineOf l G h0 jv jl 3 nw nk mhasKept nt mtaped nr mrowMany mroundOf mroundFrom (nI jw) nm mfromHour mtoHour ns mfrom mto msort misFault mdeep mcoded mlines nl nc nF np ntr nb mbestCost nso nsi nit nsh nsf nss nrc mtraced mdealer mnumber mwhose msize misParted fnw (hjv) (hjl) (by omega)) si_X12_193 [1, 2] sm_1_2 fm_1_2 nd_1_2 rfl rfl rfl rfl rfl (Nat.le_of_ble_eq_true rfl) rm_7_1_4 ⟨by first | exact Nat.le_of_ble_eq_true rfl | exact Nat.zero_le _, by first | exact Nat.le_of_ble_eq_true rfl | exact Nat.zero_le _⟩ gX12_fromLine_3.2.2.2.2.1 (Keqr ?_)
      refine eqi (x1 := nI jc9) (f3.trans g3) ?_
      refine aldN hC hK hP 0 rfl (k := jc9) (by omega) (Nat.le_of_ble_eq_true rfl) (v := fns jc9) rfl gX12_fromLine_3.2.2.2.2.2.1 ?_
      refine lv_istore (lv' := [(5, .int (fns jc9)), (4, .int (nI so)), (0, .ref h0), (1, .int (nI jv)), (2, .int (nI jl)), (3, .int (nI je))]) hx hb gX12_fromLine_3.2.2.2.2.2.2.1 hl (by decide) rfl (fun ls hl => ?_)
      refine lv_iload hx hb gX12_fromLine_3.2.2.2.2.2.2.2.1 (lv_at1 hl) ?_
      refine lv_iconst (v := 2) hx hb gX12_fromLine_3.2.2.2.2.2.2.2.2.1 (by decide) ?_
      refine lv_icmp_eq (tgt := 76) hx hb gX12_fromLine_3.2.2.2.2.2.2.2.2.2 (by decide) (fun c9 => absurd c9 (hn29)) (fun _ => ?_)
      refine lv_iload hx hb gX12_fromLine_4.1 (lv_at0 hl) ?_
      refine lv_ldc hx hb hown (hB _ m_1204) gX12_fromLine_4.2.1 ?_
      refine lv_icmp_ne (tgt := 81) hx hb gX12_fromLine_4.2.2.1 (by decide) (fun c_73_8112 => ?_) (fun c_73_8112 => ?_)
      · refine lv_iload hx hb gX12_fromLine_4.2.2.2.2.2.1 (lv_at0 hl) ?_
        refine lv_aload_n hx hb gX12_fromLine_4.2.2.2.2.2.2.1 rfl (lv_at2 hl) ?_
        refine lv_iload_n hx hb gX12_fromLine_4.2.2.2.2.2.2.2.1 rfl (lv_at3 hl) ?_
        refine lv_iload_n hx hb gX12_fromLine_4.2.2.2.2.2.2.2.2.1 rfl (lv_at4 hl) ?_
        refine lv_iconst (v := 1) hx hb gX12_fromLine_4.2.2.2.2.2.2.2.2.2 (by decide) ?_
        refine pV hC hK hl hP hD (m_lineOf l G h0 jv jl 1 nw nk mhasKept nt mtaped nr mrowMany mroundOf mroundFrom (nI jw) nm mfromHour mtoHour ns mfrom mto msort misFault mdeep mcoded mlines nl nc nF np ntr nb mbestCost nso nsi nit nsh nsf nss nrc mtraced mdealer mnumber mwhose msize misParted fnw (hjv) (hjl) (by omega)) si_X12_193 [1, 2] sm_1_2 fm_1_2 nd_1_2 rfl rfl rfl rfl rfl (Nat.le_of_ble_eq_true rfl) rm_7_1_4 ⟨by first | exact Nat.le_of_ble_eq_true rfl | exact Nat.zero_le _, by first | exact Nat.le_of_ble_eq_true rfl | exact Nat.zero_le _⟩ gX12_fromLine_5.1 (Keqr ?_)
        refine eqi (x1 := nI jw9) (f1.trans g1) ?_
        refine lv_iadd hx hb gX12_fromLine_5.2.1 ?_
        refine toQ hQ0 ?_
        exact RI (v := (fns jc9) + (nI jw9)) hC hP hD hS [1, 2, 0, 3] gnp8108 rfl rfl (by decide) (⟨_, FLQ.sm eL9 hAR hBD hc9 (by decide) c_73_8112 hw9, rfl⟩) rfl gX12_fromLine_5.2.2
      · refine lv_iload hx hb gX12_fromLine_4.2.2.2.1 (lv_at0 hl) ?_
        refine lv_goto (tgt := 91) hx hb gX12_fromLine_4.2.2.2.2.1 (by decide) ?_
        refine toQ hQ0 ?_
        exact RI (v := fns jc9) hC hP hD hS [1, 2, 0, 3] gnp8108 rfl rfl (by decide) (⟨_, FLQ.nv eL9 hAR hBD hc9 (by decide) c_73_8112, rfl⟩) rfl gX12_fromLine_5.2.2
    · refine lv_if_ne (tgt := 33) hx hb gX12_fromLine_1.2.2.2.2.2.2.1 (by decide) (fun c9 => absurd (by decide) c9) (fun _ => ?_)
      refine lv_ldc hx hb hown (hB _ m_1204) gX12_fromLine_1.2.2.2.2.2.2.2.1 ?_
      refine toQ hQ0 ?_
      exact RI (v := 100000) hC hP hD hS [1, 2, 0, 3] gnp8108 rfl rfl (by decide) (⟨_, Or.inl ⟨LVX.n a8109, rfl⟩, rfl⟩) rfl gX12_fromLine_1.2.2.2.2.2.2.2.2.1
  · refine lv_iload hx hb gX12_fromLine_0.2.2.2.2.2.2.2.2.1 (lv_at0 hl) ?_
    refine lv_iconst (v := 2) hx hb gX12_fromLine_0.2.2.2.2.2.2.2.2.2 (by decide) ?_
    refine lv_icmp_ne (tgt := 30) hx hb gX12_fromLine_1.1 (by decide) (fun c_17_8115 => ?_) (fun c_17_8115 => ?_)
    · refine lv_ldc hx hb hown (hB _ m_1204) gX12_fromLine_1.2.2.2.2.2.2.2.1 ?_
      refine toQ hQ0 ?_
      exact RI (v := 100000) hC hP hD hS [0, 1, 2, 3] fnp rfl rfl (by decide) (⟨_, Or.inl ⟨LVX.w (fun h9 => c_11_8105 (congrArg nI (hsx.trans h9))) (fun h9 => c_17_8115 (congrArg nI (hsx.trans h9))), rfl⟩, rfl⟩) rfl gX12_fromLine_1.2.2.2.2.2.2.2.2.1
    · refine lv_aload_n hx hb gX12_fromLine_1.2.1 rfl (lv_at1 hl) ?_
      refine lv_iload_n hx hb gX12_fromLine_1.2.2.1 rfl (lv_at2 hl) ?_
      refine lv_iload_n hx hb gX12_fromLine_1.2.2.2.1 rfl (lv_at3 hl) ?_
      refine lv_iload_n hx hb gX12_fromLine_1.2.2.2.2.1 rfl (lv_at4 hl) ?_
      refine iV (wr := [(ns, iA G 8 fns)]) hC hK hl hP hD hS hA (m_holdsO l G kq LX9 T9 h0 jv jl je nw nk mhasKept nt mtaped nr mrowMany mroundOf mroundFrom jw nm mfromHour mtoHour ns mfrom mto msort misFault mdeep mcoded mlines nl nc nF np ntr nb mbestCost nso nsi nit nsh nsf nss nrc mtraced mdealer mnumber mwhose msize misParted fnw fnp (hjv) (hjl) (hln0) (hLZ0) (hje) (hN) (ekq) (hkq) (hjw)) si_X12_196 [0, 1, 3] [2] sm_0_1_3 fm_0_1_3 nd_0_1_3 sm_2 nd_2 dj_0_1_3__2 rfl rfl rfl rfl rfl (Nat.le_of_ble_eq_true rfl) rm_7_6_12 ⟨Nat.le_of_ble_eq_true rfl, Nat.le_of_ble_eq_true rfl⟩ gX12_fromLine_1.2.2.2.2.2.1 (fun r8116 gnp8118 H locs hr8116 hP hD hS => ?_)
      try dsimp only at hr8116
      refine Kpdr (ws := [(ns, iA G 8 fns), (h0, oX12 nw nk mhasKept nt mtaped nr mrowMany mroundOf mroundFrom (nI jw) nm mfromHour mtoHour ns mfrom mto msort misFault mdeep mcoded mlines nl nc nF np ntr nb mbestCost nso nsi nit nsh nsf nss nrc mtraced mdealer mnumber mwhose msize misParted), (nw, iA G 1662 fnw), (np, iA G 100 gnp8118)]) hP hD (fun hP hD => ?_)
      rcases hr8116 with ⟨rfl, a8119⟩ | ⟨rfl, a8119⟩
      · refine lv_if_ne (tgt := 33) hx hb gX12_fromLine_1.2.2.2.2.2.2.1 (by decide) (fun _ => ?_) (fun c9 => absurd c9 (by decide))
        obtain ⟨jj9, jw9, eL9, hw9, g9⟩ := (LVX.mk hlb a8119).2 (hsx.symm.trans ((nI_eq (b := 2) (by omega) (by decide)).mp c_17_8115))
        refine lv_iload hx hb gX12_fromLine_1.2.2.2.2.2.2.2.2.2 (lv_at0 hl) ?_
        refine lv_iconst (v := 2) hx hb gX12_fromLine_2.1 (by decide) ?_
        refine lv_icmp_ne (tgt := 49) hx hb gX12_fromLine_2.2.1 (by decide) (fun c9 => absurd (c_17_8115) c9) (fun _ => ?_)
        refine lv_aload_n hx hb gX12_fromLine_2.2.2.1 rfl (lv_at1 hl) ?_
        refine lv_iload_n hx hb gX12_fromLine_2.2.2.2.1 rfl (lv_at2 hl) ?_
        refine lv_iload_n hx hb gX12_fromLine_2.2.2.2.2.1 rfl (lv_at3 hl) ?_
        refine lv_iconst (v := 2) hx hb gX12_fromLine_2.2.2.2.2.2.1 (by decide) ?_
        refine pV hC hK hl hP hD (m_lineOf l G h0 jv jl 2 nw nk mhasKept nt mtaped nr mrowMany mroundOf mroundFrom (nI jw) nm mfromHour mtoHour ns mfrom mto msort misFault mdeep mcoded mlines nl nc nF np ntr nb mbestCost nso nsi nit nsh nsf nss nrc mtraced mdealer mnumber mwhose msize misParted fnw (hjv) (hjl) (by omega)) si_X12_193 [1, 2] sm_1_2 fm_1_2 nd_1_2 rfl rfl rfl rfl rfl (Nat.le_of_ble_eq_true rfl) rm_7_1_4 ⟨by first | exact Nat.le_of_ble_eq_true rfl | exact Nat.zero_le _, by first | exact Nat.le_of_ble_eq_true rfl | exact Nat.zero_le _⟩ gX12_fromLine_2.2.2.2.2.2.2.1 (Keqr ?_)
        refine eqi (x1 := nI jw9) (f2.trans g9) ?_
        refine lv_goto (tgt := 61) hx hb gX12_fromLine_2.2.2.2.2.2.2.2.1 (by decide) ?_
        refine lv_istore (lv' := [(5, .int (nI jw9)), (4, .int (nI so)), (0, .ref h0), (1, .int (nI jv)), (2, .int (nI jl)), (3, .int (nI je))]) hx hb gX12_fromLine_3.2.2.2.2.2.2.1 hl (by decide) rfl (fun ls hl => ?_)
        refine lv_iload hx hb gX12_fromLine_3.2.2.2.2.2.2.2.1 (lv_at1 hl) ?_
        refine lv_iconst (v := 2) hx hb gX12_fromLine_3.2.2.2.2.2.2.2.2.1 (by decide) ?_
        refine lv_icmp_eq (tgt := 76) hx hb gX12_fromLine_3.2.2.2.2.2.2.2.2.2 (by decide) (fun _ => ?_) (fun c9 => absurd (c_17_8115) c9)
        refine lv_iload hx hb gX12_fromLine_4.2.2.2.1 (lv_at0 hl) ?_
        refine lv_goto (tgt := 91) hx hb gX12_fromLine_4.2.2.2.2.1 (by decide) ?_
        refine toQ hQ0 ?_
        exact RI (v := nI jw9) hC hP hD hS [1, 2, 0, 3] gnp8118 rfl rfl (by decide) (⟨_, FLQ.ask eL9 hw9, rfl⟩) rfl gX12_fromLine_5.2.2
      · refine lv_if_ne (tgt := 33) hx hb gX12_fromLine_1.2.2.2.2.2.2.1 (by decide) (fun c9 => absurd (by decide) c9) (fun _ => ?_)
        refine lv_ldc hx hb hown (hB _ m_1204) gX12_fromLine_1.2.2.2.2.2.2.2.1 ?_
        refine toQ hQ0 ?_
        exact RI (v := 100000) hC hP hD hS [1, 2, 0, 3] gnp8118 rfl rfl (by decide) (⟨_, Or.inl ⟨LVX.n a8119, rfl⟩, rfl⟩) rfl gX12_fromLine_1.2.2.2.2.2.2.2.2.1
def K_m_knewByO (l : Launch) (G : GG) (kq : Nat) (k6 : Nat) (h0 : Nat) (je : Nat) (jt : Nat) (su : Int32) (nw : Nat) (nk : Nat) (mhasKept : Int32) (nt : Nat) (mtaped : Int32) (nr : Nat) (mrowMany : Int32) (mroundOf : Int32) (mroundFrom : Int32) (jw : Nat) (nm : Nat) (mfromHour : Int32) (mtoHour : Int32) (ns : Nat) (mfrom : Int32) (mto : Int32) (msort : Int32) (misFault : Int32) (mdeep : Int32) (mcoded : Int32) (mlines : Int32) (nl : Nat) (nc : Nat) (nF : Nat) (np : Nat) (ntr : Nat) (nb : Nat) (mbestCost : Int32) (nso : Nat) (nsi : Nat) (nit : Nat) (nsh : Nat) (nsf : Nat) (nss : Nat) (nrc : Nat) (mtraced : Int32) (mdealer : Int32) (mnumber : Int32) (mwhose : Int32) (msize : Int32) (misParted : Int32) (fnw : Nat → Int32) (fnm : Nat → Int32) : Prop := MI l G yX12_knewBy cX12_knewBy 7 (some .int) 5 0 0 [.ref h0, .int (nI je), .int (nI jt), .int su] [(h0, oX12 nw nk mhasKept nt mtaped nr mrowMany mroundOf mroundFrom (nI jw) nm mfromHour mtoHour ns mfrom mto msort misFault mdeep mcoded mlines nl nc nF np ntr nb mbestCost nso nsi nit nsh nsf nss nrc mtraced mdealer mnumber mwhose msize misParted), (nw, iA G 1662 fnw), (nm, iA G 36 fnm)] (fun (r : Int32) (u : Int32 × Int32 × (Nat → Int32)) => (∃ (r9:Int32), (ARV 100000 (TOF (TCD (KST (shf fnw 104) (VSO fnw kq jw) (fnw 3).toInt k6) (shf fnw 104) (VSO fnw kq jw) (shf fnw 32) (shf fnw 12) k6 kq je su jt)) r9) ∧ r = r9) ∧ (MB u.2.2)) (fun u : Int32 × Int32 × (Nat → Int32) => [(h0, oX12 nw nk mhasKept nt mtaped nr mrowMany mroundOf mroundFrom (nI jw) nm u.1 u.2.1 ns mfrom mto msort misFault mdeep mcoded mlines nl nc nF np ntr nb mbestCost nso nsi nit nsh nsf nss nrc mtraced mdealer mnumber mwhose msize misParted), (nw, iA G 1662 fnw), (nm, iA G 36 u.2.2)])
set_option maxHeartbeats 4000000 in
set_option maxRecDepth 100000 in
theorem m_knewByO (l : Launch) (G : GG) (kq : Nat) (k6 : Nat) (h0 : Nat) (je : Nat) (jt : Nat) (su : Int32) (nw : Nat) (nk : Nat) (mhasKept : Int32) (nt : Nat) (mtaped : Int32) (nr : Nat) (mrowMany : Int32) (mroundOf : Int32) (mroundFrom : Int32) (jw : Nat) (nm : Nat) (mfromHour : Int32) (mtoHour : Int32) (ns : Nat) (mfrom : Int32) (mto : Int32) (msort : Int32) (misFault : Int32) (mdeep : Int32) (mcoded : Int32) (mlines : Int32) (nl : Nat) (nc : Nat) (nF : Nat) (np : Nat) (ntr : Nat) (nb : Nat) (mbestCost : Int32) (nso : Nat) (nsi : Nat) (nit : Nat) (nsh : Nat) (nsf : Nat) (nss : Nat) (nrc : Nat) (mtraced : Int32) (mdealer : Int32) (mnumber : Int32) (mwhose : Int32) (msize : Int32) (misParted : Int32) (fnw : Nat → Int32) (fnm : Nat → Int32) (hM : MB fnm) (hN : NI fnw) (hgp : GPRm (fnw 3)) (ekq : fnw 5 = nI kq) (hkq : kq ≤ 12) (e6 : fnw 6 = nI k6) (hk6 : k6 ≤ 24) (hje : je < 10) (hjt : jt < 8) (hjw : jw < 4096) : K_m_knewByO l G kq k6 h0 je jt su nw nk mhasKept nt mtaped nr mrowMany mroundOf mroundFrom jw nm mfromHour mtoHour ns mfrom mto msort misFault mdeep mcoded mlines nl nc nF np ntr nb mbestCost nso nsi nit nsh nsf nss nrc mtraced mdealer mnumber mwhose msize misParted fnw fnm := by
  refine MI.start (by decide +kernel) (Nat.le_of_ble_eq_true rfl) ?_
  intro p e s m below meth c A ls hC hK hP hD hS hA hl
  refine absQ (fun Q0 hQ0 => ?_)
  have hl : lv_has ls 7 [(0, .ref h0), (1, .int (nI je)), (2, .int (nI jt)), (3, .int su)] := hl
  refine Kan8 hC (fun hx hb hr hml hB hown hlocks hnm => ?_)
  refine lv_aload_n hx hb gX12_knewBy_0.1 rfl (lv_at0 hl) ?_
  refine iV (wr := []) hC hK hl hP hD hS hA (m_findClocksO l G kq k6 h0 nw nk mhasKept nt mtaped nr mrowMany mroundOf mroundFrom jw nm mfromHour mtoHour ns mfrom mto msort misFault mdeep mcoded mlines nl nc nF np ntr nb mbestCost nso nsi nit nsh nsf nss nrc mtraced mdealer mnumber mwhose msize misParted fnw fnm (hN) (hgp) (hjw) (ekq) (hkq) (e6) (hk6)) si_X12_148 [0, 1, 2] [] sm_0_1_2 fm_0_1_2 nd_0_1_2 rfl rfl (by decide) rfl rfl rfl rfl rfl (Nat.le_of_ble_eq_true rfl) rm_5_4_7 ⟨Nat.le_of_ble_eq_true rfl, Nat.le_of_ble_eq_true rfl⟩ gX12_knewBy_0.2.1 (fun r8122 gnm8124 H locs hr8122 hP hD hS => ?_)
  try dsimp only at hr8122
  refine Kpdr (ws := [(h0, oX12 nw nk mhasKept nt mtaped nr mrowMany mroundOf mroundFrom (nI jw) nm mfromHour mtoHour ns mfrom mto msort misFault mdeep mcoded mlines nl nc nF np ntr nb mbestCost nso nsi nit nsh nsf nss nrc mtraced mdealer mnumber mwhose msize misParted), (nw, iA G 1662 fnw), (nm, iA G 36 gnm8124)]) hP hD (fun hP hD => ?_)
  obtain ⟨hr8122, w8125⟩ := hr8122
  rcases hr8122 with ⟨rfl, a8126⟩ | ⟨rfl, a8126⟩
  · refine lv_istore (lv' := [(4, .int 1), (0, .ref h0), (1, .int (nI je)), (2, .int (nI jt)), (3, .int su)]) hx hb gX12_knewBy_0.2.2.1 hl (by decide) rfl (fun ls hl => ?_)
    refine lv_ldc hx hb hown (hB _ m_1204) gX12_knewBy_0.2.2.2.1 ?_
    refine lv_istore (lv' := [(5, .int 100000), (4, .int 1), (0, .ref h0), (1, .int (nI je)), (2, .int (nI jt)), (3, .int su)]) hx hb gX12_knewBy_0.2.2.2.2.1 hl (by decide) rfl (fun ls hl => ?_)
    refine lv_iconst (v := 0) hx hb gX12_knewBy_0.2.2.2.2.2.1 (by decide) ?_
    refine lv_istore (lv' := [(6, .int 0), (5, .int 100000), (4, .int 1), (0, .ref h0), (1, .int (nI je)), (2, .int (nI jt)), (3, .int su)]) hx hb gX12_knewBy_0.2.2.2.2.2.2.1 hl (by decide) rfl (fun ls hl => ?_)
    have hsl9 : 0 ≤ (shf fnw 12 (je * 2 + 1)).toInt ∧ (shf fnw 12 (je * 2 + 1)).toInt ≤ 48 := NI.slow hN (by omega)
    have keyP : ∀ (nP kP : Nat) (be : Int32) (vfh : Int32) (vth : Int32) (H : Heap) (locs : List Loc) (ls : Array Slot), kP + nP = kq → (LST9 (TCD (KST (shf fnw 104) (VSO fnw kq jw) (fnw 3).toInt k6) (shf fnw 104) (VSO fnw kq jw) (shf fnw 32) (shf fnw 12) k6 kP je su jt) 100000 be) → va_PD G A [(h0, oX12 nw nk mhasKept nt mtaped nr mrowMany mroundOf mroundFrom (nI jw) nm vfh vth ns mfrom mto msort misFault mdeep mcoded mlines nl nc nF np ntr nb mbestCost nso nsi nit nsh nsf nss nrc mtraced mdealer mnumber mwhose msize misParted), (nw, iA G 1662 fnw), (nm, iA G 36 gnm8124)] H → va_S A s.heap H locs → lv_has ls 7 [(6, .int (nI kP)), (5, .int be), (4, .int 1), (0, .ref h0), (1, .int (nI je)), (2, .int (nI jt)), (3, .int su)] → W p l e (RM 5 0 0) s m ([.ref h0, .int (nI je), .int (nI jt), .int su] : List Value).toArray below meth c H locs 0 0 Q0 (F0 m 13 ls []) := by
      intro nP
      induction nP with
      | zero =>
        intro kP be vfh vth H locs ls hkP hle hPD hS hl
        refine Kan2 hPD (fun hP hD => ?_)
        obtain rfl : kq = kP := by omega
        have hl : lv_has ls 7 [(6, .int (nI kq)), (5, .int be), (4, .int 1), (0, .ref h0), (1, .int (nI je)), (2, .int (nI jt)), (3, .int su)] := hl
        refine lv_iload hx hb gX12_knewBy_0.2.2.2.2.2.2.2.1 (lv_at0 hl) ?_
        refine lv_aload_n hx hb gX12_knewBy_0.2.2.2.2.2.2.2.2.1 rfl (lv_at3 hl) ?_
        refine gf_X12_9 hC rfl hK hP 0 rfl rfl gX12_knewBy_0.2.2.2.2.2.2.2.2.2 ?_
        refine lv_iconst (v := 5) hx hb gX12_knewBy_1.1 (by decide) ?_
        refine ald hC hK hP 1 rfl (vin (by decide +kernel)) (k := 5) (by decide +kernel) (v := nI kq) (ekq) gX12_knewBy_1.2.1 ?_
        refine lv_icmp_ge (tgt := 78) hx hb gX12_knewBy_1.2.2.1 (by decide) (fun _ => ?_) (fun c9 => absurd (Int32.le_refl _) c9)
        refine lv_iload hx hb gX12_knewBy_3.2.2.2.2.2.2.2.2.1 (lv_at1 hl) ?_
        refine toQ hQ0 ?_
        exact RI (v := be) hC hP hD hS [0, 1, 2] (vfh, vth, gnm8124) rfl rfl (by decide) (⟨⟨_, LST9.tof hle, rfl⟩, by first | assumption | exact hM⟩) rfl gX12_knewBy_3.2.2.2.2.2.2.2.2.2
      | succ nP ihP =>
        intro kP be vfh vth H locs ls hkP hle hPD hS hl
        refine Kan2 hPD (fun hP hD => ?_)
        refine lv_iload hx hb gX12_knewBy_0.2.2.2.2.2.2.2.1 (lv_at0 hl) ?_
        refine lv_aload_n hx hb gX12_knewBy_0.2.2.2.2.2.2.2.2.1 rfl (lv_at3 hl) ?_
        refine gf_X12_9 hC rfl hK hP 0 rfl rfl gX12_knewBy_0.2.2.2.2.2.2.2.2.2 ?_
        refine lv_iconst (v := 5) hx hb gX12_knewBy_1.1 (by decide) ?_
        refine ald hC hK hP 1 rfl (vin (by decide +kernel)) (k := 5) (by decide +kernel) (v := nI kq) (ekq) gX12_knewBy_1.2.1 ?_
        refine lv_icmp_ge (tgt := 78) hx hb gX12_knewBy_1.2.2.1 (by decide) (fun c9 => absurd c9 (nI_ge (a := kP) (b := kq) (by omega) (by omega))) (fun _ => ?_)
        refine lv_aload_n hx hb gX12_knewBy_1.2.2.2.1 rfl (lv_at3 hl) ?_
        refine lv_iload hx hb gX12_knewBy_1.2.2.2.2.1 (lv_at0 hl) ?_
        refine lv_iconst (v := 2) hx hb gX12_knewBy_1.2.2.2.2.2.1 (by decide) ?_
        refine pV hC hK hl hP hD (m_paper l G h0 kP 2 nw nk mhasKept nt mtaped nr mrowMany mroundOf mroundFrom (nI jw) nm vfh vth ns mfrom mto msort misFault mdeep mcoded mlines nl nc nF np ntr nb mbestCost nso nsi nit nsh nsf nss nrc mtraced mdealer mnumber mwhose msize misParted fnw (by omega) (by omega)) si_X12_88 [0, 1] sm_0_1 fm_0_1 nd_0_1 rfl rfl rfl rfl rfl (Nat.le_of_ble_eq_true rfl) rm_5_1_3 ⟨by first | exact Nat.le_of_ble_eq_true rfl | exact Nat.zero_le _, by first | exact Nat.le_of_ble_eq_true rfl | exact Nat.zero_le _⟩ gX12_knewBy_1.2.2.2.2.2.2.1 (Keqr ?_)
        refine lv_iload_n hx hb gX12_knewBy_1.2.2.2.2.2.2.2.1 rfl (lv_at5 hl) ?_
        refine pS hC hK hl (m_has l G (fnw (32 + 6 * kP + 2)) (nI jt)) si_X12_99 rfl rfl (Nat.le_of_ble_eq_true rfl) rm_5_1_2 ⟨by first | exact Nat.le_of_ble_eq_true rfl | exact Nat.zero_le _, by first | exact Nat.le_of_ble_eq_true rfl | exact Nat.zero_le _⟩ gX12_knewBy_1.2.2.2.2.2.2.2.2.1 (Kors (Keqa fun a8130 => ?_) (Keqa fun a8130 => ?_))
        · refine lv_if_eq (tgt := 72) hx hb gX12_knewBy_1.2.2.2.2.2.2.2.2.2 (by decide) (fun c9 => absurd c9 (by decide)) (fun _ => ?_)
          refine lv_aload_n hx hb gX12_knewBy_2.1 rfl (lv_at3 hl) ?_
          refine lv_iload hx hb gX12_knewBy_2.2.1 (lv_at0 hl) ?_
          refine lv_iload_n hx hb gX12_knewBy_2.2.2.1 rfl (lv_at4 hl) ?_
          refine lv_iload hx hb gX12_knewBy_2.2.2.2.1 (lv_at2 hl) ?_
          refine pV hC hK hl hP hD (m_inHandC l G k6 h0 kP je nw nk mhasKept nt mtaped nr mrowMany mroundOf mroundFrom (nI jw) nm vfh vth ns mfrom mto msort misFault mdeep mcoded mlines nl nc nF np ntr nb mbestCost nso nsi nit nsh nsf nss nrc mtraced mdealer mnumber mwhose msize misParted fnw (e6) (hk6) (by omega)) si_X12_171 [0, 1] sm_0_1 fm_0_1 nd_0_1 rfl rfl rfl rfl rfl (Nat.le_of_ble_eq_true rfl) rm_5_4_4 ⟨by first | exact Nat.le_of_ble_eq_true rfl | exact Nat.zero_le _, by first | exact Nat.le_of_ble_eq_true rfl | exact Nat.zero_le _⟩ gX12_knewBy_2.2.2.2.2.1 (Keqr ?_)
          refine lv_if_eq (tgt := 72) hx hb gX12_knewBy_2.2.2.2.2.2.1 (by decide) (fun _ => ?_) (fun c9 => absurd (by decide) c9)
          refine lv_iinc (v := nI (kP + 1)) (lv' := [(6, .int (nI (kP + 1))), (5, .int be), (4, .int 1), (0, .ref h0), (1, .int (nI je)), (2, .int (nI jt)), (3, .int su)]) hx hb gX12_knewBy_3.2.2.2.2.2.2.1 hl (k := 0) rfl (nI_1 _) (by decide) rfl (fun ls hl => ?_)
          refine lv_goto (tgt := 13) hx hb gX12_knewBy_3.2.2.2.2.2.2.2.1 (by decide) ?_
          have hst9 : LST9 (TCD (KST (shf fnw 104) (VSO fnw kq jw) (fnw 3).toInt k6) (shf fnw 104) (VSO fnw kq jw) (shf fnw 32) (shf fnw 12) k6 (kP + 1) je su jt) 100000 be := hle.sk (TC1.n2 (Or.inl a8126))
          exact ihP (kP + 1) be vfh vth _ _ _ (by omega) (by first | assumption | exact Or.inl rfl | exact Or.inr rfl | exact LST9.zero) (And.intro hP hD) hS (lv_sub hl [0, 1, 2, 3, 4, 5, 6] rfl)
        · refine lv_if_eq (tgt := 72) hx hb gX12_knewBy_1.2.2.2.2.2.2.2.2.2 (by decide) (fun _ => ?_) (fun c9 => absurd (by decide) c9)
          refine lv_iinc (v := nI (kP + 1)) (lv' := [(6, .int (nI (kP + 1))), (5, .int be), (4, .int 1), (0, .ref h0), (1, .int (nI je)), (2, .int (nI jt)), (3, .int su)]) hx hb gX12_knewBy_3.2.2.2.2.2.2.1 hl (k := 0) rfl (nI_1 _) (by decide) rfl (fun ls hl => ?_)
          refine lv_goto (tgt := 13) hx hb gX12_knewBy_3.2.2.2.2.2.2.2.1 (by decide) ?_
          have hst9 : LST9 (TCD (KST (shf fnw 104) (VSO fnw kq jw) (fnw 3).toInt k6) (shf fnw 104) (VSO fnw kq jw) (shf fnw 32) (shf fnw 12) k6 (kP + 1) je su jt) 100000 be := hle.sk (TC1.n1 (THM.no a8130))
          exact ihP (kP + 1) be vfh vth _ _ _ (by omega) (by first | assumption | exact Or.inl rfl | exact Or.inr rfl | exact LST9.zero) (And.intro hP hD) hS (lv_sub hl [0, 1, 2, 3, 4, 5, 6] rfl)
    exact keyP kq 0 100000 mfromHour mtoHour _ _ _ (by omega) (by first | assumption | exact Or.inl rfl | exact Or.inr rfl | exact LST9.zero) (And.intro hP hD) hS (lv_sub hl [0, 1, 2, 3, 4, 5, 6] rfl)
  · refine lv_istore (lv' := [(4, .int 0), (0, .ref h0), (1, .int (nI je)), (2, .int (nI jt)), (3, .int su)]) hx hb gX12_knewBy_0.2.2.1 hl (by decide) rfl (fun ls hl => ?_)
    refine lv_ldc hx hb hown (hB _ m_1204) gX12_knewBy_0.2.2.2.1 ?_
    refine lv_istore (lv' := [(5, .int 100000), (4, .int 0), (0, .ref h0), (1, .int (nI je)), (2, .int (nI jt)), (3, .int su)]) hx hb gX12_knewBy_0.2.2.2.2.1 hl (by decide) rfl (fun ls hl => ?_)
    refine lv_iconst (v := 0) hx hb gX12_knewBy_0.2.2.2.2.2.1 (by decide) ?_
    refine lv_istore (lv' := [(6, .int 0), (5, .int 100000), (4, .int 0), (0, .ref h0), (1, .int (nI je)), (2, .int (nI jt)), (3, .int su)]) hx hb gX12_knewBy_0.2.2.2.2.2.2.1 hl (by decide) rfl (fun ls hl => ?_)
    have hsl9 : 0 ≤ (shf fnw 12 (je * 2 + 1)).toInt ∧ (shf fnw 12 (je * 2 + 1)).toInt ≤ 48 := NI.slow hN (by omega)
    have keyP : ∀ (nP kP : Nat) (be : Int32) (vfh : Int32) (vth : Int32) (H : Heap) (locs : List Loc) (ls : Array Slot), kP + nP = kq → (LST9 (TCD (KST (shf fnw 104) (VSO fnw kq jw) (fnw 3).toInt k6) (shf fnw 104) (VSO fnw kq jw) (shf fnw 32) (shf fnw 12) k6 kP je su jt) 100000 be) → va_PD G A [(h0, oX12 nw nk mhasKept nt mtaped nr mrowMany mroundOf mroundFrom (nI jw) nm vfh vth ns mfrom mto msort misFault mdeep mcoded mlines nl nc nF np ntr nb mbestCost nso nsi nit nsh nsf nss nrc mtraced mdealer mnumber mwhose msize misParted), (nw, iA G 1662 fnw), (nm, iA G 36 gnm8124)] H → va_S A s.heap H locs → lv_has ls 7 [(6, .int (nI kP)), (5, .int be), (4, .int 0), (0, .ref h0), (1, .int (nI je)), (2, .int (nI jt)), (3, .int su)] → W p l e (RM 5 0 0) s m ([.ref h0, .int (nI je), .int (nI jt), .int su] : List Value).toArray below meth c H locs 0 0 Q0 (F0 m 13 ls []) := by
      intro nP
      induction nP with
      | zero =>
        intro kP be vfh vth H locs ls hkP hle hPD hS hl
        refine Kan2 hPD (fun hP hD => ?_)
        obtain rfl : kq = kP := by omega
        have hl : lv_has ls 7 [(6, .int (nI kq)), (5, .int be), (4, .int 0), (0, .ref h0), (1, .int (nI je)), (2, .int (nI jt)), (3, .int su)] := hl
        refine lv_iload hx hb gX12_knewBy_0.2.2.2.2.2.2.2.1 (lv_at0 hl) ?_
        refine lv_aload_n hx hb gX12_knewBy_0.2.2.2.2.2.2.2.2.1 rfl (lv_at3 hl) ?_
        refine gf_X12_9 hC rfl hK hP 0 rfl rfl gX12_knewBy_0.2.2.2.2.2.2.2.2.2 ?_
        refine lv_iconst (v := 5) hx hb gX12_knewBy_1.1 (by decide) ?_
        refine ald hC hK hP 1 rfl (vin (by decide +kernel)) (k := 5) (by decide +kernel) (v := nI kq) (ekq) gX12_knewBy_1.2.1 ?_
        refine lv_icmp_ge (tgt := 78) hx hb gX12_knewBy_1.2.2.1 (by decide) (fun _ => ?_) (fun c9 => absurd (Int32.le_refl _) c9)
        refine lv_iload hx hb gX12_knewBy_3.2.2.2.2.2.2.2.2.1 (lv_at1 hl) ?_
        refine toQ hQ0 ?_
        exact RI (v := be) hC hP hD hS [0, 1, 2] (vfh, vth, gnm8124) rfl rfl (by decide) (⟨⟨_, LST9.tof hle, rfl⟩, by first | assumption | exact hM⟩) rfl gX12_knewBy_3.2.2.2.2.2.2.2.2.2
      | succ nP ihP =>
        intro kP be vfh vth H locs ls hkP hle hPD hS hl
        refine Kan2 hPD (fun hP hD => ?_)
        refine lv_iload hx hb gX12_knewBy_0.2.2.2.2.2.2.2.1 (lv_at0 hl) ?_
        refine lv_aload_n hx hb gX12_knewBy_0.2.2.2.2.2.2.2.2.1 rfl (lv_at3 hl) ?_
        refine gf_X12_9 hC rfl hK hP 0 rfl rfl gX12_knewBy_0.2.2.2.2.2.2.2.2.2 ?_
        refine lv_iconst (v := 5) hx hb gX12_knewBy_1.1 (by decide) ?_
        refine ald hC hK hP 1 rfl (vin (by decide +kernel)) (k := 5) (by decide +kernel) (v := nI kq) (ekq) gX12_knewBy_1.2.1 ?_
        refine lv_icmp_ge (tgt := 78) hx hb gX12_knewBy_1.2.2.1 (by decide) (fun c9 => absurd c9 (nI_ge (a := kP) (b := kq) (by omega) (by omega))) (fun _ => ?_)
        refine lv_aload_n hx hb gX12_knewBy_1.2.2.2.1 rfl (lv_at3 hl) ?_
        refine lv_iload hx hb gX12_knewBy_1.2.2.2.2.1 (lv_at0 hl) ?_
        refine lv_iconst (v := 2) hx hb gX12_knewBy_1.2.2.2.2.2.1 (by decide) ?_
        refine pV hC hK hl hP hD (m_paper l G h0 kP 2 nw nk mhasKept nt mtaped nr mrowMany mroundOf mroundFrom (nI jw) nm vfh vth ns mfrom mto msort misFault mdeep mcoded mlines nl nc nF np ntr nb mbestCost nso nsi nit nsh nsf nss nrc mtraced mdealer mnumber mwhose msize misParted fnw (by omega) (by omega)) si_X12_88 [0, 1] sm_0_1 fm_0_1 nd_0_1 rfl rfl rfl rfl rfl (Nat.le_of_ble_eq_true rfl) rm_5_1_3 ⟨by first | exact Nat.le_of_ble_eq_true rfl | exact Nat.zero_le _, by first | exact Nat.le_of_ble_eq_true rfl | exact Nat.zero_le _⟩ gX12_knewBy_1.2.2.2.2.2.2.1 (Keqr ?_)
        refine lv_iload_n hx hb gX12_knewBy_1.2.2.2.2.2.2.2.1 rfl (lv_at5 hl) ?_
        refine pS hC hK hl (m_has l G (fnw (32 + 6 * kP + 2)) (nI jt)) si_X12_99 rfl rfl (Nat.le_of_ble_eq_true rfl) rm_5_1_2 ⟨by first | exact Nat.le_of_ble_eq_true rfl | exact Nat.zero_le _, by first | exact Nat.le_of_ble_eq_true rfl | exact Nat.zero_le _⟩ gX12_knewBy_1.2.2.2.2.2.2.2.2.1 (Kors (Keqa fun a8136 => ?_) (Keqa fun a8136 => ?_))
        · refine lv_if_eq (tgt := 72) hx hb gX12_knewBy_1.2.2.2.2.2.2.2.2.2 (by decide) (fun c9 => absurd c9 (by decide)) (fun _ => ?_)
          refine lv_aload_n hx hb gX12_knewBy_2.1 rfl (lv_at3 hl) ?_
          refine lv_iload hx hb gX12_knewBy_2.2.1 (lv_at0 hl) ?_
          refine lv_iload_n hx hb gX12_knewBy_2.2.2.1 rfl (lv_at4 hl) ?_
          refine lv_iload hx hb gX12_knewBy_2.2.2.2.1 (lv_at2 hl) ?_
          refine iV (wr := []) hC hK hl hP hD hS hA (m_inHandLO l G kq k6 h0 kP je nw nk mhasKept nt mtaped nr mrowMany mroundOf mroundFrom jw nm vfh vth ns mfrom mto msort misFault mdeep mcoded mlines nl nc nF np ntr nb mbestCost nso nsi nit nsh nsf nss nrc mtraced mdealer mnumber mwhose msize misParted fnw gnm8124 (hN) (e6) (hk6) (ekq) (by omega) (hkq) (hje) (hjw)) si_X12_171 [0, 1, 2] [] sm_0_1_2 fm_0_1_2 nd_0_1_2 rfl rfl (by decide) rfl rfl rfl rfl rfl (Nat.le_of_ble_eq_true rfl) rm_5_4_4 ⟨Nat.le_of_ble_eq_true rfl, Nat.le_of_ble_eq_true rfl⟩ gX12_knewBy_2.2.2.2.2.1 (fun r8137 => Ktu2 fun fh18139 th18140 => ?_)
          intro H locs hr8137 hP hD hS
          try dsimp only at hr8137
          refine Kpdr (ws := [(h0, oX12 nw nk mhasKept nt mtaped nr mrowMany mroundOf mroundFrom (nI jw) nm fh18139 th18140 ns mfrom mto msort misFault mdeep mcoded mlines nl nc nF np ntr nb mbestCost nso nsi nit nsh nsf nss nrc mtraced mdealer mnumber mwhose msize misParted), (nw, iA G 1662 fnw), (nm, iA G 36 gnm8124)]) hP hD (fun hP hD => ?_)
          rcases hr8137 with ⟨rfl, a8141⟩ | ⟨rfl, a8141⟩
          · refine lv_if_eq (tgt := 72) hx hb gX12_knewBy_2.2.2.2.2.2.1 (by decide) (fun c9 => absurd c9 (by decide)) (fun _ => ?_)
            refine lv_iload hx hb gX12_knewBy_2.2.2.2.2.2.2.1 (lv_at1 hl) ?_
            refine lv_iload_n hx hb gX12_knewBy_2.2.2.2.2.2.2.2.1 rfl (lv_at6 hl) ?_
            refine lv_if_eq (tgt := 63) hx hb gX12_knewBy_2.2.2.2.2.2.2.2.2.1 (by decide) (fun c_53_8142 => ?_) (fun c_53_8142 => ?_)
            · refine lv_aload_n hx hb gX12_knewBy_3.2.2.1 rfl (lv_at3 hl) ?_
              refine gf_X12_161 hC rfl hK hP 0 rfl rfl gX12_knewBy_3.2.2.2.1 ?_
              refine va_mmin hx hb (hml.trans hl.1.symm) hown (hB _ m_1165) (hB _ m_373) (hB _ m_105) (hB _ m_374) (Nat.le_of_ble_eq_true rfl) (Nat.le_of_ble_eq_true rfl) (by first | exact Nat.le_of_ble_eq_true rfl | exact Nat.zero_le _)  (by first | exact Nat.le_of_ble_eq_true rfl | exact Nat.zero_le _) gX12_knewBy_3.2.2.2.2.1 ?_
              refine eqi (x1 := IMN be fh18139) (rfl) ?_
              refine lv_istore (lv' := [(5, .int (IMN be fh18139)), (6, .int (nI kP)), (4, .int 0), (0, .ref h0), (1, .int (nI je)), (2, .int (nI jt)), (3, .int su)]) hx hb gX12_knewBy_3.2.2.2.2.2.1 hl (by decide) rfl (fun ls hl => ?_)
              refine lv_iinc (v := nI (kP + 1)) (lv' := [(6, .int (nI (kP + 1))), (5, .int (IMN be fh18139)), (4, .int 0), (0, .ref h0), (1, .int (nI je)), (2, .int (nI jt)), (3, .int su)]) hx hb gX12_knewBy_3.2.2.2.2.2.2.1 hl (k := 1) rfl (nI_1 _) (by decide) rfl (fun ls hl => ?_)
              refine lv_goto (tgt := 13) hx hb gX12_knewBy_3.2.2.2.2.2.2.2.1 (by decide) ?_
              have hst9 : LST9 (TCD (KST (shf fnw 104) (VSO fnw kq jw) (fnw 3).toInt k6) (shf fnw 104) (VSO fnw kq jw) (shf fnw 32) (shf fnw 12) k6 (kP + 1) je su jt) 100000 (IMN be fh18139) := hle.tk (SVL.ofm hN (by omega)) hsl9.1 hsl9.2 (by decide) (TC1.mk (THM.hb (by omega) a8136) (INQ.re (HIQ.rb (by omega) a8126 a8141)) (Or.inl ⟨c_53_8142, rfl⟩))
              exact ihP (kP + 1) (IMN be fh18139) fh18139 th18140 _ _ _ (by omega) (by first | assumption | exact Or.inl rfl | exact Or.inr rfl | exact LST9.zero) (And.intro hP hD) hS (lv_sub hl [0, 1, 2, 3, 4, 5, 6] rfl)
            · refine lv_aload_n hx hb gX12_knewBy_2.2.2.2.2.2.2.2.2.2 rfl (lv_at3 hl) ?_
              refine gf_X12_164 hC rfl hK hP 0 rfl rfl gX12_knewBy_3.1 ?_
              refine lv_goto (tgt := 67) hx hb gX12_knewBy_3.2.1 (by decide) ?_
              refine va_mmin hx hb (hml.trans hl.1.symm) hown (hB _ m_1165) (hB _ m_373) (hB _ m_105) (hB _ m_374) (Nat.le_of_ble_eq_true rfl) (Nat.le_of_ble_eq_true rfl) (by first | exact Nat.le_of_ble_eq_true rfl | exact Nat.zero_le _)  (by first | exact Nat.le_of_ble_eq_true rfl | exact Nat.zero_le _) gX12_knewBy_3.2.2.2.2.1 ?_
              refine eqi (x1 := IMN be th18140) (rfl) ?_
              refine lv_istore (lv' := [(5, .int (IMN be th18140)), (6, .int (nI kP)), (4, .int 0), (0, .ref h0), (1, .int (nI je)), (2, .int (nI jt)), (3, .int su)]) hx hb gX12_knewBy_3.2.2.2.2.2.1 hl (by decide) rfl (fun ls hl => ?_)
              refine lv_iinc (v := nI (kP + 1)) (lv' := [(6, .int (nI (kP + 1))), (5, .int (IMN be th18140)), (4, .int 0), (0, .ref h0), (1, .int (nI je)), (2, .int (nI jt)), (3, .int su)]) hx hb gX12_knewBy_3.2.2.2.2.2.2.1 hl (k := 1) rfl (nI_1 _) (by decide) rfl (fun ls hl => ?_)
              refine lv_goto (tgt := 13) hx hb gX12_knewBy_3.2.2.2.2.2.2.2.1 (by decide) ?_
              have hst9 : LST9 (TCD (KST (shf fnw 104) (VSO fnw kq jw) (fnw 3).toInt k6) (shf fnw 104) (VSO fnw kq jw) (shf fnw 32) (shf fnw 12) k6 (kP + 1) je su jt) 100000 (IMN be th18140) := hle.tk (SVL.ofm hN (by omega)) hsl9.1 hsl9.2 (by decide) (TC1.mk (THM.hb (by omega) a8136) (INQ.re (HIQ.rb (by omega) a8126 a8141)) (Or.inr ⟨c_53_8142, rfl⟩))
              exact ihP (kP + 1) (IMN be th18140) fh18139 th18140 _ _ _ (by omega) (by first | assumption | exact Or.inl rfl | exact Or.inr rfl | exact LST9.zero) (And.intro hP hD) hS (lv_sub hl [0, 1, 2, 3, 4, 5, 6] rfl)
          · refine lv_if_eq (tgt := 72) hx hb gX12_knewBy_2.2.2.2.2.2.1 (by decide) (fun _ => ?_) (fun c9 => absurd (by decide) c9)
            refine lv_iinc (v := nI (kP + 1)) (lv' := [(6, .int (nI (kP + 1))), (5, .int be), (4, .int 0), (0, .ref h0), (1, .int (nI je)), (2, .int (nI jt)), (3, .int su)]) hx hb gX12_knewBy_3.2.2.2.2.2.2.1 hl (k := 0) rfl (nI_1 _) (by decide) rfl (fun ls hl => ?_)
            refine lv_goto (tgt := 13) hx hb gX12_knewBy_3.2.2.2.2.2.2.2.1 (by decide) ?_
            have hst9 : LST9 (TCD (KST (shf fnw 104) (VSO fnw kq jw) (fnw 3).toInt k6) (shf fnw 104) (VSO fnw kq jw) (shf fnw 32) (shf fnw 12) k6 (kP + 1) je su jt) 100000 be := hle.sk (TC1.n2 (NIQ.rn (by rw [shf_pa, shf_pa]; exact a8141)))
            exact ihP (kP + 1) be fh18139 th18140 _ _ _ (by omega) (by first | assumption | exact Or.inl rfl | exact Or.inr rfl | exact LST9.zero) (And.intro hP hD) hS (lv_sub hl [0, 1, 2, 3, 4, 5, 6] rfl)
        · refine lv_if_eq (tgt := 72) hx hb gX12_knewBy_1.2.2.2.2.2.2.2.2.2 (by decide) (fun _ => ?_) (fun c9 => absurd (by decide) c9)
          refine lv_iinc (v := nI (kP + 1)) (lv' := [(6, .int (nI (kP + 1))), (5, .int be), (4, .int 0), (0, .ref h0), (1, .int (nI je)), (2, .int (nI jt)), (3, .int su)]) hx hb gX12_knewBy_3.2.2.2.2.2.2.1 hl (k := 0) rfl (nI_1 _) (by decide) rfl (fun ls hl => ?_)
          refine lv_goto (tgt := 13) hx hb gX12_knewBy_3.2.2.2.2.2.2.2.1 (by decide) ?_
          have hst9 : LST9 (TCD (KST (shf fnw 104) (VSO fnw kq jw) (fnw 3).toInt k6) (shf fnw 104) (VSO fnw kq jw) (shf fnw 32) (shf fnw 12) k6 (kP + 1) je su jt) 100000 be := hle.sk (TC1.n1 (THM.no a8136))
          exact ihP (kP + 1) be vfh vth _ _ _ (by omega) (by first | assumption | exact Or.inl rfl | exact Or.inr rfl | exact LST9.zero) (And.intro hP hD) hS (lv_sub hl [0, 1, 2, 3, 4, 5, 6] rfl)
    exact keyP kq 0 100000 mfromHour mtoHour _ _ _ (by omega) (by first | assumption | exact Or.inl rfl | exact Or.inr rfl | exact LST9.zero) (And.intro hP hD) hS (lv_sub hl [0, 1, 2, 3, 4, 5, 6] rfl)
def K_m_findShouldO (l : Launch) (G : GG) (kq : Nat) (k6 : Nat) (k7 : Nat) (VL : Nat → List LNT) (VC : Nat → Nat → List Int32) (DY : Nat → Int32) (h0 : Nat) (je : Nat) (nw : Nat) (nk : Nat) (mhasKept : Int32) (nt : Nat) (mtaped : Int32) (nr : Nat) (mrowMany : Int32) (mroundOf : Int32) (mroundFrom : Int32) (jw : Nat) (nm : Nat) (mfromHour : Int32) (mtoHour : Int32) (ns : Nat) (mfrom : Int32) (mto : Int32) (msort : Int32) (misFault : Int32) (mdeep : Int32) (mcoded : Int32) (mlines : Int32) (nl : Nat) (nc : Nat) (nF : Nat) (np : Nat) (ntr : Nat) (nb : Nat) (mbestCost : Int32) (nso : Nat) (nsi : Nat) (nit : Nat) (nsh : Nat) (nsf : Nat) (nss : Nat) (nrc : Nat) (mtraced : Int32) (mdealer : Int32) (mnumber : Int32) (mwhose : Int32) (msize : Int32) (misParted : Int32) (fnw : Nat → Int32) (fnm : Nat → Int32) (fns : Nat → Int32) (fnp : Nat → Int32) : Prop := MV l G yX12_findShould cX12_findShould 7 8 0 0 [.ref h0, .int (nI je)] [(h0, oX12 nw nk mhasKept nt mtaped nr mrowMany mroundOf mroundFrom (nI jw) nm mfromHour mtoHour ns mfrom mto msort misFault mdeep mcoded mlines nl nc nF np ntr nb mbestCost nso nsi nit nsh nsf nss nrc mtraced mdealer mnumber mwhose msize misParted), (nw, iA G 1662 fnw), (nm, iA G 36 fnm), (ns, iA G 8 fns), (np, iA G 100 fnp)] (fun u : Int32 × Int32 × (Nat → Int32) × (Nat → Int32) × (Nat → Int32) => MB u.2.2.1 ∧ ARS 100000 (SHF (KST (shf fnw 104) (VSO fnw kq jw) (fnw 3).toInt k6) (shf fnw 104) (VSO fnw kq jw) (shf fnw 32) (shf fnw 12) k6 kq je (LVF (LNF (RLO DY (DAYV (fnw 0) (fnw 1)) k7) VL) (TRF (RLO DY (DAYV (fnw 0) (fnw 1)) k7) VC (FAX (shf fnw 12) (shf fnw 32) (VSO fnw kq jw) kq je))) (LVN (RLO DY (DAYV (fnw 0) (fnw 1)) k7) VL)) u.2.2.2.1) (fun u : Int32 × Int32 × (Nat → Int32) × (Nat → Int32) × (Nat → Int32) => [(h0, oX12 nw nk mhasKept nt mtaped nr mrowMany mroundOf mroundFrom (nI jw) nm u.1 u.2.1 ns mfrom mto msort misFault mdeep mcoded mlines nl nc nF np ntr nb mbestCost nso nsi nit nsh nsf nss nrc mtraced mdealer mnumber mwhose msize misParted), (nw, iA G 1662 fnw), (nm, iA G 36 u.2.2.1), (ns, iA G 8 u.2.2.2.1), (np, iA G 100 u.2.2.2.2)])
set_option maxHeartbeats 4000000 in
set_option maxRecDepth 100000 in
theorem m_findShouldO (l : Launch) (G : GG) (kq : Nat) (k6 : Nat) (k7 : Nat) (VL : Nat → List LNT) (VC : Nat → Nat → List Int32) (DY : Nat → Int32) (h0 : Nat) (je : Nat) (nw : Nat) (nk : Nat) (mhasKept : Int32) (nt : Nat) (mtaped : Int32) (nr : Nat) (mrowMany : Int32) (mroundOf : Int32) (mroundFrom : Int32) (jw : Nat) (nm : Nat) (mfromHour : Int32) (mtoHour : Int32) (ns : Nat) (mfrom : Int32) (mto : Int32) (msort : Int32) (misFault : Int32) (mdeep : Int32) (mcoded : Int32) (mlines : Int32) (nl : Nat) (nc : Nat) (nF : Nat) (np : Nat) (ntr : Nat) (nb : Nat) (mbestCost : Int32) (nso : Nat) (nsi : Nat) (nit : Nat) (nsh : Nat) (nsf : Nat) (nss : Nat) (nrc : Nat) (mtraced : Int32) (mdealer : Int32) (mnumber : Int32) (mwhose : Int32) (msize : Int32) (misParted : Int32) (fnw : Nat → Int32) (fnm : Nat → Int32) (fns : Nat → Int32) (fnp : Nat → Int32) (hje : je < 10) (hV : VI fnw) (hM : MB fnm) (hN : NI fnw) (hgp : GPRm (fnw 3)) (ekq : fnw 5 = nI kq) (hkq : kq ≤ 12) (e6 : fnw 6 = nI k6) (hk6 : k6 ≤ 24) (ek7 : fnw 7 = nI k7) (hk7 : k7 ≤ 8) (hVM : VMZ fnw k7 VL VC DY) (hjw : jw < 4096) : K_m_findShouldO l G kq k6 k7 VL VC DY h0 je nw nk mhasKept nt mtaped nr mrowMany mroundOf mroundFrom jw nm mfromHour mtoHour ns mfrom mto msort misFault mdeep mcoded mlines nl nc nF np ntr nb mbestCost nso nsi nit nsh nsf nss nrc mtraced mdealer mnumber mwhose msize misParted fnw fnm fns fnp := by
  refine MV.start (by decide +kernel) (Nat.le_of_ble_eq_true rfl) ?_
  intro p e s m below meth c A ls hC hK hP hD hS hA hl
  refine absQ (fun Q0 hQ0 => ?_)
  have hl : lv_has ls 7 [(0, .ref h0), (1, .int (nI je))] := hl
  refine Kan8 hC (fun hx hb hr hml hB hown hlocks hnm => ?_)
  refine lv_iconst (v := 0) hx hb gX12_findShould_0.1 (by decide) ?_
  refine lv_istore_n (lv' := [(2, .int 0), (0, .ref h0), (1, .int (nI je))]) hx hb gX12_findShould_0.2.1 rfl hl (by decide) rfl (fun ls hl => ?_)
  have hsl9 : 0 ≤ (shf fnw 12 (je * 2 + 1)).toInt ∧ (shf fnw 12 (je * 2 + 1)).toInt ≤ 48 := NI.slow hN (by omega)
  have hb09 : HBD (S0F (KST (shf fnw 104) (VSO fnw kq jw) (fnw 3).toInt k6) (shf fnw 104) (VSO fnw kq jw) (shf fnw 32) (shf fnw 12) k6 kq je) := S0F.hbd (SVL.ofm hN (by omega)) hsl9.1 hsl9.2
  have keyA : ∀ (nA kA : Nat) (vfh : Int32) (vth : Int32) (vA : Nat → Int32) (vS : Nat → Int32) (H : Heap) (locs : List Loc) (ls : Array Slot), kA + nA = 8 → (MB vA) → (TDP 100000 (S0F (KST (shf fnw 104) (VSO fnw kq jw) (fnw 3).toInt k6) (shf fnw 104) (VSO fnw kq jw) (shf fnw 32) (shf fnw 12) k6 kq je) vS kA) → va_PD G A [(h0, oX12 nw nk mhasKept nt mtaped nr mrowMany mroundOf mroundFrom (nI jw) nm vfh vth ns mfrom mto msort misFault mdeep mcoded mlines nl nc nF np ntr nb mbestCost nso nsi nit nsh nsf nss nrc mtraced mdealer mnumber mwhose msize misParted), (nw, iA G 1662 fnw), (nm, iA G 36 vA), (ns, iA G 8 vS), (np, iA G 100 fnp)] H → va_S A s.heap H locs → lv_has ls 7 [(2, .int (nI kA)), (0, .ref h0), (1, .int (nI je))] → W p l e (RM 8 0 0) s m ([.ref h0, .int (nI je)] : List Value).toArray below meth c H locs 0 0 Q0 (F0 m 2 ls []) := by
    intro nA
    induction nA with
    | zero =>
      intro kA vfh vth vA vS H locs ls hkA hvA htd hPD hS hl
      refine Kan2 hPD (fun hP hD => ?_)
      obtain rfl : 8 = kA := by omega
      have hl : lv_has ls 7 [(2, .int 8), (0, .ref h0), (1, .int (nI je))] := hl
      refine lv_iload_n hx hb gX12_findShould_0.2.2.1 rfl (lv_at0 hl) ?_
      refine lv_bipush (v := 8) hx hb gX12_findShould_0.2.2.2.1 (by decide) ?_
      refine lv_icmp_ge (tgt := 27) hx hb gX12_findShould_0.2.2.2.2.1 (by decide) (fun _ => ?_) (fun c9 => absurd (by decide) c9)
      refine lv_aload_n hx hb gX12_findShould_1.2.2.2.2.2.2.1 rfl (lv_at1 hl) ?_
      have hdy9 : ∀ v9, v9 < k7 → fnw (176 + 156 * v9 + 0) = DY v9 := fun v9 h9 => (hVM v9 h9).1
      refine pV hC hK hl hP hD (m_rulesX l G k7 DY h0 nw nk mhasKept nt mtaped nr mrowMany mroundOf mroundFrom (nI jw) nm vfh vth ns mfrom mto msort misFault mdeep mcoded mlines nl nc nF np ntr nb mbestCost nso nsi nit nsh nsf nss nrc mtraced mdealer mnumber mwhose msize misParted fnw (hN) (ek7) (hk7) (hdy9)) si_X12_180 [0, 1] sm_0_1 fm_0_1 nd_0_1 rfl rfl rfl rfl rfl (Nat.le_of_ble_eq_true rfl) rm_8_2_3 ⟨by first | exact Nat.le_of_ble_eq_true rfl | exact Nat.zero_le _, by first | exact Nat.le_of_ble_eq_true rfl | exact Nat.zero_le _⟩ gX12_findShould_1.2.2.2.2.2.2.2.1 (Keqr ?_)
      obtain ⟨o9, eo9⟩ : ∃ z9, z9 = (RLO DY (DAYV (fnw 0) (fnw 1)) k7) := ⟨_, rfl⟩
      rcases o9 with _ | v9
      · refine eqi (x1 := (-1)) (congrArg LAT eo9.symm) ?_
        refine lv_istore_n (lv' := [(2, .int (-1)), (0, .ref h0), (1, .int (nI je))]) hx hb gX12_findShould_1.2.2.2.2.2.2.2.2.1 rfl hl (by decide) rfl (fun ls hl => ?_)
        refine lv_iload_n hx hb gX12_findShould_1.2.2.2.2.2.2.2.2.2 rfl (lv_at0 hl) ?_
        refine lv_if_lt (tgt := 40) hx hb gX12_findShould_2.1 (by decide) (fun _ => ?_) (fun c9 => absurd (by decide) c9)
        refine lv_iconst (v := 0) hx hb gX12_findShould_2.2.2.2.1 (by decide) ?_
        refine lv_istore_n (lv' := [(3, .int 0), (2, .int (-1)), (0, .ref h0), (1, .int (nI je))]) hx hb gX12_findShould_2.2.2.2.2.1 rfl hl (by decide) rfl (fun ls hl => ?_)
        refine lv_iload_n hx hb gX12_findShould_2.2.2.2.2.2.1 rfl (lv_at0 hl) ?_
        refine lv_if_eq (tgt := 112) hx hb gX12_findShould_2.2.2.2.2.2.2.1 (by decide) (fun _ => ?_) (fun c9 => absurd (by decide) c9)
        refine toQ hQ0 ?_
        exact RV hC hP hD hS [0, 1, 2, 3, 4] (vfh, vth, vA, vS, fnp) rfl rfl (by decide) (⟨by first | assumption | exact hM, (by unfold SHF; exact PIT.end0 (by rw [← eo9]; rfl) htd)⟩) gX12_findShould_6.2.2.2
      · have hv9 := LTS.lt _ _ eo9.symm
        obtain ⟨ed9, hl9, eb9, hrow9⟩ := hVM v9 hv9
        obtain ⟨n9, hn9⟩ : ∃ z9, z9 = (VL v9).length := ⟨_, rfl⟩
        rw [← hn9] at hl9 eb9 hrow9
        obtain ⟨L8, hL8, eL8, hLN8⟩ := VI.line hV (v := v9) (by omega)
        obtain rfl : L8 = n9 := (nI_eq (by omega) (by omega)).mp (eL8.symm.trans eb9)
        have hlb9 : ∀ i, i < L8 → LVB ((LVF (LNF (RLO DY (DAYV (fnw 0) (fnw 1)) k7) VL) (TRF (RLO DY (DAYV (fnw 0) (fnw 1)) k7) VC (FAX (shf fnw 12) (shf fnw 32) (VSO fnw kq jw) kq je))) i) := fun i hi => by rw [← eo9]; exact LVX.b (hrow9 i hi).1
        refine eqi (x1 := nI v9) (congrArg LAT eo9.symm) ?_
        refine lv_istore_n (lv' := [(2, .int (nI v9)), (0, .ref h0), (1, .int (nI je))]) hx hb gX12_findShould_1.2.2.2.2.2.2.2.2.1 rfl hl (by decide) rfl (fun ls hl => ?_)
        refine lv_iload_n hx hb gX12_findShould_1.2.2.2.2.2.2.2.2.2 rfl (lv_at0 hl) ?_
        refine lv_if_lt (tgt := 40) hx hb gX12_findShould_2.1 (by decide) (fun c9 => absurd c9 (nI_pos (by omega))) (fun _ => ?_)
        refine lv_iconst (v := 1) hx hb gX12_findShould_2.2.1 (by decide) ?_
        refine lv_goto (tgt := 41) hx hb gX12_findShould_2.2.2.1 (by decide) ?_
        refine lv_istore_n (lv' := [(3, .int 1), (2, .int (nI v9)), (0, .ref h0), (1, .int (nI je))]) hx hb gX12_findShould_2.2.2.2.2.1 rfl hl (by decide) rfl (fun ls hl => ?_)
        have keyW : ∀ (nW : Nat) (eaW : Int32) (w0 : Nat → Int32) (w1 : Nat → Int32) (H : Heap) (locs : List Loc) (ls : Array Slot), ((eaW = 0 ∨ (eaW = 1 ∧ mu w0 < nW)) ∧ ∃ jj, ARS 100000 (PIT (LVF (LNF (RLO DY (DAYV (fnw 0) (fnw 1)) k7) VL) (TRF (RLO DY (DAYV (fnw 0) (fnw 1)) k7) VC (FAX (shf fnw 12) (shf fnw 32) (VSO fnw kq jw) kq je))) L8 jj (S0F (KST (shf fnw 104) (VSO fnw kq jw) (fnw 3).toInt k6) (shf fnw 104) (VSO fnw kq jw) (shf fnw 32) (shf fnw 12) k6 kq je)) w0 ∧ (eaW = 0 → PSS (LVF (LNF (RLO DY (DAYV (fnw 0) (fnw 1)) k7) VL) (TRF (RLO DY (DAYV (fnw 0) (fnw 1)) k7) VC (FAX (shf fnw 12) (shf fnw 32) (VSO fnw kq jw) kq je))) L8 (PIT (LVF (LNF (RLO DY (DAYV (fnw 0) (fnw 1)) k7) VL) (TRF (RLO DY (DAYV (fnw 0) (fnw 1)) k7) VC (FAX (shf fnw 12) (shf fnw 32) (VSO fnw kq jw) kq je))) L8 jj (S0F (KST (shf fnw 104) (VSO fnw kq jw) (fnw 3).toInt k6) (shf fnw 104) (VSO fnw kq jw) (shf fnw 32) (shf fnw 12) k6 kq je)) = PIT (LVF (LNF (RLO DY (DAYV (fnw 0) (fnw 1)) k7) VL) (TRF (RLO DY (DAYV (fnw 0) (fnw 1)) k7) VC (FAX (shf fnw 12) (shf fnw 32) (VSO fnw kq jw) kq je))) L8 jj (S0F (KST (shf fnw 104) (VSO fnw kq jw) (fnw 3).toInt k6) (shf fnw 104) (VSO fnw kq jw) (shf fnw 32) (shf fnw 12) k6 kq je))) → va_PD G A [(h0, oX12 nw nk mhasKept nt mtaped nr mrowMany mroundOf mroundFrom (nI jw) nm vfh vth ns mfrom mto msort misFault mdeep mcoded mlines nl nc nF np ntr nb mbestCost nso nsi nit nsh nsf nss nrc mtraced mdealer mnumber mwhose msize misParted), (nw, iA G 1662 fnw), (nm, iA G 36 vA), (ns, iA G 8 w0), (np, iA G 100 w1)] H → va_S A s.heap H locs → lv_has ls 7 [(3, .int eaW), (2, .int (nI v9)), (0, .ref h0), (1, .int (nI je))] → W p l e (RM 8 0 0) s m ([.ref h0, .int (nI je)] : List Value).toArray below meth c H locs 0 0 Q0 (F0 m 42 ls []) := by
          intro nW
          induction nW with
          | zero =>
            intro eaW w0 w1 H locs ls hWW hPD hS hl
            refine Kan2 hPD (fun hP hD => ?_)
            obtain rfl : eaW = 0 := hWW.1.elim (fun h => h) (fun h => absurd h.2 (Nat.not_lt_zero _)); obtain ⟨-, jj, hj1, hj2⟩ := hWW
            refine lv_iload_n hx hb gX12_findShould_2.2.2.2.2.2.1 rfl (lv_at0 hl) ?_
            refine lv_if_eq (tgt := 112) hx hb gX12_findShould_2.2.2.2.2.2.2.1 (by decide) (fun _ => ?_) (fun c9 => absurd (by decide) c9)
            refine toQ hQ0 ?_
            exact RV hC hP hD hS [0, 1, 2, 3, 4] (vfh, vth, vA, w0, w1) rfl rfl (by decide) (⟨by first | assumption | exact hM, (by unfold SHF; rw [show LVN (RLO DY (DAYV (fnw 0) (fnw 1)) k7) VL = L8 from (congrArg (fun z9 => LVN z9 VL) eo9.symm).trans hn9.symm]; exact PIT.end9 hlb9 hj1 (hj2 rfl))⟩) gX12_findShould_6.2.2.2
          | succ nW ihW =>
            intro eaW w0 w1 H locs ls hWW hPD hS hl
            refine Kan2 hPD (fun hP hD => ?_)
            obtain ⟨hWW, jj, hj1, hj2⟩ := hWW; rcases hWW with rfl | ⟨rfl, hWW⟩
            · refine lv_iload_n hx hb gX12_findShould_2.2.2.2.2.2.1 rfl (lv_at0 hl) ?_
              refine lv_if_eq (tgt := 112) hx hb gX12_findShould_2.2.2.2.2.2.2.1 (by decide) (fun _ => ?_) (fun c9 => absurd (by decide) c9)
              refine toQ hQ0 ?_
              exact RV hC hP hD hS [0, 1, 2, 3, 4] (vfh, vth, vA, w0, w1) rfl rfl (by decide) (⟨by first | assumption | exact hM, (by unfold SHF; rw [show LVN (RLO DY (DAYV (fnw 0) (fnw 1)) k7) VL = L8 from (congrArg (fun z9 => LVN z9 VL) eo9.symm).trans hn9.symm]; exact PIT.end9 hlb9 hj1 (hj2 rfl))⟩) gX12_findShould_6.2.2.2
            · refine lv_iload_n hx hb gX12_findShould_2.2.2.2.2.2.1 rfl (lv_at0 hl) ?_
              refine lv_if_eq (tgt := 112) hx hb gX12_findShould_2.2.2.2.2.2.2.1 (by decide) (fun c9 => absurd c9 (by decide)) (fun _ => ?_)
              refine lv_iconst (v := 0) hx hb gX12_findShould_2.2.2.2.2.2.2.2.1 (by decide) ?_
              refine lv_istore_n (lv' := [(3, .int 0), (2, .int (nI v9)), (0, .ref h0), (1, .int (nI je))]) hx hb gX12_findShould_2.2.2.2.2.2.2.2.2.1 rfl hl (by decide) rfl (fun ls hl => ?_)
              refine lv_iconst (v := 0) hx hb gX12_findShould_2.2.2.2.2.2.2.2.2.2 (by decide) ?_
              refine lv_istore (lv' := [(4, .int 0), (3, .int 0), (2, .int (nI v9)), (0, .ref h0), (1, .int (nI je))]) hx hb gX12_findShould_3.1 hl (by decide) rfl (fun ls hl => ?_)
              have hbj9 : HBD (PIT (LVF (LNF (RLO DY (DAYV (fnw 0) (fnw 1)) k7) VL) (TRF (RLO DY (DAYV (fnw 0) (fnw 1)) k7) VC (FAX (shf fnw 12) (shf fnw 32) (VSO fnw kq jw) kq je))) L8 jj (S0F (KST (shf fnw 104) (VSO fnw kq jw) (fnw 3).toInt k6) (shf fnw 104) (VSO fnw kq jw) (shf fnw 32) (shf fnw 12) k6 kq je)) := HBD.pit hb09 hlb9 jj
              have keyQ : ∀ (nQ kQ : Nat) (ea : Int32) (vQ : Nat → Int32) (vR : Nat → Int32) (H : Heap) (locs : List Loc) (ls : Array Slot), kQ + nQ = L8 → ((ea = 0 ∧ mu vQ ≤ mu w0) ∨ (ea = 1 ∧ mu vQ < mu w0)) → (ARS 100000 (PSS (LVF (LNF (RLO DY (DAYV (fnw 0) (fnw 1)) k7) VL) (TRF (RLO DY (DAYV (fnw 0) (fnw 1)) k7) VC (FAX (shf fnw 12) (shf fnw 32) (VSO fnw kq jw) kq je))) kQ (PIT (LVF (LNF (RLO DY (DAYV (fnw 0) (fnw 1)) k7) VL) (TRF (RLO DY (DAYV (fnw 0) (fnw 1)) k7) VC (FAX (shf fnw 12) (shf fnw 32) (VSO fnw kq jw) kq je))) L8 jj (S0F (KST (shf fnw 104) (VSO fnw kq jw) (fnw 3).toInt k6) (shf fnw 104) (VSO fnw kq jw) (shf fnw 32) (shf fnw 12) k6 kq je))) vQ) → ((ea = 0 ∧ PSS (LVF (LNF (RLO DY (DAYV (fnw 0) (fnw 1)) k7) VL) (TRF (RLO DY (DAYV (fnw 0) (fnw 1)) k7) VC (FAX (shf fnw 12) (shf fnw 32) (VSO fnw kq jw) kq je))) kQ (PIT (LVF (LNF (RLO DY (DAYV (fnw 0) (fnw 1)) k7) VL) (TRF (RLO DY (DAYV (fnw 0) (fnw 1)) k7) VC (FAX (shf fnw 12) (shf fnw 32) (VSO fnw kq jw) kq je))) L8 jj (S0F (KST (shf fnw 104) (VSO fnw kq jw) (fnw 3).toInt k6) (shf fnw 104) (VSO fnw kq jw) (shf fnw 32) (shf fnw 12) k6 kq je)) = PIT (LVF (LNF (RLO DY (DAYV (fnw 0) (fnw 1)) k7) VL) (TRF (RLO DY (DAYV (fnw 0) (fnw 1)) k7) VC (FAX (shf fnw 12) (shf fnw 32) (VSO fnw kq jw) kq je))) L8 jj (S0F (KST (shf fnw 104) (VSO fnw kq jw) (fnw 3).toInt k6) (shf fnw 104) (VSO fnw kq jw) (shf fnw 32) (shf fnw 12) k6 kq je)) ∨ ea = 1) → va_PD G A [(h0, oX12 nw nk mhasKept nt mtaped nr mrowMany mroundOf mroundFrom (nI jw) nm vfh vth ns mfrom mto msort misFault mdeep mcoded mlines nl nc nF np ntr nb mbestCost nso nsi nit nsh nsf nss nrc mtraced mdealer mnumber mwhose msize misParted), (nw, iA G 1662 fnw), (nm, iA G 36 vA), (ns, iA G 8 vQ), (np, iA G 100 vR)] H → va_S A s.heap H locs → lv_has ls 7 [(4, .int (nI kQ)), (3, .int ea), (2, .int (nI v9)), (0, .ref h0), (1, .int (nI je))] → W p l e (RM 8 0 0) s m ([.ref h0, .int (nI je)] : List Value).toArray below meth c H locs 0 0 Q0 (F0 m 51 ls []) := by
                intro nQ
                induction nQ with
                | zero =>
                  intro kQ ea vQ vR H locs ls hkQ hQ hsv hch hPD hS hl
                  refine Kan2 hPD (fun hP hD => ?_)
                  obtain rfl : L8 = kQ := by omega
                  have hl : lv_has ls 7 [(4, .int (nI L8)), (3, .int ea), (2, .int (nI v9)), (0, .ref h0), (1, .int (nI je))] := hl
                  refine lv_iload hx hb gX12_findShould_3.2.1 (lv_at0 hl) ?_
                  refine lv_aload_n hx hb gX12_findShould_3.2.2.1 rfl (lv_at3 hl) ?_
                  refine lv_iload_n hx hb gX12_findShould_3.2.2.2.1 rfl (lv_at2 hl) ?_
                  refine pV hC hK hl hP hD (m_lines l G L8 h0 v9 nw nk mhasKept nt mtaped nr mrowMany mroundOf mroundFrom (nI jw) nm vfh vth ns mfrom mto msort misFault mdeep mcoded mlines nl nc nF np ntr nb mbestCost nso nsi nit nsh nsf nss nrc mtraced mdealer mnumber mwhose msize misParted fnw (by omega) (eL8)) si_X12_183 [0, 1] sm_0_1 fm_0_1 nd_0_1 rfl rfl rfl rfl rfl (Nat.le_of_ble_eq_true rfl) rm_8_1_2 ⟨by first | exact Nat.le_of_ble_eq_true rfl | exact Nat.zero_le _, by first | exact Nat.le_of_ble_eq_true rfl | exact Nat.zero_le _⟩ gX12_findShould_3.2.2.2.2.1 (Keqr ?_)
                  refine lv_icmp_ge (tgt := 109) hx hb gX12_findShould_3.2.2.2.2.2.1 (by decide) (fun _ => ?_) (fun c9 => absurd (Int32.le_refl _) c9)
                  refine lv_goto (tgt := 42) hx hb gX12_findShould_6.2.2.1 (by decide) ?_
                  exact ihW ea vQ vR _ _ _ (⟨hQ.elim (fun h => Or.inl h.1) (fun h => Or.inr ⟨h.1, by have := h.2; omega⟩), jj + 1, hsv, fun h9 => PIT.sx (hch.elim (fun h8 => h8.2) (fun h8 => absurd (h8.symm.trans h9) (by decide)))⟩) (And.intro hP hD) hS (lv_sub hl [1, 2, 3, 4] rfl)
                | succ nQ ihQ =>
                  intro kQ ea vQ vR H locs ls hkQ hQ hsv hch hPD hS hl
                  refine Kan2 hPD (fun hP hD => ?_)
                  refine lv_iload hx hb gX12_findShould_3.2.1 (lv_at0 hl) ?_
                  refine lv_aload_n hx hb gX12_findShould_3.2.2.1 rfl (lv_at3 hl) ?_
                  refine lv_iload_n hx hb gX12_findShould_3.2.2.2.1 rfl (lv_at2 hl) ?_
                  refine pV hC hK hl hP hD (m_lines l G L8 h0 v9 nw nk mhasKept nt mtaped nr mrowMany mroundOf mroundFrom (nI jw) nm vfh vth ns mfrom mto msort misFault mdeep mcoded mlines nl nc nF np ntr nb mbestCost nso nsi nit nsh nsf nss nrc mtraced mdealer mnumber mwhose msize misParted fnw (by omega) (eL8)) si_X12_183 [0, 1] sm_0_1 fm_0_1 nd_0_1 rfl rfl rfl rfl rfl (Nat.le_of_ble_eq_true rfl) rm_8_1_2 ⟨by first | exact Nat.le_of_ble_eq_true rfl | exact Nat.zero_le _, by first | exact Nat.le_of_ble_eq_true rfl | exact Nat.zero_le _⟩ gX12_findShould_3.2.2.2.2.1 (Keqr ?_)
                  refine lv_icmp_ge (tgt := 109) hx hb gX12_findShould_3.2.2.2.2.2.1 (by decide) (fun c9 => absurd c9 (nI_ge (a := kQ) (b := L8) (by omega) (by omega))) (fun _ => ?_)
                  have hln9 := hLN8 kQ (by omega)
                  have hlz9 := hrow9 kQ (by omega)
                  have hbq9 : HBD (PSS (LVF (LNF (RLO DY (DAYV (fnw 0) (fnw 1)) k7) VL) (TRF (RLO DY (DAYV (fnw 0) (fnw 1)) k7) VC (FAX (shf fnw 12) (shf fnw 32) (VSO fnw kq jw) kq je))) kQ (PIT (LVF (LNF (RLO DY (DAYV (fnw 0) (fnw 1)) k7) VL) (TRF (RLO DY (DAYV (fnw 0) (fnw 1)) k7) VC (FAX (shf fnw 12) (shf fnw 32) (VSO fnw kq jw) kq je))) L8 jj (S0F (KST (shf fnw 104) (VSO fnw kq jw) (fnw 3).toInt k6) (shf fnw 104) (VSO fnw kq jw) (shf fnw 32) (shf fnw 12) k6 kq je))) := HBD.pss hbj9 hlb9 kQ (by omega)
                  refine lv_aload_n hx hb gX12_findShould_3.2.2.2.2.2.2.1 rfl (lv_at3 hl) ?_
                  refine lv_iload_n hx hb gX12_findShould_3.2.2.2.2.2.2.2.1 rfl (lv_at2 hl) ?_
                  refine lv_iload hx hb gX12_findShould_3.2.2.2.2.2.2.2.2.1 (lv_at0 hl) ?_
                  refine lv_iload_n hx hb gX12_findShould_3.2.2.2.2.2.2.2.2.2 rfl (lv_at4 hl) ?_
                  refine iV (wr := [(nm, iA G 36 vA)]) hC hK hl hP hD hS hA (m_fromLineO l G kq ((VL v9).getD kQ LN0) (VC v9 kQ) (PSS (LVF (LNF (RLO DY (DAYV (fnw 0) (fnw 1)) k7) VL) (TRF (RLO DY (DAYV (fnw 0) (fnw 1)) k7) VC (FAX (shf fnw 12) (shf fnw 32) (VSO fnw kq jw) kq je))) kQ (PIT (LVF (LNF (RLO DY (DAYV (fnw 0) (fnw 1)) k7) VL) (TRF (RLO DY (DAYV (fnw 0) (fnw 1)) k7) VC (FAX (shf fnw 12) (shf fnw 32) (VSO fnw kq jw) kq je))) L8 jj (S0F (KST (shf fnw 104) (VSO fnw kq jw) (fnw 3).toInt k6) (shf fnw 104) (VSO fnw kq jw) (shf fnw 32) (shf fnw 12) k6 kq je))) h0 v9 kQ je nw nk mhasKept nt mtaped nr mrowMany mroundOf mroundFrom jw nm vfh vth ns mfrom mto msort misFault mdeep mcoded mlines nl nc nF np ntr nb mbestCost nso nsi nit nsh nsf nss nrc mtraced mdealer mnumber mwhose msize misParted fnw vQ vR (by omega) (by omega) (hln9) (hlz9) (hsv) (hbq9) (hje) (hN) (ekq) (hkq) (hjw)) si_X12_186 [0, 1, 3, 4] [2] sm_0_1_3_4 fm_0_1_3_4 nd_0_1_3_4 sm_2 nd_2 dj_0_1_3_4__2 rfl rfl rfl rfl rfl (Nat.le_of_ble_eq_true rfl) rm_8_7_6 ⟨Nat.le_of_ble_eq_true rfl, Nat.le_of_ble_eq_true rfl⟩ gX12_findShould_4.1 (fun r8149 gnp8151 H locs hr8149 hP hD hS => ?_)
                  try dsimp only at hr8149
                  refine Kpdr (ws := [(nm, iA G 36 vA), (h0, oX12 nw nk mhasKept nt mtaped nr mrowMany mroundOf mroundFrom (nI jw) nm vfh vth ns mfrom mto msort misFault mdeep mcoded mlines nl nc nF np ntr nb mbestCost nso nsi nit nsh nsf nss nrc mtraced mdealer mnumber mwhose msize misParted), (nw, iA G 1662 fnw), (ns, iA G 8 vQ), (np, iA G 100 gnp8151)]) hP hD (fun hP hD => ?_)
                  obtain ⟨y9_8152, hpx8152, hpe8152⟩ := hr8149
                  subst r8149
                  try dsimp only at hpx8152
                  refine lv_istore (lv' := [(5, .int y9_8152), (4, .int (nI kQ)), (3, .int ea), (2, .int (nI v9)), (0, .ref h0), (1, .int (nI je))]) hx hb gX12_findShould_4.2.1 hl (by decide) rfl (fun ls hl => ?_)
                  refine lv_aload_n hx hb gX12_findShould_4.2.2.1 rfl (lv_at4 hl) ?_
                  refine lv_iload_n hx hb gX12_findShould_4.2.2.2.1 rfl (lv_at3 hl) ?_
                  refine lv_iload hx hb gX12_findShould_4.2.2.2.2.1 (lv_at1 hl) ?_
                  refine pV hC hK hl hP hD (m_thingOfX l G ((VL v9).getD kQ LN0) (VC v9 kQ) h0 v9 kQ nw nk mhasKept nt mtaped nr mrowMany mroundOf mroundFrom (nI jw) nm vfh vth ns mfrom mto msort misFault mdeep mcoded mlines nl nc nF np ntr nb mbestCost nso nsi nit nsh nsf nss nrc mtraced mdealer mnumber mwhose msize misParted fnw (by omega) (by omega) (hln9) (hlz9)) si_X12_190 [1, 2] sm_1_2 fm_1_2 nd_1_2 rfl rfl rfl rfl rfl (Nat.le_of_ble_eq_true rfl) rm_8_2_4 ⟨by first | exact Nat.le_of_ble_eq_true rfl | exact Nat.zero_le _, by first | exact Nat.le_of_ble_eq_true rfl | exact Nat.zero_le _⟩ gX12_findShould_4.2.2.2.2.2.1 (fun r8153 hr8153 => ?_)
                  obtain ⟨t9_8154, hpx8154, rfl⟩ := hr8153
                  try dsimp only at hpx8154
                  refine lv_istore (lv' := [(6, .int (nI t9_8154)), (5, .int y9_8152), (4, .int (nI kQ)), (3, .int ea), (2, .int (nI v9)), (0, .ref h0), (1, .int (nI je))]) hx hb gX12_findShould_4.2.2.2.2.2.2.1 hl (by decide) rfl (fun ls hl => ?_)
                  refine lv_iload hx hb gX12_findShould_4.2.2.2.2.2.2.2.1 (lv_at1 hl) ?_
                  refine lv_aload_n hx hb gX12_findShould_4.2.2.2.2.2.2.2.2.1 rfl (lv_at5 hl) ?_
                  refine gf_X12_29 hC rfl hK hP 1 rfl rfl gX12_findShould_4.2.2.2.2.2.2.2.2.2 ?_
                  refine lv_iload hx hb gX12_findShould_5.1 (lv_at0 hl) ?_
                  refine aldN hC hK hP 3 rfl (k := t9_8154) (by omega) (Nat.le_of_ble_eq_true rfl) (v := vQ t9_8154) rfl gX12_findShould_5.2.1 ?_
                  refine lv_icmp_ge (tgt := 103) hx hb gX12_findShould_5.2.2.1 (by decide) (fun c_89_8155 => ?_) (fun c_89_8155 => ?_)
                  · refine lv_iinc (v := nI (kQ + 1)) (lv' := [(4, .int (nI (kQ + 1))), (6, .int (nI t9_8154)), (5, .int y9_8152), (3, .int ea), (2, .int (nI v9)), (0, .ref h0), (1, .int (nI je))]) hx hb gX12_findShould_6.1 hl (k := 2) rfl (nI_1 _) (by decide) rfl (fun ls hl => ?_)
                    refine lv_goto (tgt := 51) hx hb gX12_findShould_6.2.1 (by decide) ?_
                    refine Kpds (ws' := [(h0, oX12 nw nk mhasKept nt mtaped nr mrowMany mroundOf mroundFrom (nI jw) nm vfh vth ns mfrom mto msort misFault mdeep mcoded mlines nl nc nF np ntr nb mbestCost nso nsi nit nsh nsf nss nrc mtraced mdealer mnumber mwhose msize misParted), (nw, iA G 1662 fnw), (nm, iA G 36 vA), (ns, iA G 8 vQ), (np, iA G 100 gnp8151)]) hP hD [1, 2, 0, 3, 4] fm_1_2_0_3_4 nd_1_2_0_3_4 sm_1_2_0_3_4 (fun hP hD => ?_)
                    have eLV9 : (LVF (LNF (RLO DY (DAYV (fnw 0) (fnw 1)) k7) VL) (TRF (RLO DY (DAYV (fnw 0) (fnw 1)) k7) VC (FAX (shf fnw 12) (shf fnw 32) (VSO fnw kq jw) kq je))) kQ = LVX ((VL v9).getD kQ LN0) (PLN (FAX (shf fnw 12) (shf fnw 32) (VSO fnw kq jw) kq je) (VC v9 kQ) 1 % 2 = 1) := by rw [← eo9]; rfl
                    have hlw9 := FLQ.low (L := (LVF (LNF (RLO DY (DAYV (fnw 0) (fnw 1)) k7) VL) (TRF (RLO DY (DAYV (fnw 0) (fnw 1)) k7) VC (FAX (shf fnw 12) (shf fnw 32) (VSO fnw kq jw) kq je))) kQ) hsv hbq9 (hlb9 kQ (by omega)) (by rw [eLV9]; exact hpx8152) (fun j o w h9 => hpx8154.1.trans (TNO.of (by rw [eLV9] at h9; exact h9))) hpx8154.2 (by decide)
                    have heq9 : PSS (LVF (LNF (RLO DY (DAYV (fnw 0) (fnw 1)) k7) VL) (TRF (RLO DY (DAYV (fnw 0) (fnw 1)) k7) VC (FAX (shf fnw 12) (shf fnw 32) (VSO fnw kq jw) kq je))) (kQ + 1) (PIT (LVF (LNF (RLO DY (DAYV (fnw 0) (fnw 1)) k7) VL) (TRF (RLO DY (DAYV (fnw 0) (fnw 1)) k7) VC (FAX (shf fnw 12) (shf fnw 32) (VSO fnw kq jw) kq je))) L8 jj (S0F (KST (shf fnw 104) (VSO fnw kq jw) (fnw 3).toInt k6) (shf fnw 104) (VSO fnw kq jw) (shf fnw 32) (shf fnw 12) k6 kq je)) = PSS (LVF (LNF (RLO DY (DAYV (fnw 0) (fnw 1)) k7) VL) (TRF (RLO DY (DAYV (fnw 0) (fnw 1)) k7) VC (FAX (shf fnw 12) (shf fnw 32) (VSO fnw kq jw) kq je))) kQ (PIT (LVF (LNF (RLO DY (DAYV (fnw 0) (fnw 1)) k7) VL) (TRF (RLO DY (DAYV (fnw 0) (fnw 1)) k7) VC (FAX (shf fnw 12) (shf fnw 32) (VSO fnw kq jw) kq je))) L8 jj (S0F (KST (shf fnw 104) (VSO fnw kq jw) (fnw 3).toInt k6) (shf fnw 104) (VSO fnw kq jw) (shf fnw 32) (shf fnw 12) k6 kq je)) := hlw9.2 (Int32.not_lt.mpr c_89_8155)
                    have hst8 : ARS 100000 (PSS (LVF (LNF (RLO DY (DAYV (fnw 0) (fnw 1)) k7) VL) (TRF (RLO DY (DAYV (fnw 0) (fnw 1)) k7) VC (FAX (shf fnw 12) (shf fnw 32) (VSO fnw kq jw) kq je))) (kQ + 1) (PIT (LVF (LNF (RLO DY (DAYV (fnw 0) (fnw 1)) k7) VL) (TRF (RLO DY (DAYV (fnw 0) (fnw 1)) k7) VC (FAX (shf fnw 12) (shf fnw 32) (VSO fnw kq jw) kq je))) L8 jj (S0F (KST (shf fnw 104) (VSO fnw kq jw) (fnw 3).toInt k6) (shf fnw 104) (VSO fnw kq jw) (shf fnw 32) (shf fnw 12) k6 kq je))) vQ := by rw [heq9]; exact hsv
                    have hst9 : (ea = 0 ∧ PSS (LVF (LNF (RLO DY (DAYV (fnw 0) (fnw 1)) k7) VL) (TRF (RLO DY (DAYV (fnw 0) (fnw 1)) k7) VC (FAX (shf fnw 12) (shf fnw 32) (VSO fnw kq jw) kq je))) (kQ + 1) (PIT (LVF (LNF (RLO DY (DAYV (fnw 0) (fnw 1)) k7) VL) (TRF (RLO DY (DAYV (fnw 0) (fnw 1)) k7) VC (FAX (shf fnw 12) (shf fnw 32) (VSO fnw kq jw) kq je))) L8 jj (S0F (KST (shf fnw 104) (VSO fnw kq jw) (fnw 3).toInt k6) (shf fnw 104) (VSO fnw kq jw) (shf fnw 32) (shf fnw 12) k6 kq je)) = PIT (LVF (LNF (RLO DY (DAYV (fnw 0) (fnw 1)) k7) VL) (TRF (RLO DY (DAYV (fnw 0) (fnw 1)) k7) VC (FAX (shf fnw 12) (shf fnw 32) (VSO fnw kq jw) kq je))) L8 jj (S0F (KST (shf fnw 104) (VSO fnw kq jw) (fnw 3).toInt k6) (shf fnw 104) (VSO fnw kq jw) (shf fnw 32) (shf fnw 12) k6 kq je)) ∨ ea = 1 := hch.imp (fun h9 => ⟨h9.1, heq9.trans h9.2⟩) id
                    exact ihQ (kQ + 1) ea vQ gnp8151 _ _ _ (by omega) (by first | assumption | exact Or.inl rfl | exact Or.inr rfl | exact Or.inl ⟨rfl, Nat.le_refl _⟩ | exact hj1 | exact Or.inl ⟨rfl, rfl⟩) (by first | assumption | exact Or.inl rfl | exact Or.inr rfl | exact Or.inl ⟨rfl, Nat.le_refl _⟩ | exact hj1 | exact Or.inl ⟨rfl, rfl⟩) (by first | assumption | exact Or.inl rfl | exact Or.inr rfl | exact Or.inl ⟨rfl, Nat.le_refl _⟩ | exact hj1 | exact Or.inl ⟨rfl, rfl⟩) (And.intro hP hD) hS (lv_sub hl [0, 3, 4, 5, 6] rfl)
                  · refine lv_aload_n hx hb gX12_findShould_5.2.2.2.1 rfl (lv_at5 hl) ?_
                    refine gf_X12_29 hC rfl hK hP 1 rfl rfl gX12_findShould_5.2.2.2.2.1 ?_
                    refine lv_iload hx hb gX12_findShould_5.2.2.2.2.2.1 (lv_at0 hl) ?_
                    refine lv_iload hx hb gX12_findShould_5.2.2.2.2.2.2.1 (lv_at1 hl) ?_
                    refine astN hC hK hP hD hS 3 (ws' := [(nm, iA G 36 vA), (h0, oX12 nw nk mhasKept nt mtaped nr mrowMany mroundOf mroundFrom (nI jw) nm vfh vth ns mfrom mto msort misFault mdeep mcoded mlines nl nc nF np ntr nb mbestCost nso nsi nit nsh nsf nss nrc mtraced mdealer mnumber mwhose msize misParted), (nw, iA G 1662 fnw), (ns, iA G 8 (upd vQ t9_8154 y9_8152)), (np, iA G 100 gnp8151)]) rfl (k := t9_8154) (by omega) (Nat.le_of_ble_eq_true rfl) (rfl) gX12_findShould_5.2.2.2.2.2.2.2.1 (fun H locs hP hD hS => ?_)
                    have hmu9 := mu_upd (f := vQ) (t := t9_8154) (x := y9_8152) (y := vQ t9_8154) (by omega) rfl c_89_8155
                    have hQ2 : mu vQ ≤ mu w0 := hQ.elim (fun h => h.2) (fun h => Nat.le_of_lt h.2)
                    have hQ3 : ((1 : Int32) = 0 ∧ mu (upd vQ t9_8154 y9_8152) ≤ mu w0) ∨ ((1 : Int32) = 1 ∧ mu (upd vQ t9_8154 y9_8152) < mu w0) := Or.inr ⟨rfl, by omega⟩
                    refine lv_iconst (v := 1) hx hb gX12_findShould_5.2.2.2.2.2.2.2.2.1 (by decide) ?_
                    refine lv_istore_n (lv' := [(3, .int 1), (6, .int (nI t9_8154)), (5, .int y9_8152), (4, .int (nI kQ)), (2, .int (nI v9)), (0, .ref h0), (1, .int (nI je))]) hx hb gX12_findShould_5.2.2.2.2.2.2.2.2.2 rfl hl (by decide) rfl (fun ls hl => ?_)
                    refine lv_iinc (v := nI (kQ + 1)) (lv' := [(4, .int (nI (kQ + 1))), (3, .int 1), (6, .int (nI t9_8154)), (5, .int y9_8152), (2, .int (nI v9)), (0, .ref h0), (1, .int (nI je))]) hx hb gX12_findShould_6.1 hl (k := 3) rfl (nI_1 _) (by decide) rfl (fun ls hl => ?_)
                    refine lv_goto (tgt := 51) hx hb gX12_findShould_6.2.1 (by decide) ?_
                    refine Kpds (ws' := [(h0, oX12 nw nk mhasKept nt mtaped nr mrowMany mroundOf mroundFrom (nI jw) nm vfh vth ns mfrom mto msort misFault mdeep mcoded mlines nl nc nF np ntr nb mbestCost nso nsi nit nsh nsf nss nrc mtraced mdealer mnumber mwhose msize misParted), (nw, iA G 1662 fnw), (nm, iA G 36 vA), (ns, iA G 8 (upd vQ t9_8154 y9_8152)), (np, iA G 100 gnp8151)]) hP hD [1, 2, 0, 3, 4] fm_1_2_0_3_4 nd_1_2_0_3_4 sm_1_2_0_3_4 (fun hP hD => ?_)
                    have eLV9 : (LVF (LNF (RLO DY (DAYV (fnw 0) (fnw 1)) k7) VL) (TRF (RLO DY (DAYV (fnw 0) (fnw 1)) k7) VC (FAX (shf fnw 12) (shf fnw 32) (VSO fnw kq jw) kq je))) kQ = LVX ((VL v9).getD kQ LN0) (PLN (FAX (shf fnw 12) (shf fnw 32) (VSO fnw kq jw) kq je) (VC v9 kQ) 1 % 2 = 1) := by rw [← eo9]; rfl
                    have hlw9 := FLQ.low (L := (LVF (LNF (RLO DY (DAYV (fnw 0) (fnw 1)) k7) VL) (TRF (RLO DY (DAYV (fnw 0) (fnw 1)) k7) VC (FAX (shf fnw 12) (shf fnw 32) (VSO fnw kq jw) kq je))) kQ) hsv hbq9 (hlb9 kQ (by omega)) (by rw [eLV9]; exact hpx8152) (fun j o w h9 => hpx8154.1.trans (TNO.of (by rw [eLV9] at h9; exact h9))) hpx8154.2 (by decide)
                    have hst8 : ARS 100000 (PSS (LVF (LNF (RLO DY (DAYV (fnw 0) (fnw 1)) k7) VL) (TRF (RLO DY (DAYV (fnw 0) (fnw 1)) k7) VC (FAX (shf fnw 12) (shf fnw 32) (VSO fnw kq jw) kq je))) (kQ + 1) (PIT (LVF (LNF (RLO DY (DAYV (fnw 0) (fnw 1)) k7) VL) (TRF (RLO DY (DAYV (fnw 0) (fnw 1)) k7) VC (FAX (shf fnw 12) (shf fnw 32) (VSO fnw kq jw) kq je))) L8 jj (S0F (KST (shf fnw 104) (VSO fnw kq jw) (fnw 3).toInt k6) (shf fnw 104) (VSO fnw kq jw) (shf fnw 32) (shf fnw 12) k6 kq je))) (upd vQ t9_8154 y9_8152) := hlw9.1 (Int32.not_le.mp c_89_8155)
                    have hst9 : ((1 : Int32) = 0 ∧ PSS (LVF (LNF (RLO DY (DAYV (fnw 0) (fnw 1)) k7) VL) (TRF (RLO DY (DAYV (fnw 0) (fnw 1)) k7) VC (FAX (shf fnw 12) (shf fnw 32) (VSO fnw kq jw) kq je))) (kQ + 1) (PIT (LVF (LNF (RLO DY (DAYV (fnw 0) (fnw 1)) k7) VL) (TRF (RLO DY (DAYV (fnw 0) (fnw 1)) k7) VC (FAX (shf fnw 12) (shf fnw 32) (VSO fnw kq jw) kq je))) L8 jj (S0F (KST (shf fnw 104) (VSO fnw kq jw) (fnw 3).toInt k6) (shf fnw 104) (VSO fnw kq jw) (shf fnw 32) (shf fnw 12) k6 kq je)) = PIT (LVF (LNF (RLO DY (DAYV (fnw 0) (fnw 1)) k7) VL) (TRF (RLO DY (DAYV (fnw 0) (fnw 1)) k7) VC (FAX (shf fnw 12) (shf fnw 32) (VSO fnw kq jw) kq je))) L8 jj (S0F (KST (shf fnw 104) (VSO fnw kq jw) (fnw 3).toInt k6) (shf fnw 104) (VSO fnw kq jw) (shf fnw 32) (shf fnw 12) k6 kq je)) ∨ (1 : Int32) = 1 := Or.inr rfl
                    exact ihQ (kQ + 1) 1 (upd vQ t9_8154 y9_8152) gnp8151 _ _ _ (by omega) (by first | assumption | exact Or.inl rfl | exact Or.inr rfl | exact Or.inl ⟨rfl, Nat.le_refl _⟩ | exact hj1 | exact Or.inl ⟨rfl, rfl⟩) (by first | assumption | exact Or.inl rfl | exact Or.inr rfl | exact Or.inl ⟨rfl, Nat.le_refl _⟩ | exact hj1 | exact Or.inl ⟨rfl, rfl⟩) (by first | assumption | exact Or.inl rfl | exact Or.inr rfl | exact Or.inl ⟨rfl, Nat.le_refl _⟩ | exact hj1 | exact Or.inl ⟨rfl, rfl⟩) (And.intro hP hD) hS (lv_sub hl [0, 1, 4, 5, 6] rfl)
              exact keyQ L8 0 0 w0 w1 _ _ _ (by omega) (by first | assumption | exact Or.inl rfl | exact Or.inr rfl | exact Or.inl ⟨rfl, Nat.le_refl _⟩ | exact hj1 | exact Or.inl ⟨rfl, rfl⟩) (by first | assumption | exact Or.inl rfl | exact Or.inr rfl | exact Or.inl ⟨rfl, Nat.le_refl _⟩ | exact hj1 | exact Or.inl ⟨rfl, rfl⟩) (by first | assumption | exact Or.inl rfl | exact Or.inr rfl | exact Or.inl ⟨rfl, Nat.le_refl _⟩ | exact hj1 | exact Or.inl ⟨rfl, rfl⟩) (And.intro hP hD) hS (lv_sub hl [0, 1, 2, 3, 4] rfl)
        exact keyW (mu vS + 1) 1 vS fnp _ _ _ (⟨Or.inr ⟨rfl, Nat.lt_succ_self _⟩, 0, htd, fun h9 => absurd h9 (by decide)⟩) (And.intro hP hD) hS (lv_sub hl [0, 1, 2, 3] rfl)
    | succ nA ihA =>
      intro kA vfh vth vA vS H locs ls hkA hvA htd hPD hS hl
      refine Kan2 hPD (fun hP hD => ?_)
      refine lv_iload_n hx hb gX12_findShould_0.2.2.1 rfl (lv_at0 hl) ?_
      refine lv_bipush (v := 8) hx hb gX12_findShould_0.2.2.2.1 (by decide) ?_
      refine lv_icmp_ge (tgt := 27) hx hb gX12_findShould_0.2.2.2.2.1 (by decide) (fun c9 => absurd c9 (nI_ge (a := kA) (b := 8) (by omega) (by omega))) (fun _ => ?_)
      refine lv_aload_n hx hb gX12_findShould_0.2.2.2.2.2.1 rfl (lv_at1 hl) ?_
      refine gf_X12_29 hC rfl hK hP 0 rfl rfl gX12_findShould_0.2.2.2.2.2.2.1 ?_
      refine lv_iload_n hx hb gX12_findShould_0.2.2.2.2.2.2.2.1 rfl (lv_at0 hl) ?_
      refine lv_aload_n hx hb gX12_findShould_0.2.2.2.2.2.2.2.2.1 rfl (lv_at1 hl) ?_
      refine lv_iload_n hx hb gX12_findShould_0.2.2.2.2.2.2.2.2.2 rfl (lv_at2 hl) ?_
      refine lv_iload_n hx hb gX12_findShould_1.1 rfl (lv_at0 hl) ?_
      refine lv_iconst (v := 1) hx hb gX12_findShould_1.2.1 (by decide) ?_
      refine iV (wr := [(ns, iA G 8 vS), (np, iA G 100 fnp)]) hC hK hl hP hD hS hA (m_knewByO l G kq k6 h0 je kA 1 nw nk mhasKept nt mtaped nr mrowMany mroundOf mroundFrom jw nm vfh vth ns mfrom mto msort misFault mdeep mcoded mlines nl nc nF np ntr nb mbestCost nso nsi nit nsh nsf nss nrc mtraced mdealer mnumber mwhose msize misParted fnw vA (hvA) (hN) (hgp) (ekq) (hkq) (e6) (hk6) (hje) (by omega) (hjw)) si_X12_176 [0, 1, 2] [3, 4] sm_0_1_2 fm_0_1_2 nd_0_1_2 sm_3_4 nd_3_4 dj_0_1_2__3_4 rfl rfl rfl rfl rfl (Nat.le_of_ble_eq_true rfl) rm_8_5_7 ⟨Nat.le_of_ble_eq_true rfl, Nat.le_of_ble_eq_true rfl⟩ gX12_findShould_1.2.2.1 (fun r8156 => Ktu3 fun fh18158 th18159 gnm8160 => ?_)
      intro H locs hr8156 hP hD hS
      try dsimp only at hr8156
      refine Kpdr (ws := [(ns, iA G 8 vS), (np, iA G 100 fnp), (h0, oX12 nw nk mhasKept nt mtaped nr mrowMany mroundOf mroundFrom (nI jw) nm fh18158 th18159 ns mfrom mto msort misFault mdeep mcoded mlines nl nc nF np ntr nb mbestCost nso nsi nit nsh nsf nss nrc mtraced mdealer mnumber mwhose msize misParted), (nw, iA G 1662 fnw), (nm, iA G 36 gnm8160)]) hP hD (fun hP hD => ?_)
      obtain ⟨hr8156, w8161⟩ := hr8156
      obtain ⟨r9_8162, hpx8162, hpe8162⟩ := hr8156
      subst r8156
      try dsimp only at hpx8162
      refine astN hC hK hP hD hS 0 (ws' := [(ns, iA G 8 (upd vS kA r9_8162)), (np, iA G 100 fnp), (h0, oX12 nw nk mhasKept nt mtaped nr mrowMany mroundOf mroundFrom (nI jw) nm fh18158 th18159 ns mfrom mto msort misFault mdeep mcoded mlines nl nc nF np ntr nb mbestCost nso nsi nit nsh nsf nss nrc mtraced mdealer mnumber mwhose msize misParted), (nw, iA G 1662 fnw), (nm, iA G 36 gnm8160)]) rfl (k := kA) (by omega) (Nat.le_of_ble_eq_true rfl) (rfl) gX12_findShould_1.2.2.2.1 (fun H locs hP hD hS => ?_)
      refine lv_iinc (v := nI (kA + 1)) (lv' := [(2, .int (nI (kA + 1))), (0, .ref h0), (1, .int (nI je))]) hx hb gX12_findShould_1.2.2.2.2.1 hl (k := 0) rfl (nI_1 _) (by decide) rfl (fun ls hl => ?_)
      refine lv_goto (tgt := 2) hx hb gX12_findShould_1.2.2.2.2.2.1 (by decide) ?_
      refine Kpds (ws' := [(h0, oX12 nw nk mhasKept nt mtaped nr mrowMany mroundOf mroundFrom (nI jw) nm fh18158 th18159 ns mfrom mto msort misFault mdeep mcoded mlines nl nc nF np ntr nb mbestCost nso nsi nit nsh nsf nss nrc mtraced mdealer mnumber mwhose msize misParted), (nw, iA G 1662 fnw), (nm, iA G 36 gnm8160), (ns, iA G 8 (upd vS kA r9_8162)), (np, iA G 100 fnp)]) hP hD [2, 3, 4, 0, 1] fm_2_3_4_0_1 nd_2_3_4_0_1 sm_2_3_4_0_1 (fun hP hD => ?_)
      have hst9 : TDP 100000 (S0F (KST (shf fnw 104) (VSO fnw kq jw) (fnw 3).toInt k6) (shf fnw 104) (VSO fnw kq jw) (shf fnw 32) (shf fnw 12) k6 kq je) (upd vS kA r9_8162) (kA + 1) := TDP.next htd hpx8162
      exact ihA (kA + 1) fh18158 th18159 gnm8160 (upd vS kA r9_8162) _ _ _ (by omega) (by first | assumption | exact Or.inl rfl | exact Or.inr rfl | exact TDP.zero) (by first | assumption | exact Or.inl rfl | exact Or.inr rfl | exact TDP.zero) (And.intro hP hD) hS (lv_sub hl [0, 1, 2] rfl)
  exact keyA 8 0 mfromHour mtoHour fnm fns _ _ _ (by omega) (by first | assumption | exact Or.inl rfl | exact Or.inr rfl | exact TDP.zero) (by first | assumption | exact Or.inl rfl | exact Or.inr rfl | exact TDP.zero) (And.intro hP hD) hS (lv_sub hl [0, 1, 2] rfl)
def K_m_fromOfO (l : Launch) (G : GG) (kq : Nat) (k6 : Nat) (k7 : Nat) (VL : Nat → List LNT) (VC : Nat → Nat → List Int32) (DY : Nat → Int32) (h0 : Nat) (je : Nat) (jt : Nat) (wy : Int32) (nw : Nat) (nk : Nat) (mhasKept : Int32) (nt : Nat) (mtaped : Int32) (nr : Nat) (mrowMany : Int32) (mroundOf : Int32) (mroundFrom : Int32) (jw : Nat) (nm : Nat) (mfromHour : Int32) (mtoHour : Int32) (ns : Nat) (mfrom : Int32) (mto : Int32) (msort : Int32) (misFault : Int32) (mdeep : Int32) (mcoded : Int32) (mlines : Int32) (nl : Nat) (nc : Nat) (nF : Nat) (np : Nat) (ntr : Nat) (nb : Nat) (mbestCost : Int32) (nso : Nat) (nsi : Nat) (nit : Nat) (nsh : Nat) (nsf : Nat) (nss : Nat) (nrc : Nat) (mtraced : Int32) (mdealer : Int32) (mnumber : Int32) (mwhose : Int32) (msize : Int32) (misParted : Int32) (fnw : Nat → Int32) (fnm : Nat → Int32) (fns : Nat → Int32) (fnp : Nat → Int32) : Prop := MI l G yX12_fromOf cX12_fromOf 4 (some .int) 9 0 0 [.ref h0, .int (nI je), .int (nI jt), .int wy] [(h0, oX12 nw nk mhasKept nt mtaped nr mrowMany mroundOf mroundFrom (nI jw) nm mfromHour mtoHour ns mfrom mto msort misFault mdeep mcoded mlines nl nc nF np ntr nb mbestCost nso nsi nit nsh nsf nss nrc mtraced mdealer mnumber mwhose msize misParted), (nw, iA G 1662 fnw), (nm, iA G 36 fnm), (ns, iA G 8 fns), (np, iA G 100 fnp)] (fun (r : Int32) (u : Int32 × Int32 × (Nat → Int32) × (Nat → Int32) × (Nat → Int32)) => (∃ (w9:Int32), (ARW 100000 (KWO (KST (shf fnw 104) (VSO fnw kq jw) (fnw 3).toInt k6) (shf fnw 104) (VSO fnw kq jw) (shf fnw 32) (shf fnw 12) k6 kq je (LVF (LNF (RLO DY (DAYV (fnw 0) (fnw 1)) k7) VL) (TRF (RLO DY (DAYV (fnw 0) (fnw 1)) k7) VC (FAX (shf fnw 12) (shf fnw 32) (VSO fnw kq jw) kq je))) (LVN (RLO DY (DAYV (fnw 0) (fnw 1)) k7) VL) jt wy) w9) ∧ r = w9) ∧ (MB u.2.2.1)) (fun u : Int32 × Int32 × (Nat → Int32) × (Nat → Int32) × (Nat → Int32) => [(h0, oX12 nw nk mhasKept nt mtaped nr mrowMany mroundOf mroundFrom (nI jw) nm u.1 u.2.1 ns mfrom mto msort misFault mdeep mcoded mlines nl nc nF np ntr nb mbestCost nso nsi nit nsh nsf nss nrc mtraced mdealer mnumber mwhose msize misParted), (nw, iA G 1662 fnw), (nm, iA G 36 u.2.2.1), (ns, iA G 8 u.2.2.2.1), (np, iA G 100 u.2.2.2.2)])
set_option maxHeartbeats 4000000 in
set_option maxRecDepth 100000 in
theorem m_fromOfO (l : Launch) (G : GG) (kq : Nat) (k6 : Nat) (k7 : Nat) (VL : Nat → List LNT) (VC : Nat → Nat → List Int32) (DY : Nat → Int32) (h0 : Nat) (je : Nat) (jt : Nat) (wy : Int32) (nw : Nat) (nk : Nat) (mhasKept : Int32) (nt : Nat) (mtaped : Int32) (nr : Nat) (mrowMany : Int32) (mroundOf : Int32) (mroundFrom : Int32) (jw : Nat) (nm : Nat) (mfromHour : Int32) (mtoHour : Int32) (ns : Nat) (mfrom : Int32) (mto : Int32) (msort : Int32) (misFault : Int32) (mdeep : Int32) (mcoded : Int32) (mlines : Int32) (nl : Nat) (nc : Nat) (nF : Nat) (np : Nat) (ntr : Nat) (nb : Nat) (mbestCost : Int32) (nso : Nat) (nsi : Nat) (nit : Nat) (nsh : Nat) (nsf : Nat) (nss : Nat) (nrc : Nat) (mtraced : Int32) (mdealer : Int32) (mnumber : Int32) (mwhose : Int32) (msize : Int32) (misParted : Int32) (fnw : Nat → Int32) (fnm : Nat → Int32) (fns : Nat → Int32) (fnp : Nat → Int32) (hje : je < 10) (hjt : jt < 8) (hwy : Wi wy 0 2) (hV : VI fnw) (hM : MB fnm) (hN : NI fnw) (hgp : GPRm (fnw 3)) (ekq : fnw 5 = nI kq) (hkq : kq ≤ 12) (e6 : fnw 6 = nI k6) (hk6 : k6 ≤ 24) (ek7 : fnw 7 = nI k7) (hk7 : k7 ≤ 8) (hVM : VMZ fnw k7 VL VC DY) (hjw : jw < 4096) : K_m_fromOfO l G kq k6 k7 VL VC DY h0 je jt wy nw nk mhasKept nt mtaped nr mrowMany mroundOf mroundFrom jw nm mfromHour mtoHour ns mfrom mto msort misFault mdeep mcoded mlines nl nc nF np ntr nb mbestCost nso nsi nit nsh nsf nss nrc mtraced mdealer mnumber mwhose msize misParted fnw fnm fns fnp := by
  refine MI.start (by decide +kernel) (Nat.le_of_ble_eq_true rfl) ?_
  intro p e s m below meth c A ls hC hK hP hD hS hA hl
  refine absQ (fun Q0 hQ0 => ?_)
  have hl : lv_has ls 4 [(0, .ref h0), (1, .int (nI je)), (2, .int (nI jt)), (3, .int wy)] := hl
  refine Kan8 hC (fun hx hb hr hml hB hown hlocks hnm => ?_)
  refine lv_iload_n hx hb gX12_fromOf_0.1 rfl (lv_at3 hl) ?_
  refine lv_iconst (v := 2) hx hb gX12_fromOf_0.2.1 (by decide) ?_
  refine lv_icmp_ge (tgt := 21) hx hb gX12_fromOf_0.2.2.1 (by decide) (fun c_2_8163 => ?_) (fun c_2_8163 => ?_)
  · refine lv_aload_n hx hb gX12_fromOf_1.2.2.2.1 rfl (lv_at0 hl) ?_
    refine lv_iload_n hx hb gX12_fromOf_1.2.2.2.2.1 rfl (lv_at1 hl) ?_
    refine vV (wr := []) hC hK hl hP hD hS hA (m_findShouldO l G kq k6 k7 VL VC DY h0 je nw nk mhasKept nt mtaped nr mrowMany mroundOf mroundFrom jw nm mfromHour mtoHour ns mfrom mto msort misFault mdeep mcoded mlines nl nc nF np ntr nb mbestCost nso nsi nit nsh nsf nss nrc mtraced mdealer mnumber mwhose msize misParted fnw fnm fns fnp (hje) (hV) (hM) (hN) (hgp) (ekq) (hkq) (e6) (hk6) (ek7) (hk7) (hVM) (hjw)) si_X12_199 [0, 1, 2, 3, 4] [] sm_0_1_2_3_4 fm_0_1_2_3_4 nd_0_1_2_3_4 rfl rfl (by decide) rfl rfl rfl rfl rfl (Nat.le_of_ble_eq_true rfl) rm_9_8_7 ⟨Nat.le_of_ble_eq_true rfl, Nat.le_of_ble_eq_true rfl⟩ gX12_fromOf_1.2.2.2.2.2.1 (Ktu5 fun fh18166 th18167 gnm8168 gns8169 gnp8170 => ?_)
    intro H locs hr8164 hP hD hS
    try dsimp only at hr8164
    refine Kpdr (ws := [(h0, oX12 nw nk mhasKept nt mtaped nr mrowMany mroundOf mroundFrom (nI jw) nm fh18166 th18167 ns mfrom mto msort misFault mdeep mcoded mlines nl nc nF np ntr nb mbestCost nso nsi nit nsh nsf nss nrc mtraced mdealer mnumber mwhose msize misParted), (nw, iA G 1662 fnw), (nm, iA G 36 gnm8168), (ns, iA G 8 gns8169), (np, iA G 100 gnp8170)]) hP hD (fun hP hD => ?_)
    have hu8172 := hr8164.1
    have hu8173 := hr8164.2
    refine lv_aload_n hx hb gX12_fromOf_1.2.2.2.2.2.2.1 rfl (lv_at0 hl) ?_
    refine gf_X12_29 hC rfl hK hP 0 rfl rfl gX12_fromOf_1.2.2.2.2.2.2.2.1 ?_
    refine lv_iload_n hx hb gX12_fromOf_1.2.2.2.2.2.2.2.2.1 rfl (lv_at2 hl) ?_
    refine aldN hC hK hP 3 rfl (k := jt) (by omega) (Nat.le_of_ble_eq_true rfl) (v := gns8169 jt) rfl gX12_fromOf_1.2.2.2.2.2.2.2.2.2 ?_
    refine toQ hQ0 ?_
    exact RI (v := gns8169 jt) hC hP hD hS [0, 1, 2, 3, 4] (fh18166, th18167, gnm8168, gns8169, gnp8170) rfl rfl (by decide) (⟨⟨_, KWO.y (WY2.y hwy c_2_8163) (SHF.w (HBD.pit (S0F.hbd (SVL.ofm hN (by omega)) (NI.slow hN (by omega)).1 (NI.slow hN (by omega)).2) (LVM.lvb hVM) 9) hjt (hu8173 jt hjt)), rfl⟩, by first | assumption | exact hu8172⟩) rfl gX12_fromOf_2
  · refine lv_aload_n hx hb gX12_fromOf_0.2.2.2.1 rfl (lv_at0 hl) ?_
    refine lv_iload_n hx hb gX12_fromOf_0.2.2.2.2.1 rfl (lv_at1 hl) ?_
    refine lv_iload_n hx hb gX12_fromOf_0.2.2.2.2.2.1 rfl (lv_at2 hl) ?_
    refine lv_iload_n hx hb gX12_fromOf_0.2.2.2.2.2.2.1 rfl (lv_at3 hl) ?_
    refine lv_if_ne (tgt := 16) hx hb gX12_fromOf_0.2.2.2.2.2.2.2.1 (by decide) (fun c_9_8174 => ?_) (fun c_9_8174 => ?_)
    · refine lv_iconst (v := 0) hx hb gX12_fromOf_1.1 (by decide) ?_
      refine iV (wr := [(ns, iA G 8 fns), (np, iA G 100 fnp)]) hC hK hl hP hD hS hA (m_knewByO l G kq k6 h0 je jt 0 nw nk mhasKept nt mtaped nr mrowMany mroundOf mroundFrom jw nm mfromHour mtoHour ns mfrom mto msort misFault mdeep mcoded mlines nl nc nF np ntr nb mbestCost nso nsi nit nsh nsf nss nrc mtraced mdealer mnumber mwhose msize misParted fnw fnm (hM) (hN) (hgp) (ekq) (hkq) (e6) (hk6) (hje) (hjt) (hjw)) si_X12_176 [0, 1, 2] [3, 4] sm_0_1_2 fm_0_1_2 nd_0_1_2 sm_3_4 nd_3_4 dj_0_1_2__3_4 rfl rfl rfl rfl rfl (Nat.le_of_ble_eq_true rfl) rm_9_5_7 ⟨Nat.le_of_ble_eq_true rfl, Nat.le_of_ble_eq_true rfl⟩ gX12_fromOf_1.2.1 (fun r8175 => Ktu3 fun fh18177 th18178 gnm8179 => ?_)
      intro H locs hr8175 hP hD hS
      try dsimp only at hr8175
      refine Kpdr (ws := [(ns, iA G 8 fns), (np, iA G 100 fnp), (h0, oX12 nw nk mhasKept nt mtaped nr mrowMany mroundOf mroundFrom (nI jw) nm fh18177 th18178 ns mfrom mto msort misFault mdeep mcoded mlines nl nc nF np ntr nb mbestCost nso nsi nit nsh nsf nss nrc mtraced mdealer mnumber mwhose msize misParted), (nw, iA G 1662 fnw), (nm, iA G 36 gnm8179)]) hP hD (fun hP hD => ?_)
      obtain ⟨hr8175, w8180⟩ := hr8175
      obtain ⟨r9_8181, hpx8181, hpe8181⟩ := hr8175
      subst r8175
      try dsimp only at hpx8181
      refine toQ hQ0 ?_
      exact RI (v := r9_8181) hC hP hD hS [2, 3, 4, 0, 1] (fh18177, th18178, gnm8179, fns, fnp) rfl rfl (by decide) (⟨⟨_, KWO.n1 (SVL.ofm hN (by omega)) (NI.slow hN (by omega)).1 (NI.slow hN (by omega)).2 (WY2.n c_2_8163) c_9_8174 hpx8181, rfl⟩, by first | assumption | exact w8180⟩) rfl gX12_fromOf_1.2.2.1
    · refine lv_iconst (v := 1) hx hb gX12_fromOf_0.2.2.2.2.2.2.2.2.1 (by decide) ?_
      refine lv_goto (tgt := 17) hx hb gX12_fromOf_0.2.2.2.2.2.2.2.2.2 (by decide) ?_
      refine iV (wr := [(ns, iA G 8 fns), (np, iA G 100 fnp)]) hC hK hl hP hD hS hA (m_knewByO l G kq k6 h0 je jt 1 nw nk mhasKept nt mtaped nr mrowMany mroundOf mroundFrom jw nm mfromHour mtoHour ns mfrom mto msort misFault mdeep mcoded mlines nl nc nF np ntr nb mbestCost nso nsi nit nsh nsf nss nrc mtraced mdealer mnumber mwhose msize misParted fnw fnm (hM) (hN) (hgp) (ekq) (hkq) (e6) (hk6) (hje) (hjt) (hjw)) si_X12_176 [0, 1, 2] [3, 4] sm_0_1_2 fm_0_1_2 nd_0_1_2 sm_3_4 nd_3_4 dj_0_1_2__3_4 rfl rfl rfl rfl rfl (Nat.le_of_ble_eq_true rfl) rm_9_5_7 ⟨Nat.le_of_ble_eq_true rfl, Nat.le_of_ble_eq_true rfl⟩ gX12_fromOf_1.2.1 (fun r8182 => Ktu3 fun fh18184 th18185 gnm8186 => ?_)
      intro H locs hr8182 hP hD hS
      try dsimp only at hr8182
      refine Kpdr (ws := [(ns, iA G 8 fns), (np, iA G 100 fnp), (h0, oX12 nw nk mhasKept nt mtaped nr mrowMany mroundOf mroundFrom (nI jw) nm fh18184 th18185 ns mfrom mto msort misFault mdeep mcoded mlines nl nc nF np ntr nb mbestCost nso nsi nit nsh nsf nss nrc mtraced mdealer mnumber mwhose msize misParted), (nw, iA G 1662 fnw), (nm, iA G 36 gnm8186)]) hP hD (fun hP hD => ?_)
      obtain ⟨hr8182, w8187⟩ := hr8182
      obtain ⟨r9_8188, hpx8188, hpe8188⟩ := hr8182
      subst r8182
      try dsimp only at hpx8188
      refine toQ hQ0 ?_
      exact RI (v := r9_8188) hC hP hD hS [2, 3, 4, 0, 1] (fh18184, th18185, gnm8186, fns, fnp) rfl rfl (by decide) (⟨⟨_, KWO.n0 (SVL.ofm hN (by omega)) (NI.slow hN (by omega)).1 (NI.slow hN (by omega)).2 (WY2.n c_2_8163) c_9_8174 hpx8188, rfl⟩, by first | assumption | exact w8187⟩) rfl gX12_fromOf_1.2.2.1
def K_m_standsO (l : Launch) (G : GG) (kq : Nat) (k6 : Nat) (k7 : Nat) (VL : Nat → List LNT) (VC : Nat → Nat → List Int32) (DY : Nat → Int32) (h0 : Nat) (jf : Nat) (nw : Nat) (nk : Nat) (mhasKept : Int32) (nt : Nat) (mtaped : Int32) (nr : Nat) (mrowMany : Int32) (mroundOf : Int32) (mroundFrom : Int32) (jw : Nat) (nm : Nat) (mfromHour : Int32) (mtoHour : Int32) (ns : Nat) (mfrom : Int32) (mto : Int32) (msort : Int32) (misFault : Int32) (mdeep : Int32) (mcoded : Int32) (mlines : Int32) (nl : Nat) (nc : Nat) (nF : Nat) (np : Nat) (ntr : Nat) (nb : Nat) (mbestCost : Int32) (nso : Nat) (nsi : Nat) (nit : Nat) (nsh : Nat) (nsf : Nat) (nss : Nat) (nrc : Nat) (mtraced : Int32) (mdealer : Int32) (mnumber : Int32) (mwhose : Int32) (msize : Int32) (misParted : Int32) (fnw : Nat → Int32) (fnm : Nat → Int32) (fns : Nat → Int32) (fnp : Nat → Int32) : Prop := MI l G yX12_stands cX12_stands 3 (some .boolean) 10 0 0 [.ref h0, .int (nI jf)] [(h0, oX12 nw nk mhasKept nt mtaped nr mrowMany mroundOf mroundFrom (nI jw) nm mfromHour mtoHour ns mfrom mto msort misFault mdeep mcoded mlines nl nc nF np ntr nb mbestCost nso nsi nit nsh nsf nss nrc mtraced mdealer mnumber mwhose msize misParted), (nw, iA G 1662 fnw), (nm, iA G 36 fnm), (ns, iA G 8 fns), (np, iA G 100 fnp)] (fun (r : Int32) (u : Int32 × Int32 × (Nat → Int32) × (Nat → Int32) × (Nat → Int32)) => ((r = 1 ∧ (STD (KST (shf fnw 104) (VSO fnw kq jw) (fnw 3).toInt k6) (shf fnw 104) (VSO fnw kq jw) (shf fnw 32) (shf fnw 12) k6 kq (fun e9 => LVF (LNF (RLO DY (DAYV (fnw 0) (fnw 1)) k7) VL) (TRF (RLO DY (DAYV (fnw 0) (fnw 1)) k7) VC (FAX (shf fnw 12) (shf fnw 32) (VSO fnw kq jw) kq e9))) (LVN (RLO DY (DAYV (fnw 0) (fnw 1)) k7) VL) (shf fnw 1552)) jf) ∨ (r = 0 ∧ ¬ (STD (KST (shf fnw 104) (VSO fnw kq jw) (fnw 3).toInt k6) (shf fnw 104) (VSO fnw kq jw) (shf fnw 32) (shf fnw 12) k6 kq (fun e9 => LVF (LNF (RLO DY (DAYV (fnw 0) (fnw 1)) k7) VL) (TRF (RLO DY (DAYV (fnw 0) (fnw 1)) k7) VC (FAX (shf fnw 12) (shf fnw 32) (VSO fnw kq jw) kq e9))) (LVN (RLO DY (DAYV (fnw 0) (fnw 1)) k7) VL) (shf fnw 1552)) jf)) ∧ (MB u.2.2.1)) (fun u : Int32 × Int32 × (Nat → Int32) × (Nat → Int32) × (Nat → Int32) => [(h0, oX12 nw nk mhasKept nt mtaped nr mrowMany mroundOf mroundFrom (nI jw) nm u.1 u.2.1 ns mfrom mto msort misFault mdeep mcoded mlines nl nc nF np ntr nb mbestCost nso nsi nit nsh nsf nss nrc mtraced mdealer mnumber mwhose msize misParted), (nw, iA G 1662 fnw), (nm, iA G 36 u.2.2.1), (ns, iA G 8 u.2.2.2.1), (np, iA G 100 u.2.2.2.2)])
set_option maxHeartbeats 4000000 in
set_option maxRecDepth 100000 in
theorem m_standsO (l : Launch) (G : GG) (kq : Nat) (k6 : Nat) (k7 : Nat) (kp : Nat) (k9 : Nat) (VL : Nat → List LNT) (VC : Nat → Nat → List Int32) (DY : Nat → Int32) (h0 : Nat) (jf : Nat) (nw : Nat) (nk : Nat) (mhasKept : Int32) (nt : Nat) (mtaped : Int32) (nr : Nat) (mrowMany : Int32) (mroundOf : Int32) (mroundFrom : Int32) (jw : Nat) (nm : Nat) (mfromHour : Int32) (mtoHour : Int32) (ns : Nat) (mfrom : Int32) (mto : Int32) (msort : Int32) (misFault : Int32) (mdeep : Int32) (mcoded : Int32) (mlines : Int32) (nl : Nat) (nc : Nat) (nF : Nat) (np : Nat) (ntr : Nat) (nb : Nat) (mbestCost : Int32) (nso : Nat) (nsi : Nat) (nit : Nat) (nsh : Nat) (nsf : Nat) (nss : Nat) (nrc : Nat) (mtraced : Int32) (mdealer : Int32) (mnumber : Int32) (mwhose : Int32) (msize : Int32) (misParted : Int32) (fnw : Nat → Int32) (fnm : Nat → Int32) (fns : Nat → Int32) (fnp : Nat → Int32) (hjf : jf < k9) (hV : VI fnw) (hM : MB fnm) (hN : NI fnw) (hgp : GPRm (fnw 3)) (ekq : fnw 5 = nI kq) (hkq : kq ≤ 12) (e6 : fnw 6 = nI k6) (hk6 : k6 ≤ 24) (ek7 : fnw 7 = nI k7) (hk7 : k7 ≤ 8) (ekp : fnw 4 = nI kp) (hkp : kp ≤ 10) (hVM : VMZ fnw k7 VL VC DY) (hFN : FNO (shf fnw 1552) k9 kp) (hk9 : k9 ≤ 12) (hjw : jw < 4096) : K_m_standsO l G kq k6 k7 VL VC DY h0 jf nw nk mhasKept nt mtaped nr mrowMany mroundOf mroundFrom jw nm mfromHour mtoHour ns mfrom mto msort misFault mdeep mcoded mlines nl nc nF np ntr nb mbestCost nso nsi nit nsh nsf nss nrc mtraced mdealer mnumber mwhose msize misParted fnw fnm fns fnp := by
  refine MI.start (by decide +kernel) (Nat.le_of_ble_eq_true rfl) ?_
  intro p e s m below meth c A ls hC hK hP hD hS hA hl
  refine absQ (fun Q0 hQ0 => ?_)
  have hl : lv_has ls 3 [(0, .ref h0), (1, .int (nI jf))] := hl
  refine Kan8 hC (fun hx hb hr hml hB hown hlocks hnm => ?_)
  have hf9 := hFN jf hjf
  obtain ⟨je, hje, e90⟩ := Hs_nat (by omega) hf9.1
  obtain ⟨jt, hjt, e91⟩ := Wi7 hf9.2.1
  have hq0 : fnw (1552 + 4 * jf + 0) = shf fnw 1552 (jf * 4 + 0) := congrArg fnw (by omega)
  have hq1 : fnw (1552 + 4 * jf + 1) = shf fnw 1552 (jf * 4 + 1) := congrArg fnw (by omega)
  have hq2 : fnw (1552 + 4 * jf + 2) = shf fnw 1552 (jf * 4 + 2) := congrArg fnw (by omega)
  have hq3 : fnw (1552 + 4 * jf + 3) = shf fnw 1552 (jf * 4 + 3) := congrArg fnw (by omega)
  refine lv_sipush (v := 1552) hx hb gX12_stands_0.1 (by decide) ?_
  refine lv_iconst (v := 4) hx hb gX12_stands_0.2.1 (by decide) ?_
  refine lv_iload_n hx hb gX12_stands_0.2.2.1 rfl (lv_at1 hl) ?_
  refine lv_imul hx hb gX12_stands_0.2.2.2.1 ?_
  refine eqi (x1 := nI (4 * jf)) (nI_mul 4 jf) ?_
  refine lv_iadd hx hb gX12_stands_0.2.2.2.2.1 ?_
  refine eqi (x1 := nI (1552 + 4 * jf)) (nI_add 1552 (4 * jf)) ?_
  refine lv_istore_n (lv' := [(2, .int (nI (1552 + 4 * jf))), (0, .ref h0), (1, .int (nI jf))]) hx hb gX12_stands_0.2.2.2.2.2.1 rfl hl (by decide) rfl (fun ls hl => ?_)
  refine lv_aload_n hx hb gX12_stands_0.2.2.2.2.2.2.1 rfl (lv_at1 hl) ?_
  refine gf_X12_9 hC rfl hK hP 0 rfl rfl gX12_stands_0.2.2.2.2.2.2.2.1 ?_
  refine lv_iload_n hx hb gX12_stands_0.2.2.2.2.2.2.2.2.1 rfl (lv_at0 hl) ?_
  refine lv_iconst (v := 2) hx hb gX12_stands_0.2.2.2.2.2.2.2.2.2 (by decide) ?_
  refine lv_iadd hx hb gX12_stands_1.1 ?_
  refine eqi (x1 := nI (1552 + 4 * jf + 2)) (nI_add (1552 + 4 * jf) 2) ?_
  refine aldN hC hK hP 1 rfl (k := 1552 + 4 * jf + 2) (by omega) (Nat.le_of_ble_eq_true rfl) (v := shf fnw 1552 (jf * 4 + 2)) (hq2) gX12_stands_1.2.1 ?_
  refine lv_aload_n hx hb gX12_stands_1.2.2.1 rfl (lv_at1 hl) ?_
  refine lv_aload_n hx hb gX12_stands_1.2.2.2.1 rfl (lv_at1 hl) ?_
  refine gf_X12_9 hC rfl hK hP 0 rfl rfl gX12_stands_1.2.2.2.2.1 ?_
  refine lv_iload_n hx hb gX12_stands_1.2.2.2.2.2.1 rfl (lv_at0 hl) ?_
  refine lv_iconst (v := 0) hx hb gX12_stands_1.2.2.2.2.2.2.1 (by decide) ?_
  refine lv_iadd hx hb gX12_stands_1.2.2.2.2.2.2.2.1 ?_
  refine eqi (x1 := nI (1552 + 4 * jf + 0)) (nI_add (1552 + 4 * jf) 0) ?_
  refine aldN hC hK hP 1 rfl (k := 1552 + 4 * jf + 0) (by omega) (Nat.le_of_ble_eq_true rfl) (v := nI je) (hq0.trans e90) gX12_stands_1.2.2.2.2.2.2.2.2.1 ?_
  refine lv_aload_n hx hb gX12_stands_1.2.2.2.2.2.2.2.2.2 rfl (lv_at1 hl) ?_
  refine gf_X12_9 hC rfl hK hP 0 rfl rfl gX12_stands_2.1 ?_
  refine lv_iload_n hx hb gX12_stands_2.2.1 rfl (lv_at0 hl) ?_
  refine lv_iconst (v := 1) hx hb gX12_stands_2.2.2.1 (by decide) ?_
  refine lv_iadd hx hb gX12_stands_2.2.2.2.1 ?_
  refine eqi (x1 := nI (1552 + 4 * jf + 1)) (nI_add (1552 + 4 * jf) 1) ?_
  refine aldN hC hK hP 1 rfl (k := 1552 + 4 * jf + 1) (by omega) (Nat.le_of_ble_eq_true rfl) (v := nI jt) (hq1.trans e91) gX12_stands_2.2.2.2.2.1 ?_
  refine lv_aload_n hx hb gX12_stands_2.2.2.2.2.2.1 rfl (lv_at1 hl) ?_
  refine gf_X12_9 hC rfl hK hP 0 rfl rfl gX12_stands_2.2.2.2.2.2.2.1 ?_
  refine lv_iload_n hx hb gX12_stands_2.2.2.2.2.2.2.2.1 rfl (lv_at0 hl) ?_
  refine lv_iconst (v := 3) hx hb gX12_stands_2.2.2.2.2.2.2.2.2.1 (by decide) ?_
  refine lv_iadd hx hb gX12_stands_2.2.2.2.2.2.2.2.2.2 ?_
  refine eqi (x1 := nI (1552 + 4 * jf + 3)) (nI_add (1552 + 4 * jf) 3) ?_
  refine aldN hC hK hP 1 rfl (k := 1552 + 4 * jf + 3) (by omega) (Nat.le_of_ble_eq_true rfl) (v := shf fnw 1552 (jf * 4 + 3)) (hq3) gX12_stands_3.1 ?_
  refine iV (wr := []) hC hK hl hP hD hS hA (m_fromOfO l G kq k6 k7 VL VC DY h0 je jt (shf fnw 1552 (jf * 4 + 3)) nw nk mhasKept nt mtaped nr mrowMany mroundOf mroundFrom jw nm mfromHour mtoHour ns mfrom mto msort misFault mdeep mcoded mlines nl nc nF np ntr nb mbestCost nso nsi nit nsh nsf nss nrc mtraced mdealer mnumber mwhose msize misParted fnw fnm fns fnp (by omega) (by omega) (hf9.2.2.2) (hV) (hM) (hN) (hgp) (ekq) (hkq) (e6) (hk6) (ek7) (hk7) (hVM) (hjw)) si_X12_203 [0, 1, 2, 3, 4] [] sm_0_1_2_3_4 fm_0_1_2_3_4 nd_0_1_2_3_4 rfl rfl (by decide) rfl rfl rfl rfl rfl (Nat.le_of_ble_eq_true rfl) rm_10_9_4 ⟨Nat.le_of_ble_eq_true rfl, Nat.le_of_ble_eq_true rfl⟩ gX12_stands_3.2.1 (fun r8189 => Ktu5 fun fh18191 th18192 gnm8193 gns8194 gnp8195 => ?_)
  intro H locs hr8189 hP hD hS
  try dsimp only at hr8189
  refine Kpdr (ws := [(h0, oX12 nw nk mhasKept nt mtaped nr mrowMany mroundOf mroundFrom (nI jw) nm fh18191 th18192 ns mfrom mto msort misFault mdeep mcoded mlines nl nc nF np ntr nb mbestCost nso nsi nit nsh nsf nss nrc mtraced mdealer mnumber mwhose msize misParted), (nw, iA G 1662 fnw), (nm, iA G 36 gnm8193), (ns, iA G 8 gns8194), (np, iA G 100 gnp8195)]) hP hD (fun hP hD => ?_)
  obtain ⟨hr8189, w8196⟩ := hr8189
  obtain ⟨w9_8197, hpx8197, hpe8197⟩ := hr8189
  subst r8189
  try dsimp only at hpx8197
  refine lv_icmp_lt (tgt := 51) hx hb gX12_stands_3.2.2.1 (by decide) (fun c_44_8198 => ?_) (fun c_44_8198 => ?_)
  · refine lv_iconst (v := 0) hx hb gX12_stands_3.2.2.2.2.2.1 (by decide) ?_
    refine toQ hQ0 ?_
    exact RI (v := 0) hC hP hD hS [0, 1, 2, 3, 4] (fh18191, th18192, gnm8193, gns8194, gnp8195) rfl rfl (by decide) (⟨Or.inr ⟨rfl, fun h9 => Int32.not_le.mpr c_44_8198 ((STD.iff (LV := (fun e9 => LVF (LNF (RLO DY (DAYV (fnw 0) (fnw 1)) k7) VL) (TRF (RLO DY (DAYV (fnw 0) (fnw 1)) k7) VC (FAX (shf fnw 12) (shf fnw 32) (VSO fnw kq jw) kq e9)))) (ff := shf fnw 1552) (s := jf) e90 e91 (by omega) hjt hf9.2.2.1 (by decide) hpx8197).mpr h9)⟩, by first | assumption | exact w8196⟩) (by decide +kernel) gX12_stands_3.2.2.2.2.2.2
  · refine lv_iconst (v := 1) hx hb gX12_stands_3.2.2.2.1 (by decide) ?_
    refine lv_goto (tgt := 52) hx hb gX12_stands_3.2.2.2.2.1 (by decide) ?_
    refine toQ hQ0 ?_
    exact RI (v := 1) hC hP hD hS [0, 1, 2, 3, 4] (fh18191, th18192, gnm8193, gns8194, gnp8195) rfl rfl (by decide) (⟨Or.inl ⟨rfl, (STD.iff (LV := (fun e9 => LVF (LNF (RLO DY (DAYV (fnw 0) (fnw 1)) k7) VL) (TRF (RLO DY (DAYV (fnw 0) (fnw 1)) k7) VC (FAX (shf fnw 12) (shf fnw 32) (VSO fnw kq jw) kq e9)))) (ff := shf fnw 1552) (s := jf) e90 e91 (by omega) hjt hf9.2.2.1 (by decide) hpx8197).mp (Int32.not_lt.mp c_44_8198)⟩, by first | assumption | exact w8196⟩) (by decide +kernel) gX12_stands_3.2.2.2.2.2.2
def K_m_leansX (l : Launch) (G : GG) (kq : Nat) (k6 : Nat) (k7 : Nat) (VL : Nat → List LNT) (VC : Nat → Nat → List Int32) (DY : Nat → Int32) (h0 : Nat) (jf : Nat) (nw : Nat) (nk : Nat) (mhasKept : Int32) (nt : Nat) (mtaped : Int32) (nr : Nat) (mrowMany : Int32) (mroundOf : Int32) (mroundFrom : Int32) (nm : Nat) (mfromHour : Int32) (mtoHour : Int32) (ns : Nat) (mfrom : Int32) (mto : Int32) (msort : Int32) (misFault : Int32) (mdeep : Int32) (mcoded : Int32) (mlines : Int32) (nl : Nat) (nc : Nat) (nF : Nat) (np : Nat) (ntr : Nat) (nb : Nat) (mbestCost : Int32) (nso : Nat) (nsi : Nat) (nit : Nat) (nsh : Nat) (nsf : Nat) (nss : Nat) (nrc : Nat) (mtraced : Int32) (mdealer : Int32) (mnumber : Int32) (mwhose : Int32) (msize : Int32) (misParted : Int32) (fnw : Nat → Int32) (fnm : Nat → Int32) (fns : Nat → Int32) (fnp : Nat → Int32) : Prop := MI l G yX12_leans cX12_leans 5 (some .int) 11 0 0 [.ref h0, .int (nI jf)] [(h0, oX12 nw nk mhasKept nt mtaped nr mrowMany mroundOf mroundFrom 0 nm mfromHour mtoHour ns mfrom mto msort misFault mdeep mcoded mlines nl nc nF np ntr nb mbestCost nso nsi nit nsh nsf nss nrc mtraced mdealer mnumber mwhose msize misParted), (nw, iA G 1662 fnw), (nm, iA G 36 fnm), (ns, iA G 8 fns), (np, iA G 100 fnp)] (fun (r : Int32) (u : Int32 × Int32 × (Nat → Int32) × (Nat → Int32) × (Nat → Int32)) => (r = (IMB (fun q9 => (STD (KST (shf fnw 104) (VSE fnw kq) (fnw 3).toInt k6) (shf fnw 104) (VSE fnw kq) (shf fnw 32) (shf fnw 12) k6 kq (fun e9 => LVF (LNF (RLO DY (DAYV (fnw 0) (fnw 1)) k7) VL) (TRF (RLO DY (DAYV (fnw 0) (fnw 1)) k7) VC (FAX (shf fnw 12) (shf fnw 32) (VSE fnw kq) kq e9))) (LVN (RLO DY (DAYV (fnw 0) (fnw 1)) k7) VL) (shf fnw 1552)) jf ∧ VSE fnw kq q9 ∧ ¬ (STD (KST (shf fnw 104) (VSO fnw kq (2 ^ q9)) (fnw 3).toInt k6) (shf fnw 104) (VSO fnw kq (2 ^ q9)) (shf fnw 32) (shf fnw 12) k6 kq (fun e9 => LVF (LNF (RLO DY (DAYV (fnw 0) (fnw 1)) k7) VL) (TRF (RLO DY (DAYV (fnw 0) (fnw 1)) k7) VC (FAX (shf fnw 12) (shf fnw 32) (VSO fnw kq (2 ^ q9)) kq e9))) (LVN (RLO DY (DAYV (fnw 0) (fnw 1)) k7) VL) (shf fnw 1552)) jf) kq)) ∧ (MB u.2.2.1)) (fun u : Int32 × Int32 × (Nat → Int32) × (Nat → Int32) × (Nat → Int32) => [(h0, oX12 nw nk mhasKept nt mtaped nr mrowMany mroundOf mroundFrom 0 nm u.1 u.2.1 ns mfrom mto msort misFault mdeep mcoded mlines nl nc nF np ntr nb mbestCost nso nsi nit nsh nsf nss nrc mtraced mdealer mnumber mwhose msize misParted), (nw, iA G 1662 fnw), (nm, iA G 36 u.2.2.1), (ns, iA G 8 u.2.2.2.1), (np, iA G 100 u.2.2.2.2)])
set_option maxHeartbeats 4000000 in
set_option maxRecDepth 100000 in
theorem m_leansX (l : Launch) (G : GG) (kq : Nat) (k6 : Nat) (k7 : Nat) (kp : Nat) (k9 : Nat) (VL : Nat → List LNT) (VC : Nat → Nat → List Int32) (DY : Nat → Int32) (h0 : Nat) (jf : Nat) (nw : Nat) (nk : Nat) (mhasKept : Int32) (nt : Nat) (mtaped : Int32) (nr : Nat) (mrowMany : Int32) (mroundOf : Int32) (mroundFrom : Int32) (nm : Nat) (mfromHour : Int32) (mtoHour : Int32) (ns : Nat) (mfrom : Int32) (mto : Int32) (msort : Int32) (misFault : Int32) (mdeep : Int32) (mcoded : Int32) (mlines : Int32) (nl : Nat) (nc : Nat) (nF : Nat) (np : Nat) (ntr : Nat) (nb : Nat) (mbestCost : Int32) (nso : Nat) (nsi : Nat) (nit : Nat) (nsh : Nat) (nsf : Nat) (nss : Nat) (nrc : Nat) (mtraced : Int32) (mdealer : Int32) (mnumber : Int32) (mwhose : Int32) (msize : Int32) (misParted : Int32) (fnw : Nat → Int32) (fnm : Nat → Int32) (fns : Nat → Int32) (fnp : Nat → Int32) (hjf : jf < k9) (hV : VI fnw) (hM : MB fnm) (hN : NI fnw) (hgp : GPRm (fnw 3)) (ekq : fnw 5 = nI kq) (hkq : kq ≤ 12) (e6 : fnw 6 = nI k6) (hk6 : k6 ≤ 24) (ek7 : fnw 7 = nI k7) (hk7 : k7 ≤ 8) (ekp : fnw 4 = nI kp) (hkp : kp ≤ 10) (hVM : VMZ fnw k7 VL VC DY) (hFN : FNO (shf fnw 1552) k9 kp) (hk9 : k9 ≤ 12) : K_m_leansX l G kq k6 k7 VL VC DY h0 jf nw nk mhasKept nt mtaped nr mrowMany mroundOf mroundFrom nm mfromHour mtoHour ns mfrom mto msort misFault mdeep mcoded mlines nl nc nF np ntr nb mbestCost nso nsi nit nsh nsf nss nrc mtraced mdealer mnumber mwhose msize misParted fnw fnm fns fnp := by
  refine MI.start (by decide +kernel) (Nat.le_of_ble_eq_true rfl) ?_
  intro p e s m below meth c A ls hC hK hP hD hS hA hl
  refine absQ (fun Q0 hQ0 => ?_)
  have hl : lv_has ls 5 [(0, .ref h0), (1, .int (nI jf))] := hl
  refine Kan8 hC (fun hx hb hr hml hB hown hlocks hnm => ?_)
  refine lv_aload_n hx hb gX12_leans_0.1 rfl (lv_at0 hl) ?_
  refine lv_iload_n hx hb gX12_leans_0.2.1 rfl (lv_at1 hl) ?_
  refine iV (wr := []) hC hK hl hP hD hS hA (m_standsX l G kq k6 k7 kp k9 VL VC DY h0 jf nw nk mhasKept nt mtaped nr mrowMany mroundOf mroundFrom nm mfromHour mtoHour ns mfrom mto msort misFault mdeep mcoded mlines nl nc nF np ntr nb mbestCost nso nsi nit nsh nsf nss nrc mtraced mdealer mnumber mwhose msize misParted fnw fnm fns fnp (hjf) (hV) (hM) (hN) (hgp) (ekq) (hkq) (e6) (hk6) (ek7) (hk7) (ekp) (hkp) (hVM) (hFN) (hk9)) si_X12_305 [0, 1, 2, 3, 4] [] sm_0_1_2_3_4 fm_0_1_2_3_4 nd_0_1_2_3_4 rfl rfl (by decide) rfl rfl rfl rfl rfl (Nat.le_of_ble_eq_true rfl) rm_11_10_3 ⟨Nat.le_of_ble_eq_true rfl, Nat.le_of_ble_eq_true rfl⟩ gX12_leans_0.2.2.1 (fun r8199 => Ktu5 fun fh18201 th18202 gnm8203 gns8204 gnp8205 => ?_)
  intro H locs hr8199 hP hD hS
  try dsimp only at hr8199
  refine Kpdr (ws := [(h0, oX12 nw nk mhasKept nt mtaped nr mrowMany mroundOf mroundFrom 0 nm fh18201 th18202 ns mfrom mto msort misFault mdeep mcoded mlines nl nc nF np ntr nb mbestCost nso nsi nit nsh nsf nss nrc mtraced mdealer mnumber mwhose msize misParted), (nw, iA G 1662 fnw), (nm, iA G 36 gnm8203), (ns, iA G 8 gns8204), (np, iA G 100 gnp8205)]) hP hD (fun hP hD => ?_)
  obtain ⟨hr8199, w8206⟩ := hr8199
  rcases hr8199 with ⟨rfl, a8207⟩ | ⟨rfl, a8207⟩
  · refine lv_if_eq (tgt := 15) hx hb gX12_leans_0.2.2.2.1 (by decide) (fun c9 => absurd c9 (by decide)) (fun _ => ?_)
    refine lv_aload_n hx hb gX12_leans_0.2.2.2.2.1 rfl (lv_at0 hl) ?_
    refine pV hC hK hl hP hD (m_inViewX l G kq h0 nw nk mhasKept nt mtaped nr mrowMany mroundOf mroundFrom nm fh18201 th18202 ns mfrom mto msort misFault mdeep mcoded mlines nl nc nF np ntr nb mbestCost nso nsi nit nsh nsf nss nrc mtraced mdealer mnumber mwhose msize misParted fnw (ekq) (hkq)) si_X12_107 [0, 1] sm_0_1 fm_0_1 nd_0_1 rfl rfl rfl rfl rfl (Nat.le_of_ble_eq_true rfl) rm_11_3_3 ⟨by first | exact Nat.le_of_ble_eq_true rfl | exact Nat.zero_le _, by first | exact Nat.le_of_ble_eq_true rfl | exact Nat.zero_le _⟩ gX12_leans_0.2.2.2.2.2.1 (Keqr ?_)
    refine lv_goto (tgt := 16) hx hb gX12_leans_0.2.2.2.2.2.2.1 (by decide) ?_
    refine lv_istore_n (lv' := [(2, .int (IVW (shf fnw 32) (fnw 0) (fnw 1) (fnw 2) kq)), (0, .ref h0), (1, .int (nI jf))]) hx hb gX12_leans_0.2.2.2.2.2.2.2.2.1 rfl hl (by decide) rfl (fun ls hl => ?_)
    refine lv_iconst (v := 0) hx hb gX12_leans_0.2.2.2.2.2.2.2.2.2 (by decide) ?_
    refine lv_istore_n (lv' := [(3, .int 0), (2, .int (IVW (shf fnw 32) (fnw 0) (fnw 1) (fnw 2) kq)), (0, .ref h0), (1, .int (nI jf))]) hx hb gX12_leans_1.1 rfl hl (by decide) rfl (fun ls hl => ?_)
    refine lv_iconst (v := 0) hx hb gX12_leans_1.2.1 (by decide) ?_
    refine lv_istore (lv' := [(4, .int 0), (3, .int 0), (2, .int (IVW (shf fnw 32) (fnw 0) (fnw 1) (fnw 2) kq)), (0, .ref h0), (1, .int (nI jf))]) hx hb gX12_leans_1.2.2.1 hl (by decide) rfl (fun ls hl => ?_)
    have keyP : ∀ (nP kP : Nat) (se : Int32) (vfh : Int32) (vth : Int32) (vA : Nat → Int32) (vS : Nat → Int32) (vR : Nat → Int32) (H : Heap) (locs : List Loc) (ls : Array Slot), kP + nP = kq → (MB vA) → (se = IMB (fun q9 => (STD (KST (shf fnw 104) (VSE fnw kq) (fnw 3).toInt k6) (shf fnw 104) (VSE fnw kq) (shf fnw 32) (shf fnw 12) k6 kq (fun e9 => LVF (LNF (RLO DY (DAYV (fnw 0) (fnw 1)) k7) VL) (TRF (RLO DY (DAYV (fnw 0) (fnw 1)) k7) VC (FAX (shf fnw 12) (shf fnw 32) (VSE fnw kq) kq e9))) (LVN (RLO DY (DAYV (fnw 0) (fnw 1)) k7) VL) (shf fnw 1552)) jf ∧ VSE fnw kq q9 ∧ ¬ (STD (KST (shf fnw 104) (VSO fnw kq (2 ^ q9)) (fnw 3).toInt k6) (shf fnw 104) (VSO fnw kq (2 ^ q9)) (shf fnw 32) (shf fnw 12) k6 kq (fun e9 => LVF (LNF (RLO DY (DAYV (fnw 0) (fnw 1)) k7) VL) (TRF (RLO DY (DAYV (fnw 0) (fnw 1)) k7) VC (FAX (shf fnw 12) (shf fnw 32) (VSO fnw kq (2 ^ q9)) kq e9))) (LVN (RLO DY (DAYV (fnw 0) (fnw 1)) k7) VL) (shf fnw 1552)) jf) kP) → va_PD G A [(h0, oX12 nw nk mhasKept nt mtaped nr mrowMany mroundOf mroundFrom 0 nm vfh vth ns mfrom mto msort misFault mdeep mcoded mlines nl nc nF np ntr nb mbestCost nso nsi nit nsh nsf nss nrc mtraced mdealer mnumber mwhose msize misParted), (nw, iA G 1662 fnw), (nm, iA G 36 vA), (ns, iA G 8 vS), (np, iA G 100 vR)] H → va_S A s.heap H locs → lv_has ls 5 [(4, .int (nI kP)), (3, .int se), (2, .int (IVW (shf fnw 32) (fnw 0) (fnw 1) (fnw 2) kq)), (0, .ref h0), (1, .int (nI jf))] → W p l e (RM 11 0 0) s m ([.ref h0, .int (nI jf)] : List Value).toArray below meth c H locs 0 0 Q0 (F0 m 22 ls []) := by
      intro nP
      induction nP with
      | zero =>
        intro kP se vfh vth vA vS vR H locs ls hkP hvA hle hPD hS hl
        refine Kan2 hPD (fun hP hD => ?_)
        obtain rfl : kq = kP := by omega
        have hl : lv_has ls 5 [(4, .int (nI kq)), (3, .int se), (2, .int (IVW (shf fnw 32) (fnw 0) (fnw 1) (fnw 2) kq)), (0, .ref h0), (1, .int (nI jf))] := hl
        refine lv_iload hx hb gX12_leans_1.2.2.2.1 (lv_at0 hl) ?_
        refine lv_aload_n hx hb gX12_leans_1.2.2.2.2.1 rfl (lv_at3 hl) ?_
        refine gf_X12_9 hC rfl hK hP 0 rfl rfl gX12_leans_1.2.2.2.2.2.1 ?_
        refine lv_iconst (v := 5) hx hb gX12_leans_1.2.2.2.2.2.2.1 (by decide) ?_
        refine ald hC hK hP 1 rfl (vin (by decide +kernel)) (k := 5) (by decide +kernel) (v := nI kq) (ekq) gX12_leans_1.2.2.2.2.2.2.2.1 ?_
        refine lv_icmp_ge (tgt := 80) hx hb gX12_leans_1.2.2.2.2.2.2.2.2.1 (by decide) (fun _ => ?_) (fun c9 => absurd (Int32.le_refl _) c9)
        refine lv_iload_n hx hb gX12_leans_4.2.2.2.2.2.1 rfl (lv_at1 hl) ?_
        refine toQ hQ0 ?_
        exact RI (v := se) hC hP hD hS [0, 1, 2, 3, 4] (vfh, vth, vA, vS, vR) rfl rfl (by decide) (⟨hle, by first | assumption | exact hvA⟩) rfl gX12_leans_4.2.2.2.2.2.2
      | succ nP ihP =>
        intro kP se vfh vth vA vS vR H locs ls hkP hvA hle hPD hS hl
        refine Kan2 hPD (fun hP hD => ?_)
        refine lv_iload hx hb gX12_leans_1.2.2.2.1 (lv_at0 hl) ?_
        refine lv_aload_n hx hb gX12_leans_1.2.2.2.2.1 rfl (lv_at3 hl) ?_
        refine gf_X12_9 hC rfl hK hP 0 rfl rfl gX12_leans_1.2.2.2.2.2.1 ?_
        refine lv_iconst (v := 5) hx hb gX12_leans_1.2.2.2.2.2.2.1 (by decide) ?_
        refine ald hC hK hP 1 rfl (vin (by decide +kernel)) (k := 5) (by decide +kernel) (v := nI kq) (ekq) gX12_leans_1.2.2.2.2.2.2.2.1 ?_
        refine lv_icmp_ge (tgt := 80) hx hb gX12_leans_1.2.2.2.2.2.2.2.2.1 (by decide) (fun c9 => absurd c9 (nI_ge (a := kP) (b := kq) (by omega) (by omega))) (fun _ => ?_)
        refine lv_iload_n hx hb gX12_leans_1.2.2.2.2.2.2.2.2.2 rfl (lv_at2 hl) ?_
        refine lv_iload hx hb gX12_leans_2.1 (lv_at0 hl) ?_
        refine pS hC hK hl (m_has l G (IVW (shf fnw 32) (fnw 0) (fnw 1) (fnw 2) kq) (nI kP)) si_X12_99 rfl rfl (Nat.le_of_ble_eq_true rfl) rm_11_1_2 ⟨by first | exact Nat.le_of_ble_eq_true rfl | exact Nat.zero_le _, by first | exact Nat.le_of_ble_eq_true rfl | exact Nat.zero_le _⟩ gX12_leans_2.2.1 (Kors (Keqa fun a8211 => ?_) (Keqa fun a8211 => ?_))
        · refine lv_if_eq (tgt := 74) hx hb gX12_leans_2.2.2.1 (by decide) (fun c9 => absurd c9 (by decide)) (fun _ => ?_)
          have hpw9 : 2 ^ kP < 4096 := Nat.lt_of_lt_of_le (Nat.pow_lt_pow_right (by decide) (show kP < 12 by omega)) (by decide)
          refine lv_aload_n hx hb gX12_leans_2.2.2.2.1 rfl (lv_at3 hl) ?_
          refine lv_iconst (v := 1) hx hb gX12_leans_2.2.2.2.2.1 (by decide) ?_
          refine lv_iload hx hb gX12_leans_2.2.2.2.2.2.1 (lv_at0 hl) ?_
          refine lv_ishl hx hb gX12_leans_2.2.2.2.2.2.2.1 ?_
          refine eqi (x1 := nI (2 ^ kP)) ((sh13 ⟨kP, by omega⟩).1) ?_
          refine pf_X12_96 hC rfl hK hP hD hS 0 (ws' := [(h0, oX12 nw nk mhasKept nt mtaped nr mrowMany mroundOf mroundFrom (nI (2 ^ kP)) nm vfh vth ns mfrom mto msort misFault mdeep mcoded mlines nl nc nF np ntr nb mbestCost nso nsi nit nsh nsf nss nrc mtraced mdealer mnumber mwhose msize misParted), (nw, iA G 1662 fnw), (nm, iA G 36 vA), (ns, iA G 8 vS), (np, iA G 100 vR)]) rfl (Nat.le_of_ble_eq_true rfl) rfl rfl rfl gX12_leans_2.2.2.2.2.2.2.2.1 (fun H locs hP hD hS => ?_)
          refine lv_iload_n hx hb gX12_leans_2.2.2.2.2.2.2.2.2.1 rfl (lv_at1 hl) ?_
          refine lv_aload_n hx hb gX12_leans_2.2.2.2.2.2.2.2.2.2 rfl (lv_at3 hl) ?_
          refine lv_iload_n hx hb gX12_leans_3.1 rfl (lv_at4 hl) ?_
          refine iV (wr := []) hC hK hl hP hD hS hA (m_standsO l G kq k6 k7 kp k9 VL VC DY h0 jf nw nk mhasKept nt mtaped nr mrowMany mroundOf mroundFrom (2 ^ kP) nm vfh vth ns mfrom mto msort misFault mdeep mcoded mlines nl nc nF np ntr nb mbestCost nso nsi nit nsh nsf nss nrc mtraced mdealer mnumber mwhose msize misParted fnw vA vS vR (hjf) (hV) (hvA) (hN) (hgp) (ekq) (hkq) (e6) (hk6) (ek7) (hk7) (ekp) (hkp) (hVM) (hFN) (hk9) (by omega)) si_X12_305 [0, 1, 2, 3, 4] [] sm_0_1_2_3_4 fm_0_1_2_3_4 nd_0_1_2_3_4 rfl rfl (by decide) rfl rfl rfl rfl rfl (Nat.le_of_ble_eq_true rfl) rm_11_10_3 ⟨Nat.le_of_ble_eq_true rfl, Nat.le_of_ble_eq_true rfl⟩ gX12_leans_3.2.1 (fun r8212 => Ktu5 fun fh18214 th18215 gnm8216 gns8217 gnp8218 => ?_)
          intro H locs hr8212 hP hD hS
          try dsimp only at hr8212
          refine Kpdr (ws := [(h0, oX12 nw nk mhasKept nt mtaped nr mrowMany mroundOf mroundFrom (nI (2 ^ kP)) nm fh18214 th18215 ns mfrom mto msort misFault mdeep mcoded mlines nl nc nF np ntr nb mbestCost nso nsi nit nsh nsf nss nrc mtraced mdealer mnumber mwhose msize misParted), (nw, iA G 1662 fnw), (nm, iA G 36 gnm8216), (ns, iA G 8 gns8217), (np, iA G 100 gnp8218)]) hP hD (fun hP hD => ?_)
          obtain ⟨hr8212, w8219⟩ := hr8212
          rcases hr8212 with ⟨rfl, a8220⟩ | ⟨rfl, a8220⟩
          · refine lv_if_eq (tgt := 63) hx hb gX12_leans_3.2.2.1 (by decide) (fun c9 => absurd c9 (by decide)) (fun _ => ?_)
            refine lv_iconst (v := 0) hx hb gX12_leans_3.2.2.2.1 (by decide) ?_
            refine lv_goto (tgt := 67) hx hb gX12_leans_3.2.2.2.2.1 (by decide) ?_
            refine lv_ior hx hb gX12_leans_3.2.2.2.2.2.2.2.2.1 ?_
            refine lv_istore_n (lv' := [(3, .int (se ||| 0)), (4, .int (nI kP)), (2, .int (IVW (shf fnw 32) (fnw 0) (fnw 1) (fnw 2) kq)), (0, .ref h0), (1, .int (nI jf))]) hx hb gX12_leans_3.2.2.2.2.2.2.2.2.2 rfl hl (by decide) rfl (fun ls hl => ?_)
            refine lv_aload_n hx hb gX12_leans_4.1 rfl (lv_at3 hl) ?_
            refine lv_iconst (v := 0) hx hb gX12_leans_4.2.1 (by decide) ?_
            refine pf_X12_96 hC rfl hK hP hD hS 0 (ws' := [(h0, oX12 nw nk mhasKept nt mtaped nr mrowMany mroundOf mroundFrom 0 nm fh18214 th18215 ns mfrom mto msort misFault mdeep mcoded mlines nl nc nF np ntr nb mbestCost nso nsi nit nsh nsf nss nrc mtraced mdealer mnumber mwhose msize misParted), (nw, iA G 1662 fnw), (nm, iA G 36 gnm8216), (ns, iA G 8 gns8217), (np, iA G 100 gnp8218)]) rfl (Nat.le_of_ble_eq_true rfl) rfl rfl rfl gX12_leans_4.2.2.1 (fun H locs hP hD hS => ?_)
            refine lv_iinc (v := nI (kP + 1)) (lv' := [(4, .int (nI (kP + 1))), (3, .int (se ||| 0)), (2, .int (IVW (shf fnw 32) (fnw 0) (fnw 1) (fnw 2) kq)), (0, .ref h0), (1, .int (nI jf))]) hx hb gX12_leans_4.2.2.2.1 hl (k := 1) rfl (nI_1 _) (by decide) rfl (fun ls hl => ?_)
            refine lv_goto (tgt := 22) hx hb gX12_leans_4.2.2.2.2.1 (by decide) ?_
            have hst9 : se ||| 0 = IMB (fun q9 => (STD (KST (shf fnw 104) (VSE fnw kq) (fnw 3).toInt k6) (shf fnw 104) (VSE fnw kq) (shf fnw 32) (shf fnw 12) k6 kq (fun e9 => LVF (LNF (RLO DY (DAYV (fnw 0) (fnw 1)) k7) VL) (TRF (RLO DY (DAYV (fnw 0) (fnw 1)) k7) VC (FAX (shf fnw 12) (shf fnw 32) (VSE fnw kq) kq e9))) (LVN (RLO DY (DAYV (fnw 0) (fnw 1)) k7) VL) (shf fnw 1552)) jf ∧ VSE fnw kq q9 ∧ ¬ (STD (KST (shf fnw 104) (VSO fnw kq (2 ^ q9)) (fnw 3).toInt k6) (shf fnw 104) (VSO fnw kq (2 ^ q9)) (shf fnw 32) (shf fnw 12) k6 kq (fun e9 => LVF (LNF (RLO DY (DAYV (fnw 0) (fnw 1)) k7) VL) (TRF (RLO DY (DAYV (fnw 0) (fnw 1)) k7) VC (FAX (shf fnw 12) (shf fnw 32) (VSO fnw kq (2 ^ q9)) kq e9))) (LVN (RLO DY (DAYV (fnw 0) (fnw 1)) k7) VL) (shf fnw 1552)) jf) (kP + 1) := (Int32.or_zero).trans (IMB.n hle (fun h9 => h9.2.2 a8220))
            exact ihP (kP + 1) (se ||| 0) fh18214 th18215 gnm8216 gns8217 gnp8218 _ _ _ (by omega) (by first | assumption | exact Or.inl rfl | exact Or.inr rfl | exact rfl) (by first | assumption | exact Or.inl rfl | exact Or.inr rfl | exact rfl) (And.intro hP hD) hS (lv_sub hl [0, 1, 2, 3, 4] rfl)
          · refine lv_if_eq (tgt := 63) hx hb gX12_leans_3.2.2.1 (by decide) (fun _ => ?_) (fun c9 => absurd (by decide) c9)
            refine lv_iconst (v := 1) hx hb gX12_leans_3.2.2.2.2.2.1 (by decide) ?_
            refine lv_iload hx hb gX12_leans_3.2.2.2.2.2.2.1 (lv_at0 hl) ?_
            refine lv_ishl hx hb gX12_leans_3.2.2.2.2.2.2.2.1 ?_
            refine lv_ior hx hb gX12_leans_3.2.2.2.2.2.2.2.2.1 ?_
            refine lv_istore_n (lv' := [(3, .int (se ||| (1 <<< ((nI kP) &&& 31)))), (4, .int (nI kP)), (2, .int (IVW (shf fnw 32) (fnw 0) (fnw 1) (fnw 2) kq)), (0, .ref h0), (1, .int (nI jf))]) hx hb gX12_leans_3.2.2.2.2.2.2.2.2.2 rfl hl (by decide) rfl (fun ls hl => ?_)
            refine lv_aload_n hx hb gX12_leans_4.1 rfl (lv_at3 hl) ?_
            refine lv_iconst (v := 0) hx hb gX12_leans_4.2.1 (by decide) ?_
            refine pf_X12_96 hC rfl hK hP hD hS 0 (ws' := [(h0, oX12 nw nk mhasKept nt mtaped nr mrowMany mroundOf mroundFrom 0 nm fh18214 th18215 ns mfrom mto msort misFault mdeep mcoded mlines nl nc nF np ntr nb mbestCost nso nsi nit nsh nsf nss nrc mtraced mdealer mnumber mwhose msize misParted), (nw, iA G 1662 fnw), (nm, iA G 36 gnm8216), (ns, iA G 8 gns8217), (np, iA G 100 gnp8218)]) rfl (Nat.le_of_ble_eq_true rfl) rfl rfl rfl gX12_leans_4.2.2.1 (fun H locs hP hD hS => ?_)
            refine lv_iinc (v := nI (kP + 1)) (lv' := [(4, .int (nI (kP + 1))), (3, .int (se ||| (1 <<< ((nI kP) &&& 31)))), (2, .int (IVW (shf fnw 32) (fnw 0) (fnw 1) (fnw 2) kq)), (0, .ref h0), (1, .int (nI jf))]) hx hb gX12_leans_4.2.2.2.1 hl (k := 1) rfl (nI_1 _) (by decide) rfl (fun ls hl => ?_)
            refine lv_goto (tgt := 22) hx hb gX12_leans_4.2.2.2.2.1 (by decide) ?_
            have hst9 : se ||| (1 <<< ((nI kP) &&& 31)) = IMB (fun q9 => (STD (KST (shf fnw 104) (VSE fnw kq) (fnw 3).toInt k6) (shf fnw 104) (VSE fnw kq) (shf fnw 32) (shf fnw 12) k6 kq (fun e9 => LVF (LNF (RLO DY (DAYV (fnw 0) (fnw 1)) k7) VL) (TRF (RLO DY (DAYV (fnw 0) (fnw 1)) k7) VC (FAX (shf fnw 12) (shf fnw 32) (VSE fnw kq) kq e9))) (LVN (RLO DY (DAYV (fnw 0) (fnw 1)) k7) VL) (shf fnw 1552)) jf ∧ VSE fnw kq q9 ∧ ¬ (STD (KST (shf fnw 104) (VSO fnw kq (2 ^ q9)) (fnw 3).toInt k6) (shf fnw 104) (VSO fnw kq (2 ^ q9)) (shf fnw 32) (shf fnw 12) k6 kq (fun e9 => LVF (LNF (RLO DY (DAYV (fnw 0) (fnw 1)) k7) VL) (TRF (RLO DY (DAYV (fnw 0) (fnw 1)) k7) VC (FAX (shf fnw 12) (shf fnw 32) (VSO fnw kq (2 ^ q9)) kq e9))) (LVN (RLO DY (DAYV (fnw 0) (fnw 1)) k7) VL) (shf fnw 1552)) jf) (kP + 1) := IMB.y hle ⟨a8207, ⟨by omega, (IVW.hb (by omega) (by omega)).mp ((HB.iff (by omega)).mpr a8211)⟩, a8220⟩
            exact ihP (kP + 1) (se ||| (1 <<< ((nI kP) &&& 31))) fh18214 th18215 gnm8216 gns8217 gnp8218 _ _ _ (by omega) (by first | assumption | exact Or.inl rfl | exact Or.inr rfl | exact rfl) (by first | assumption | exact Or.inl rfl | exact Or.inr rfl | exact rfl) (And.intro hP hD) hS (lv_sub hl [0, 1, 2, 3, 4] rfl)
        · refine lv_if_eq (tgt := 74) hx hb gX12_leans_2.2.2.1 (by decide) (fun _ => ?_) (fun c9 => absurd (by decide) c9)
          refine lv_iinc (v := nI (kP + 1)) (lv' := [(4, .int (nI (kP + 1))), (3, .int se), (2, .int (IVW (shf fnw 32) (fnw 0) (fnw 1) (fnw 2) kq)), (0, .ref h0), (1, .int (nI jf))]) hx hb gX12_leans_4.2.2.2.1 hl (k := 0) rfl (nI_1 _) (by decide) rfl (fun ls hl => ?_)
          refine lv_goto (tgt := 22) hx hb gX12_leans_4.2.2.2.2.1 (by decide) ?_
          have hst9 : se = IMB (fun q9 => (STD (KST (shf fnw 104) (VSE fnw kq) (fnw 3).toInt k6) (shf fnw 104) (VSE fnw kq) (shf fnw 32) (shf fnw 12) k6 kq (fun e9 => LVF (LNF (RLO DY (DAYV (fnw 0) (fnw 1)) k7) VL) (TRF (RLO DY (DAYV (fnw 0) (fnw 1)) k7) VC (FAX (shf fnw 12) (shf fnw 32) (VSE fnw kq) kq e9))) (LVN (RLO DY (DAYV (fnw 0) (fnw 1)) k7) VL) (shf fnw 1552)) jf ∧ VSE fnw kq q9 ∧ ¬ (STD (KST (shf fnw 104) (VSO fnw kq (2 ^ q9)) (fnw 3).toInt k6) (shf fnw 104) (VSO fnw kq (2 ^ q9)) (shf fnw 32) (shf fnw 12) k6 kq (fun e9 => LVF (LNF (RLO DY (DAYV (fnw 0) (fnw 1)) k7) VL) (TRF (RLO DY (DAYV (fnw 0) (fnw 1)) k7) VC (FAX (shf fnw 12) (shf fnw 32) (VSO fnw kq (2 ^ q9)) kq e9))) (LVN (RLO DY (DAYV (fnw 0) (fnw 1)) k7) VL) (shf fnw 1552)) jf) (kP + 1) := IMB.n hle (fun h9 => a8211 ((HB.iff (by omega)).mp ((IVW.hb (by omega) (by omega)).mpr h9.2.1.2)))
          exact ihP (kP + 1) se vfh vth vA vS vR _ _ _ (by omega) (by first | assumption | exact Or.inl rfl | exact Or.inr rfl | exact rfl) (by first | assumption | exact Or.inl rfl | exact Or.inr rfl | exact rfl) (And.intro hP hD) hS (lv_sub hl [0, 1, 2, 3, 4] rfl)
    exact keyP kq 0 0 fh18201 th18202 gnm8203 gns8204 gnp8205 _ _ _ (by omega) (by first | assumption | exact Or.inl rfl | exact Or.inr rfl | exact rfl) (by first | assumption | exact Or.inl rfl | exact Or.inr rfl | exact rfl) (And.intro hP hD) hS (lv_sub hl [0, 1, 2, 3, 4] rfl)
  · refine lv_if_eq (tgt := 15) hx hb gX12_leans_0.2.2.2.1 (by decide) (fun _ => ?_) (fun c9 => absurd (by decide) c9)
    refine lv_iconst (v := 0) hx hb gX12_leans_0.2.2.2.2.2.2.2.1 (by decide) ?_
    refine lv_istore_n (lv' := [(2, .int 0), (0, .ref h0), (1, .int (nI jf))]) hx hb gX12_leans_0.2.2.2.2.2.2.2.2.1 rfl hl (by decide) rfl (fun ls hl => ?_)
    refine lv_iconst (v := 0) hx hb gX12_leans_0.2.2.2.2.2.2.2.2.2 (by decide) ?_
    refine lv_istore_n (lv' := [(3, .int 0), (2, .int 0), (0, .ref h0), (1, .int (nI jf))]) hx hb gX12_leans_1.1 rfl hl (by decide) rfl (fun ls hl => ?_)
    refine lv_iconst (v := 0) hx hb gX12_leans_1.2.1 (by decide) ?_
    refine lv_istore (lv' := [(4, .int 0), (3, .int 0), (2, .int 0), (0, .ref h0), (1, .int (nI jf))]) hx hb gX12_leans_1.2.2.1 hl (by decide) rfl (fun ls hl => ?_)
    have keyP : ∀ (nP kP : Nat) (se : Int32) (vfh : Int32) (vth : Int32) (vA : Nat → Int32) (vS : Nat → Int32) (vR : Nat → Int32) (H : Heap) (locs : List Loc) (ls : Array Slot), kP + nP = kq → (MB vA) → (se = IMB (fun q9 => (STD (KST (shf fnw 104) (VSE fnw kq) (fnw 3).toInt k6) (shf fnw 104) (VSE fnw kq) (shf fnw 32) (shf fnw 12) k6 kq (fun e9 => LVF (LNF (RLO DY (DAYV (fnw 0) (fnw 1)) k7) VL) (TRF (RLO DY (DAYV (fnw 0) (fnw 1)) k7) VC (FAX (shf fnw 12) (shf fnw 32) (VSE fnw kq) kq e9))) (LVN (RLO DY (DAYV (fnw 0) (fnw 1)) k7) VL) (shf fnw 1552)) jf ∧ VSE fnw kq q9 ∧ ¬ (STD (KST (shf fnw 104) (VSO fnw kq (2 ^ q9)) (fnw 3).toInt k6) (shf fnw 104) (VSO fnw kq (2 ^ q9)) (shf fnw 32) (shf fnw 12) k6 kq (fun e9 => LVF (LNF (RLO DY (DAYV (fnw 0) (fnw 1)) k7) VL) (TRF (RLO DY (DAYV (fnw 0) (fnw 1)) k7) VC (FAX (shf fnw 12) (shf fnw 32) (VSO fnw kq (2 ^ q9)) kq e9))) (LVN (RLO DY (DAYV (fnw 0) (fnw 1)) k7) VL) (shf fnw 1552)) jf) kP) → va_PD G A [(h0, oX12 nw nk mhasKept nt mtaped nr mrowMany mroundOf mroundFrom 0 nm vfh vth ns mfrom mto msort misFault mdeep mcoded mlines nl nc nF np ntr nb mbestCost nso nsi nit nsh nsf nss nrc mtraced mdealer mnumber mwhose msize misParted), (nw, iA G 1662 fnw), (nm, iA G 36 vA), (ns, iA G 8 vS), (np, iA G 100 vR)] H → va_S A s.heap H locs → lv_has ls 5 [(4, .int (nI kP)), (3, .int se), (2, .int 0), (0, .ref h0), (1, .int (nI jf))] → W p l e (RM 11 0 0) s m ([.ref h0, .int (nI jf)] : List Value).toArray below meth c H locs 0 0 Q0 (F0 m 22 ls []) := by
      intro nP
      induction nP with
      | zero =>
        intro kP se vfh vth vA vS vR H locs ls hkP hvA hle hPD hS hl
        refine Kan2 hPD (fun hP hD => ?_)
        obtain rfl : kq = kP := by omega
        have hl : lv_has ls 5 [(4, .int (nI kq)), (3, .int se), (2, .int 0), (0, .ref h0), (1, .int (nI jf))] := hl
        refine lv_iload hx hb gX12_leans_1.2.2.2.1 (lv_at0 hl) ?_
        refine lv_aload_n hx hb gX12_leans_1.2.2.2.2.1 rfl (lv_at3 hl) ?_
        refine gf_X12_9 hC rfl hK hP 0 rfl rfl gX12_leans_1.2.2.2.2.2.1 ?_
        refine lv_iconst (v := 5) hx hb gX12_leans_1.2.2.2.2.2.2.1 (by decide) ?_
        refine ald hC hK hP 1 rfl (vin (by decide +kernel)) (k := 5) (by decide +kernel) (v := nI kq) (ekq) gX12_leans_1.2.2.2.2.2.2.2.1 ?_
        refine lv_icmp_ge (tgt := 80) hx hb gX12_leans_1.2.2.2.2.2.2.2.2.1 (by decide) (fun _ => ?_) (fun c9 => absurd (Int32.le_refl _) c9)
        refine lv_iload_n hx hb gX12_leans_4.2.2.2.2.2.1 rfl (lv_at1 hl) ?_
        refine toQ hQ0 ?_
        exact RI (v := se) hC hP hD hS [0, 1, 2, 3, 4] (vfh, vth, vA, vS, vR) rfl rfl (by decide) (⟨hle, by first | assumption | exact hvA⟩) rfl gX12_leans_4.2.2.2.2.2.2
      | succ nP ihP =>
        intro kP se vfh vth vA vS vR H locs ls hkP hvA hle hPD hS hl
        refine Kan2 hPD (fun hP hD => ?_)
        refine lv_iload hx hb gX12_leans_1.2.2.2.1 (lv_at0 hl) ?_
        refine lv_aload_n hx hb gX12_leans_1.2.2.2.2.1 rfl (lv_at3 hl) ?_
        refine gf_X12_9 hC rfl hK hP 0 rfl rfl gX12_leans_1.2.2.2.2.2.1 ?_
        refine lv_iconst (v := 5) hx hb gX12_leans_1.2.2.2.2.2.2.1 (by decide) ?_
        refine ald hC hK hP 1 rfl (vin (by decide +kernel)) (k := 5) (by decide +kernel) (v := nI kq) (ekq) gX12_leans_1.2.2.2.2.2.2.2.1 ?_
        refine lv_icmp_ge (tgt := 80) hx hb gX12_leans_1.2.2.2.2.2.2.2.2.1 (by decide) (fun c9 => absurd c9 (nI_ge (a := kP) (b := kq) (by omega) (by omega))) (fun _ => ?_)
        refine lv_iload_n hx hb gX12_leans_1.2.2.2.2.2.2.2.2.2 rfl (lv_at2 hl) ?_
        refine lv_iload hx hb gX12_leans_2.1 (lv_at0 hl) ?_
        refine pS hC hK hl (m_has l G 0 (nI kP)) si_X12_99 rfl rfl (Nat.le_of_ble_eq_true rfl) rm_11_1_2 ⟨by first | exact Nat.le_of_ble_eq_true rfl | exact Nat.zero_le _, by first | exact Nat.le_of_ble_eq_true rfl | exact Nat.zero_le _⟩ gX12_leans_2.2.1 (Kors (Keqa fun a8222 => ?_) (Keqa fun a8222 => ?_))
        · exact absurd a8222 (BB.z0 (by omega))
        · refine lv_if_eq (tgt := 74) hx hb gX12_leans_2.2.2.1 (by decide) (fun _ => ?_) (fun c9 => absurd (by decide) c9)
          refine lv_iinc (v := nI (kP + 1)) (lv' := [(4, .int (nI (kP + 1))), (3, .int se), (2, .int 0), (0, .ref h0), (1, .int (nI jf))]) hx hb gX12_leans_4.2.2.2.1 hl (k := 0) rfl (nI_1 _) (by decide) rfl (fun ls hl => ?_)
          refine lv_goto (tgt := 22) hx hb gX12_leans_4.2.2.2.2.1 (by decide) ?_
          have hst9 : se = IMB (fun q9 => (STD (KST (shf fnw 104) (VSE fnw kq) (fnw 3).toInt k6) (shf fnw 104) (VSE fnw kq) (shf fnw 32) (shf fnw 12) k6 kq (fun e9 => LVF (LNF (RLO DY (DAYV (fnw 0) (fnw 1)) k7) VL) (TRF (RLO DY (DAYV (fnw 0) (fnw 1)) k7) VC (FAX (shf fnw 12) (shf fnw 32) (VSE fnw kq) kq e9))) (LVN (RLO DY (DAYV (fnw 0) (fnw 1)) k7) VL) (shf fnw 1552)) jf ∧ VSE fnw kq q9 ∧ ¬ (STD (KST (shf fnw 104) (VSO fnw kq (2 ^ q9)) (fnw 3).toInt k6) (shf fnw 104) (VSO fnw kq (2 ^ q9)) (shf fnw 32) (shf fnw 12) k6 kq (fun e9 => LVF (LNF (RLO DY (DAYV (fnw 0) (fnw 1)) k7) VL) (TRF (RLO DY (DAYV (fnw 0) (fnw 1)) k7) VC (FAX (shf fnw 12) (shf fnw 32) (VSO fnw kq (2 ^ q9)) kq e9))) (LVN (RLO DY (DAYV (fnw 0) (fnw 1)) k7) VL) (shf fnw 1552)) jf) (kP + 1) := IMB.n hle (fun h9 => a8207 h9.1)
          exact ihP (kP + 1) se vfh vth vA vS vR _ _ _ (by omega) (by first | assumption | exact Or.inl rfl | exact Or.inr rfl | exact rfl) (by first | assumption | exact Or.inl rfl | exact Or.inr rfl | exact rfl) (And.intro hP hD) hS (lv_sub hl [0, 1, 2, 3, 4] rfl)
    exact keyP kq 0 0 fh18201 th18202 gnm8203 gns8204 gnp8205 _ _ _ (by omega) (by first | assumption | exact Or.inl rfl | exact Or.inr rfl | exact rfl) (by first | assumption | exact Or.inl rfl | exact Or.inr rfl | exact rfl) (And.intro hP hD) hS (lv_sub hl [0, 1, 2, 3, 4] rfl)
def K_m_askedW (l : Launch) (G : GG) (kq : Nat) (k7 : Nat) (VL : Nat → List LNT) (VC : Nat → Nat → List Int32) (DY : Nat → Int32) (h0 : Nat) (je : Nat) (nw : Nat) (nk : Nat) (mhasKept : Int32) (nt : Nat) (mtaped : Int32) (nr : Nat) (mrowMany : Int32) (mroundOf : Int32) (mroundFrom : Int32) (nm : Nat) (mfromHour : Int32) (mtoHour : Int32) (ns : Nat) (mfrom : Int32) (mto : Int32) (msort : Int32) (misFault : Int32) (mdeep : Int32) (mcoded : Int32) (mlines : Int32) (nl : Nat) (nc : Nat) (nF : Nat) (np : Nat) (ntr : Nat) (nb : Nat) (mbestCost : Int32) (nso : Nat) (nsi : Nat) (nit : Nat) (nsh : Nat) (nsf : Nat) (nss : Nat) (nrc : Nat) (mtraced : Int32) (mdealer : Int32) (mnumber : Int32) (mwhose : Int32) (msize : Int32) (misParted : Int32) (fnw : Nat → Int32) (fnp : Nat → Int32) : Prop := MI l G yX12_asked cX12_asked 7 (some .int) 8 0 0 [.ref h0, .int (nI je), .int 1] [(h0, oX12 nw nk mhasKept nt mtaped nr mrowMany mroundOf mroundFrom 0 nm mfromHour mtoHour ns mfrom mto msort misFault mdeep mcoded mlines nl nc nF np ntr nb mbestCost nso nsi nit nsh nsf nss nrc mtraced mdealer mnumber mwhose msize misParted), (nw, iA G 1662 fnw), (np, iA G 100 fnp)] (fun (r : Int32) (u : (Nat → Int32)) => (∃ (w9:Int32), (FWD (LNF (RLO DY (DAYV (fnw 0) (fnw 1)) k7) VL) (TRF (RLO DY (DAYV (fnw 0) (fnw 1)) k7) VC (FAX (shf fnw 12) (shf fnw 32) (VSE fnw kq) kq je)) (LVN (RLO DY (DAYV (fnw 0) (fnw 1)) k7) VL) w9) ∧ r = w9)) (fun u : (Nat → Int32) => [(h0, oX12 nw nk mhasKept nt mtaped nr mrowMany mroundOf mroundFrom 0 nm mfromHour mtoHour ns mfrom mto msort misFault mdeep mcoded mlines nl nc nF np ntr nb mbestCost nso nsi nit nsh nsf nss nrc mtraced mdealer mnumber mwhose msize misParted), (nw, iA G 1662 fnw), (np, iA G 100 u)])
set_option maxHeartbeats 4000000 in
set_option maxRecDepth 100000 in
theorem m_askedW (l : Launch) (G : GG) (kq : Nat) (k7 : Nat) (VL : Nat → List LNT) (VC : Nat → Nat → List Int32) (DY : Nat → Int32) (h0 : Nat) (je : Nat) (nw : Nat) (nk : Nat) (mhasKept : Int32) (nt : Nat) (mtaped : Int32) (nr : Nat) (mrowMany : Int32) (mroundOf : Int32) (mroundFrom : Int32) (nm : Nat) (mfromHour : Int32) (mtoHour : Int32) (ns : Nat) (mfrom : Int32) (mto : Int32) (msort : Int32) (misFault : Int32) (mdeep : Int32) (mcoded : Int32) (mlines : Int32) (nl : Nat) (nc : Nat) (nF : Nat) (np : Nat) (ntr : Nat) (nb : Nat) (mbestCost : Int32) (nso : Nat) (nsi : Nat) (nit : Nat) (nsh : Nat) (nsf : Nat) (nss : Nat) (nrc : Nat) (mtraced : Int32) (mdealer : Int32) (mnumber : Int32) (mwhose : Int32) (msize : Int32) (misParted : Int32) (fnw : Nat → Int32) (fnp : Nat → Int32) (hje : je < 10) (hN : NI fnw) (hV : VI fnw) (ekq : fnw 5 = nI kq) (hkq : kq ≤ 12) (ek7 : fnw 7 = nI k7) (hk7 : k7 ≤ 8) (hVM : VMZ fnw k7 VL VC DY) : K_m_askedW l G kq k7 VL VC DY h0 je nw nk mhasKept nt mtaped nr mrowMany mroundOf mroundFrom nm mfromHour mtoHour ns mfrom mto msort misFault mdeep mcoded mlines nl nc nF np ntr nb mbestCost nso nsi nit nsh nsf nss nrc mtraced mdealer mnumber mwhose msize misParted fnw fnp := by
  refine MI.start (by decide +kernel) (Nat.le_of_ble_eq_true rfl) ?_
  intro p e s m below meth c A ls hC hK hP hD hS hA hl
  refine absQ (fun Q0 hQ0 => ?_)
  have hl : lv_has ls 7 [(0, .ref h0), (1, .int (nI je)), (2, .int 1)] := hl
  refine Kan8 hC (fun hx hb hr hml hB hown hlocks hnm => ?_)
  refine lv_aload_n hx hb gX12_asked_0.1 rfl (lv_at0 hl) ?_
  have hdy9 : ∀ v9, v9 < k7 → fnw (176 + 156 * v9 + 0) = DY v9 := fun v9 h9 => (hVM v9 h9).1
  refine pV hC hK hl hP hD (m_rulesX l G k7 DY h0 nw nk mhasKept nt mtaped nr mrowMany mroundOf mroundFrom 0 nm mfromHour mtoHour ns mfrom mto msort misFault mdeep mcoded mlines nl nc nF np ntr nb mbestCost nso nsi nit nsh nsf nss nrc mtraced mdealer mnumber mwhose msize misParted fnw (hN) (ek7) (hk7) (hdy9)) si_X12_180 [0, 1] sm_0_1 fm_0_1 nd_0_1 rfl rfl rfl rfl rfl (Nat.le_of_ble_eq_true rfl) rm_8_2_3 ⟨by first | exact Nat.le_of_ble_eq_true rfl | exact Nat.zero_le _, by first | exact Nat.le_of_ble_eq_true rfl | exact Nat.zero_le _⟩ gX12_asked_0.2.1 (Keqr ?_)
  obtain ⟨o9, eo9⟩ : ∃ z9, z9 = (RLO DY (DAYV (fnw 0) (fnw 1)) k7) := ⟨_, rfl⟩
  rcases o9 with _ | v9
  · refine eqi (x1 := (-1)) (congrArg LAT eo9.symm) ?_
    refine lv_istore_n (lv' := [(3, .int (-1)), (0, .ref h0), (1, .int (nI je)), (2, .int 1)]) hx hb gX12_asked_0.2.2.1 rfl hl (by decide) rfl (fun ls hl => ?_)
    refine lv_iconst (v := (-1)) hx hb gX12_asked_0.2.2.2.1 (by decide) ?_
    refine lv_istore (lv' := [(4, .int (-1)), (3, .int (-1)), (0, .ref h0), (1, .int (nI je)), (2, .int 1)]) hx hb gX12_asked_0.2.2.2.2.1 hl (by decide) rfl (fun ls hl => ?_)
    refine lv_iconst (v := 0) hx hb gX12_asked_0.2.2.2.2.2.1 (by decide) ?_
    refine lv_istore (lv' := [(5, .int 0), (4, .int (-1)), (3, .int (-1)), (0, .ref h0), (1, .int (nI je)), (2, .int 1)]) hx hb gX12_asked_0.2.2.2.2.2.2.1 hl (by decide) rfl (fun ls hl => ?_)
    refine lv_iload hx hb gX12_asked_0.2.2.2.2.2.2.2.1 (lv_at0 hl) ?_
    refine lv_aload_n hx hb gX12_asked_0.2.2.2.2.2.2.2.2.1 rfl (lv_at3 hl) ?_
    refine lv_iload_n hx hb gX12_asked_0.2.2.2.2.2.2.2.2.2 rfl (lv_at2 hl) ?_
    refine pV hC hK hl hP hD (m_linesN l G h0 nw nk mhasKept nt mtaped nr mrowMany mroundOf mroundFrom 0 nm mfromHour mtoHour ns mfrom mto msort misFault mdeep mcoded mlines nl nc nF np ntr nb mbestCost nso nsi nit nsh nsf nss nrc mtraced mdealer mnumber mwhose msize misParted fnw) si_X12_183 [0, 1] sm_0_1 fm_0_1 nd_0_1 rfl rfl rfl rfl rfl (Nat.le_of_ble_eq_true rfl) rm_8_1_2 ⟨by first | exact Nat.le_of_ble_eq_true rfl | exact Nat.zero_le _, by first | exact Nat.le_of_ble_eq_true rfl | exact Nat.zero_le _⟩ gX12_asked_1.1 (Keqr ?_)
    refine lv_icmp_ge (tgt := 87) hx hb gX12_asked_1.2.1 (by decide) (fun _ => ?_) (fun c9 => absurd (by decide) c9)
    refine lv_iconst (v := 0) hx hb gX12_asked_4.2.2.2.2.2.2.1 (by decide) ?_
    refine lv_iload hx hb gX12_asked_4.2.2.2.2.2.2.2.1 (lv_at1 hl) ?_
    refine va_mmax hx hb (hml.trans hl.1.symm) hown (hB _ m_1319) (hB _ m_142) (hB _ m_105) (hB _ m_143) (Nat.le_of_ble_eq_true rfl) (Nat.le_of_ble_eq_true rfl) (by first | exact Nat.le_of_ble_eq_true rfl | exact Nat.zero_le _)  (by first | exact Nat.le_of_ble_eq_true rfl | exact Nat.zero_le _) gX12_asked_4.2.2.2.2.2.2.2.2.1 ?_
    refine eqi (x1 := 0) (by decide) ?_
    refine toQ hQ0 ?_
    exact RI (v := 0) hC hP hD hS [0, 1, 2] fnp rfl rfl (by decide) (⟨0, Or.inr ⟨fun j9 h9 => absurd h9 (by rw [← eo9]; exact Nat.not_lt_zero j9), rfl⟩, rfl⟩) rfl gX12_asked_4.2.2.2.2.2.2.2.2.2
  · have hv9 := LTS.lt _ _ eo9.symm
    obtain ⟨ed9, hl9, eb9, hrow9⟩ := hVM v9 hv9
    obtain ⟨n9, hn9⟩ : ∃ z9, z9 = (VL v9).length := ⟨_, rfl⟩
    rw [← hn9] at hl9 eb9 hrow9
    obtain ⟨L8, hL8, eL8, hLN8⟩ := VI.line hV (v := v9) (by omega)
    obtain rfl : L8 = n9 := (nI_eq (by omega) (by omega)).mp (eL8.symm.trans eb9)
    have hlb9 : ∀ i, i < L8 → LVB ((LVF (LNF (RLO DY (DAYV (fnw 0) (fnw 1)) k7) VL) (TRF (RLO DY (DAYV (fnw 0) (fnw 1)) k7) VC (FAX (shf fnw 12) (shf fnw 32) (VSE fnw kq) kq je))) i) := fun i hi => by rw [← eo9]; exact LVX.b (hrow9 i hi).1
    refine eqi (x1 := nI v9) (congrArg LAT eo9.symm) ?_
    refine lv_istore_n (lv' := [(3, .int (nI v9)), (0, .ref h0), (1, .int (nI je)), (2, .int 1)]) hx hb gX12_asked_0.2.2.1 rfl hl (by decide) rfl (fun ls hl => ?_)
    refine lv_iconst (v := (-1)) hx hb gX12_asked_0.2.2.2.1 (by decide) ?_
    refine lv_istore (lv' := [(4, .int (-1)), (3, .int (nI v9)), (0, .ref h0), (1, .int (nI je)), (2, .int 1)]) hx hb gX12_asked_0.2.2.2.2.1 hl (by decide) rfl (fun ls hl => ?_)
    refine lv_iconst (v := 0) hx hb gX12_asked_0.2.2.2.2.2.1 (by decide) ?_
    refine lv_istore (lv' := [(5, .int 0), (4, .int (-1)), (3, .int (nI v9)), (0, .ref h0), (1, .int (nI je)), (2, .int 1)]) hx hb gX12_asked_0.2.2.2.2.2.2.1 hl (by decide) rfl (fun ls hl => ?_)
    have keyQ : ∀ (nQ kQ : Nat) (nn : Int32) (vR : Nat → Int32) (H : Heap) (locs : List Loc) (ls : Array Slot), kQ + nQ = L8 → (FWZ (LNF (RLO DY (DAYV (fnw 0) (fnw 1)) k7) VL) (TRF (RLO DY (DAYV (fnw 0) (fnw 1)) k7) VC (FAX (shf fnw 12) (shf fnw 32) (VSE fnw kq) kq je)) kQ nn) → va_PD G A [(h0, oX12 nw nk mhasKept nt mtaped nr mrowMany mroundOf mroundFrom 0 nm mfromHour mtoHour ns mfrom mto msort misFault mdeep mcoded mlines nl nc nF np ntr nb mbestCost nso nsi nit nsh nsf nss nrc mtraced mdealer mnumber mwhose msize misParted), (nw, iA G 1662 fnw), (np, iA G 100 vR)] H → va_S A s.heap H locs → lv_has ls 7 [(5, .int (nI kQ)), (4, .int nn), (3, .int (nI v9)), (0, .ref h0), (1, .int (nI je)), (2, .int 1)] → W p l e (RM 8 0 0) s m ([.ref h0, .int (nI je), .int 1] : List Value).toArray below meth c H locs 0 0 Q0 (F0 m 11 ls []) := by
      intro nQ
      induction nQ with
      | zero =>
        intro kQ nn vR H locs ls hkQ hnn hPD hS hl
        refine Kan2 hPD (fun hP hD => ?_)
        obtain rfl : L8 = kQ := by omega
        have hl : lv_has ls 7 [(5, .int (nI L8)), (4, .int nn), (3, .int (nI v9)), (0, .ref h0), (1, .int (nI je)), (2, .int 1)] := hl
        refine lv_iload hx hb gX12_asked_0.2.2.2.2.2.2.2.1 (lv_at0 hl) ?_
        refine lv_aload_n hx hb gX12_asked_0.2.2.2.2.2.2.2.2.1 rfl (lv_at3 hl) ?_
        refine lv_iload_n hx hb gX12_asked_0.2.2.2.2.2.2.2.2.2 rfl (lv_at2 hl) ?_
        refine pV hC hK hl hP hD (m_lines l G L8 h0 v9 nw nk mhasKept nt mtaped nr mrowMany mroundOf mroundFrom 0 nm mfromHour mtoHour ns mfrom mto msort misFault mdeep mcoded mlines nl nc nF np ntr nb mbestCost nso nsi nit nsh nsf nss nrc mtraced mdealer mnumber mwhose msize misParted fnw (by omega) (eL8)) si_X12_183 [0, 1] sm_0_1 fm_0_1 nd_0_1 rfl rfl rfl rfl rfl (Nat.le_of_ble_eq_true rfl) rm_8_1_2 ⟨by first | exact Nat.le_of_ble_eq_true rfl | exact Nat.zero_le _, by first | exact Nat.le_of_ble_eq_true rfl | exact Nat.zero_le _⟩ gX12_asked_1.1 (Keqr ?_)
        refine lv_icmp_ge (tgt := 87) hx hb gX12_asked_1.2.1 (by decide) (fun _ => ?_) (fun c9 => absurd (Int32.le_refl _) c9)
        rcases hnn with ⟨hno9, rfl⟩ | ⟨a9, ha9, rfl, hfd9⟩
        · refine lv_iconst (v := 0) hx hb gX12_asked_4.2.2.2.2.2.2.1 (by decide) ?_
          refine lv_iload hx hb gX12_asked_4.2.2.2.2.2.2.2.1 (lv_at1 hl) ?_
          refine va_mmax hx hb (hml.trans hl.1.symm) hown (hB _ m_1319) (hB _ m_142) (hB _ m_105) (hB _ m_143) (Nat.le_of_ble_eq_true rfl) (Nat.le_of_ble_eq_true rfl) (by first | exact Nat.le_of_ble_eq_true rfl | exact Nat.zero_le _)  (by first | exact Nat.le_of_ble_eq_true rfl | exact Nat.zero_le _) gX12_asked_4.2.2.2.2.2.2.2.2.1 ?_
          refine eqi (x1 := 0) (by decide) ?_
          refine toQ hQ0 ?_
          exact RI (v := 0) hC hP hD hS [0, 1, 2] vR rfl rfl (by decide) (⟨_, (by rw [(show LVN (RLO DY (DAYV (fnw 0) (fnw 1)) k7) VL = L8 from (congrArg (fun z9 => LVN z9 VL) eo9.symm).trans hn9.symm)]; exact FWZ.end0 hno9), rfl⟩) rfl gX12_asked_4.2.2.2.2.2.2.2.2.2
        · refine lv_iconst (v := 0) hx hb gX12_asked_4.2.2.2.2.2.2.1 (by decide) ?_
          refine lv_iload hx hb gX12_asked_4.2.2.2.2.2.2.2.1 (lv_at1 hl) ?_
          refine va_mmax hx hb (hml.trans hl.1.symm) hown (hB _ m_1319) (hB _ m_142) (hB _ m_105) (hB _ m_143) (Nat.le_of_ble_eq_true rfl) (Nat.le_of_ble_eq_true rfl) (by first | exact Nat.le_of_ble_eq_true rfl | exact Nat.zero_le _)  (by first | exact Nat.le_of_ble_eq_true rfl | exact Nat.zero_le _) gX12_asked_4.2.2.2.2.2.2.2.2.1 ?_
          refine eqi (x1 := nI a9) (MX0 (by omega)) ?_
          refine toQ hQ0 ?_
          exact RI (v := nI a9) hC hP hD hS [0, 1, 2] vR rfl rfl (by decide) (⟨_, (by rw [(show LVN (RLO DY (DAYV (fnw 0) (fnw 1)) k7) VL = L8 from (congrArg (fun z9 => LVN z9 VL) eo9.symm).trans hn9.symm)]; exact FWZ.end1 ⟨ha9, hfd9⟩), rfl⟩) rfl gX12_asked_4.2.2.2.2.2.2.2.2.2
      | succ nQ ihQ =>
        intro kQ nn vR H locs ls hkQ hnn hPD hS hl
        refine Kan2 hPD (fun hP hD => ?_)
        refine lv_iload hx hb gX12_asked_0.2.2.2.2.2.2.2.1 (lv_at0 hl) ?_
        refine lv_aload_n hx hb gX12_asked_0.2.2.2.2.2.2.2.2.1 rfl (lv_at3 hl) ?_
        refine lv_iload_n hx hb gX12_asked_0.2.2.2.2.2.2.2.2.2 rfl (lv_at2 hl) ?_
        refine pV hC hK hl hP hD (m_lines l G L8 h0 v9 nw nk mhasKept nt mtaped nr mrowMany mroundOf mroundFrom 0 nm mfromHour mtoHour ns mfrom mto msort misFault mdeep mcoded mlines nl nc nF np ntr nb mbestCost nso nsi nit nsh nsf nss nrc mtraced mdealer mnumber mwhose msize misParted fnw (by omega) (eL8)) si_X12_183 [0, 1] sm_0_1 fm_0_1 nd_0_1 rfl rfl rfl rfl rfl (Nat.le_of_ble_eq_true rfl) rm_8_1_2 ⟨by first | exact Nat.le_of_ble_eq_true rfl | exact Nat.zero_le _, by first | exact Nat.le_of_ble_eq_true rfl | exact Nat.zero_le _⟩ gX12_asked_1.1 (Keqr ?_)
        refine lv_icmp_ge (tgt := 87) hx hb gX12_asked_1.2.1 (by decide) (fun c9 => absurd c9 (nI_ge (a := kQ) (b := L8) (by omega) (by omega))) (fun _ => ?_)
        have hln9 := hLN8 kQ (by omega)
        have hlz9 := hrow9 kQ (by omega)
        have hlz8 := hlz9
        obtain ⟨hlb7, f0, f1, -⟩ := hlz8
        have hsb9 := hlb7.le
        rcases hnn with ⟨hno9, rfl⟩ | ⟨a9, ha9, rfl, hfd9⟩
        · refine lv_aload_n hx hb gX12_asked_1.2.2.1 rfl (lv_at3 hl) ?_
          refine lv_iload_n hx hb gX12_asked_1.2.2.2.1 rfl (lv_at2 hl) ?_
          refine lv_iload hx hb gX12_asked_1.2.2.2.2.1 (lv_at0 hl) ?_
          refine lv_iconst (v := 0) hx hb gX12_asked_1.2.2.2.2.2.1 (by decide) ?_
          refine pV hC hK hl hP hD (m_lineOf l G h0 v9 kQ 0 nw nk mhasKept nt mtaped nr mrowMany mroundOf mroundFrom 0 nm mfromHour mtoHour ns mfrom mto msort misFault mdeep mcoded mlines nl nc nF np ntr nb mbestCost nso nsi nit nsh nsf nss nrc mtraced mdealer mnumber mwhose msize misParted fnw (by omega) (by omega) (by omega)) si_X12_193 [0, 1] sm_0_1 fm_0_1 nd_0_1 rfl rfl rfl rfl rfl (Nat.le_of_ble_eq_true rfl) rm_8_1_4 ⟨by first | exact Nat.le_of_ble_eq_true rfl | exact Nat.zero_le _, by first | exact Nat.le_of_ble_eq_true rfl | exact Nat.zero_le _⟩ gX12_asked_1.2.2.2.2.2.2.1 (Keqr ?_)
          refine eqi (x1 := nI ((VL v9).getD kQ LN0).1) (f0) ?_
          refine lv_iload_n hx hb gX12_asked_1.2.2.2.2.2.2.2.1 rfl (lv_at5 hl) ?_
          refine lv_icmp_ne (tgt := 58) hx hb gX12_asked_1.2.2.2.2.2.2.2.2.1 (by decide) (fun c_30_8233 => ?_) (fun c_30_8233 => ?_)
          · refine lv_iconst (v := 0) hx hb gX12_asked_3.2.2.1 (by decide) ?_
            refine lv_istore (lv' := [(6, .int 0), (5, .int (nI kQ)), (4, .int (-1)), (3, .int (nI v9)), (0, .ref h0), (1, .int (nI je)), (2, .int 1)]) hx hb gX12_asked_3.2.2.2.1 hl (by decide) rfl (fun ls hl => ?_)
            refine lv_iload hx hb gX12_asked_3.2.2.2.2.1 (lv_at0 hl) ?_
            refine lv_if_eq (tgt := 77) hx hb gX12_asked_3.2.2.2.2.2.1 (by decide) (fun _ => ?_) (fun c9 => absurd (by decide) c9)
            refine lv_iload hx hb gX12_asked_4.2.2.1 (lv_at2 hl) ?_
            refine lv_istore (lv' := [(4, .int (-1)), (6, .int 0), (5, .int (nI kQ)), (3, .int (nI v9)), (0, .ref h0), (1, .int (nI je)), (2, .int 1)]) hx hb gX12_asked_4.2.2.2.1 hl (by decide) rfl (fun ls hl => ?_)
            refine lv_iinc (v := nI (kQ + 1)) (lv' := [(5, .int (nI (kQ + 1))), (4, .int (-1)), (6, .int 0), (3, .int (nI v9)), (0, .ref h0), (1, .int (nI je)), (2, .int 1)]) hx hb gX12_asked_4.2.2.2.2.1 hl (k := 2) rfl (nI_1 _) (by decide) rfl (fun ls hl => ?_)
            refine lv_goto (tgt := 11) hx hb gX12_asked_4.2.2.2.2.2.1 (by decide) ?_
            have hst9 : FWZ (LNF (RLO DY (DAYV (fnw 0) (fnw 1)) k7) VL) (TRF (RLO DY (DAYV (fnw 0) (fnw 1)) k7) VC (FAX (shf fnw 12) (shf fnw 32) (VSE fnw kq) kq je)) (kQ + 1) ((-1) : Int32) := FWZ.no hno9 (fun h8 => (fun h9 => c_30_8233 (congrArg nI (show ((VL v9).getD kQ LN0).1 = 1 from by rw [← eo9] at h9; exact h9))) h8.1)
            exact ihQ (kQ + 1) (-1) vR _ _ _ (by omega) (by first | assumption | exact Or.inl rfl | exact Or.inr rfl | exact FWZ.zero) (And.intro hP hD) hS (lv_sub hl [0, 1, 3, 4, 5, 6] rfl)
          · refine lv_iload_n hx hb gX12_asked_1.2.2.2.2.2.2.2.2.2 rfl (lv_at5 hl) ?_
            refine lv_iconst (v := 3) hx hb gX12_asked_2.1 (by decide) ?_
            refine lv_icmp_eq (tgt := 54) hx hb gX12_asked_2.2.1 (by decide) (fun c9 => absurd c9 (by decide)) (fun _ => ?_)
            refine lv_iload hx hb gX12_asked_2.2.2.1 (lv_at1 hl) ?_
            refine lv_if_ge (tgt := 58) hx hb gX12_asked_2.2.2.2.1 (by decide) (fun c9 => absurd c9 (by decide)) (fun _ => ?_)
            refine lv_aload_n hx hb gX12_asked_2.2.2.2.2.1 rfl (lv_at3 hl) ?_
            refine lv_iload_n hx hb gX12_asked_2.2.2.2.2.2.1 rfl (lv_at2 hl) ?_
            refine lv_iload hx hb gX12_asked_2.2.2.2.2.2.2.1 (lv_at0 hl) ?_
            refine lv_iload_n hx hb gX12_asked_2.2.2.2.2.2.2.2.1 rfl (lv_at4 hl) ?_
            refine iV (wr := []) hC hK hl hP hD hS hA (m_holdsX l G kq ((VL v9).getD kQ LN0) (VC v9 kQ) h0 v9 kQ je nw nk mhasKept nt mtaped nr mrowMany mroundOf mroundFrom nm mfromHour mtoHour ns mfrom mto msort misFault mdeep mcoded mlines nl nc nF np ntr nb mbestCost nso nsi nit nsh nsf nss nrc mtraced mdealer mnumber mwhose msize misParted fnw vR (by omega) (by omega) (hln9) (hlz9) (hje) (hN) (ekq) (hkq)) si_X12_196 [0, 1, 2] [] sm_0_1_2 fm_0_1_2 nd_0_1_2 rfl rfl (by decide) rfl rfl rfl rfl rfl (Nat.le_of_ble_eq_true rfl) rm_8_6_12 ⟨Nat.le_of_ble_eq_true rfl, Nat.le_of_ble_eq_true rfl⟩ gX12_asked_2.2.2.2.2.2.2.2.2.1 (fun r8234 gnp8236 H locs hr8234 hP hD hS => ?_)
            try dsimp only at hr8234
            refine Kpdr (ws := [(h0, oX12 nw nk mhasKept nt mtaped nr mrowMany mroundOf mroundFrom 0 nm mfromHour mtoHour ns mfrom mto msort misFault mdeep mcoded mlines nl nc nF np ntr nb mbestCost nso nsi nit nsh nsf nss nrc mtraced mdealer mnumber mwhose msize misParted), (nw, iA G 1662 fnw), (np, iA G 100 gnp8236)]) hP hD (fun hP hD => ?_)
            rcases hr8234 with ⟨rfl, a8237⟩ | ⟨rfl, a8237⟩
            · refine lv_if_eq (tgt := 58) hx hb gX12_asked_2.2.2.2.2.2.2.2.2.2 (by decide) (fun c9 => absurd c9 (by decide)) (fun _ => ?_)
              refine lv_iconst (v := 1) hx hb gX12_asked_3.1 (by decide) ?_
              refine lv_goto (tgt := 59) hx hb gX12_asked_3.2.1 (by decide) ?_
              refine lv_istore (lv' := [(6, .int 1), (5, .int (nI kQ)), (4, .int (-1)), (3, .int (nI v9)), (0, .ref h0), (1, .int (nI je)), (2, .int 1)]) hx hb gX12_asked_3.2.2.2.1 hl (by decide) rfl (fun ls hl => ?_)
              refine lv_iload hx hb gX12_asked_3.2.2.2.2.1 (lv_at0 hl) ?_
              refine lv_if_eq (tgt := 77) hx hb gX12_asked_3.2.2.2.2.2.1 (by decide) (fun c9 => absurd c9 (by decide)) (fun _ => ?_)
              refine lv_aload_n hx hb gX12_asked_3.2.2.2.2.2.2.1 rfl (lv_at4 hl) ?_
              refine lv_iload_n hx hb gX12_asked_3.2.2.2.2.2.2.2.1 rfl (lv_at3 hl) ?_
              refine lv_iload hx hb gX12_asked_3.2.2.2.2.2.2.2.2.1 (lv_at1 hl) ?_
              refine lv_iconst (v := 1) hx hb gX12_asked_3.2.2.2.2.2.2.2.2.2 (by decide) ?_
              refine pV hC hK hl hP hD (m_lineOf l G h0 v9 kQ 1 nw nk mhasKept nt mtaped nr mrowMany mroundOf mroundFrom 0 nm mfromHour mtoHour ns mfrom mto msort misFault mdeep mcoded mlines nl nc nF np ntr nb mbestCost nso nsi nit nsh nsf nss nrc mtraced mdealer mnumber mwhose msize misParted fnw (by omega) (by omega) (by omega)) si_X12_193 [0, 1] sm_0_1 fm_0_1 nd_0_1 rfl rfl rfl rfl rfl (Nat.le_of_ble_eq_true rfl) rm_8_1_4 ⟨by first | exact Nat.le_of_ble_eq_true rfl | exact Nat.zero_le _, by first | exact Nat.le_of_ble_eq_true rfl | exact Nat.zero_le _⟩ gX12_asked_4.1 (Keqr ?_)
              refine lv_goto (tgt := 79) hx hb gX12_asked_4.2.1 (by decide) ?_
              refine lv_istore (lv' := [(4, .int (fnw (176 + 156 * v9 + 2 + 6 * kQ + 1))), (6, .int 1), (5, .int (nI kQ)), (3, .int (nI v9)), (0, .ref h0), (1, .int (nI je)), (2, .int 1)]) hx hb gX12_asked_4.2.2.2.1 hl (by decide) rfl (fun ls hl => ?_)
              refine lv_iinc (v := nI (kQ + 1)) (lv' := [(5, .int (nI (kQ + 1))), (4, .int (fnw (176 + 156 * v9 + 2 + 6 * kQ + 1))), (6, .int 1), (3, .int (nI v9)), (0, .ref h0), (1, .int (nI je)), (2, .int 1)]) hx hb gX12_asked_4.2.2.2.2.1 hl (k := 2) rfl (nI_1 _) (by decide) rfl (fun ls hl => ?_)
              refine lv_goto (tgt := 11) hx hb gX12_asked_4.2.2.2.2.2.1 (by decide) ?_
              have hst9 : FWZ (LNF (RLO DY (DAYV (fnw 0) (fnw 1)) k7) VL) (TRF (RLO DY (DAYV (fnw 0) (fnw 1)) k7) VC (FAX (shf fnw 12) (shf fnw 32) (VSE fnw kq) kq je)) (kQ + 1) (fnw (176 + 156 * v9 + 2 + 6 * kQ + 1)) := FWZ.ye hno9 (by rw [← eo9]; exact hlb7) (show (LNF (RLO DY (DAYV (fnw 0) (fnw 1)) k7) VL kQ).1 = 1 from by rw [← eo9]; exact (show ((VL v9).getD kQ LN0).1 = 1 from (nI_eq (b := 1) (by omega) (by decide)).mp c_30_8233)) (by rw [← eo9]; exact a8237) (by rw [← eo9]; exact f1)
              exact ihQ (kQ + 1) (fnw (176 + 156 * v9 + 2 + 6 * kQ + 1)) gnp8236 _ _ _ (by omega) (by first | assumption | exact Or.inl rfl | exact Or.inr rfl | exact FWZ.zero) (And.intro hP hD) hS (lv_sub hl [0, 1, 3, 4, 5, 6] rfl)
            · refine lv_if_eq (tgt := 58) hx hb gX12_asked_2.2.2.2.2.2.2.2.2.2 (by decide) (fun _ => ?_) (fun c9 => absurd (by decide) c9)
              refine lv_iconst (v := 0) hx hb gX12_asked_3.2.2.1 (by decide) ?_
              refine lv_istore (lv' := [(6, .int 0), (5, .int (nI kQ)), (4, .int (-1)), (3, .int (nI v9)), (0, .ref h0), (1, .int (nI je)), (2, .int 1)]) hx hb gX12_asked_3.2.2.2.1 hl (by decide) rfl (fun ls hl => ?_)
              refine lv_iload hx hb gX12_asked_3.2.2.2.2.1 (lv_at0 hl) ?_
              refine lv_if_eq (tgt := 77) hx hb gX12_asked_3.2.2.2.2.2.1 (by decide) (fun _ => ?_) (fun c9 => absurd (by decide) c9)
              refine lv_iload hx hb gX12_asked_4.2.2.1 (lv_at2 hl) ?_
              refine lv_istore (lv' := [(4, .int (-1)), (6, .int 0), (5, .int (nI kQ)), (3, .int (nI v9)), (0, .ref h0), (1, .int (nI je)), (2, .int 1)]) hx hb gX12_asked_4.2.2.2.1 hl (by decide) rfl (fun ls hl => ?_)
              refine lv_iinc (v := nI (kQ + 1)) (lv' := [(5, .int (nI (kQ + 1))), (4, .int (-1)), (6, .int 0), (3, .int (nI v9)), (0, .ref h0), (1, .int (nI je)), (2, .int 1)]) hx hb gX12_asked_4.2.2.2.2.1 hl (k := 2) rfl (nI_1 _) (by decide) rfl (fun ls hl => ?_)
              refine lv_goto (tgt := 11) hx hb gX12_asked_4.2.2.2.2.2.1 (by decide) ?_
              have hst9 : FWZ (LNF (RLO DY (DAYV (fnw 0) (fnw 1)) k7) VL) (TRF (RLO DY (DAYV (fnw 0) (fnw 1)) k7) VC (FAX (shf fnw 12) (shf fnw 32) (VSE fnw kq) kq je)) (kQ + 1) ((-1) : Int32) := FWZ.no hno9 (fun h8 => a8237 (by have h7 := h8.2; rw [← eo9] at h7; exact h7))
              exact ihQ (kQ + 1) (-1) gnp8236 _ _ _ (by omega) (by first | assumption | exact Or.inl rfl | exact Or.inr rfl | exact FWZ.zero) (And.intro hP hD) hS (lv_sub hl [0, 1, 3, 4, 5, 6] rfl)
        · refine lv_aload_n hx hb gX12_asked_1.2.2.1 rfl (lv_at3 hl) ?_
          refine lv_iload_n hx hb gX12_asked_1.2.2.2.1 rfl (lv_at2 hl) ?_
          refine lv_iload hx hb gX12_asked_1.2.2.2.2.1 (lv_at0 hl) ?_
          refine lv_iconst (v := 0) hx hb gX12_asked_1.2.2.2.2.2.1 (by decide) ?_
          refine pV hC hK hl hP hD (m_lineOf l G h0 v9 kQ 0 nw nk mhasKept nt mtaped nr mrowMany mroundOf mroundFrom 0 nm mfromHour mtoHour ns mfrom mto msort misFault mdeep mcoded mlines nl nc nF np ntr nb mbestCost nso nsi nit nsh nsf nss nrc mtraced mdealer mnumber mwhose msize misParted fnw (by omega) (by omega) (by omega)) si_X12_193 [0, 1] sm_0_1 fm_0_1 nd_0_1 rfl rfl rfl rfl rfl (Nat.le_of_ble_eq_true rfl) rm_8_1_4 ⟨by first | exact Nat.le_of_ble_eq_true rfl | exact Nat.zero_le _, by first | exact Nat.le_of_ble_eq_true rfl | exact Nat.zero_le _⟩ gX12_asked_1.2.2.2.2.2.2.1 (Keqr ?_)
          refine eqi (x1 := nI ((VL v9).getD kQ LN0).1) (f0) ?_
          refine lv_iload_n hx hb gX12_asked_1.2.2.2.2.2.2.2.1 rfl (lv_at5 hl) ?_
          refine lv_icmp_ne (tgt := 58) hx hb gX12_asked_1.2.2.2.2.2.2.2.2.1 (by decide) (fun c_30_8242 => ?_) (fun c_30_8242 => ?_)
          · refine lv_iconst (v := 0) hx hb gX12_asked_3.2.2.1 (by decide) ?_
            refine lv_istore (lv' := [(6, .int 0), (5, .int (nI kQ)), (4, .int (nI a9)), (3, .int (nI v9)), (0, .ref h0), (1, .int (nI je)), (2, .int 1)]) hx hb gX12_asked_3.2.2.2.1 hl (by decide) rfl (fun ls hl => ?_)
            refine lv_iload hx hb gX12_asked_3.2.2.2.2.1 (lv_at0 hl) ?_
            refine lv_if_eq (tgt := 77) hx hb gX12_asked_3.2.2.2.2.2.1 (by decide) (fun _ => ?_) (fun c9 => absurd (by decide) c9)
            refine lv_iload hx hb gX12_asked_4.2.2.1 (lv_at2 hl) ?_
            refine lv_istore (lv' := [(4, .int (nI a9)), (6, .int 0), (5, .int (nI kQ)), (3, .int (nI v9)), (0, .ref h0), (1, .int (nI je)), (2, .int 1)]) hx hb gX12_asked_4.2.2.2.1 hl (by decide) rfl (fun ls hl => ?_)
            refine lv_iinc (v := nI (kQ + 1)) (lv' := [(5, .int (nI (kQ + 1))), (4, .int (nI a9)), (6, .int 0), (3, .int (nI v9)), (0, .ref h0), (1, .int (nI je)), (2, .int 1)]) hx hb gX12_asked_4.2.2.2.2.1 hl (k := 2) rfl (nI_1 _) (by decide) rfl (fun ls hl => ?_)
            refine lv_goto (tgt := 11) hx hb gX12_asked_4.2.2.2.2.2.1 (by decide) ?_
            have hst9 : FWZ (LNF (RLO DY (DAYV (fnw 0) (fnw 1)) k7) VL) (TRF (RLO DY (DAYV (fnw 0) (fnw 1)) k7) VC (FAX (shf fnw 12) (shf fnw 32) (VSE fnw kq) kq je)) (kQ + 1) (nI a9) := FWZ.keep ⟨ha9, hfd9⟩
            exact ihQ (kQ + 1) (nI a9) vR _ _ _ (by omega) (by first | assumption | exact Or.inl rfl | exact Or.inr rfl | exact FWZ.zero) (And.intro hP hD) hS (lv_sub hl [0, 1, 3, 4, 5, 6] rfl)
          · refine lv_iload_n hx hb gX12_asked_1.2.2.2.2.2.2.2.2.2 rfl (lv_at5 hl) ?_
            refine lv_iconst (v := 3) hx hb gX12_asked_2.1 (by decide) ?_
            refine lv_icmp_eq (tgt := 54) hx hb gX12_asked_2.2.1 (by decide) (fun c9 => absurd c9 (by decide)) (fun _ => ?_)
            refine lv_iload hx hb gX12_asked_2.2.2.1 (lv_at1 hl) ?_
            refine lv_if_ge (tgt := 58) hx hb gX12_asked_2.2.2.2.1 (by decide) (fun _ => ?_) (fun c9 => absurd (nI_pos' (by omega)) c9)
            refine lv_iconst (v := 0) hx hb gX12_asked_3.2.2.1 (by decide) ?_
            refine lv_istore (lv' := [(6, .int 0), (5, .int (nI kQ)), (4, .int (nI a9)), (3, .int (nI v9)), (0, .ref h0), (1, .int (nI je)), (2, .int 1)]) hx hb gX12_asked_3.2.2.2.1 hl (by decide) rfl (fun ls hl => ?_)
            refine lv_iload hx hb gX12_asked_3.2.2.2.2.1 (lv_at0 hl) ?_
            refine lv_if_eq (tgt := 77) hx hb gX12_asked_3.2.2.2.2.2.1 (by decide) (fun _ => ?_) (fun c9 => absurd (by decide) c9)
            refine lv_iload hx hb gX12_asked_4.2.2.1 (lv_at2 hl) ?_
            refine lv_istore (lv' := [(4, .int (nI a9)), (6, .int 0), (5, .int (nI kQ)), (3, .int (nI v9)), (0, .ref h0), (1, .int (nI je)), (2, .int 1)]) hx hb gX12_asked_4.2.2.2.1 hl (by decide) rfl (fun ls hl => ?_)
            refine lv_iinc (v := nI (kQ + 1)) (lv' := [(5, .int (nI (kQ + 1))), (4, .int (nI a9)), (6, .int 0), (3, .int (nI v9)), (0, .ref h0), (1, .int (nI je)), (2, .int 1)]) hx hb gX12_asked_4.2.2.2.2.1 hl (k := 2) rfl (nI_1 _) (by decide) rfl (fun ls hl => ?_)
            refine lv_goto (tgt := 11) hx hb gX12_asked_4.2.2.2.2.2.1 (by decide) ?_
            have hst9 : FWZ (LNF (RLO DY (DAYV (fnw 0) (fnw 1)) k7) VL) (TRF (RLO DY (DAYV (fnw 0) (fnw 1)) k7) VC (FAX (shf fnw 12) (shf fnw 32) (VSE fnw kq) kq je)) (kQ + 1) (nI a9) := FWZ.keep ⟨ha9, hfd9⟩
            exact ihQ (kQ + 1) (nI a9) vR _ _ _ (by omega) (by first | assumption | exact Or.inl rfl | exact Or.inr rfl | exact FWZ.zero) (And.intro hP hD) hS (lv_sub hl [0, 1, 3, 4, 5, 6] rfl)
    exact keyQ L8 0 (-1) fnp _ _ _ (by omega) (by first | assumption | exact Or.inl rfl | exact Or.inr rfl | exact FWZ.zero) (And.intro hP hD) hS (lv_sub hl [0, 1, 2, 3, 4, 5] rfl)
def K_m_askedH (l : Launch) (G : GG) (k7 : Nat) (VL : Nat → List LNT) (DY : Nat → Int32) (h0 : Nat) (je : Nat) (nw : Nat) (nk : Nat) (mhasKept : Int32) (nt : Nat) (mtaped : Int32) (nr : Nat) (mrowMany : Int32) (mroundOf : Int32) (mroundFrom : Int32) (nm : Nat) (mfromHour : Int32) (mtoHour : Int32) (ns : Nat) (mfrom : Int32) (mto : Int32) (msort : Int32) (misFault : Int32) (mdeep : Int32) (mcoded : Int32) (mlines : Int32) (nl : Nat) (nc : Nat) (nF : Nat) (np : Nat) (ntr : Nat) (nb : Nat) (mbestCost : Int32) (nso : Nat) (nsi : Nat) (nit : Nat) (nsh : Nat) (nsf : Nat) (nss : Nat) (nrc : Nat) (mtraced : Int32) (mdealer : Int32) (mnumber : Int32) (mwhose : Int32) (msize : Int32) (misParted : Int32) (fnw : Nat → Int32) (fnp : Nat → Int32) : Prop := MI l G yX12_asked cX12_asked 7 (some .int) 8 0 0 [.ref h0, .int (nI je), .int 3] [(h0, oX12 nw nk mhasKept nt mtaped nr mrowMany mroundOf mroundFrom 0 nm mfromHour mtoHour ns mfrom mto msort misFault mdeep mcoded mlines nl nc nF np ntr nb mbestCost nso nsi nit nsh nsf nss nrc mtraced mdealer mnumber mwhose msize misParted), (nw, iA G 1662 fnw), (np, iA G 100 fnp)] (fun (r : Int32) (u : (Nat → Int32)) => (r = (LHF (LNF (RLO DY (DAYV (fnw 0) (fnw 1)) k7) VL) (LVN (RLO DY (DAYV (fnw 0) (fnw 1)) k7) VL)))) (fun u : (Nat → Int32) => [(h0, oX12 nw nk mhasKept nt mtaped nr mrowMany mroundOf mroundFrom 0 nm mfromHour mtoHour ns mfrom mto msort misFault mdeep mcoded mlines nl nc nF np ntr nb mbestCost nso nsi nit nsh nsf nss nrc mtraced mdealer mnumber mwhose msize misParted), (nw, iA G 1662 fnw), (np, iA G 100 u)])
set_option maxHeartbeats 4000000 in
set_option maxRecDepth 100000 in
theorem m_askedH (l : Launch) (G : GG) (kq : Nat) (k7 : Nat) (VL : Nat → List LNT) (VC : Nat → Nat → List Int32) (DY : Nat → Int32) (h0 : Nat) (je : Nat) (nw : Nat) (nk : Nat) (mhasKept : Int32) (nt : Nat) (mtaped : Int32) (nr : Nat) (mrowMany : Int32) (mroundOf : Int32) (mroundFrom : Int32) (nm : Nat) (mfromHour : Int32) (mtoHour : Int32) (ns : Nat) (mfrom : Int32) (mto : Int32) (msort : Int32) (misFault : Int32) (mdeep : Int32) (mcoded : Int32) (mlines : Int32) (nl : Nat) (nc : Nat) (nF : Nat) (np : Nat) (ntr : Nat) (nb : Nat) (mbestCost : Int32) (nso : Nat) (nsi : Nat) (nit : Nat) (nsh : Nat) (nsf : Nat) (nss : Nat) (nrc : Nat) (mtraced : Int32) (mdealer : Int32) (mnumber : Int32) (mwhose : Int32) (msize : Int32) (misParted : Int32) (fnw : Nat → Int32) (fnp : Nat → Int32) (hje : je < 10) (hN : NI fnw) (hV : VI fnw) (ekq : fnw 5 = nI kq) (hkq : kq ≤ 12) (ek7 : fnw 7 = nI k7) (hk7 : k7 ≤ 8) (hVM : VMZ fnw k7 VL VC DY) : K_m_askedH l G k7 VL DY h0 je nw nk mhasKept nt mtaped nr mrowMany mroundOf mroundFrom nm mfromHour mtoHour ns mfrom mto msort misFault mdeep mcoded mlines nl nc nF np ntr nb mbestCost nso nsi nit nsh nsf nss nrc mtraced mdealer mnumber mwhose msize misParted fnw fnp := by
  refine MI.start (by decide +kernel) (Nat.le_of_ble_eq_true rfl) ?_
  intro p e s m below meth c A ls hC hK hP hD hS hA hl
  refine absQ (fun Q0 hQ0 => ?_)
  have hl : lv_has ls 7 [(0, .ref h0), (1, .int (nI je)), (2, .int 3)] := hl
  refine Kan8 hC (fun hx hb hr hml hB hown hlocks hnm => ?_)
  refine lv_aload_n hx hb gX12_asked_0.1 rfl (lv_at0 hl) ?_
  have hdy9 : ∀ v9, v9 < k7 → fnw (176 + 156 * v9 + 0) = DY v9 := fun v9 h9 => (hVM v9 h9).1
  refine pV hC hK hl hP hD (m_rulesX l G k7 DY h0 nw nk mhasKept nt mtaped nr mrowMany mroundOf mroundFrom 0 nm mfromHour mtoHour ns mfrom mto msort misFault mdeep mcoded mlines nl nc nF np ntr nb mbestCost nso nsi nit nsh nsf nss nrc mtraced mdealer mnumber mwhose msize misParted fnw (hN) (ek7) (hk7) (hdy9)) si_X12_180 [0, 1] sm_0_1 fm_0_1 nd_0_1 rfl rfl rfl rfl rfl (Nat.le_of_ble_eq_true rfl) rm_8_2_3 ⟨by first | exact Nat.le_of_ble_eq_true rfl | exact Nat.zero_le _, by first | exact Nat.le_of_ble_eq_true rfl | exact Nat.zero_le _⟩ gX12_asked_0.2.1 (Keqr ?_)
  obtain ⟨o9, eo9⟩ : ∃ z9, z9 = (RLO DY (DAYV (fnw 0) (fnw 1)) k7) := ⟨_, rfl⟩
  rcases o9 with _ | v9
  · refine eqi (x1 := (-1)) (congrArg LAT eo9.symm) ?_
    refine lv_istore_n (lv' := [(3, .int (-1)), (0, .ref h0), (1, .int (nI je)), (2, .int 3)]) hx hb gX12_asked_0.2.2.1 rfl hl (by decide) rfl (fun ls hl => ?_)
    refine lv_iconst (v := (-1)) hx hb gX12_asked_0.2.2.2.1 (by decide) ?_
    refine lv_istore (lv' := [(4, .int (-1)), (3, .int (-1)), (0, .ref h0), (1, .int (nI je)), (2, .int 3)]) hx hb gX12_asked_0.2.2.2.2.1 hl (by decide) rfl (fun ls hl => ?_)
    refine lv_iconst (v := 0) hx hb gX12_asked_0.2.2.2.2.2.1 (by decide) ?_
    refine lv_istore (lv' := [(5, .int 0), (4, .int (-1)), (3, .int (-1)), (0, .ref h0), (1, .int (nI je)), (2, .int 3)]) hx hb gX12_asked_0.2.2.2.2.2.2.1 hl (by decide) rfl (fun ls hl => ?_)
    refine lv_iload hx hb gX12_asked_0.2.2.2.2.2.2.2.1 (lv_at0 hl) ?_
    refine lv_aload_n hx hb gX12_asked_0.2.2.2.2.2.2.2.2.1 rfl (lv_at3 hl) ?_
    refine lv_iload_n hx hb gX12_asked_0.2.2.2.2.2.2.2.2.2 rfl (lv_at2 hl) ?_
    refine pV hC hK hl hP hD (m_linesN l G h0 nw nk mhasKept nt mtaped nr mrowMany mroundOf mroundFrom 0 nm mfromHour mtoHour ns mfrom mto msort misFault mdeep mcoded mlines nl nc nF np ntr nb mbestCost nso nsi nit nsh nsf nss nrc mtraced mdealer mnumber mwhose msize misParted fnw) si_X12_183 [0, 1] sm_0_1 fm_0_1 nd_0_1 rfl rfl rfl rfl rfl (Nat.le_of_ble_eq_true rfl) rm_8_1_2 ⟨by first | exact Nat.le_of_ble_eq_true rfl | exact Nat.zero_le _, by first | exact Nat.le_of_ble_eq_true rfl | exact Nat.zero_le _⟩ gX12_asked_1.1 (Keqr ?_)
    refine lv_icmp_ge (tgt := 87) hx hb gX12_asked_1.2.1 (by decide) (fun _ => ?_) (fun c9 => absurd (by decide) c9)
    refine lv_iconst (v := 0) hx hb gX12_asked_4.2.2.2.2.2.2.1 (by decide) ?_
    refine lv_iload hx hb gX12_asked_4.2.2.2.2.2.2.2.1 (lv_at1 hl) ?_
    refine va_mmax hx hb (hml.trans hl.1.symm) hown (hB _ m_1319) (hB _ m_142) (hB _ m_105) (hB _ m_143) (Nat.le_of_ble_eq_true rfl) (Nat.le_of_ble_eq_true rfl) (by first | exact Nat.le_of_ble_eq_true rfl | exact Nat.zero_le _)  (by first | exact Nat.le_of_ble_eq_true rfl | exact Nat.zero_le _) gX12_asked_4.2.2.2.2.2.2.2.2.1 ?_
    refine eqi (x1 := 0) (by decide) ?_
    refine toQ hQ0 ?_
    exact RI (v := 0) hC hP hD hS [0, 1, 2] fnp rfl rfl (by decide) ((by rw [← eo9]; rfl)) rfl gX12_asked_4.2.2.2.2.2.2.2.2.2
  · have hv9 := LTS.lt _ _ eo9.symm
    obtain ⟨ed9, hl9, eb9, hrow9⟩ := hVM v9 hv9
    obtain ⟨n9, hn9⟩ : ∃ z9, z9 = (VL v9).length := ⟨_, rfl⟩
    rw [← hn9] at hl9 eb9 hrow9
    obtain ⟨L8, hL8, eL8, hLN8⟩ := VI.line hV (v := v9) (by omega)
    obtain rfl : L8 = n9 := (nI_eq (by omega) (by omega)).mp (eL8.symm.trans eb9)
    have hlb9 : ∀ i, i < L8 → LVB ((LVF (LNF (RLO DY (DAYV (fnw 0) (fnw 1)) k7) VL) (TRF (RLO DY (DAYV (fnw 0) (fnw 1)) k7) VC (FAX (shf fnw 12) (shf fnw 32) (VSE fnw kq) kq je))) i) := fun i hi => by rw [← eo9]; exact LVX.b (hrow9 i hi).1
    refine eqi (x1 := nI v9) (congrArg LAT eo9.symm) ?_
    refine lv_istore_n (lv' := [(3, .int (nI v9)), (0, .ref h0), (1, .int (nI je)), (2, .int 3)]) hx hb gX12_asked_0.2.2.1 rfl hl (by decide) rfl (fun ls hl => ?_)
    refine lv_iconst (v := (-1)) hx hb gX12_asked_0.2.2.2.1 (by decide) ?_
    refine lv_istore (lv' := [(4, .int (-1)), (3, .int (nI v9)), (0, .ref h0), (1, .int (nI je)), (2, .int 3)]) hx hb gX12_asked_0.2.2.2.2.1 hl (by decide) rfl (fun ls hl => ?_)
    refine lv_iconst (v := 0) hx hb gX12_asked_0.2.2.2.2.2.1 (by decide) ?_
    refine lv_istore (lv' := [(5, .int 0), (4, .int (-1)), (3, .int (nI v9)), (0, .ref h0), (1, .int (nI je)), (2, .int 3)]) hx hb gX12_asked_0.2.2.2.2.2.2.1 hl (by decide) rfl (fun ls hl => ?_)
    have keyQ : ∀ (nQ kQ : Nat) (nn : Int32) (vR : Nat → Int32) (H : Heap) (locs : List Loc) (ls : Array Slot), kQ + nQ = L8 → (LHS9 (LNF (RLO DY (DAYV (fnw 0) (fnw 1)) k7) VL) kQ nn) → va_PD G A [(h0, oX12 nw nk mhasKept nt mtaped nr mrowMany mroundOf mroundFrom 0 nm mfromHour mtoHour ns mfrom mto msort misFault mdeep mcoded mlines nl nc nF np ntr nb mbestCost nso nsi nit nsh nsf nss nrc mtraced mdealer mnumber mwhose msize misParted), (nw, iA G 1662 fnw), (np, iA G 100 vR)] H → va_S A s.heap H locs → lv_has ls 7 [(5, .int (nI kQ)), (4, .int nn), (3, .int (nI v9)), (0, .ref h0), (1, .int (nI je)), (2, .int 3)] → W p l e (RM 8 0 0) s m ([.ref h0, .int (nI je), .int 3] : List Value).toArray below meth c H locs 0 0 Q0 (F0 m 11 ls []) := by
      intro nQ
      induction nQ with
      | zero =>
        intro kQ nn vR H locs ls hkQ hnn hPD hS hl
        refine Kan2 hPD (fun hP hD => ?_)
        obtain rfl : L8 = kQ := by omega
        have hl : lv_has ls 7 [(5, .int (nI L8)), (4, .int nn), (3, .int (nI v9)), (0, .ref h0), (1, .int (nI je)), (2, .int 3)] := hl
        refine lv_iload hx hb gX12_asked_0.2.2.2.2.2.2.2.1 (lv_at0 hl) ?_
        refine lv_aload_n hx hb gX12_asked_0.2.2.2.2.2.2.2.2.1 rfl (lv_at3 hl) ?_
        refine lv_iload_n hx hb gX12_asked_0.2.2.2.2.2.2.2.2.2 rfl (lv_at2 hl) ?_
        refine pV hC hK hl hP hD (m_lines l G L8 h0 v9 nw nk mhasKept nt mtaped nr mrowMany mroundOf mroundFrom 0 nm mfromHour mtoHour ns mfrom mto msort misFault mdeep mcoded mlines nl nc nF np ntr nb mbestCost nso nsi nit nsh nsf nss nrc mtraced mdealer mnumber mwhose msize misParted fnw (by omega) (eL8)) si_X12_183 [0, 1] sm_0_1 fm_0_1 nd_0_1 rfl rfl rfl rfl rfl (Nat.le_of_ble_eq_true rfl) rm_8_1_2 ⟨by first | exact Nat.le_of_ble_eq_true rfl | exact Nat.zero_le _, by first | exact Nat.le_of_ble_eq_true rfl | exact Nat.zero_le _⟩ gX12_asked_1.1 (Keqr ?_)
        refine lv_icmp_ge (tgt := 87) hx hb gX12_asked_1.2.1 (by decide) (fun _ => ?_) (fun c9 => absurd (Int32.le_refl _) c9)
        rcases hnn with ⟨hno9, rfl⟩ | ⟨a9, ha9, rfl, hfd9⟩
        · refine lv_iconst (v := 0) hx hb gX12_asked_4.2.2.2.2.2.2.1 (by decide) ?_
          refine lv_iload hx hb gX12_asked_4.2.2.2.2.2.2.2.1 (lv_at1 hl) ?_
          refine va_mmax hx hb (hml.trans hl.1.symm) hown (hB _ m_1319) (hB _ m_142) (hB _ m_105) (hB _ m_143) (Nat.le_of_ble_eq_true rfl) (Nat.le_of_ble_eq_true rfl) (by first | exact Nat.le_of_ble_eq_true rfl | exact Nat.zero_le _)  (by first | exact Nat.le_of_ble_eq_true rfl | exact Nat.zero_le _) gX12_asked_4.2.2.2.2.2.2.2.2.1 ?_
          refine eqi (x1 := 0) (by decide) ?_
          refine toQ hQ0 ?_
          exact RI (v := 0) hC hP hD hS [0, 1, 2] vR rfl rfl (by decide) ((by rw [(show LVN (RLO DY (DAYV (fnw 0) (fnw 1)) k7) VL = L8 from (congrArg (fun z9 => LVN z9 VL) eo9.symm).trans hn9.symm)]; exact hno9.symm)) rfl gX12_asked_4.2.2.2.2.2.2.2.2.2
        · refine lv_iconst (v := 0) hx hb gX12_asked_4.2.2.2.2.2.2.1 (by decide) ?_
          refine lv_iload hx hb gX12_asked_4.2.2.2.2.2.2.2.1 (lv_at1 hl) ?_
          refine va_mmax hx hb (hml.trans hl.1.symm) hown (hB _ m_1319) (hB _ m_142) (hB _ m_105) (hB _ m_143) (Nat.le_of_ble_eq_true rfl) (Nat.le_of_ble_eq_true rfl) (by first | exact Nat.le_of_ble_eq_true rfl | exact Nat.zero_le _)  (by first | exact Nat.le_of_ble_eq_true rfl | exact Nat.zero_le _) gX12_asked_4.2.2.2.2.2.2.2.2.1 ?_
          refine eqi (x1 := nI a9) (MX0 (by omega)) ?_
          refine toQ hQ0 ?_
          exact RI (v := nI a9) hC hP hD hS [0, 1, 2] vR rfl rfl (by decide) ((by rw [(show LVN (RLO DY (DAYV (fnw 0) (fnw 1)) k7) VL = L8 from (congrArg (fun z9 => LVN z9 VL) eo9.symm).trans hn9.symm)]; exact hfd9.symm)) rfl gX12_asked_4.2.2.2.2.2.2.2.2.2
      | succ nQ ihQ =>
        intro kQ nn vR H locs ls hkQ hnn hPD hS hl
        refine Kan2 hPD (fun hP hD => ?_)
        refine lv_iload hx hb gX12_asked_0.2.2.2.2.2.2.2.1 (lv_at0 hl) ?_
        refine lv_aload_n hx hb gX12_asked_0.2.2.2.2.2.2.2.2.1 rfl (lv_at3 hl) ?_
        refine lv_iload_n hx hb gX12_asked_0.2.2.2.2.2.2.2.2.2 rfl (lv_at2 hl) ?_
        refine pV hC hK hl hP hD (m_lines l G L8 h0 v9 nw nk mhasKept nt mtaped nr mrowMany mroundOf mroundFrom 0 nm mfromHour mtoHour ns mfrom mto msort misFault mdeep mcoded mlines nl nc nF np ntr nb mbestCost nso nsi nit nsh nsf nss nrc mtraced mdealer mnumber mwhose msize misParted fnw (by omega) (eL8)) si_X12_183 [0, 1] sm_0_1 fm_0_1 nd_0_1 rfl rfl rfl rfl rfl (Nat.le_of_ble_eq_true rfl) rm_8_1_2 ⟨by first | exact Nat.le_of_ble_eq_true rfl | exact Nat.zero_le _, by first | exact Nat.le_of_ble_eq_true rfl | exact Nat.zero_le _⟩ gX12_asked_1.1 (Keqr ?_)
        refine lv_icmp_ge (tgt := 87) hx hb gX12_asked_1.2.1 (by decide) (fun c9 => absurd c9 (nI_ge (a := kQ) (b := L8) (by omega) (by omega))) (fun _ => ?_)
        have hln9 := hLN8 kQ (by omega)
        have hlz9 := hrow9 kQ (by omega)
        have hlz8 := hlz9
        obtain ⟨hlb7, f0, f1, -⟩ := hlz8
        have hsb9 := hlb7.le
        rcases hnn with ⟨hno9, rfl⟩ | ⟨a9, ha9, rfl, hfd9⟩
        · refine lv_aload_n hx hb gX12_asked_1.2.2.1 rfl (lv_at3 hl) ?_
          refine lv_iload_n hx hb gX12_asked_1.2.2.2.1 rfl (lv_at2 hl) ?_
          refine lv_iload hx hb gX12_asked_1.2.2.2.2.1 (lv_at0 hl) ?_
          refine lv_iconst (v := 0) hx hb gX12_asked_1.2.2.2.2.2.1 (by decide) ?_
          refine pV hC hK hl hP hD (m_lineOf l G h0 v9 kQ 0 nw nk mhasKept nt mtaped nr mrowMany mroundOf mroundFrom 0 nm mfromHour mtoHour ns mfrom mto msort misFault mdeep mcoded mlines nl nc nF np ntr nb mbestCost nso nsi nit nsh nsf nss nrc mtraced mdealer mnumber mwhose msize misParted fnw (by omega) (by omega) (by omega)) si_X12_193 [0, 1] sm_0_1 fm_0_1 nd_0_1 rfl rfl rfl rfl rfl (Nat.le_of_ble_eq_true rfl) rm_8_1_4 ⟨by first | exact Nat.le_of_ble_eq_true rfl | exact Nat.zero_le _, by first | exact Nat.le_of_ble_eq_true rfl | exact Nat.zero_le _⟩ gX12_asked_1.2.2.2.2.2.2.1 (Keqr ?_)
          refine eqi (x1 := nI ((VL v9).getD kQ LN0).1) (f0) ?_
          refine lv_iload_n hx hb gX12_asked_1.2.2.2.2.2.2.2.1 rfl (lv_at5 hl) ?_
          refine lv_icmp_ne (tgt := 58) hx hb gX12_asked_1.2.2.2.2.2.2.2.2.1 (by decide) (fun c_30_8253 => ?_) (fun c_30_8253 => ?_)
          · refine lv_iconst (v := 0) hx hb gX12_asked_3.2.2.1 (by decide) ?_
            refine lv_istore (lv' := [(6, .int 0), (5, .int (nI kQ)), (4, .int (-1)), (3, .int (nI v9)), (0, .ref h0), (1, .int (nI je)), (2, .int 3)]) hx hb gX12_asked_3.2.2.2.1 hl (by decide) rfl (fun ls hl => ?_)
            refine lv_iload hx hb gX12_asked_3.2.2.2.2.1 (lv_at0 hl) ?_
            refine lv_if_eq (tgt := 77) hx hb gX12_asked_3.2.2.2.2.2.1 (by decide) (fun _ => ?_) (fun c9 => absurd (by decide) c9)
            refine lv_iload hx hb gX12_asked_4.2.2.1 (lv_at2 hl) ?_
            refine lv_istore (lv' := [(4, .int (-1)), (6, .int 0), (5, .int (nI kQ)), (3, .int (nI v9)), (0, .ref h0), (1, .int (nI je)), (2, .int 3)]) hx hb gX12_asked_4.2.2.2.1 hl (by decide) rfl (fun ls hl => ?_)
            refine lv_iinc (v := nI (kQ + 1)) (lv' := [(5, .int (nI (kQ + 1))), (4, .int (-1)), (6, .int 0), (3, .int (nI v9)), (0, .ref h0), (1, .int (nI je)), (2, .int 3)]) hx hb gX12_asked_4.2.2.2.2.1 hl (k := 2) rfl (nI_1 _) (by decide) rfl (fun ls hl => ?_)
            refine lv_goto (tgt := 11) hx hb gX12_asked_4.2.2.2.2.2.1 (by decide) ?_
            have hst9 : LHS9 (LNF (RLO DY (DAYV (fnw 0) (fnw 1)) k7) VL) (kQ + 1) ((-1) : Int32) := LHS9.no (Or.inl ⟨hno9, rfl⟩) (fun h9 => c_30_8253 (congrArg nI (show ((VL v9).getD kQ LN0).1 = 3 from by rw [← eo9] at h9; exact h9)))
            exact ihQ (kQ + 1) (-1) vR _ _ _ (by omega) (by first | assumption | exact Or.inl rfl | exact Or.inr rfl | exact LHS9.zero) (And.intro hP hD) hS (lv_sub hl [0, 1, 3, 4, 5, 6] rfl)
          · refine lv_iload_n hx hb gX12_asked_1.2.2.2.2.2.2.2.2.2 rfl (lv_at5 hl) ?_
            refine lv_iconst (v := 3) hx hb gX12_asked_2.1 (by decide) ?_
            refine lv_icmp_eq (tgt := 54) hx hb gX12_asked_2.2.1 (by decide) (fun _ => ?_) (fun c9 => absurd (by decide) c9)
            refine lv_iconst (v := 1) hx hb gX12_asked_3.1 (by decide) ?_
            refine lv_goto (tgt := 59) hx hb gX12_asked_3.2.1 (by decide) ?_
            refine lv_istore (lv' := [(6, .int 1), (5, .int (nI kQ)), (4, .int (-1)), (3, .int (nI v9)), (0, .ref h0), (1, .int (nI je)), (2, .int 3)]) hx hb gX12_asked_3.2.2.2.1 hl (by decide) rfl (fun ls hl => ?_)
            refine lv_iload hx hb gX12_asked_3.2.2.2.2.1 (lv_at0 hl) ?_
            refine lv_if_eq (tgt := 77) hx hb gX12_asked_3.2.2.2.2.2.1 (by decide) (fun c9 => absurd c9 (by decide)) (fun _ => ?_)
            refine lv_aload_n hx hb gX12_asked_3.2.2.2.2.2.2.1 rfl (lv_at4 hl) ?_
            refine lv_iload_n hx hb gX12_asked_3.2.2.2.2.2.2.2.1 rfl (lv_at3 hl) ?_
            refine lv_iload hx hb gX12_asked_3.2.2.2.2.2.2.2.2.1 (lv_at1 hl) ?_
            refine lv_iconst (v := 1) hx hb gX12_asked_3.2.2.2.2.2.2.2.2.2 (by decide) ?_
            refine pV hC hK hl hP hD (m_lineOf l G h0 v9 kQ 1 nw nk mhasKept nt mtaped nr mrowMany mroundOf mroundFrom 0 nm mfromHour mtoHour ns mfrom mto msort misFault mdeep mcoded mlines nl nc nF np ntr nb mbestCost nso nsi nit nsh nsf nss nrc mtraced mdealer mnumber mwhose msize misParted fnw (by omega) (by omega) (by omega)) si_X12_193 [0, 1] sm_0_1 fm_0_1 nd_0_1 rfl rfl rfl rfl rfl (Nat.le_of_ble_eq_true rfl) rm_8_1_4 ⟨by first | exact Nat.le_of_ble_eq_true rfl | exact Nat.zero_le _, by first | exact Nat.le_of_ble_eq_true rfl | exact Nat.zero_le _⟩ gX12_asked_4.1 (Keqr ?_)
            refine lv_goto (tgt := 79) hx hb gX12_asked_4.2.1 (by decide) ?_
            refine lv_istore (lv' := [(4, .int (fnw (176 + 156 * v9 + 2 + 6 * kQ + 1))), (6, .int 1), (5, .int (nI kQ)), (3, .int (nI v9)), (0, .ref h0), (1, .int (nI je)), (2, .int 3)]) hx hb gX12_asked_4.2.2.2.1 hl (by decide) rfl (fun ls hl => ?_)
            refine lv_iinc (v := nI (kQ + 1)) (lv' := [(5, .int (nI (kQ + 1))), (4, .int (fnw (176 + 156 * v9 + 2 + 6 * kQ + 1))), (6, .int 1), (3, .int (nI v9)), (0, .ref h0), (1, .int (nI je)), (2, .int 3)]) hx hb gX12_asked_4.2.2.2.2.1 hl (k := 2) rfl (nI_1 _) (by decide) rfl (fun ls hl => ?_)
            refine lv_goto (tgt := 11) hx hb gX12_asked_4.2.2.2.2.2.1 (by decide) ?_
            have hst9 : LHS9 (LNF (RLO DY (DAYV (fnw 0) (fnw 1)) k7) VL) (kQ + 1) (fnw (176 + 156 * v9 + 2 + 6 * kQ + 1)) := LHS9.ye (by rw [← eo9]; exact hlb7) (show (LNF (RLO DY (DAYV (fnw 0) (fnw 1)) k7) VL kQ).1 = 3 from by rw [← eo9]; exact (show ((VL v9).getD kQ LN0).1 = 3 from (nI_eq (b := 3) (by omega) (by decide)).mp c_30_8253)) (by rw [← eo9]; exact f1)
            exact ihQ (kQ + 1) (fnw (176 + 156 * v9 + 2 + 6 * kQ + 1)) vR _ _ _ (by omega) (by first | assumption | exact Or.inl rfl | exact Or.inr rfl | exact LHS9.zero) (And.intro hP hD) hS (lv_sub hl [0, 1, 3, 4, 5, 6] rfl)
        · refine lv_aload_n hx hb gX12_asked_1.2.2.1 rfl (lv_at3 hl) ?_
          refine lv_iload_n hx hb gX12_asked_1.2.2.2.1 rfl (lv_at2 hl) ?_
          refine lv_iload hx hb gX12_asked_1.2.2.2.2.1 (lv_at0 hl) ?_
          refine lv_iconst (v := 0) hx hb gX12_asked_1.2.2.2.2.2.1 (by decide) ?_
          refine pV hC hK hl hP hD (m_lineOf l G h0 v9 kQ 0 nw nk mhasKept nt mtaped nr mrowMany mroundOf mroundFrom 0 nm mfromHour mtoHour ns mfrom mto msort misFault mdeep mcoded mlines nl nc nF np ntr nb mbestCost nso nsi nit nsh nsf nss nrc mtraced mdealer mnumber mwhose msize misParted fnw (by omega) (by omega) (by omega)) si_X12_193 [0, 1] sm_0_1 fm_0_1 nd_0_1 rfl rfl rfl rfl rfl (Nat.le_of_ble_eq_true rfl) rm_8_1_4 ⟨by first | exact Nat.le_of_ble_eq_true rfl | exact Nat.zero_le _, by first | exact Nat.le_of_ble_eq_true rfl | exact Nat.zero_le _⟩ gX12_asked_1.2.2.2.2.2.2.1 (Keqr ?_)
          refine eqi (x1 := nI ((VL v9).getD kQ LN0).1) (f0) ?_
          refine lv_iload_n hx hb gX12_asked_1.2.2.2.2.2.2.2.1 rfl (lv_at5 hl) ?_
          refine lv_icmp_ne (tgt := 58) hx hb gX12_asked_1.2.2.2.2.2.2.2.2.1 (by decide) (fun c_30_8258 => ?_) (fun c_30_8258 => ?_)
          · refine lv_iconst (v := 0) hx hb gX12_asked_3.2.2.1 (by decide) ?_
            refine lv_istore (lv' := [(6, .int 0), (5, .int (nI kQ)), (4, .int (nI a9)), (3, .int (nI v9)), (0, .ref h0), (1, .int (nI je)), (2, .int 3)]) hx hb gX12_asked_3.2.2.2.1 hl (by decide) rfl (fun ls hl => ?_)
            refine lv_iload hx hb gX12_asked_3.2.2.2.2.1 (lv_at0 hl) ?_
            refine lv_if_eq (tgt := 77) hx hb gX12_asked_3.2.2.2.2.2.1 (by decide) (fun _ => ?_) (fun c9 => absurd (by decide) c9)
            refine lv_iload hx hb gX12_asked_4.2.2.1 (lv_at2 hl) ?_
            refine lv_istore (lv' := [(4, .int (nI a9)), (6, .int 0), (5, .int (nI kQ)), (3, .int (nI v9)), (0, .ref h0), (1, .int (nI je)), (2, .int 3)]) hx hb gX12_asked_4.2.2.2.1 hl (by decide) rfl (fun ls hl => ?_)
            refine lv_iinc (v := nI (kQ + 1)) (lv' := [(5, .int (nI (kQ + 1))), (4, .int (nI a9)), (6, .int 0), (3, .int (nI v9)), (0, .ref h0), (1, .int (nI je)), (2, .int 3)]) hx hb gX12_asked_4.2.2.2.2.1 hl (k := 2) rfl (nI_1 _) (by decide) rfl (fun ls hl => ?_)
            refine lv_goto (tgt := 11) hx hb gX12_asked_4.2.2.2.2.2.1 (by decide) ?_
            have hst9 : LHS9 (LNF (RLO DY (DAYV (fnw 0) (fnw 1)) k7) VL) (kQ + 1) (nI a9) := LHS9.no (Or.inr ⟨a9, ha9, rfl, hfd9⟩) (fun h9 => c_30_8258 (congrArg nI (show ((VL v9).getD kQ LN0).1 = 3 from by rw [← eo9] at h9; exact h9)))
            exact ihQ (kQ + 1) (nI a9) vR _ _ _ (by omega) (by first | assumption | exact Or.inl rfl | exact Or.inr rfl | exact LHS9.zero) (And.intro hP hD) hS (lv_sub hl [0, 1, 3, 4, 5, 6] rfl)
          · refine lv_iload_n hx hb gX12_asked_1.2.2.2.2.2.2.2.2.2 rfl (lv_at5 hl) ?_
            refine lv_iconst (v := 3) hx hb gX12_asked_2.1 (by decide) ?_
            refine lv_icmp_eq (tgt := 54) hx hb gX12_asked_2.2.1 (by decide) (fun _ => ?_) (fun c9 => absurd (by decide) c9)
            refine lv_iconst (v := 1) hx hb gX12_asked_3.1 (by decide) ?_
            refine lv_goto (tgt := 59) hx hb gX12_asked_3.2.1 (by decide) ?_
            refine lv_istore (lv' := [(6, .int 1), (5, .int (nI kQ)), (4, .int (nI a9)), (3, .int (nI v9)), (0, .ref h0), (1, .int (nI je)), (2, .int 3)]) hx hb gX12_asked_3.2.2.2.1 hl (by decide) rfl (fun ls hl => ?_)
            refine lv_iload hx hb gX12_asked_3.2.2.2.2.1 (lv_at0 hl) ?_
            refine lv_if_eq (tgt := 77) hx hb gX12_asked_3.2.2.2.2.2.1 (by decide) (fun c9 => absurd c9 (by decide)) (fun _ => ?_)
            refine lv_aload_n hx hb gX12_asked_3.2.2.2.2.2.2.1 rfl (lv_at4 hl) ?_
            refine lv_iload_n hx hb gX12_asked_3.2.2.2.2.2.2.2.1 rfl (lv_at3 hl) ?_
            refine lv_iload hx hb gX12_asked_3.2.2.2.2.2.2.2.2.1 (lv_at1 hl) ?_
            refine lv_iconst (v := 1) hx hb gX12_asked_3.2.2.2.2.2.2.2.2.2 (by decide) ?_
            refine pV hC hK hl hP hD (m_lineOf l G h0 v9 kQ 1 nw nk mhasKept nt mtaped nr mrowMany mroundOf mroundFrom 0 nm mfromHour mtoHour ns mfrom mto msort misFault mdeep mcoded mlines nl nc nF np ntr nb mbestCost nso nsi nit nsh nsf nss nrc mtraced mdealer mnumber mwhose msize misParted fnw (by omega) (by omega) (by omega)) si_X12_193 [0, 1] sm_0_1 fm_0_1 nd_0_1 rfl rfl rfl rfl rfl (Nat.le_of_ble_eq_true rfl) rm_8_1_4 ⟨by first | exact Nat.le_of_ble_eq_true rfl | exact Nat.zero_le _, by first | exact Nat.le_of_ble_eq_true rfl | exact Nat.zero_le _⟩ gX12_asked_4.1 (Keqr ?_)
            refine lv_goto (tgt := 79) hx hb gX12_asked_4.2.1 (by decide) ?_
            refine lv_istore (lv' := [(4, .int (fnw (176 + 156 * v9 + 2 + 6 * kQ + 1))), (6, .int 1), (5, .int (nI kQ)), (3, .int (nI v9)), (0, .ref h0), (1, .int (nI je)), (2, .int 3)]) hx hb gX12_asked_4.2.2.2.1 hl (by decide) rfl (fun ls hl => ?_)
            refine lv_iinc (v := nI (kQ + 1)) (lv' := [(5, .int (nI (kQ + 1))), (4, .int (fnw (176 + 156 * v9 + 2 + 6 * kQ + 1))), (6, .int 1), (3, .int (nI v9)), (0, .ref h0), (1, .int (nI je)), (2, .int 3)]) hx hb gX12_asked_4.2.2.2.2.1 hl (k := 2) rfl (nI_1 _) (by decide) rfl (fun ls hl => ?_)
            refine lv_goto (tgt := 11) hx hb gX12_asked_4.2.2.2.2.2.1 (by decide) ?_
            have hst9 : LHS9 (LNF (RLO DY (DAYV (fnw 0) (fnw 1)) k7) VL) (kQ + 1) (fnw (176 + 156 * v9 + 2 + 6 * kQ + 1)) := LHS9.ye (by rw [← eo9]; exact hlb7) (show (LNF (RLO DY (DAYV (fnw 0) (fnw 1)) k7) VL kQ).1 = 3 from by rw [← eo9]; exact (show ((VL v9).getD kQ LN0).1 = 3 from (nI_eq (b := 3) (by omega) (by decide)).mp c_30_8258)) (by rw [← eo9]; exact f1)
            exact ihQ (kQ + 1) (fnw (176 + 156 * v9 + 2 + 6 * kQ + 1)) vR _ _ _ (by omega) (by first | assumption | exact Or.inl rfl | exact Or.inr rfl | exact LHS9.zero) (And.intro hP hD) hS (lv_sub hl [0, 1, 3, 4, 5, 6] rfl)
    exact keyQ L8 0 (-1) fnp _ _ _ (by omega) (by first | assumption | exact Or.inl rfl | exact Or.inr rfl | exact LHS9.zero) (And.intro hP hD) hS (lv_sub hl [0, 1, 2, 3, 4, 5] rfl)
def K_m_isBarredX (l : Launch) (G : GG) (kq : Nat) (k6 : Nat) (k7 : Nat) (k8 : Nat) (k10 : Nat) (VL : Nat → List LNT) (VC : Nat → Nat → List Int32) (DY : Nat → Int32) (h0 : Nat) (jf : Nat) (nw : Nat) (nk : Nat) (mhasKept : Int32) (nt : Nat) (mtaped : Int32) (nr : Nat) (mrowMany : Int32) (mroundOf : Int32) (mroundFrom : Int32) (nm : Nat) (mfromHour : Int32) (mtoHour : Int32) (ns : Nat) (mfrom : Int32) (mto : Int32) (msort : Int32) (misFault : Int32) (mdeep : Int32) (mcoded : Int32) (mlines : Int32) (nl : Nat) (nc : Nat) (nF : Nat) (np : Nat) (ntr : Nat) (nb : Nat) (mbestCost : Int32) (nso : Nat) (nsi : Nat) (nit : Nat) (nsh : Nat) (nsf : Nat) (nss : Nat) (nrc : Nat) (mtraced : Int32) (mdealer : Int32) (mnumber : Int32) (mwhose : Int32) (msize : Int32) (misParted : Int32) (fnw : Nat → Int32) (fnm : Nat → Int32) (fns : Nat → Int32) (fnp : Nat → Int32) : Prop := MI l G yX12_isBarred cX12_isBarred 8 (some .boolean) 12 0 0 [.ref h0, .int (nI jf)] [(h0, oX12 nw nk mhasKept nt mtaped nr mrowMany mroundOf mroundFrom 0 nm mfromHour mtoHour ns mfrom mto msort misFault mdeep mcoded mlines nl nc nF np ntr nb mbestCost nso nsi nit nsh nsf nss nrc mtraced mdealer mnumber mwhose msize misParted), (nw, iA G 1662 fnw), (nm, iA G 36 fnm), (ns, iA G 8 fns), (np, iA G 100 fnp)] (fun (r : Int32) (u : Int32 × Int32 × (Nat → Int32) × (Nat → Int32) × (Nat → Int32)) => ((r = 1 ∧ BRF (LNF (RLO DY (DAYV (fnw 0) (fnw 1)) k7) VL) (fun e9 => TRF (RLO DY (DAYV (fnw 0) (fnw 1)) k7) VC (FAX (shf fnw 12) (shf fnw 32) (VSE fnw kq) kq e9)) (LVN (RLO DY (DAYV (fnw 0) (fnw 1)) k7) VL) (fun e9 => CNT (fun s9 => shf fnw 1424 (s9 * 8 + 0) = e9 ∧ CSQ (shf fnw 1424) (shf fnw 32) (fnw 0) (fnw 1) (fnw 2) s9) k8) (shf fnw 1600) k10 (shf fnw 1552) (IMB (fun q9 => (STD (KST (shf fnw 104) (VSE fnw kq) (fnw 3).toInt k6) (shf fnw 104) (VSE fnw kq) (shf fnw 32) (shf fnw 12) k6 kq (fun e9 => LVF (LNF (RLO DY (DAYV (fnw 0) (fnw 1)) k7) VL) (TRF (RLO DY (DAYV (fnw 0) (fnw 1)) k7) VC (FAX (shf fnw 12) (shf fnw 32) (VSE fnw kq) kq e9))) (LVN (RLO DY (DAYV (fnw 0) (fnw 1)) k7) VL) (shf fnw 1552)) jf ∧ VSE fnw kq q9 ∧ ¬ (STD (KST (shf fnw 104) (VSO fnw kq (2 ^ q9)) (fnw 3).toInt k6) (shf fnw 104) (VSO fnw kq (2 ^ q9)) (shf fnw 32) (shf fnw 12) k6 kq (fun e9 => LVF (LNF (RLO DY (DAYV (fnw 0) (fnw 1)) k7) VL) (TRF (RLO DY (DAYV (fnw 0) (fnw 1)) k7) VC (FAX (shf fnw 12) (shf fnw 32) (VSO fnw kq (2 ^ q9)) kq e9))) (LVN (RLO DY (DAYV (fnw 0) (fnw 1)) k7) VL) (shf fnw 1552)) jf) kq) (DAYV (fnw 0) (fnw 1)) kq jf) ∨ (r = 0 ∧ ¬ BRF (LNF (RLO DY (DAYV (fnw 0) (fnw 1)) k7) VL) (fun e9 => TRF (RLO DY (DAYV (fnw 0) (fnw 1)) k7) VC (FAX (shf fnw 12) (shf fnw 32) (VSE fnw kq) kq e9)) (LVN (RLO DY (DAYV (fnw 0) (fnw 1)) k7) VL) (fun e9 => CNT (fun s9 => shf fnw 1424 (s9 * 8 + 0) = e9 ∧ CSQ (shf fnw 1424) (shf fnw 32) (fnw 0) (fnw 1) (fnw 2) s9) k8) (shf fnw 1600) k10 (shf fnw 1552) (IMB (fun q9 => (STD (KST (shf fnw 104) (VSE fnw kq) (fnw 3).toInt k6) (shf fnw 104) (VSE fnw kq) (shf fnw 32) (shf fnw 12) k6 kq (fun e9 => LVF (LNF (RLO DY (DAYV (fnw 0) (fnw 1)) k7) VL) (TRF (RLO DY (DAYV (fnw 0) (fnw 1)) k7) VC (FAX (shf fnw 12) (shf fnw 32) (VSE fnw kq) kq e9))) (LVN (RLO DY (DAYV (fnw 0) (fnw 1)) k7) VL) (shf fnw 1552)) jf ∧ VSE fnw kq q9 ∧ ¬ (STD (KST (shf fnw 104) (VSO fnw kq (2 ^ q9)) (fnw 3).toInt k6) (shf fnw 104) (VSO fnw kq (2 ^ q9)) (shf fnw 32) (shf fnw 12) k6 kq (fun e9 => LVF (LNF (RLO DY (DAYV (fnw 0) (fnw 1)) k7) VL) (TRF (RLO DY (DAYV (fnw 0) (fnw 1)) k7) VC (FAX (shf fnw 12) (shf fnw 32) (VSO fnw kq (2 ^ q9)) kq e9))) (LVN (RLO DY (DAYV (fnw 0) (fnw 1)) k7) VL) (shf fnw 1552)) jf) kq) (DAYV (fnw 0) (fnw 1)) kq jf)) ∧ (MB u.2.2.1)) (fun u : Int32 × Int32 × (Nat → Int32) × (Nat → Int32) × (Nat → Int32) => [(h0, oX12 nw nk mhasKept nt mtaped nr mrowMany mroundOf mroundFrom 0 nm u.1 u.2.1 ns mfrom mto msort misFault mdeep mcoded mlines nl nc nF np ntr nb mbestCost nso nsi nit nsh nsf nss nrc mtraced mdealer mnumber mwhose msize misParted), (nw, iA G 1662 fnw), (nm, iA G 36 u.2.2.1), (ns, iA G 8 u.2.2.2.1), (np, iA G 100 u.2.2.2.2)])
set_option maxHeartbeats 4000000 in
set_option maxRecDepth 100000 in
theorem m_isBarredX (l : Launch) (G : GG) (kq : Nat) (k6 : Nat) (k7 : Nat) (kp : Nat) (k9 : Nat) (k8 : Nat) (k10 : Nat) (VL : Nat → List LNT) (VC : Nat → Nat → List Int32) (DY : Nat → Int32) (h0 : Nat) (jf : Nat) (nw : Nat) (nk : Nat) (mhasKept : Int32) (nt : Nat) (mtaped : Int32) (nr : Nat) (mrowMany : Int32) (mroundOf : Int32) (mroundFrom : Int32) (nm : Nat) (mfromHour : Int32) (mtoHour : Int32) (ns : Nat) (mfrom : Int32) (mto : Int32) (msort : Int32) (misFault : Int32) (mdeep : Int32) (mcoded : Int32) (mlines : Int32) (nl : Nat) (nc : Nat) (nF : Nat) (np : Nat) (ntr : Nat) (nb : Nat) (mbestCost : Int32) (nso : Nat) (nsi : Nat) (nit : Nat) (nsh : Nat) (nsf : Nat) (nss : Nat) (nrc : Nat) (mtraced : Int32) (mdealer : Int32) (mnumber : Int32) (mwhose : Int32) (msize : Int32) (misParted : Int32) (fnw : Nat → Int32) (fnm : Nat → Int32) (fns : Nat → Int32) (fnp : Nat → Int32) (hjf : jf < k9) (hV : VI fnw) (hM : MB fnm) (hN : NI fnw) (hgp : GPRm (fnw 3)) (ekq : fnw 5 = nI kq) (hkq : kq ≤ 12) (e6 : fnw 6 = nI k6) (hk6 : k6 ≤ 24) (ek7 : fnw 7 = nI k7) (hk7 : k7 ≤ 8) (ekp : fnw 4 = nI kp) (hkp : kp ≤ 10) (hVM : VMZ fnw k7 VL VC DY) (hFN : FNO (shf fnw 1552) k9 kp) (hk9 : k9 ≤ 12) (ek8 : fnw 8 = nI k8) (hk8 : k8 ≤ 16) (ek10 : fnw 10 = nI k10) (hk10 : k10 ≤ 16) (hWN : WNO (shf fnw 1600) k10 kq) (hTDm : TDR (fnw 0)) : K_m_isBarredX l G kq k6 k7 k8 k10 VL VC DY h0 jf nw nk mhasKept nt mtaped nr mrowMany mroundOf mroundFrom nm mfromHour mtoHour ns mfrom mto msort misFault mdeep mcoded mlines nl nc nF np ntr nb mbestCost nso nsi nit nsh nsf nss nrc mtraced mdealer mnumber mwhose msize misParted fnw fnm fns fnp := by
  refine MI.start (by decide +kernel) (Nat.le_of_ble_eq_true rfl) ?_
  intro p e s m below meth c A ls hC hK hP hD hS hA hl
  refine absQ (fun Q0 hQ0 => ?_)
  have hl : lv_has ls 8 [(0, .ref h0), (1, .int (nI jf))] := hl
  refine Kan8 hC (fun hx hb hr hml hB hown hlocks hnm => ?_)
  have hf9 := hFN jf hjf
  obtain ⟨je, hje, e90⟩ := Hs_nat (by omega) hf9.1
  have hq0 : fnw (1552 + 4 * jf + 0) = shf fnw 1552 (jf * 4 + 0) := congrArg fnw (by omega)
  refine lv_aload_n hx hb gX12_isBarred_0.1 rfl (lv_at0 hl) ?_
  refine gf_X12_9 hC rfl hK hP 0 rfl rfl gX12_isBarred_0.2.1 ?_
  refine lv_sipush (v := 1552) hx hb gX12_isBarred_0.2.2.1 (by decide) ?_
  refine lv_iconst (v := 4) hx hb gX12_isBarred_0.2.2.2.1 (by decide) ?_
  refine lv_iload_n hx hb gX12_isBarred_0.2.2.2.2.1 rfl (lv_at1 hl) ?_
  refine lv_imul hx hb gX12_isBarred_0.2.2.2.2.2.1 ?_
  refine eqi (x1 := nI (4 * jf)) (nI_mul 4 jf) ?_
  refine lv_iadd hx hb gX12_isBarred_0.2.2.2.2.2.2.1 ?_
  refine eqi (x1 := nI (1552 + 4 * jf)) (nI_add 1552 (4 * jf)) ?_
  refine lv_iconst (v := 0) hx hb gX12_isBarred_0.2.2.2.2.2.2.2.1 (by decide) ?_
  refine lv_iadd hx hb gX12_isBarred_0.2.2.2.2.2.2.2.2.1 ?_
  refine eqi (x1 := nI (1552 + 4 * jf + 0)) (nI_add (1552 + 4 * jf) 0) ?_
  refine aldN hC hK hP 1 rfl (k := 1552 + 4 * jf + 0) (by omega) (Nat.le_of_ble_eq_true rfl) (v := nI je) (hq0.trans e90) gX12_isBarred_0.2.2.2.2.2.2.2.2.2 ?_
  refine lv_istore_n (lv' := [(2, .int (nI je)), (0, .ref h0), (1, .int (nI jf))]) hx hb gX12_isBarred_1.1 rfl hl (by decide) rfl (fun ls hl => ?_)
  refine lv_aload_n hx hb gX12_isBarred_1.2.1 rfl (lv_at1 hl) ?_
  refine lv_iload_n hx hb gX12_isBarred_1.2.2.1 rfl (lv_at2 hl) ?_
  refine iV (wr := []) hC hK hl hP hD hS hA (m_leansX l G kq k6 k7 kp k9 VL VC DY h0 jf nw nk mhasKept nt mtaped nr mrowMany mroundOf mroundFrom nm mfromHour mtoHour ns mfrom mto msort misFault mdeep mcoded mlines nl nc nF np ntr nb mbestCost nso nsi nit nsh nsf nss nrc mtraced mdealer mnumber mwhose msize misParted fnw fnm fns fnp (hjf) (hV) (hM) (hN) (hgp) (ekq) (hkq) (e6) (hk6) (ek7) (hk7) (ekp) (hkp) (hVM) (hFN) (hk9)) si_X12_311 [0, 1, 2, 3, 4] [] sm_0_1_2_3_4 fm_0_1_2_3_4 nd_0_1_2_3_4 rfl rfl (by decide) rfl rfl rfl rfl rfl (Nat.le_of_ble_eq_true rfl) rm_12_11_5 ⟨Nat.le_of_ble_eq_true rfl, Nat.le_of_ble_eq_true rfl⟩ gX12_isBarred_1.2.2.2.1 (fun r8261 => Ktu5 fun fh18263 th18264 gnm8265 gns8266 gnp8267 => ?_)
  intro H locs hr8261 hP hD hS
  try dsimp only at hr8261
  refine Kpdr (ws := [(h0, oX12 nw nk mhasKept nt mtaped nr mrowMany mroundOf mroundFrom 0 nm fh18263 th18264 ns mfrom mto msort misFault mdeep mcoded mlines nl nc nF np ntr nb mbestCost nso nsi nit nsh nsf nss nrc mtraced mdealer mnumber mwhose msize misParted), (nw, iA G 1662 fnw), (nm, iA G 36 gnm8265), (ns, iA G 8 gns8266), (np, iA G 100 gnp8267)]) hP hD (fun hP hD => ?_)
  obtain ⟨hr8261, w8268⟩ := hr8261
  obtain rfl := hr8261
  refine lv_istore_n (lv' := [(3, .int (IMB (fun q9 => (STD (KST (shf fnw 104) (VSE fnw kq) (fnw 3).toInt k6) (shf fnw 104) (VSE fnw kq) (shf fnw 32) (shf fnw 12) k6 kq (fun e9 => LVF (LNF (RLO DY (DAYV (fnw 0) (fnw 1)) k7) VL) (TRF (RLO DY (DAYV (fnw 0) (fnw 1)) k7) VC (FAX (shf fnw 12) (shf fnw 32) (VSE fnw kq) kq e9))) (LVN (RLO DY (DAYV (fnw 0) (fnw 1)) k7) VL) (shf fnw 1552)) jf ∧ VSE fnw kq q9 ∧ ¬ (STD (KST (shf fnw 104) (VSO fnw kq (2 ^ q9)) (fnw 3).toInt k6) (shf fnw 104) (VSO fnw kq (2 ^ q9)) (shf fnw 32) (shf fnw 12) k6 kq (fun e9 => LVF (LNF (RLO DY (DAYV (fnw 0) (fnw 1)) k7) VL) (TRF (RLO DY (DAYV (fnw 0) (fnw 1)) k7) VC (FAX (shf fnw 12) (shf fnw 32) (VSO fnw kq (2 ^ q9)) kq e9))) (LVN (RLO DY (DAYV (fnw 0) (fnw 1)) k7) VL) (shf fnw 1552)) jf) kq)), (2, .int (nI je)), (0, .ref h0), (1, .int (nI jf))]) hx hb gX12_isBarred_1.2.2.2.2.1 rfl hl (by decide) rfl (fun ls hl => ?_)
  refine lv_aload_n hx hb gX12_isBarred_1.2.2.2.2.2.1 rfl (lv_at2 hl) ?_
  refine lv_iload_n hx hb gX12_isBarred_1.2.2.2.2.2.2.1 rfl (lv_at1 hl) ?_
  refine lv_iconst (v := 1) hx hb gX12_isBarred_1.2.2.2.2.2.2.2.1 (by decide) ?_
  refine iV (wr := [(nm, iA G 36 gnm8265), (ns, iA G 8 gns8266)]) hC hK hl hP hD hS hA (m_askedW l G kq k7 VL VC DY h0 je nw nk mhasKept nt mtaped nr mrowMany mroundOf mroundFrom nm fh18263 th18264 ns mfrom mto msort misFault mdeep mcoded mlines nl nc nF np ntr nb mbestCost nso nsi nit nsh nsf nss nrc mtraced mdealer mnumber mwhose msize misParted fnw gnp8267 (by omega) (hN) (hV) (ekq) (hkq) (ek7) (hk7) (hVM)) si_X12_314 [0, 1, 4] [2, 3] sm_0_1_4 fm_0_1_4 nd_0_1_4 sm_2_3 nd_2_3 dj_0_1_4__2_3 rfl rfl rfl rfl rfl (Nat.le_of_ble_eq_true rfl) rm_12_8_7 ⟨Nat.le_of_ble_eq_true rfl, Nat.le_of_ble_eq_true rfl⟩ gX12_isBarred_1.2.2.2.2.2.2.2.2.1 (fun r8270 gnp8272 H locs hr8270 hP hD hS => ?_)
  try dsimp only at hr8270
  refine Kpdr (ws := [(nm, iA G 36 gnm8265), (ns, iA G 8 gns8266), (h0, oX12 nw nk mhasKept nt mtaped nr mrowMany mroundOf mroundFrom 0 nm fh18263 th18264 ns mfrom mto msort misFault mdeep mcoded mlines nl nc nF np ntr nb mbestCost nso nsi nit nsh nsf nss nrc mtraced mdealer mnumber mwhose msize misParted), (nw, iA G 1662 fnw), (np, iA G 100 gnp8272)]) hP hD (fun hP hD => ?_)
  obtain ⟨w9_8273, hpx8273, hpe8273⟩ := hr8270
  subst r8270
  try dsimp only at hpx8273
  refine lv_istore (lv' := [(4, .int w9_8273), (3, .int (IMB (fun q9 => (STD (KST (shf fnw 104) (VSE fnw kq) (fnw 3).toInt k6) (shf fnw 104) (VSE fnw kq) (shf fnw 32) (shf fnw 12) k6 kq (fun e9 => LVF (LNF (RLO DY (DAYV (fnw 0) (fnw 1)) k7) VL) (TRF (RLO DY (DAYV (fnw 0) (fnw 1)) k7) VC (FAX (shf fnw 12) (shf fnw 32) (VSE fnw kq) kq e9))) (LVN (RLO DY (DAYV (fnw 0) (fnw 1)) k7) VL) (shf fnw 1552)) jf ∧ VSE fnw kq q9 ∧ ¬ (STD (KST (shf fnw 104) (VSO fnw kq (2 ^ q9)) (fnw 3).toInt k6) (shf fnw 104) (VSO fnw kq (2 ^ q9)) (shf fnw 32) (shf fnw 12) k6 kq (fun e9 => LVF (LNF (RLO DY (DAYV (fnw 0) (fnw 1)) k7) VL) (TRF (RLO DY (DAYV (fnw 0) (fnw 1)) k7) VC (FAX (shf fnw 12) (shf fnw 32) (VSO fnw kq (2 ^ q9)) kq e9))) (LVN (RLO DY (DAYV (fnw 0) (fnw 1)) k7) VL) (shf fnw 1552)) jf) kq)), (2, .int (nI je)), (0, .ref h0), (1, .int (nI jf))]) hx hb gX12_isBarred_1.2.2.2.2.2.2.2.2.2 hl (by decide) rfl (fun ls hl => ?_)
  refine lv_iconst (v := 0) hx hb gX12_isBarred_2.1 (by decide) ?_
  refine lv_istore (lv' := [(5, .int 0), (4, .int w9_8273), (3, .int (IMB (fun q9 => (STD (KST (shf fnw 104) (VSE fnw kq) (fnw 3).toInt k6) (shf fnw 104) (VSE fnw kq) (shf fnw 32) (shf fnw 12) k6 kq (fun e9 => LVF (LNF (RLO DY (DAYV (fnw 0) (fnw 1)) k7) VL) (TRF (RLO DY (DAYV (fnw 0) (fnw 1)) k7) VC (FAX (shf fnw 12) (shf fnw 32) (VSE fnw kq) kq e9))) (LVN (RLO DY (DAYV (fnw 0) (fnw 1)) k7) VL) (shf fnw 1552)) jf ∧ VSE fnw kq q9 ∧ ¬ (STD (KST (shf fnw 104) (VSO fnw kq (2 ^ q9)) (fnw 3).toInt k6) (shf fnw 104) (VSO fnw kq (2 ^ q9)) (shf fnw 32) (shf fnw 12) k6 kq (fun e9 => LVF (LNF (RLO DY (DAYV (fnw 0) (fnw 1)) k7) VL) (TRF (RLO DY (DAYV (fnw 0) (fnw 1)) k7) VC (FAX (shf fnw 12) (shf fnw 32) (VSO fnw kq (2 ^ q9)) kq e9))) (LVN (RLO DY (DAYV (fnw 0) (fnw 1)) k7) VL) (shf fnw 1552)) jf) kq)), (2, .int (nI je)), (0, .ref h0), (1, .int (nI jf))]) hx hb gX12_isBarred_2.2.1 hl (by decide) rfl (fun ls hl => ?_)
  have hfw8 := hpx8273
  obtain ⟨ja, hja, eja⟩ := FWD.bd (LVM.lnb hVM) hfw8
  rw [eja] at hfw8
  subst eja
  have keyP : ∀ (nP kP : Nat) (op : Int32) (H : Heap) (locs : List Loc) (ls : Array Slot), kP + nP = k10 → (op = OPN (fun q9 => (STD (KST (shf fnw 104) (VSE fnw kq) (fnw 3).toInt k6) (shf fnw 104) (VSE fnw kq) (shf fnw 32) (shf fnw 12) k6 kq (fun e9 => LVF (LNF (RLO DY (DAYV (fnw 0) (fnw 1)) k7) VL) (TRF (RLO DY (DAYV (fnw 0) (fnw 1)) k7) VC (FAX (shf fnw 12) (shf fnw 32) (VSE fnw kq) kq e9))) (LVN (RLO DY (DAYV (fnw 0) (fnw 1)) k7) VL) (shf fnw 1552)) jf ∧ VSE fnw kq q9 ∧ ¬ (STD (KST (shf fnw 104) (VSO fnw kq (2 ^ q9)) (fnw 3).toInt k6) (shf fnw 104) (VSO fnw kq (2 ^ q9)) (shf fnw 32) (shf fnw 12) k6 kq (fun e9 => LVF (LNF (RLO DY (DAYV (fnw 0) (fnw 1)) k7) VL) (TRF (RLO DY (DAYV (fnw 0) (fnw 1)) k7) VC (FAX (shf fnw 12) (shf fnw 32) (VSO fnw kq (2 ^ q9)) kq e9))) (LVN (RLO DY (DAYV (fnw 0) (fnw 1)) k7) VL) (shf fnw 1552)) jf) (TLD (shf fnw 1600) (nI je) (DAYV (fnw 0) (fnw 1)) (nI ja)) kq kP) → va_PD G A [(nm, iA G 36 gnm8265), (ns, iA G 8 gns8266), (h0, oX12 nw nk mhasKept nt mtaped nr mrowMany mroundOf mroundFrom 0 nm fh18263 th18264 ns mfrom mto msort misFault mdeep mcoded mlines nl nc nF np ntr nb mbestCost nso nsi nit nsh nsf nss nrc mtraced mdealer mnumber mwhose msize misParted), (nw, iA G 1662 fnw), (np, iA G 100 gnp8272)] H → va_S A s.heap H locs → lv_has ls 8 [(5, .int (nI kP)), (4, .int (nI ja)), (3, .int op), (2, .int (nI je)), (0, .ref h0), (1, .int (nI jf))] → W p l e (RM 12 0 0) s m ([.ref h0, .int (nI jf)] : List Value).toArray below meth c H locs 0 0 Q0 (F0 m 32 ls []) := by
    intro nP
    induction nP with
    | zero =>
      intro kP op H locs ls hkP hop hPD hS hl
      refine Kan2 hPD (fun hP hD => ?_)
      obtain rfl : k10 = kP := by omega
      have hl : lv_has ls 8 [(5, .int (nI k10)), (4, .int (nI ja)), (3, .int op), (2, .int (nI je)), (0, .ref h0), (1, .int (nI jf))] := hl
      refine lv_iload hx hb gX12_isBarred_2.2.2.1 (lv_at0 hl) ?_
      refine lv_aload_n hx hb gX12_isBarred_2.2.2.2.1 rfl (lv_at4 hl) ?_
      refine gf_X12_9 hC rfl hK hP 2 rfl rfl gX12_isBarred_2.2.2.2.2.1 ?_
      refine lv_bipush (v := 10) hx hb gX12_isBarred_2.2.2.2.2.2.1 (by decide) ?_
      refine ald hC hK hP 3 rfl (vin (by decide +kernel)) (k := 10) (by decide +kernel) (v := nI k10) (ek10) gX12_isBarred_2.2.2.2.2.2.2.1 ?_
      refine lv_icmp_ge (tgt := 138) hx hb gX12_isBarred_2.2.2.2.2.2.2.2.1 (by decide) (fun _ => ?_) (fun c9 => absurd (Int32.le_refl _) c9)
      refine lv_iload_n hx hb gX12_isBarred_8.2.2.2.1 rfl (lv_at2 hl) ?_
      refine lv_if_ne (tgt := 156) hx hb gX12_isBarred_8.2.2.2.2.1 (by decide) (fun c_139_8274 => ?_) (fun c_139_8274 => ?_)
      · refine lv_iconst (v := 1) hx hb gX12_isBarred_9.2.2.2.1 (by decide) ?_
        refine lv_goto (tgt := 161) hx hb gX12_isBarred_9.2.2.2.2.1 (by decide) ?_
        refine toQ hQ0 ?_
        exact RI (v := 1) hC hP hD hS [2, 3, 0, 1, 4] (fh18263, th18264, gnm8265, gns8266, gnp8272) rfl rfl (by decide) (⟨Or.inl ⟨rfl, (BRF.at (TR := (fun e9 => TRF (RLO DY (DAYV (fnw 0) (fnw 1)) k7) VC (FAX (shf fnw 12) (shf fnw 32) (VSE fnw kq) kq e9))) (CN := (fun e9 => CNT (fun s9 => shf fnw 1424 (s9 * 8 + 0) = e9 ∧ CSQ (shf fnw 1424) (shf fnw 32) (fnw 0) (fnw 1) (fnw 2) s9) k8)) e90 (by omega)).mpr (Or.inr ⟨_, hfw8, OPN.ex (by omega) hWN (DAYV.bd hTDm) hja (by rw [← hop]; exact c_139_8274)⟩)⟩, by first | assumption | exact w8268⟩) (by decide +kernel) gX12_isBarred_9.2.2.2.2.2.2
      · refine lv_aload_n hx hb gX12_isBarred_8.2.2.2.2.2.1 rfl (lv_at4 hl) ?_
        refine lv_iload_n hx hb gX12_isBarred_8.2.2.2.2.2.2.1 rfl (lv_at3 hl) ?_
        refine pV hC hK hl hP hD (m_saidByX l G k8 h0 je nw nk mhasKept nt mtaped nr mrowMany mroundOf mroundFrom nm fh18263 th18264 ns mfrom mto msort misFault mdeep mcoded mlines nl nc nF np ntr nb mbestCost nso nsi nit nsh nsf nss nrc mtraced mdealer mnumber mwhose msize misParted fnw (ek8) (hk8) (by omega) (hN)) si_X12_127 [2, 3] sm_2_3 fm_2_3 nd_2_3 rfl rfl rfl rfl rfl (Nat.le_of_ble_eq_true rfl) rm_12_5_4 ⟨by first | exact Nat.le_of_ble_eq_true rfl | exact Nat.zero_le _, by first | exact Nat.le_of_ble_eq_true rfl | exact Nat.zero_le _⟩ gX12_isBarred_8.2.2.2.2.2.2.2.1 (Keqr ?_)
        refine lv_aload_n hx hb gX12_isBarred_8.2.2.2.2.2.2.2.2.1 rfl (lv_at4 hl) ?_
        refine lv_iload_n hx hb gX12_isBarred_8.2.2.2.2.2.2.2.2.2 rfl (lv_at3 hl) ?_
        refine lv_iconst (v := 3) hx hb gX12_isBarred_9.1 (by decide) ?_
        refine iV (wr := [(nm, iA G 36 gnm8265), (ns, iA G 8 gns8266)]) hC hK hl hP hD hS hA (m_askedH l G kq k7 VL VC DY h0 je nw nk mhasKept nt mtaped nr mrowMany mroundOf mroundFrom nm fh18263 th18264 ns mfrom mto msort misFault mdeep mcoded mlines nl nc nF np ntr nb mbestCost nso nsi nit nsh nsf nss nrc mtraced mdealer mnumber mwhose msize misParted fnw gnp8272 (by omega) (hN) (hV) (ekq) (hkq) (ek7) (hk7) (hVM)) si_X12_314 [2, 3, 4] [0, 1] sm_2_3_4 fm_2_3_4 nd_2_3_4 sm_0_1 nd_0_1 dj_2_3_4__0_1 rfl rfl rfl rfl rfl (Nat.le_of_ble_eq_true rfl) rm_12_8_7 ⟨Nat.le_of_ble_eq_true rfl, Nat.le_of_ble_eq_true rfl⟩ gX12_isBarred_9.2.1 (fun r8277 gnp8279 H locs hr8277 hP hD hS => ?_)
        try dsimp only at hr8277
        refine Kpdr (ws := [(nm, iA G 36 gnm8265), (ns, iA G 8 gns8266), (h0, oX12 nw nk mhasKept nt mtaped nr mrowMany mroundOf mroundFrom 0 nm fh18263 th18264 ns mfrom mto msort misFault mdeep mcoded mlines nl nc nF np ntr nb mbestCost nso nsi nit nsh nsf nss nrc mtraced mdealer mnumber mwhose msize misParted), (nw, iA G 1662 fnw), (np, iA G 100 gnp8279)]) hP hD (fun hP hD => ?_)
        obtain rfl := hr8277
        refine lv_icmp_ge (tgt := 160) hx hb gX12_isBarred_9.2.2.1 (by decide) (fun c_153_8281 => ?_) (fun c_153_8281 => ?_)
        · refine lv_iconst (v := 0) hx hb gX12_isBarred_9.2.2.2.2.2.1 (by decide) ?_
          refine toQ hQ0 ?_
          exact RI (v := 0) hC hP hD hS [2, 3, 0, 1, 4] (fh18263, th18264, gnm8265, gns8266, gnp8279) rfl rfl (by decide) (⟨Or.inr ⟨rfl, fun h9 => BRD.no (Int32.not_lt.mpr c_153_8281) hfw8 (OPN.nx (by omega) hWN (DAYV.bd hTDm) hja (by rw [← hop]; exact c_139_8274)) ((BRF.at (TR := (fun e9 => TRF (RLO DY (DAYV (fnw 0) (fnw 1)) k7) VC (FAX (shf fnw 12) (shf fnw 32) (VSE fnw kq) kq e9))) (CN := (fun e9 => CNT (fun s9 => shf fnw 1424 (s9 * 8 + 0) = e9 ∧ CSQ (shf fnw 1424) (shf fnw 32) (fnw 0) (fnw 1) (fnw 2) s9) k8)) e90 (by omega)).mp h9)⟩, by first | assumption | exact w8268⟩) (by decide +kernel) gX12_isBarred_9.2.2.2.2.2.2
        · refine lv_iconst (v := 1) hx hb gX12_isBarred_9.2.2.2.1 (by decide) ?_
          refine lv_goto (tgt := 161) hx hb gX12_isBarred_9.2.2.2.2.1 (by decide) ?_
          refine toQ hQ0 ?_
          exact RI (v := 1) hC hP hD hS [2, 3, 0, 1, 4] (fh18263, th18264, gnm8265, gns8266, gnp8279) rfl rfl (by decide) (⟨Or.inl ⟨rfl, (BRF.at (TR := (fun e9 => TRF (RLO DY (DAYV (fnw 0) (fnw 1)) k7) VC (FAX (shf fnw 12) (shf fnw 32) (VSE fnw kq) kq e9))) (CN := (fun e9 => CNT (fun s9 => shf fnw 1424 (s9 * 8 + 0) = e9 ∧ CSQ (shf fnw 1424) (shf fnw 32) (fnw 0) (fnw 1) (fnw 2) s9) k8)) e90 (by omega)).mpr (Or.inl (Int32.not_le.mp c_153_8281))⟩, by first | assumption | exact w8268⟩) (by decide +kernel) gX12_isBarred_9.2.2.2.2.2.2
    | succ nP ihP =>
      intro kP op H locs ls hkP hop hPD hS hl
      refine Kan2 hPD (fun hP hD => ?_)
      refine lv_iload hx hb gX12_isBarred_2.2.2.1 (lv_at0 hl) ?_
      refine lv_aload_n hx hb gX12_isBarred_2.2.2.2.1 rfl (lv_at4 hl) ?_
      refine gf_X12_9 hC rfl hK hP 2 rfl rfl gX12_isBarred_2.2.2.2.2.1 ?_
      refine lv_bipush (v := 10) hx hb gX12_isBarred_2.2.2.2.2.2.1 (by decide) ?_
      refine ald hC hK hP 3 rfl (vin (by decide +kernel)) (k := 10) (by decide +kernel) (v := nI k10) (ek10) gX12_isBarred_2.2.2.2.2.2.2.1 ?_
      refine lv_icmp_ge (tgt := 138) hx hb gX12_isBarred_2.2.2.2.2.2.2.2.1 (by decide) (fun c9 => absurd c9 (nI_ge (a := kP) (b := k10) (by omega) (by omega))) (fun _ => ?_)
      have hw9 := hWN kP (by omega)
      obtain ⟨px, hpx, epx⟩ := Hs_nat (by omega) hw9.1
      have hr0 : fnw (1600 + 3 * kP + 0) = shf fnw 1600 (kP * 3 + 0) := congrArg fnw (by omega)
      have hr1 : fnw (1600 + 3 * kP + 1) = shf fnw 1600 (kP * 3 + 1) := congrArg fnw (by omega)
      have hr2 : fnw (1600 + 3 * kP + 2) = shf fnw 1600 (kP * 3 + 2) := congrArg fnw (by omega)
      have hr00 : fnw (1600 + 3 * kP) = shf fnw 1600 (kP * 3 + 0) := congrArg fnw (by omega)
      refine lv_sipush (v := 1600) hx hb gX12_isBarred_2.2.2.2.2.2.2.2.2.1 (by decide) ?_
      refine lv_iconst (v := 3) hx hb gX12_isBarred_2.2.2.2.2.2.2.2.2.2 (by decide) ?_
      refine lv_iload hx hb gX12_isBarred_3.1 (lv_at0 hl) ?_
      refine lv_imul hx hb gX12_isBarred_3.2.1 ?_
      refine eqi (x1 := nI (3 * kP)) (nI_mul 3 kP) ?_
      refine lv_iadd hx hb gX12_isBarred_3.2.2.1 ?_
      refine eqi (x1 := nI (1600 + 3 * kP)) (nI_add 1600 (3 * kP)) ?_
      refine lv_istore (lv' := [(6, .int (nI (1600 + 3 * kP))), (5, .int (nI kP)), (4, .int (nI ja)), (3, .int op), (2, .int (nI je)), (0, .ref h0), (1, .int (nI jf))]) hx hb gX12_isBarred_3.2.2.2.1 hl (by decide) rfl (fun ls hl => ?_)
      refine lv_aload_n hx hb gX12_isBarred_3.2.2.2.2.1 rfl (lv_at5 hl) ?_
      refine gf_X12_9 hC rfl hK hP 2 rfl rfl gX12_isBarred_3.2.2.2.2.2.1 ?_
      refine lv_iload hx hb gX12_isBarred_3.2.2.2.2.2.2.1 (lv_at0 hl) ?_
      refine aldN hC hK hP 3 rfl (k := 1600 + 3 * kP) (by omega) (Nat.le_of_ble_eq_true rfl) (v := shf fnw 1600 (kP * 3 + 0)) (hr00) gX12_isBarred_3.2.2.2.2.2.2.2.1 ?_
      refine lv_iload_n hx hb gX12_isBarred_3.2.2.2.2.2.2.2.2.1 rfl (lv_at4 hl) ?_
      refine lv_icmp_ne (tgt := 104) hx hb gX12_isBarred_3.2.2.2.2.2.2.2.2.2 (by decide) (fun c_62_8282 => ?_) (fun c_62_8282 => ?_)
      · refine lv_iconst (v := 0) hx hb gX12_isBarred_6.2.2.1 (by decide) ?_
        refine lv_istore (lv' := [(7, .int 0), (6, .int (nI (1600 + 3 * kP))), (5, .int (nI kP)), (4, .int (nI ja)), (3, .int op), (2, .int (nI je)), (0, .ref h0), (1, .int (nI jf))]) hx hb gX12_isBarred_6.2.2.2.1 hl (by decide) rfl (fun ls hl => ?_)
        refine lv_iload_n hx hb gX12_isBarred_6.2.2.2.2.1 rfl (lv_at4 hl) ?_
        refine lv_iload hx hb gX12_isBarred_6.2.2.2.2.2.1 (lv_at0 hl) ?_
        refine lv_if_eq (tgt := 129) hx hb gX12_isBarred_6.2.2.2.2.2.2.1 (by decide) (fun _ => ?_) (fun c9 => absurd (by decide) c9)
        refine lv_iconst (v := (-1)) hx hb gX12_isBarred_7.2.2.2.2.2.2.2.2.1 (by decide) ?_
        refine lv_iand hx hb gX12_isBarred_7.2.2.2.2.2.2.2.2.2 ?_
        refine lv_istore_n (lv' := [(3, .int (op &&& (-1))), (7, .int 0), (6, .int (nI (1600 + 3 * kP))), (5, .int (nI kP)), (4, .int (nI ja)), (2, .int (nI je)), (0, .ref h0), (1, .int (nI jf))]) hx hb gX12_isBarred_8.1 rfl hl (by decide) rfl (fun ls hl => ?_)
        refine lv_iinc (v := nI (kP + 1)) (lv' := [(5, .int (nI (kP + 1))), (3, .int (op &&& (-1))), (7, .int 0), (6, .int (nI (1600 + 3 * kP))), (4, .int (nI ja)), (2, .int (nI je)), (0, .ref h0), (1, .int (nI jf))]) hx hb gX12_isBarred_8.2.1 hl (k := 3) rfl (nI_1 _) (by decide) rfl (fun ls hl => ?_)
        refine lv_goto (tgt := 32) hx hb gX12_isBarred_8.2.2.1 (by decide) ?_
        have hst9 : op &&& (-1) = OPN (fun q9 => (STD (KST (shf fnw 104) (VSE fnw kq) (fnw 3).toInt k6) (shf fnw 104) (VSE fnw kq) (shf fnw 32) (shf fnw 12) k6 kq (fun e9 => LVF (LNF (RLO DY (DAYV (fnw 0) (fnw 1)) k7) VL) (TRF (RLO DY (DAYV (fnw 0) (fnw 1)) k7) VC (FAX (shf fnw 12) (shf fnw 32) (VSE fnw kq) kq e9))) (LVN (RLO DY (DAYV (fnw 0) (fnw 1)) k7) VL) (shf fnw 1552)) jf ∧ VSE fnw kq q9 ∧ ¬ (STD (KST (shf fnw 104) (VSO fnw kq (2 ^ q9)) (fnw 3).toInt k6) (shf fnw 104) (VSO fnw kq (2 ^ q9)) (shf fnw 32) (shf fnw 12) k6 kq (fun e9 => LVF (LNF (RLO DY (DAYV (fnw 0) (fnw 1)) k7) VL) (TRF (RLO DY (DAYV (fnw 0) (fnw 1)) k7) VC (FAX (shf fnw 12) (shf fnw 32) (VSO fnw kq (2 ^ q9)) kq e9))) (LVN (RLO DY (DAYV (fnw 0) (fnw 1)) k7) VL) (shf fnw 1552)) jf) (TLD (shf fnw 1600) (nI je) (DAYV (fnw 0) (fnw 1)) (nI ja)) kq (kP + 1) := OPN.n hop (fun q9 _ h9 => c_62_8282 h9.1)
        exact ihP (kP + 1) (op &&& (-1)) _ _ _ (by omega) (by first | assumption | exact Or.inl rfl | exact Or.inr rfl | exact OPN.zero rfl) (And.intro hP hD) hS (lv_sub hl [0, 4, 1, 5, 6, 7] rfl)
      · refine lv_aload_n hx hb gX12_isBarred_4.1 rfl (lv_at5 hl) ?_
        refine gf_X12_9 hC rfl hK hP 2 rfl rfl gX12_isBarred_4.2.1 ?_
        refine lv_iload hx hb gX12_isBarred_4.2.2.1 (lv_at0 hl) ?_
        refine lv_iconst (v := 2) hx hb gX12_isBarred_4.2.2.2.1 (by decide) ?_
        refine lv_iadd hx hb gX12_isBarred_4.2.2.2.2.1 ?_
        refine eqi (x1 := nI (1600 + 3 * kP + 2)) (nI_add (1600 + 3 * kP) 2) ?_
        refine aldN hC hK hP 3 rfl (k := 1600 + 3 * kP + 2) (by omega) (Nat.le_of_ble_eq_true rfl) (v := shf fnw 1600 (kP * 3 + 2)) (hr2) gX12_isBarred_4.2.2.2.2.2.1 ?_
        refine lv_aload_n hx hb gX12_isBarred_4.2.2.2.2.2.2.1 rfl (lv_at5 hl) ?_
        refine pV hC hK hl hP hD (m_dayX l G h0 nw nk mhasKept nt mtaped nr mrowMany mroundOf mroundFrom 0 nm fh18263 th18264 ns mfrom mto msort misFault mdeep mcoded mlines nl nc nF np ntr nb mbestCost nso nsi nit nsh nsf nss nrc mtraced mdealer mnumber mwhose msize misParted fnw) si_X12_92 [2, 3] sm_2_3 fm_2_3 nd_2_3 rfl rfl rfl rfl rfl (Nat.le_of_ble_eq_true rfl) rm_12_1_1 ⟨by first | exact Nat.le_of_ble_eq_true rfl | exact Nat.zero_le _, by first | exact Nat.le_of_ble_eq_true rfl | exact Nat.zero_le _⟩ gX12_isBarred_4.2.2.2.2.2.2.2.1 (Keqr ?_)
        refine lv_icmp_gt (tgt := 104) hx hb gX12_isBarred_4.2.2.2.2.2.2.2.2.1 (by decide) (fun c_78_8285 => ?_) (fun c_78_8285 => ?_)
        · refine lv_iconst (v := 0) hx hb gX12_isBarred_6.2.2.1 (by decide) ?_
          refine lv_istore (lv' := [(7, .int 0), (6, .int (nI (1600 + 3 * kP))), (5, .int (nI kP)), (4, .int (nI ja)), (3, .int op), (2, .int (nI je)), (0, .ref h0), (1, .int (nI jf))]) hx hb gX12_isBarred_6.2.2.2.1 hl (by decide) rfl (fun ls hl => ?_)
          refine lv_iload_n hx hb gX12_isBarred_6.2.2.2.2.1 rfl (lv_at4 hl) ?_
          refine lv_iload hx hb gX12_isBarred_6.2.2.2.2.2.1 (lv_at0 hl) ?_
          refine lv_if_eq (tgt := 129) hx hb gX12_isBarred_6.2.2.2.2.2.2.1 (by decide) (fun _ => ?_) (fun c9 => absurd (by decide) c9)
          refine lv_iconst (v := (-1)) hx hb gX12_isBarred_7.2.2.2.2.2.2.2.2.1 (by decide) ?_
          refine lv_iand hx hb gX12_isBarred_7.2.2.2.2.2.2.2.2.2 ?_
          refine lv_istore_n (lv' := [(3, .int (op &&& (-1))), (7, .int 0), (6, .int (nI (1600 + 3 * kP))), (5, .int (nI kP)), (4, .int (nI ja)), (2, .int (nI je)), (0, .ref h0), (1, .int (nI jf))]) hx hb gX12_isBarred_8.1 rfl hl (by decide) rfl (fun ls hl => ?_)
          refine lv_iinc (v := nI (kP + 1)) (lv' := [(5, .int (nI (kP + 1))), (3, .int (op &&& (-1))), (7, .int 0), (6, .int (nI (1600 + 3 * kP))), (4, .int (nI ja)), (2, .int (nI je)), (0, .ref h0), (1, .int (nI jf))]) hx hb gX12_isBarred_8.2.1 hl (k := 3) rfl (nI_1 _) (by decide) rfl (fun ls hl => ?_)
          refine lv_goto (tgt := 32) hx hb gX12_isBarred_8.2.2.1 (by decide) ?_
          have hst9 : op &&& (-1) = OPN (fun q9 => (STD (KST (shf fnw 104) (VSE fnw kq) (fnw 3).toInt k6) (shf fnw 104) (VSE fnw kq) (shf fnw 32) (shf fnw 12) k6 kq (fun e9 => LVF (LNF (RLO DY (DAYV (fnw 0) (fnw 1)) k7) VL) (TRF (RLO DY (DAYV (fnw 0) (fnw 1)) k7) VC (FAX (shf fnw 12) (shf fnw 32) (VSE fnw kq) kq e9))) (LVN (RLO DY (DAYV (fnw 0) (fnw 1)) k7) VL) (shf fnw 1552)) jf ∧ VSE fnw kq q9 ∧ ¬ (STD (KST (shf fnw 104) (VSO fnw kq (2 ^ q9)) (fnw 3).toInt k6) (shf fnw 104) (VSO fnw kq (2 ^ q9)) (shf fnw 32) (shf fnw 12) k6 kq (fun e9 => LVF (LNF (RLO DY (DAYV (fnw 0) (fnw 1)) k7) VL) (TRF (RLO DY (DAYV (fnw 0) (fnw 1)) k7) VC (FAX (shf fnw 12) (shf fnw 32) (VSO fnw kq (2 ^ q9)) kq e9))) (LVN (RLO DY (DAYV (fnw 0) (fnw 1)) k7) VL) (shf fnw 1552)) jf) (TLD (shf fnw 1600) (nI je) (DAYV (fnw 0) (fnw 1)) (nI ja)) kq (kP + 1) := OPN.n hop (fun q9 _ h9 => Int32.not_le.mpr c_78_8285 h9.2.1)
          exact ihP (kP + 1) (op &&& (-1)) _ _ _ (by omega) (by first | assumption | exact Or.inl rfl | exact Or.inr rfl | exact OPN.zero rfl) (And.intro hP hD) hS (lv_sub hl [0, 4, 1, 5, 6, 7] rfl)
        · refine lv_aload_n hx hb gX12_isBarred_4.2.2.2.2.2.2.2.2.2 rfl (lv_at5 hl) ?_
          refine pV hC hK hl hP hD (m_dayX l G h0 nw nk mhasKept nt mtaped nr mrowMany mroundOf mroundFrom 0 nm fh18263 th18264 ns mfrom mto msort misFault mdeep mcoded mlines nl nc nF np ntr nb mbestCost nso nsi nit nsh nsf nss nrc mtraced mdealer mnumber mwhose msize misParted fnw) si_X12_92 [2, 3] sm_2_3 fm_2_3 nd_2_3 rfl rfl rfl rfl rfl (Nat.le_of_ble_eq_true rfl) rm_12_1_1 ⟨by first | exact Nat.le_of_ble_eq_true rfl | exact Nat.zero_le _, by first | exact Nat.le_of_ble_eq_true rfl | exact Nat.zero_le _⟩ gX12_isBarred_5.1 (Keqr ?_)
          refine lv_aload_n hx hb gX12_isBarred_5.2.1 rfl (lv_at5 hl) ?_
          refine gf_X12_9 hC rfl hK hP 2 rfl rfl gX12_isBarred_5.2.2.1 ?_
          refine lv_iload hx hb gX12_isBarred_5.2.2.2.1 (lv_at0 hl) ?_
          refine lv_iconst (v := 2) hx hb gX12_isBarred_5.2.2.2.2.1 (by decide) ?_
          refine lv_iadd hx hb gX12_isBarred_5.2.2.2.2.2.1 ?_
          refine eqi (x1 := nI (1600 + 3 * kP + 2)) (nI_add (1600 + 3 * kP) 2) ?_
          refine aldN hC hK hP 3 rfl (k := 1600 + 3 * kP + 2) (by omega) (Nat.le_of_ble_eq_true rfl) (v := shf fnw 1600 (kP * 3 + 2)) (hr2) gX12_isBarred_5.2.2.2.2.2.2.1 ?_
          refine lv_isub hx hb gX12_isBarred_5.2.2.2.2.2.2.2.1 ?_
          refine lv_iload hx hb gX12_isBarred_5.2.2.2.2.2.2.2.2.1 (lv_at2 hl) ?_
          refine lv_icmp_lt (tgt := 104) hx hb gX12_isBarred_5.2.2.2.2.2.2.2.2.2 (by decide) (fun c_97_8288 => ?_) (fun c_97_8288 => ?_)
          · refine lv_iconst (v := 0) hx hb gX12_isBarred_6.2.2.1 (by decide) ?_
            refine lv_istore (lv' := [(7, .int 0), (6, .int (nI (1600 + 3 * kP))), (5, .int (nI kP)), (4, .int (nI ja)), (3, .int op), (2, .int (nI je)), (0, .ref h0), (1, .int (nI jf))]) hx hb gX12_isBarred_6.2.2.2.1 hl (by decide) rfl (fun ls hl => ?_)
            refine lv_iload_n hx hb gX12_isBarred_6.2.2.2.2.1 rfl (lv_at4 hl) ?_
            refine lv_iload hx hb gX12_isBarred_6.2.2.2.2.2.1 (lv_at0 hl) ?_
            refine lv_if_eq (tgt := 129) hx hb gX12_isBarred_6.2.2.2.2.2.2.1 (by decide) (fun _ => ?_) (fun c9 => absurd (by decide) c9)
            refine lv_iconst (v := (-1)) hx hb gX12_isBarred_7.2.2.2.2.2.2.2.2.1 (by decide) ?_
            refine lv_iand hx hb gX12_isBarred_7.2.2.2.2.2.2.2.2.2 ?_
            refine lv_istore_n (lv' := [(3, .int (op &&& (-1))), (7, .int 0), (6, .int (nI (1600 + 3 * kP))), (5, .int (nI kP)), (4, .int (nI ja)), (2, .int (nI je)), (0, .ref h0), (1, .int (nI jf))]) hx hb gX12_isBarred_8.1 rfl hl (by decide) rfl (fun ls hl => ?_)
            refine lv_iinc (v := nI (kP + 1)) (lv' := [(5, .int (nI (kP + 1))), (3, .int (op &&& (-1))), (7, .int 0), (6, .int (nI (1600 + 3 * kP))), (4, .int (nI ja)), (2, .int (nI je)), (0, .ref h0), (1, .int (nI jf))]) hx hb gX12_isBarred_8.2.1 hl (k := 3) rfl (nI_1 _) (by decide) rfl (fun ls hl => ?_)
            refine lv_goto (tgt := 32) hx hb gX12_isBarred_8.2.2.1 (by decide) ?_
            have hst9 : op &&& (-1) = OPN (fun q9 => (STD (KST (shf fnw 104) (VSE fnw kq) (fnw 3).toInt k6) (shf fnw 104) (VSE fnw kq) (shf fnw 32) (shf fnw 12) k6 kq (fun e9 => LVF (LNF (RLO DY (DAYV (fnw 0) (fnw 1)) k7) VL) (TRF (RLO DY (DAYV (fnw 0) (fnw 1)) k7) VC (FAX (shf fnw 12) (shf fnw 32) (VSE fnw kq) kq e9))) (LVN (RLO DY (DAYV (fnw 0) (fnw 1)) k7) VL) (shf fnw 1552)) jf ∧ VSE fnw kq q9 ∧ ¬ (STD (KST (shf fnw 104) (VSO fnw kq (2 ^ q9)) (fnw 3).toInt k6) (shf fnw 104) (VSO fnw kq (2 ^ q9)) (shf fnw 32) (shf fnw 12) k6 kq (fun e9 => LVF (LNF (RLO DY (DAYV (fnw 0) (fnw 1)) k7) VL) (TRF (RLO DY (DAYV (fnw 0) (fnw 1)) k7) VC (FAX (shf fnw 12) (shf fnw 32) (VSO fnw kq (2 ^ q9)) kq e9))) (LVN (RLO DY (DAYV (fnw 0) (fnw 1)) k7) VL) (shf fnw 1552)) jf) (TLD (shf fnw 1600) (nI je) (DAYV (fnw 0) (fnw 1)) (nI ja)) kq (kP + 1) := OPN.n hop (fun q9 _ h9 => Int32.not_le.mpr c_97_8288 h9.2.2.1)
            exact ihP (kP + 1) (op &&& (-1)) _ _ _ (by omega) (by first | assumption | exact Or.inl rfl | exact Or.inr rfl | exact OPN.zero rfl) (And.intro hP hD) hS (lv_sub hl [0, 4, 1, 5, 6, 7] rfl)
          · refine lv_iconst (v := 1) hx hb gX12_isBarred_6.1 (by decide) ?_
            refine lv_goto (tgt := 105) hx hb gX12_isBarred_6.2.1 (by decide) ?_
            refine lv_istore (lv' := [(7, .int 1), (6, .int (nI (1600 + 3 * kP))), (5, .int (nI kP)), (4, .int (nI ja)), (3, .int op), (2, .int (nI je)), (0, .ref h0), (1, .int (nI jf))]) hx hb gX12_isBarred_6.2.2.2.1 hl (by decide) rfl (fun ls hl => ?_)
            refine lv_iload_n hx hb gX12_isBarred_6.2.2.2.2.1 rfl (lv_at4 hl) ?_
            refine lv_iload hx hb gX12_isBarred_6.2.2.2.2.2.1 (lv_at0 hl) ?_
            refine lv_if_eq (tgt := 129) hx hb gX12_isBarred_6.2.2.2.2.2.2.1 (by decide) (fun c9 => absurd c9 (by decide)) (fun _ => ?_)
            refine lv_iconst (v := 1) hx hb gX12_isBarred_6.2.2.2.2.2.2.2.1 (by decide) ?_
            refine lv_aload_n hx hb gX12_isBarred_6.2.2.2.2.2.2.2.2.1 rfl (lv_at6 hl) ?_
            refine gf_X12_9 hC rfl hK hP 2 rfl rfl gX12_isBarred_6.2.2.2.2.2.2.2.2.2 ?_
            refine lv_iload hx hb gX12_isBarred_7.1 (lv_at1 hl) ?_
            refine lv_iconst (v := 1) hx hb gX12_isBarred_7.2.1 (by decide) ?_
            refine lv_iadd hx hb gX12_isBarred_7.2.2.1 ?_
            refine eqi (x1 := nI (1600 + 3 * kP + 1)) (nI_add (1600 + 3 * kP) 1) ?_
            refine aldN hC hK hP 3 rfl (k := 1600 + 3 * kP + 1) (by omega) (Nat.le_of_ble_eq_true rfl) (v := nI px) (hr1.trans epx) gX12_isBarred_7.2.2.2.1 ?_
            refine lv_ishl hx hb gX12_isBarred_7.2.2.2.2.1 ?_
            refine lv_iconst (v := (-1)) hx hb gX12_isBarred_7.2.2.2.2.2.1 (by decide) ?_
            refine lv_ixor hx hb gX12_isBarred_7.2.2.2.2.2.2.1 ?_
            refine lv_goto (tgt := 130) hx hb gX12_isBarred_7.2.2.2.2.2.2.2.1 (by decide) ?_
            refine lv_iand hx hb gX12_isBarred_7.2.2.2.2.2.2.2.2.2 ?_
            refine lv_istore_n (lv' := [(3, .int (op &&& ((1 <<< ((nI px) &&& 31)) ^^^ (-1)))), (7, .int 1), (6, .int (nI (1600 + 3 * kP))), (5, .int (nI kP)), (4, .int (nI ja)), (2, .int (nI je)), (0, .ref h0), (1, .int (nI jf))]) hx hb gX12_isBarred_8.1 rfl hl (by decide) rfl (fun ls hl => ?_)
            refine lv_iinc (v := nI (kP + 1)) (lv' := [(5, .int (nI (kP + 1))), (3, .int (op &&& ((1 <<< ((nI px) &&& 31)) ^^^ (-1)))), (7, .int 1), (6, .int (nI (1600 + 3 * kP))), (4, .int (nI ja)), (2, .int (nI je)), (0, .ref h0), (1, .int (nI jf))]) hx hb gX12_isBarred_8.2.1 hl (k := 3) rfl (nI_1 _) (by decide) rfl (fun ls hl => ?_)
            refine lv_goto (tgt := 32) hx hb gX12_isBarred_8.2.2.1 (by decide) ?_
            have hst9 : op &&& ((1 <<< ((nI px) &&& 31)) ^^^ (-1)) = OPN (fun q9 => (STD (KST (shf fnw 104) (VSE fnw kq) (fnw 3).toInt k6) (shf fnw 104) (VSE fnw kq) (shf fnw 32) (shf fnw 12) k6 kq (fun e9 => LVF (LNF (RLO DY (DAYV (fnw 0) (fnw 1)) k7) VL) (TRF (RLO DY (DAYV (fnw 0) (fnw 1)) k7) VC (FAX (shf fnw 12) (shf fnw 32) (VSE fnw kq) kq e9))) (LVN (RLO DY (DAYV (fnw 0) (fnw 1)) k7) VL) (shf fnw 1552)) jf ∧ VSE fnw kq q9 ∧ ¬ (STD (KST (shf fnw 104) (VSO fnw kq (2 ^ q9)) (fnw 3).toInt k6) (shf fnw 104) (VSO fnw kq (2 ^ q9)) (shf fnw 32) (shf fnw 12) k6 kq (fun e9 => LVF (LNF (RLO DY (DAYV (fnw 0) (fnw 1)) k7) VL) (TRF (RLO DY (DAYV (fnw 0) (fnw 1)) k7) VC (FAX (shf fnw 12) (shf fnw 32) (VSO fnw kq (2 ^ q9)) kq e9))) (LVN (RLO DY (DAYV (fnw 0) (fnw 1)) k7) VL) (shf fnw 1552)) jf) (TLD (shf fnw 1600) (nI je) (DAYV (fnw 0) (fnw 1)) (nI ja)) kq (kP + 1) := OPN.y (by omega) (by omega) hop (fun q9 hq9 => ⟨fun h9 => (nI_eq (by omega) (by omega)).mp (h9.2.2.2.symm.trans epx), fun h9 => ⟨c_62_8282, Int32.not_lt.mp c_78_8285, Int32.not_lt.mp c_97_8288, by rw [h9]; exact epx⟩⟩)
            exact ihP (kP + 1) (op &&& ((1 <<< ((nI px) &&& 31)) ^^^ (-1))) _ _ _ (by omega) (by first | assumption | exact Or.inl rfl | exact Or.inr rfl | exact OPN.zero rfl) (And.intro hP hD) hS (lv_sub hl [0, 4, 1, 5, 6, 7] rfl)
  exact keyP k10 0 (IMB (fun q9 => (STD (KST (shf fnw 104) (VSE fnw kq) (fnw 3).toInt k6) (shf fnw 104) (VSE fnw kq) (shf fnw 32) (shf fnw 12) k6 kq (fun e9 => LVF (LNF (RLO DY (DAYV (fnw 0) (fnw 1)) k7) VL) (TRF (RLO DY (DAYV (fnw 0) (fnw 1)) k7) VC (FAX (shf fnw 12) (shf fnw 32) (VSE fnw kq) kq e9))) (LVN (RLO DY (DAYV (fnw 0) (fnw 1)) k7) VL) (shf fnw 1552)) jf ∧ VSE fnw kq q9 ∧ ¬ (STD (KST (shf fnw 104) (VSO fnw kq (2 ^ q9)) (fnw 3).toInt k6) (shf fnw 104) (VSO fnw kq (2 ^ q9)) (shf fnw 32) (shf fnw 12) k6 kq (fun e9 => LVF (LNF (RLO DY (DAYV (fnw 0) (fnw 1)) k7) VL) (TRF (RLO DY (DAYV (fnw 0) (fnw 1)) k7) VC (FAX (shf fnw 12) (shf fnw 32) (VSO fnw kq (2 ^ q9)) kq e9))) (LVN (RLO DY (DAYV (fnw 0) (fnw 1)) k7) VL) (shf fnw 1552)) jf) kq) _ _ _ (by omega) (by first | assumption | exact Or.inl rfl | exact Or.inr rfl | exact OPN.zero rfl) (And.intro hP hD) hS (lv_sub hl [0, 1, 2, 3, 4, 5] rfl)
def K_r_findingOf (l : Launch) (G : GG) (kq : Nat) (k6 : Nat) (k7 : Nat) (k9 : Nat) (k8 : Nat) (k10 : Nat) (VL : Nat → List LNT) (VC : Nat → Nat → List Int32) (DY : Nat → Int32) (h0 : Nat) (x1 : Int32) (x2 : Int32) (nw : Nat) (nk : Nat) (mhasKept : Int32) (nt : Nat) (mtaped : Int32) (nr : Nat) (mrowMany : Int32) (mroundOf : Int32) (mroundFrom : Int32) (nm : Nat) (mfromHour : Int32) (mtoHour : Int32) (ns : Nat) (mfrom : Int32) (mto : Int32) (msort : Int32) (misFault : Int32) (mdeep : Int32) (mcoded : Int32) (mlines : Int32) (nl : Nat) (nc : Nat) (nF : Nat) (np : Nat) (ntr : Nat) (nb : Nat) (mbestCost : Int32) (nso : Nat) (nsi : Nat) (nit : Nat) (nsh : Nat) (nsf : Nat) (nss : Nat) (nrc : Nat) (mtraced : Int32) (mdealer : Int32) (mnumber : Int32) (mwhose : Int32) (msize : Int32) (misParted : Int32) (fnw : Nat → Int32) (fnm : Nat → Int32) (fns : Nat → Int32) (fnp : Nat → Int32) : Prop := MI l G yX12_findingOf cX12_findingOf 3 (some .int) 13 0 0 [.ref h0, .int x1, .int x2] [(h0, oX12 nw nk mhasKept nt mtaped nr mrowMany mroundOf mroundFrom 0 nm mfromHour mtoHour ns mfrom mto msort misFault mdeep mcoded mlines nl nc nF np ntr nb mbestCost nso nsi nit nsh nsf nss nrc mtraced mdealer mnumber mwhose msize misParted), (nw, iA G 1662 fnw), (nm, iA G 36 fnm), (ns, iA G 8 fns), (np, iA G 100 fnp)] (fun (r : Int32) (u : Int32 × Int32 × (Nat → Int32) × (Nat → Int32) × (Nat → Int32)) => (∃ s9, (FOQ k9 (fun f9 => [shf fnw 1552 (f9 * 4 + 0), shf fnw 1552 (f9 * 4 + 1), shf fnw 1552 (f9 * 4 + 2), shf fnw 1552 (f9 * 4 + 3), ifc ((STD (KST (shf fnw 104) (VSE fnw kq) (fnw 3).toInt k6) (shf fnw 104) (VSE fnw kq) (shf fnw 32) (shf fnw 12) k6 kq (fun e9 => LVF (LNF (RLO DY (DAYV (fnw 0) (fnw 1)) k7) VL) (TRF (RLO DY (DAYV (fnw 0) (fnw 1)) k7) VC (FAX (shf fnw 12) (shf fnw 32) (VSE fnw kq) kq e9))) (LVN (RLO DY (DAYV (fnw 0) (fnw 1)) k7) VL) (shf fnw 1552)) f9) 1 0, (IMB (fun q9 => (STD (KST (shf fnw 104) (VSE fnw kq) (fnw 3).toInt k6) (shf fnw 104) (VSE fnw kq) (shf fnw 32) (shf fnw 12) k6 kq (fun e9 => LVF (LNF (RLO DY (DAYV (fnw 0) (fnw 1)) k7) VL) (TRF (RLO DY (DAYV (fnw 0) (fnw 1)) k7) VC (FAX (shf fnw 12) (shf fnw 32) (VSE fnw kq) kq e9))) (LVN (RLO DY (DAYV (fnw 0) (fnw 1)) k7) VL) (shf fnw 1552)) f9 ∧ VSE fnw kq q9 ∧ ¬ (STD (KST (shf fnw 104) (VSO fnw kq (2 ^ q9)) (fnw 3).toInt k6) (shf fnw 104) (VSO fnw kq (2 ^ q9)) (shf fnw 32) (shf fnw 12) k6 kq (fun e9 => LVF (LNF (RLO DY (DAYV (fnw 0) (fnw 1)) k7) VL) (TRF (RLO DY (DAYV (fnw 0) (fnw 1)) k7) VC (FAX (shf fnw 12) (shf fnw 32) (VSO fnw kq (2 ^ q9)) kq e9))) (LVN (RLO DY (DAYV (fnw 0) (fnw 1)) k7) VL) (shf fnw 1552)) f9) kq), ifc (BRF (LNF (RLO DY (DAYV (fnw 0) (fnw 1)) k7) VL) (fun e9 => TRF (RLO DY (DAYV (fnw 0) (fnw 1)) k7) VC (FAX (shf fnw 12) (shf fnw 32) (VSE fnw kq) kq e9)) (LVN (RLO DY (DAYV (fnw 0) (fnw 1)) k7) VL) (fun e9 => CNT (fun s9 => shf fnw 1424 (s9 * 8 + 0) = e9 ∧ CSQ (shf fnw 1424) (shf fnw 32) (fnw 0) (fnw 1) (fnw 2) s9) k8) (shf fnw 1600) k10 (shf fnw 1552) (IMB (fun q9 => (STD (KST (shf fnw 104) (VSE fnw kq) (fnw 3).toInt k6) (shf fnw 104) (VSE fnw kq) (shf fnw 32) (shf fnw 12) k6 kq (fun e9 => LVF (LNF (RLO DY (DAYV (fnw 0) (fnw 1)) k7) VL) (TRF (RLO DY (DAYV (fnw 0) (fnw 1)) k7) VC (FAX (shf fnw 12) (shf fnw 32) (VSE fnw kq) kq e9))) (LVN (RLO DY (DAYV (fnw 0) (fnw 1)) k7) VL) (shf fnw 1552)) f9 ∧ VSE fnw kq q9 ∧ ¬ (STD (KST (shf fnw 104) (VSO fnw kq (2 ^ q9)) (fnw 3).toInt k6) (shf fnw 104) (VSO fnw kq (2 ^ q9)) (shf fnw 32) (shf fnw 12) k6 kq (fun e9 => LVF (LNF (RLO DY (DAYV (fnw 0) (fnw 1)) k7) VL) (TRF (RLO DY (DAYV (fnw 0) (fnw 1)) k7) VC (FAX (shf fnw 12) (shf fnw 32) (VSO fnw kq (2 ^ q9)) kq e9))) (LVN (RLO DY (DAYV (fnw 0) (fnw 1)) k7) VL) (shf fnw 1552)) f9) kq) (DAYV (fnw 0) (fnw 1)) kq f9) 1 0]) x1 x2 s9) ∧ r = s9) ∧ (MB u.2.2.1)) (fun u : Int32 × Int32 × (Nat → Int32) × (Nat → Int32) × (Nat → Int32) => [(h0, oX12 nw nk mhasKept nt mtaped nr mrowMany mroundOf mroundFrom 0 nm u.1 u.2.1 ns mfrom mto msort misFault mdeep mcoded mlines nl nc nF np ntr nb mbestCost nso nsi nit nsh nsf nss nrc mtraced mdealer mnumber mwhose msize misParted), (nw, iA G 1662 fnw), (nm, iA G 36 u.2.2.1), (ns, iA G 8 u.2.2.2.1), (np, iA G 100 u.2.2.2.2)])
set_option maxHeartbeats 4000000 in
set_option maxRecDepth 100000 in
theorem r_findingOf (l : Launch) (G : GG) (kq : Nat) (k6 : Nat) (k7 : Nat) (kp : Nat) (k9 : Nat) (k8 : Nat) (k10 : Nat) (VL : Nat → List LNT) (VC : Nat → Nat → List Int32) (DY : Nat → Int32) (h0 : Nat) (x1 : Int32) (x2 : Int32) (nw : Nat) (nk : Nat) (mhasKept : Int32) (nt : Nat) (mtaped : Int32) (nr : Nat) (mrowMany : Int32) (mroundOf : Int32) (mroundFrom : Int32) (nm : Nat) (mfromHour : Int32) (mtoHour : Int32) (ns : Nat) (mfrom : Int32) (mto : Int32) (msort : Int32) (misFault : Int32) (mdeep : Int32) (mcoded : Int32) (mlines : Int32) (nl : Nat) (nc : Nat) (nF : Nat) (np : Nat) (ntr : Nat) (nb : Nat) (mbestCost : Int32) (nso : Nat) (nsi : Nat) (nit : Nat) (nsh : Nat) (nsf : Nat) (nss : Nat) (nrc : Nat) (mtraced : Int32) (mdealer : Int32) (mnumber : Int32) (mwhose : Int32) (msize : Int32) (misParted : Int32) (fnw : Nat → Int32) (fnm : Nat → Int32) (fns : Nat → Int32) (fnp : Nat → Int32) (hV : VI fnw) (hM : MB fnm) (hN : NI fnw) (hgp : GPRm (fnw 3)) (ekq : fnw 5 = nI kq) (hkq : kq ≤ 12) (e6 : fnw 6 = nI k6) (hk6 : k6 ≤ 24) (ek7 : fnw 7 = nI k7) (hk7 : k7 ≤ 8) (ekp : fnw 4 = nI kp) (hkp : kp ≤ 10) (hVM : VMZ fnw k7 VL VC DY) (hFN : FNO (shf fnw 1552) k9 kp) (hk9 : k9 ≤ 12) (ek8 : fnw 8 = nI k8) (hk8 : k8 ≤ 16) (ek10 : fnw 10 = nI k10) (hk10 : k10 ≤ 16) (ek9 : fnw 9 = nI k9) (hWN : WNO (shf fnw 1600) k10 kq) (hTDm : TDR (fnw 0)) : K_r_findingOf l G kq k6 k7 k9 k8 k10 VL VC DY h0 x1 x2 nw nk mhasKept nt mtaped nr mrowMany mroundOf mroundFrom nm mfromHour mtoHour ns mfrom mto msort misFault mdeep mcoded mlines nl nc nF np ntr nb mbestCost nso nsi nit nsh nsf nss nrc mtraced mdealer mnumber mwhose msize misParted fnw fnm fns fnp := by
  refine MI.start (by decide +kernel) (Nat.le_of_ble_eq_true rfl) ?_
  intro p e s m below meth c A ls hC hK hP hD hS hA hl
  refine absQ (fun Q0 hQ0 => ?_)
  have hl : lv_has ls 3 [(0, .ref h0), (1, .int x1), (2, .int x2)] := hl
  refine Kan8 hC (fun hx hb hr hml hB hown hlocks hnm => ?_)
  refine lv_aload_n hx hb gX12_findingOf_0.1 rfl (lv_at0 hl) ?_
  refine lv_iload_n hx hb gX12_findingOf_0.2.1 rfl (lv_at1 hl) ?_
  refine lv_bipush (v := 9) hx hb gX12_findingOf_0.2.2.1 (by decide) ?_
  refine pV hC hK hl hP hD (m_is l G k9 h0 x1 9 nw nk mhasKept nt mtaped nr mrowMany mroundOf mroundFrom 0 nm mfromHour mtoHour ns mfrom mto msort misFault mdeep mcoded mlines nl nc nF np ntr nb mbestCost nso nsi nit nsh nsf nss nrc mtraced mdealer mnumber mwhose msize misParted fnw (by omega) (ek9) (by omega)) si_X12_120 [0, 1] sm_0_1 fm_0_1 nd_0_1 rfl rfl rfl rfl rfl (Nat.le_of_ble_eq_true rfl) rm_13_2_3 ⟨by first | exact Nat.le_of_ble_eq_true rfl | exact Nat.zero_le _, by first | exact Nat.le_of_ble_eq_true rfl | exact Nat.zero_le _⟩ gX12_findingOf_0.2.2.2.1 (Kors (Keqa fun a8290 => ?_) (Keqa fun a8290 => ?_))
  · refine lv_if_eq (tgt := 20) hx hb gX12_findingOf_0.2.2.2.2.1 (by decide) (fun c9 => absurd c9 (by decide)) (fun _ => ?_)
    refine lv_iload_n hx hb gX12_findingOf_0.2.2.2.2.2.1 rfl (lv_at2 hl) ?_
    refine lv_iconst (v := 0) hx hb gX12_findingOf_0.2.2.2.2.2.2.1 (by decide) ?_
    refine lv_bipush (v := 6) hx hb gX12_findingOf_0.2.2.2.2.2.2.2.1 (by decide) ?_
    refine pS hC hK hl (m_within l G x2 0 6) si_X12_84 rfl rfl (Nat.le_of_ble_eq_true rfl) rm_13_1_3 ⟨by first | exact Nat.le_of_ble_eq_true rfl | exact Nat.zero_le _, by first | exact Nat.le_of_ble_eq_true rfl | exact Nat.zero_le _⟩ gX12_findingOf_0.2.2.2.2.2.2.2.2.1 (Kors (Keqa fun a8292 => ?_) (Keqa fun a8292 => ?_))
    · refine lv_if_ne (tgt := 22) hx hb gX12_findingOf_0.2.2.2.2.2.2.2.2.2 (by decide) (fun _ => ?_) (fun c9 => absurd c9 (by decide))
      obtain ⟨jf, hjf, rfl⟩ := Hs_nat (by omega) a8290
      refine lv_iload_n hx hb gX12_findingOf_1.2.2.1 rfl (lv_at2 hl) ?_
      refine lv_iconst (v := 4) hx hb gX12_findingOf_1.2.2.2.1 (by decide) ?_
      refine lv_icmp_ge (tgt := 44) hx hb gX12_findingOf_1.2.2.2.2.1 (by decide) (fun c_24_8293 => ?_) (fun c_24_8293 => ?_)
      · refine lv_iload_n hx hb gX12_findingOf_2.2.2.2.2.2.2.1 rfl (lv_at2 hl) ?_
        refine lv_iconst (v := 4) hx hb gX12_findingOf_2.2.2.2.2.2.2.2.1 (by decide) ?_
        refine lv_icmp_ne (tgt := 65) hx hb gX12_findingOf_2.2.2.2.2.2.2.2.2.1 (by decide) (fun c_46_8294 => ?_) (fun c_46_8294 => ?_)
        · refine lv_iload_n hx hb gX12_findingOf_3.2.2.2.2.2.2.2.1 rfl (lv_at2 hl) ?_
          refine lv_iconst (v := 5) hx hb gX12_findingOf_3.2.2.2.2.2.2.2.2.1 (by decide) ?_
          refine lv_icmp_ne (tgt := 78) hx hb gX12_findingOf_3.2.2.2.2.2.2.2.2.2 (by decide) (fun c_67_8295 => ?_) (fun c_67_8295 => ?_)
          · refine lv_aload_n hx hb gX12_findingOf_4.2.2.2.2.1 rfl (lv_at0 hl) ?_
            refine lv_iload_n hx hb gX12_findingOf_4.2.2.2.2.2.1 rfl (lv_at1 hl) ?_
            refine iV (wr := []) hC hK hl hP hD hS hA (m_isBarredX l G kq k6 k7 kp k9 k8 k10 VL VC DY h0 jf nw nk mhasKept nt mtaped nr mrowMany mroundOf mroundFrom nm mfromHour mtoHour ns mfrom mto msort misFault mdeep mcoded mlines nl nc nF np ntr nb mbestCost nso nsi nit nsh nsf nss nrc mtraced mdealer mnumber mwhose msize misParted fnw fnm fns fnp (by omega) (hV) (hM) (hN) (hgp) (ekq) (hkq) (e6) (hk6) (ek7) (hk7) (ekp) (hkp) (hVM) (hFN) (hk9) (ek8) (hk8) (ek10) (hk10) (hWN) (hTDm)) si_X12_317 [0, 1, 2, 3, 4] [] sm_0_1_2_3_4 fm_0_1_2_3_4 nd_0_1_2_3_4 rfl rfl (by decide) rfl rfl rfl rfl rfl (Nat.le_of_ble_eq_true rfl) rm_13_12_8 ⟨Nat.le_of_ble_eq_true rfl, Nat.le_of_ble_eq_true rfl⟩ gX12_findingOf_4.2.2.2.2.2.2.1 (fun r8296 => Ktu5 fun fh18298 th18299 gnm8300 gns8301 gnp8302 => ?_)
            intro H locs hr8296 hP hD hS
            try dsimp only at hr8296
            refine Kpdr (ws := [(h0, oX12 nw nk mhasKept nt mtaped nr mrowMany mroundOf mroundFrom 0 nm fh18298 th18299 ns mfrom mto msort misFault mdeep mcoded mlines nl nc nF np ntr nb mbestCost nso nsi nit nsh nsf nss nrc mtraced mdealer mnumber mwhose msize misParted), (nw, iA G 1662 fnw), (nm, iA G 36 gnm8300), (ns, iA G 8 gns8301), (np, iA G 100 gnp8302)]) hP hD (fun hP hD => ?_)
            obtain ⟨hr8296, w8303⟩ := hr8296
            rcases hr8296 with ⟨rfl, a8304⟩ | ⟨rfl, a8304⟩
            · refine lv_if_eq (tgt := 90) hx hb gX12_findingOf_4.2.2.2.2.2.2.2.1 (by decide) (fun c9 => absurd c9 (by decide)) (fun _ => ?_)
              refine lv_iconst (v := 1) hx hb gX12_findingOf_4.2.2.2.2.2.2.2.2.1 (by decide) ?_
              refine lv_goto (tgt := 91) hx hb gX12_findingOf_4.2.2.2.2.2.2.2.2.2 (by decide) ?_
              refine toQ hQ0 ?_
              exact RI (v := 1) hC hP hD hS [0, 1, 2, 3, 4] (fh18298, th18299, gnm8300, gns8301, gnp8302) rfl rfl (by decide) (⟨⟨_, Or.inl ⟨jf, 6, hjf, by decide, rfl, FOQ.six a8292 c_24_8293 c_46_8294 c_67_8295, (ifc_t a8304).symm⟩, rfl⟩, by first | assumption | exact w8303⟩) rfl gX12_findingOf_5.2
            · refine lv_if_eq (tgt := 90) hx hb gX12_findingOf_4.2.2.2.2.2.2.2.1 (by decide) (fun _ => ?_) (fun c9 => absurd (by decide) c9)
              refine lv_iconst (v := 0) hx hb gX12_findingOf_5.1 (by decide) ?_
              refine toQ hQ0 ?_
              exact RI (v := 0) hC hP hD hS [0, 1, 2, 3, 4] (fh18298, th18299, gnm8300, gns8301, gnp8302) rfl rfl (by decide) (⟨⟨_, Or.inl ⟨jf, 6, hjf, by decide, rfl, FOQ.six a8292 c_24_8293 c_46_8294 c_67_8295, (ifc_f a8304).symm⟩, rfl⟩, by first | assumption | exact w8303⟩) rfl gX12_findingOf_5.2
          · refine lv_aload_n hx hb gX12_findingOf_4.1 rfl (lv_at0 hl) ?_
            refine lv_iload_n hx hb gX12_findingOf_4.2.1 rfl (lv_at1 hl) ?_
            refine iV (wr := []) hC hK hl hP hD hS hA (m_leansX l G kq k6 k7 kp k9 VL VC DY h0 jf nw nk mhasKept nt mtaped nr mrowMany mroundOf mroundFrom nm mfromHour mtoHour ns mfrom mto msort misFault mdeep mcoded mlines nl nc nF np ntr nb mbestCost nso nsi nit nsh nsf nss nrc mtraced mdealer mnumber mwhose msize misParted fnw fnm fns fnp (by omega) (hV) (hM) (hN) (hgp) (ekq) (hkq) (e6) (hk6) (ek7) (hk7) (ekp) (hkp) (hVM) (hFN) (hk9)) si_X12_311 [0, 1, 2, 3, 4] [] sm_0_1_2_3_4 fm_0_1_2_3_4 nd_0_1_2_3_4 rfl rfl (by decide) rfl rfl rfl rfl rfl (Nat.le_of_ble_eq_true rfl) rm_13_11_5 ⟨Nat.le_of_ble_eq_true rfl, Nat.le_of_ble_eq_true rfl⟩ gX12_findingOf_4.2.2.1 (fun r8305 => Ktu5 fun fh18307 th18308 gnm8309 gns8310 gnp8311 => ?_)
            intro H locs hr8305 hP hD hS
            try dsimp only at hr8305
            refine Kpdr (ws := [(h0, oX12 nw nk mhasKept nt mtaped nr mrowMany mroundOf mroundFrom 0 nm fh18307 th18308 ns mfrom mto msort misFault mdeep mcoded mlines nl nc nF np ntr nb mbestCost nso nsi nit nsh nsf nss nrc mtraced mdealer mnumber mwhose msize misParted), (nw, iA G 1662 fnw), (nm, iA G 36 gnm8309), (ns, iA G 8 gns8310), (np, iA G 100 gnp8311)]) hP hD (fun hP hD => ?_)
            obtain ⟨hr8305, w8312⟩ := hr8305
            obtain rfl := hr8305
            refine lv_goto (tgt := 91) hx hb gX12_findingOf_4.2.2.2.1 (by decide) ?_
            refine toQ hQ0 ?_
            exact RI (v := (IMB (fun q9 => (STD (KST (shf fnw 104) (VSE fnw kq) (fnw 3).toInt k6) (shf fnw 104) (VSE fnw kq) (shf fnw 32) (shf fnw 12) k6 kq (fun e9 => LVF (LNF (RLO DY (DAYV (fnw 0) (fnw 1)) k7) VL) (TRF (RLO DY (DAYV (fnw 0) (fnw 1)) k7) VC (FAX (shf fnw 12) (shf fnw 32) (VSE fnw kq) kq e9))) (LVN (RLO DY (DAYV (fnw 0) (fnw 1)) k7) VL) (shf fnw 1552)) jf ∧ VSE fnw kq q9 ∧ ¬ (STD (KST (shf fnw 104) (VSO fnw kq (2 ^ q9)) (fnw 3).toInt k6) (shf fnw 104) (VSO fnw kq (2 ^ q9)) (shf fnw 32) (shf fnw 12) k6 kq (fun e9 => LVF (LNF (RLO DY (DAYV (fnw 0) (fnw 1)) k7) VL) (TRF (RLO DY (DAYV (fnw 0) (fnw 1)) k7) VC (FAX (shf fnw 12) (shf fnw 32) (VSO fnw kq (2 ^ q9)) kq e9))) (LVN (RLO DY (DAYV (fnw 0) (fnw 1)) k7) VL) (shf fnw 1552)) jf) kq)) hC hP hD hS [0, 1, 2, 3, 4] (fh18307, th18308, gnm8309, gns8310, gnp8311) rfl rfl (by decide) (⟨⟨_, Or.inl ⟨jf, 5, hjf, by decide, rfl, c_67_8295, rfl⟩, rfl⟩, by first | assumption | exact w8312⟩) rfl gX12_findingOf_5.2
        · refine lv_aload_n hx hb gX12_findingOf_2.2.2.2.2.2.2.2.2.2 rfl (lv_at0 hl) ?_
          refine lv_iload_n hx hb gX12_findingOf_3.1 rfl (lv_at1 hl) ?_
          refine iV (wr := []) hC hK hl hP hD hS hA (m_standsX l G kq k6 k7 kp k9 VL VC DY h0 jf nw nk mhasKept nt mtaped nr mrowMany mroundOf mroundFrom nm mfromHour mtoHour ns mfrom mto msort misFault mdeep mcoded mlines nl nc nF np ntr nb mbestCost nso nsi nit nsh nsf nss nrc mtraced mdealer mnumber mwhose msize misParted fnw fnm fns fnp (by omega) (hV) (hM) (hN) (hgp) (ekq) (hkq) (e6) (hk6) (ek7) (hk7) (ekp) (hkp) (hVM) (hFN) (hk9)) si_X12_305 [0, 1, 2, 3, 4] [] sm_0_1_2_3_4 fm_0_1_2_3_4 nd_0_1_2_3_4 rfl rfl (by decide) rfl rfl rfl rfl rfl (Nat.le_of_ble_eq_true rfl) rm_13_10_3 ⟨Nat.le_of_ble_eq_true rfl, Nat.le_of_ble_eq_true rfl⟩ gX12_findingOf_3.2.1 (fun r8314 => Ktu5 fun fh18316 th18317 gnm8318 gns8319 gnp8320 => ?_)
          intro H locs hr8314 hP hD hS
          try dsimp only at hr8314
          refine Kpdr (ws := [(h0, oX12 nw nk mhasKept nt mtaped nr mrowMany mroundOf mroundFrom 0 nm fh18316 th18317 ns mfrom mto msort misFault mdeep mcoded mlines nl nc nF np ntr nb mbestCost nso nsi nit nsh nsf nss nrc mtraced mdealer mnumber mwhose msize misParted), (nw, iA G 1662 fnw), (nm, iA G 36 gnm8318), (ns, iA G 8 gns8319), (np, iA G 100 gnp8320)]) hP hD (fun hP hD => ?_)
          obtain ⟨hr8314, w8321⟩ := hr8314
          rcases hr8314 with ⟨rfl, a8322⟩ | ⟨rfl, a8322⟩
          · refine lv_if_eq (tgt := 61) hx hb gX12_findingOf_3.2.2.1 (by decide) (fun c9 => absurd c9 (by decide)) (fun _ => ?_)
            refine lv_iconst (v := 1) hx hb gX12_findingOf_3.2.2.2.1 (by decide) ?_
            refine lv_goto (tgt := 91) hx hb gX12_findingOf_3.2.2.2.2.1 (by decide) ?_
            refine toQ hQ0 ?_
            exact RI (v := 1) hC hP hD hS [0, 1, 2, 3, 4] (fh18316, th18317, gnm8318, gns8319, gnp8320) rfl rfl (by decide) (⟨⟨_, Or.inl ⟨jf, 4, hjf, by decide, rfl, c_46_8294, (ifc_t a8322).symm⟩, rfl⟩, by first | assumption | exact w8321⟩) rfl gX12_findingOf_5.2
          · refine lv_if_eq (tgt := 61) hx hb gX12_findingOf_3.2.2.1 (by decide) (fun _ => ?_) (fun c9 => absurd (by decide) c9)
            refine lv_iconst (v := 0) hx hb gX12_findingOf_3.2.2.2.2.2.1 (by decide) ?_
            refine lv_goto (tgt := 91) hx hb gX12_findingOf_3.2.2.2.2.2.2.1 (by decide) ?_
            refine toQ hQ0 ?_
            exact RI (v := 0) hC hP hD hS [0, 1, 2, 3, 4] (fh18316, th18317, gnm8318, gns8319, gnp8320) rfl rfl (by decide) (⟨⟨_, Or.inl ⟨jf, 4, hjf, by decide, rfl, c_46_8294, (ifc_f a8322).symm⟩, rfl⟩, by first | assumption | exact w8321⟩) rfl gX12_findingOf_5.2
      · obtain ⟨jw, hjw, rfl⟩ := Wi_nat (N := 6) (by decide) a8292
        have hjw4 := nge_nat (R := 4) (k := jw) (by decide) (by omega) c_24_8293
        refine lv_aload_n hx hb gX12_findingOf_1.2.2.2.2.2.1 rfl (lv_at0 hl) ?_
        refine gf_X12_9 hC rfl hK hP 0 rfl rfl gX12_findingOf_1.2.2.2.2.2.2.1 ?_
        refine lv_sipush (v := 1552) hx hb gX12_findingOf_1.2.2.2.2.2.2.2.1 (by decide) ?_
        refine lv_iconst (v := 4) hx hb gX12_findingOf_1.2.2.2.2.2.2.2.2.1 (by decide) ?_
        refine lv_iload_n hx hb gX12_findingOf_1.2.2.2.2.2.2.2.2.2 rfl (lv_at1 hl) ?_
        refine lv_imul hx hb gX12_findingOf_2.1 ?_
        refine eqi (x1 := nI (4 * jf)) (nI_mul 4 jf) ?_
        refine lv_iadd hx hb gX12_findingOf_2.2.1 ?_
        refine eqi (x1 := nI (1552 + 4 * jf)) (nI_add 1552 (4 * jf)) ?_
        refine lv_iload_n hx hb gX12_findingOf_2.2.2.1 rfl (lv_at2 hl) ?_
        refine lv_iadd hx hb gX12_findingOf_2.2.2.2.1 ?_
        refine eqi (x1 := nI (1552 + 4 * jf + jw)) (nI_add (1552 + 4 * jf) jw) ?_
        refine aldN hC hK hP 1 rfl (k := (1552 + 4 * jf + jw)) (by omega) (Nat.le_of_ble_eq_true rfl) (v := fnw (1552 + 4 * jf + jw)) rfl gX12_findingOf_2.2.2.2.2.1 ?_
        refine lv_goto (tgt := 91) hx hb gX12_findingOf_2.2.2.2.2.2.1 (by decide) ?_
        refine toQ hQ0 ?_
        exact RI (v := fnw (1552 + 4 * jf + jw)) hC hP hD hS [0, 1, 2, 3, 4] (mfromHour, mtoHour, fnm, fns, fnp) rfl rfl (by decide) (⟨⟨_, Or.inl ⟨jf, jw, hjf, by omega, rfl, rfl, (congrArg fnw (by omega)).trans (FOQ.low (F := shf fnw 1552) (b := jf * 4) hjw4)⟩, rfl⟩, by first | assumption | exact hM⟩) rfl gX12_findingOf_5.2
    · refine lv_if_ne (tgt := 22) hx hb gX12_findingOf_0.2.2.2.2.2.2.2.2.2 (by decide) (fun c9 => absurd (by decide) c9) (fun _ => ?_)
      refine lv_iconst (v := (-1)) hx hb gX12_findingOf_1.1 (by decide) ?_
      refine toQ hQ0 ?_
      exact RI (v := (-1)) hC hP hD hS [0, 1, 2, 3, 4] (mfromHour, mtoHour, fnm, fns, fnp) rfl rfl (by decide) (⟨⟨(-1), Or.inr ⟨fun h9 => a8292 h9.2, rfl⟩, rfl⟩, by first | assumption | exact hM⟩) rfl gX12_findingOf_1.2.1
  · refine lv_if_eq (tgt := 20) hx hb gX12_findingOf_0.2.2.2.2.1 (by decide) (fun _ => ?_) (fun c9 => absurd (by decide) c9)
    refine lv_iconst (v := (-1)) hx hb gX12_findingOf_1.1 (by decide) ?_
    refine toQ hQ0 ?_
    exact RI (v := (-1)) hC hP hD hS [0, 1, 2, 3, 4] (mfromHour, mtoHour, fnm, fns, fnp) rfl rfl (by decide) (⟨⟨(-1), Or.inr ⟨fun h9 => a8290 h9.1, rfl⟩, rfl⟩, by first | assumption | exact hM⟩) rfl gX12_findingOf_1.2.1
