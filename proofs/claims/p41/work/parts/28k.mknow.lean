section WR
variable {p : Program} {l : Launch} {e : Env} {R : Room} {s : State} {m : MethodId} {args : Array Value} {below : List Frame} {meth : Method} {c : Code} {H : Heap} {locs : List Loc} {cells slots : Nat} {Q : State → Prop}
variable {pc : Nat} {ls : Array Slot} {rest : List Value} {G : GG} {ws : va_W} {A : Nat → Prop} {y0 : MethodName} {b0 : ByteArray} {mL0 : Nat} {rt0 : Option FieldType} {a : Nat} {H0 : Heap}
end WR
theorem SEE.vse {f : Nat → Int32} {n p : Nat} (hp : p < n) : VSE f n p ↔ SEE (shf f 32) (f 0) (f 1) (f 2) p := ⟨fun h => h.2, fun h => ⟨hp, h⟩⟩
section FARS
variable {f : Nat → Int32} {V S : Nat → Prop} {kq je jk : Nat}
theorem FAR.r0 (h : jk = 0) : nI je = FAX (shf f 12) (shf f 32) V kq je jk := by
  subst h
  rfl
theorem FAR.r1 (h : jk = 1) : f (12 + 2 * je) = FAX (shf f 12) (shf f 32) V kq je jk := by
  subst h
  exact congrArg f (by omega)
theorem FAR.r2 (hv : ∀ p, p < kq → (V p ↔ S p)) (h : jk = 2) : CNT (fun p9 => S p9 ∧ HB (shf f 32 (p9 * 6 + 1)) (nI je)) kq = FAX (shf f 12) (shf f 32) V kq je jk := by
  subst h
  exact CNT.cg kq (fun p hp => and_congr_left (fun _ => (hv p hp).symm))
theorem FAR.r3 (hv : ∀ p, p < kq → (V p ↔ S p)) (h : jk = 3) : CNT (fun p9 => S p9 ∧ shf f 32 (p9 * 6 + 0) = (nI je)) kq = FAX (shf f 12) (shf f 32) V kq je jk := by
  subst h
  exact CNT.cg kq (fun p hp => and_congr_left (fun _ => (hv p hp).symm))
theorem FAR.r4 (h0 : ¬ jk = 0) (h1 : ¬ jk = 1) (h2 : ¬ jk = 2) (h3 : ¬ jk = 3) : f (12 + 2 * je + 1) = FAX (shf f 12) (shf f 32) V kq je jk := by
  have e : FAX (shf f 12) (shf f 32) V kq je jk = shf f 12 (je * 2 + 1) := by
    unfold FAX
    rw [if_neg h0, if_neg h1, if_neg h2, if_neg h3]
  rw [e]
  exact congrArg f (by omega)
end FARS
/-- the pile behind the first k codes -/
def PRK (F : Nat → Int32) (l : List Int32) (f0 : Nat → Int32) (k : Nat) : PRS := PRN F (l.take k) (0, f0)
theorem PRN.tk {F : Nat → Int32} : ∀ (l : List Int32) (k : Nat) (s : PRS), k < l.length → PRN F (l.take (k + 1)) s = PLR F (l.getD k 0) (PRN F (l.take k) s)
  | [], k, _, h => absurd h (Nat.not_lt_zero k)
  | x :: xs, 0, s, _ => rfl
  | x :: xs, k + 1, s, h => PRN.tk xs k (PLR F x s) (Nat.lt_of_succ_lt_succ h)
theorem PRK.all {F : Nat → Int32} {l : List Int32} {f0 : Nat → Int32} {k : Nat} (h : k = l.length) : PRK F l f0 k = PRN F l (0, f0) := by
  unfold PRK
  rw [h, List.take_length]
theorem PRK.zero {F : Nat → Int32} {l : List Int32} {f0 : Nat → Int32} {k : Nat} (h : k = 0) : (0, f0) = PRK F l f0 k := by
  subst h
  rfl
section PRKS
variable {F : Nat → Int32} {l : List Int32} {f0 vp : Nat → Int32} {a k hg : Nat}
theorem PRK.nx {s r : PRS} {x : Int32} (h : s = PRK F l f0 (k - a)) (hk : k - a < l.length) (ha : a ≤ k) (e : l.getD (k - a) 0 = x) (hr : PLR F x s = r) : r = PRK F l f0 (k + 1 - a) := by
  have h2 : PRK F l f0 (k - a + 1) = PLR F (l.getD (k - a) 0) (PRK F l f0 (k - a)) := PRN.tk l (k - a) (0, f0) hk
  rw [show k + 1 - a = k - a + 1 by omega, h2, e, ← h, hr]
theorem PRK.fa1 (h : (hg, vp) = PRK F l f0 (k - a)) (hk : k - a < l.length) (ha : a ≤ k) {v : Nat} (e : l.getD (k - a) 0 = nI v) (hv : v ≤ 14999) (hs : SOV F v = true) : (hg + 1, upd vp hg 1) = PRK F l f0 (k + 1 - a) := PRK.nx h hk ha e (by rw [PLR.fact hv, hs]; rfl)
theorem PRK.fa0 (h : (hg, vp) = PRK F l f0 (k - a)) (hk : k - a < l.length) (ha : a ≤ k) {v : Nat} (e : l.getD (k - a) 0 = nI v) (hv : v ≤ 14999) (hs : SOV F v = false) : (hg + 1, upd vp hg 0) = PRK F l f0 (k + 1 - a) := PRK.nx h hk ha e (by rw [PLR.fact hv, hs]; rfl)
theorem PRK.nt (h : (hg, vp) = PRK F l f0 (k - a)) (hk : k - a < l.length) (ha : a ≤ k) (e : l.getD (k - a) 0 = 30000) : (hg, upd vp (hg - 1) (1 - vp (hg - 1))) = PRK F l f0 (k + 1 - a) := PRK.nx h hk ha e (if_pos rfl)
theorem PRK.an (h : (hg, vp) = PRK F l f0 (k - a)) (hk : k - a < l.length) (ha : a ≤ k) (e : l.getD (k - a) 0 = 30001) : (hg - 1, upd vp (hg - 1 - 1) (vp (hg - 1 - 1) &&& vp (hg - 1))) = PRK F l f0 (k + 1 - a) := PRK.nx h hk ha e (by
  unfold PLR
  rw [if_neg (show ¬ (30001 : Int32) = 30000 by decide), if_pos (show (30001 : Int32) = 30001 from rfl)]
  show (hg - 1, upd vp (hg - 2) (vp (hg - 2) &&& vp (hg - 1))) = _
  rw [show hg - 2 = hg - 1 - 1 by omega])
theorem PRK.or (h : (hg, vp) = PRK F l f0 (k - a)) (hk : k - a < l.length) (ha : a ≤ k) (e : l.getD (k - a) 0 = 30002) : (hg - 1, upd vp (hg - 1 - 1) (vp (hg - 1 - 1) ||| vp (hg - 1))) = PRK F l f0 (k + 1 - a) := PRK.nx h hk ha e (by
  unfold PLR
  rw [if_neg (show ¬ (30002 : Int32) = 30000 by decide), if_neg (show ¬ (30002 : Int32) = 30001 by decide), if_pos (show (30002 : Int32) = 30002 from rfl)]
  show (hg - 1, upd vp (hg - 2) (vp (hg - 2) ||| vp (hg - 1))) = _
  rw [show hg - 2 = hg - 1 - 1 by omega])
theorem SMP.tru {m : Nat} {tc tr : List Int32} (h : SMP m tc tr) (hv : (hg, vp) = PRN F tr (0, f0)) : vp 0 = 1 ↔ PLN F tc 1 % 2 = 1 := by
  obtain ⟨b, h1, h2⟩ := h.2.2 F
  obtain ⟨-, g2, -⟩ := h2 0 f0
  rw [← hv] at g2
  have g3 : vp 0 = BIT b := g2
  rw [(h1 1).1, g3]
  have h3 := BNT.le b
  cases b
  · exact ⟨fun h9 => absurd h9 (by decide), fun h9 => absurd h9 (show ¬ (2 * 1 + 0) % 2 = 1 by decide)⟩
  · exact ⟨fun _ => rfl, fun _ => rfl⟩
end PRKS
theorem SOV.l3 {F : Nat → Int32} {v : Nat} {b : Bool} (h0 : v / 1000 % 3 = 0) (hb : decide (F (v / 3000) < nI (v % 1000)) = b) : SOV F v = b := by
  unfold SOV
  rw [if_pos h0, hb]
theorem SOV.e3 {F : Nat → Int32} {v : Nat} {b : Bool} (h0 : v / 1000 % 3 = 1) (hb : decide (F (v / 3000) = nI (v % 1000)) = b) : SOV F v = b := by
  unfold SOV
  rw [if_neg (by omega), if_pos h0, hb]
theorem SOV.g3 {F : Nat → Int32} {v : Nat} {b : Bool} (h0 : ¬ v / 1000 % 3 = 0) (h1 : ¬ v / 1000 % 3 = 1) (hb : decide (nI (v % 1000) < F (v / 3000)) = b) : SOV F v = b := by
  unfold SOV
  rw [if_neg h0, if_neg h1, hb]
/-- the lines of the version that rules, as the reference goes over them -/
theorem LZM.row {y : Nat → Int32} {v i : Nat} {ln : LNT} {tc : List Int32} (h : LZM y v i ln tc) : LNB ln ∧ y (176 + 156 * v + 2 + 6 * i + 0) = nI ln.1 ∧ y (176 + 156 * v + 2 + 6 * i + 1) = ln.2.1 ∧ y (176 + 156 * v + 2 + 6 * i + 2) = ln.2.2.1 ∧ y (176 + 156 * v + 2 + 6 * i + 3) = ln.2.2.2.1 := ⟨h.1, h.2.1, h.2.2.1, h.2.2.2.1, h.2.2.2.2.1⟩
/-- what a line tells, as fromLine says it -/
theorem FLV.off {N : Int32} {S : HOP} {L : LVT} {x : Int32} (h : L = none) (e : x = N) : ∃ v, ARV N v x ∧ (L = none → v = none) ∧ ∀ j o w, L = some (j, o, w) → v = HRV o w S := ⟨none, Or.inl ⟨rfl, e⟩, fun _ => rfl, fun j o w h2 => by rw [h] at h2; cases h2⟩
def FLQ (N : Int32) (S : HOP) (L : LVT) (x : Int32) : Prop := (L = none ∧ x = N) ∨ ∃ j o w, L = some (j, o, w) ∧ ARV N (HRV o w S) x
theorem FLQ.low {N : Int32} {S : HOP} {f : Nat → Int32} {t : Nat} {x : Int32} {L : LVT} (h : ARS N S f) (hb : HBD S) (hL : LVB L) (hx : FLQ N S L x) (ht : ∀ j o w, L = some (j, o, w) → t = j) (ht8 : t < 8) (hN : 2000 ≤ N.toInt) : (x < f t → ARS N (RLX L S) (upd f t x)) ∧ (¬ x < f t → RLX L S = S) := by
  rcases hx with ⟨e, hx⟩ | ⟨j, o, w, e, hx⟩
  · refine ⟨fun h9 => ?_, fun _ => RLX.off e⟩
    rw [Int32.lt_iff_toInt_lt, hx] at h9
    rcases h.at hb ht8 hN with ⟨h1, -⟩ | ⟨-, y, h1, h2, h3, h4⟩
    · rw [h1] at h9
      exact absurd h9 (Int.lt_irrefl _)
    · omega
  · obtain rfl : t = j := ht j o w e
    exact ⟨fun h9 => RLX.low h e hb ht8 hx h9 hN, fun h9 => RLX.same h hb hL e hx h9 hN⟩
/-- the thing of a line, whether it holds or not -/
def TNO (ln : LNT) : Nat := if ln.1 = 2 then ln.2.1.toNatClampNeg else if ln.1 = 0 then ln.2.2.1.toNatClampNeg else 0
theorem TNO.lt {ln : LNT} (h : LNB ln) : TNO ln < 8 := by
  unfold TNO
  rcases h with ⟨h, a, b, c, ha, hb, hc, e1, e2, e3⟩ | ⟨h, -⟩ | ⟨h, a, b, ha, hb, e1, e2⟩ | ⟨h, -⟩
  · rw [if_neg (by omega), if_pos h, e2, nI_clamp (by omega)]
    omega
  · rw [if_neg (by omega), if_neg (by omega)]
    decide
  · rw [if_pos h, e1, nI_clamp (by omega)]
    omega
  · rw [if_neg (by omega), if_neg (by omega)]
    decide
theorem TNO.of {ln : LNT} {tr : Prop} {j w : Nat} {o : Option Nat} (h : LVX ln tr = some (j, o, w)) : TNO ln = j := by
  by_cases c : tr
  · rw [LVX.y c] at h
    unfold LVO at h
    unfold TNO
    by_cases c0 : ln.1 = 0
    · rw [if_pos c0] at h
      cases h
      rw [if_neg (by omega), if_pos c0]
    · rw [if_neg c0] at h
      by_cases c2 : ln.1 = 2
      · rw [if_pos c2] at h
        cases h
        rw [if_pos c2]
      · rw [if_neg c2] at h
        cases h
  · rw [LVX.n c] at h
    cases h
theorem TNO.v {ln : LNT} (h : LNB ln) : (ln.1 = 2 → ln.2.1 = nI (TNO ln)) ∧ (ln.1 = 0 → ln.2.2.1 = nI (TNO ln)) ∧ (¬ ln.1 = 2 → ¬ ln.1 = 0 → TNO ln = 0) := by
  unfold TNO
  rcases h with ⟨h, a, b, c, ha, hb, hc, e1, e2, e3⟩ | ⟨h, -⟩ | ⟨h, a, b, ha, hb, e1, e2⟩ | ⟨h, -⟩
  · refine ⟨fun h9 => absurd h9 (by omega), fun _ => ?_, fun _ h9 => absurd h h9⟩
    rw [if_neg (by omega), if_pos h, e2, nI_clamp (by omega)]
  · exact ⟨fun h9 => absurd h9 (by omega), fun h9 => absurd h9 (by omega), fun h8 h9 => by rw [if_neg h8, if_neg h9]⟩
  · refine ⟨fun _ => ?_, fun h9 => absurd h9 (by omega), fun h9 => absurd h h9⟩
    rw [if_pos h, e1, nI_clamp (by omega)]
  · exact ⟨fun h9 => absurd h9 (by omega), fun h9 => absurd h9 (by omega), fun h8 h9 => by rw [if_neg h8, if_neg h9]⟩
theorem FLQ.nv {N : Int32} {S : HOP} {f : Nat → Int32} {c w j : Nat} {L : LVT} (e0 : L = some (j, some c, w)) (h : ARS N S f) (hb : HBD S) (hc : c < 8) (hN : 2000 ≤ N.toInt) (e : f c = N) : FLQ N S L (f c) := Or.inr ⟨j, some c, w, e0, by rw [e]; exact HBY.nv h hb hc hN e⟩
theorem FLQ.sm {N : Int32} {S : HOP} {f : Nat → Int32} {c w j : Nat} {L : LVT} (e0 : L = some (j, some c, w)) (h : ARS N S f) (hb : HBD S) (hc : c < 8) (hN : 2000 ≤ N.toInt) (e : ¬ f c = N) (hw : w ≤ 99) : FLQ N S L (f c + nI w) := Or.inr ⟨j, some c, w, e0, HBY.sm h hb hc hN e hw⟩
theorem FLQ.ask {N : Int32} {S : HOP} {w j : Nat} {L : LVT} (e0 : L = some (j, none, w)) (hw : w ≤ 999) : FLQ N S L (nI w) := Or.inr ⟨j, none, w, e0, HBY.ask hw⟩
/-- the numbers of a line that holds -/
theorem LVX.mk {ln : LNT} {tr : Prop} (h : LNB ln) (ht : tr) : (ln.1 = 0 → ∃ j c w, LVX ln tr = some (j, some c, w) ∧ c < 8 ∧ w ≤ 99 ∧ ln.2.1 = nI w ∧ ln.2.2.2.1 = nI c) ∧ (ln.1 = 2 → ∃ j w, LVX ln tr = some (j, none, w) ∧ w ≤ 999 ∧ ln.2.2.1 = nI w) := by
  rw [LVX.y ht]
  unfold LVO
  rcases h with ⟨h, a, b, c, ha, hb, hc, e1, e2, e3⟩ | ⟨h, -⟩ | ⟨h, a, b, ha, hb, e1, e2⟩ | ⟨h, -⟩
  · refine ⟨fun _ => ⟨b, c, a, ?_, by omega, ha, e1, e3⟩, fun h9 => absurd h9 (by omega)⟩
    rw [if_pos h, e1, e2, e3, nI_clamp (by omega), nI_clamp (by omega), nI_clamp (by omega)]
  · exact ⟨fun h9 => absurd h9 (by omega), fun h9 => absurd h9 (by omega)⟩
  · refine ⟨fun h9 => absurd h9 (by omega), fun _ => ⟨a, b, ?_, hb, e2⟩⟩
    rw [if_neg (by omega), if_pos h, e1, e2, nI_clamp (by omega), nI_clamp (by omega)]
  · exact ⟨fun h9 => absurd h9 (by omega), fun h9 => absurd h9 (by omega)⟩
theorem LVX.w {ln : LNT} {tr : Prop} (h : ¬ ln.1 = 0) (h2 : ¬ ln.1 = 2) : LVX ln tr = none := by
  by_cases c : tr
  · rw [LVX.y c]
    unfold LVO
    rw [if_neg h, if_neg h2]
  · exact LVX.n c
theorem PIT.end9 {LV : Nat → LVT} {n j : Nat} {S : HOP} {f : Nat → Int32} {N : Int32} (hB : ∀ i, i < n → LVB (LV i)) (h : ARS N (PIT LV n j S) f) (hf : PSS LV n (PIT LV n j S) = PIT LV n j S) : ARS N (PIT LV n 9 S) f := fun t ht => by
  rw [PIT.eight hB hf t ht]
  exact h t ht
theorem PIT.end0 {LV : Nat → LVT} {n : Nat} {S : HOP} {f : Nat → Int32} {N : Int32} (hn : n = 0) (h : ARS N S f) : ARS N (PIT LV n 9 S) f := by
  subst hn
  have e : PIT LV 0 9 S = S := PIT.fix rfl 9
  rw [e]
  exact h
theorem KNQ.ym {x N : Int32} {o : Option Int} (hN : 2000 ≤ N.toInt) (h : ARW N o x) (e : ¬ x = N) : ∃ v, o = some v ∧ (1000 + x).toInt = v + 1000 := by
  rcases h with h | ⟨v, h1, h2, h3, h4⟩
  · exact absurd h.2 e
  · have e1 : (1000 : Int32).toInt = 1000 := by decide
    refine ⟨v, h1, ?_⟩
    rw [Int32.add_comm, ti_ad (by omega) (by omega) (by omega) (by omega), h2, e1]
theorem KNQ.nm {x N : Int32} {o : Option Int} (hN : 2000 ≤ N.toInt) (h : ARW N o x) (e : x = N) : o = none := by
  rcases h with h | ⟨v, h1, h2, h3, h4⟩
  · exact h.1
  · rw [e] at h2
    omega
theorem SMP.len {m : Nat} {tc tr : List Int32} (h : SMP m tc tr) : 0 < tr.length := by
  cases tr with
  | nil =>
    obtain ⟨b, -, h2⟩ := h.2.2 (fun _ => 0)
    obtain ⟨g1, -⟩ := h2 0 (fun _ => 0)
    have g2 : (0 : Nat) = 0 + 1 := g1
    omega
  | cons x xs => exact Nat.zero_lt_succ _
theorem INQ.re {K : Nat → Nat → Int → Prop} {ft f : Nat → Int32} {V : Nat → Prop} {k p e : Nat} {a b : Int32} (h : INQ K ft V (f (32 + 6 * p + 0)) (f (32 + 6 * p + 1)) (f (12 + 2 * e + 1)) k p e a b) : INQ K ft V (shf f 32 (p * 6 + 0)) (shf f 32 (p * 6 + 1)) (shf f 12 (e * 2 + 1)) k p e a b := by
  rw [shf_pa, shf_pa, shf_pe]
  exact h
theorem THM.hb {f : Nat → Int32} {p t : Nat} (ht : t < 31) (h : (f (32 + 6 * p + 2) >>> (nI t &&& 31)) &&& 1 = 1) : HB (shf f 32 (p * 6 + 2)) (nI t) := by
  rw [shf_pa]
  exact HB.mk ht h
theorem THM.no {f : Nat → Int32} {p t : Nat} (h : ¬ (f (32 + 6 * p + 2) >>> (nI t &&& 31)) &&& 1 = 1) : ¬ HB (shf f 32 (p * 6 + 2)) (nI t) := fun h2 => by
  rw [shf_pa] at h2
  exact h h2.2.2
section WR
variable {p : Program} {l : Launch} {e : Env} {R : Room} {s : State} {m : MethodId} {args : Array Value} {below : List Frame} {meth : Method} {c : Code} {H : Heap} {locs : List Loc} {cells slots : Nat} {Q : State → Prop}
variable {pc : Nat} {ls : Array Slot} {rest : List Value} {G : GG} {K : OO} {ws : va_W} {A : Nat → Prop} {y0 : MethodName} {b0 : ByteArray} {mL0 : Nat} {rt0 : Option FieldType} {a : Nat} {H0 : Heap}
end WR
theorem WY2.y {w : Int32} (h : Wi w 0 2) (h2 : 2 ≤ w) : w = 2 := by
  have h1 := (Wi_iff.mp h).2
  rw [Int32.le_iff_toInt_le] at h2
  have e2 : (2 : Int32).toInt = 2 := by decide
  rw [e2] at h1 h2
  exact Int32.toInt_inj.mp (by rw [e2]; omega)
theorem WY2.n {w : Int32} (h : ¬ 2 ≤ w) : ¬ w = 2 := fun e => h (by rw [e]; exact Int32.le_refl 2)
theorem LVM.lvb {y : Nat → Int32} {kv : Nat} {VL : Nat → List LNT} {VC : Nat → Nat → List Int32} {DY : Nat → Int32} {dv : Int32} {F : Nat → Int32} (h : VMZ y kv VL VC DY) : ∀ i, i < LVN (RLO DY dv kv) VL → LVB (LVF (LNF (RLO DY dv kv) VL) (TRF (RLO DY dv kv) VC F) i) := by
  cases e : RLO DY dv kv with
  | none => exact fun i hi => absurd hi (Nat.not_lt_zero i)
  | some v => exact fun i hi => LVX.b ((h v (LTS.lt _ _ e)).2.2.2 i hi).1
section WR
variable {p : Program} {l : Launch} {e : Env} {R : Room} {s : State} {m : MethodId} {args : Array Value} {below : List Frame} {meth : Method} {c : Code} {H : Heap} {locs : List Loc} {cells slots : Nat} {Q : State → Prop}
variable {pc : Nat} {ls : Array Slot} {rest : List Value} {G : GG} {K : OO} {ws : va_W} {A : Nat → Prop} {y0 : MethodName} {b0 : ByteArray} {mL0 : Nat} {rt0 : Option FieldType} {a : Nat} {H0 : Heap}
theorem gX12_many_0 : (decode cX12_many 0 = .ok (.iload_n 1, 1)) ∧ (decode cX12_many 1 = .ok (.tableswitch 212 0 14 #[75, 82, 89, 96, 104, 112, 120, 128, 134, 142, 181, 189, 197, 202, 207], 75)) ∧ (decode cX12_many 76 = .ok (.aload_n 0, 1)) ∧ (decode cX12_many 77 = .ok (.getfield 9, 3)) ∧ (decode cX12_many 80 = .ok (.iconst 0, 1)) ∧ (decode cX12_many 81 = .ok (.iaload, 1)) ∧ (decode cX12_many 82 = .ok (.ireturn, 1)) ∧ (decode cX12_many 83 = .ok (.aload_n 0, 1)) ∧ (decode cX12_many 84 = .ok (.getfield 9, 3)) ∧ (decode cX12_many 87 = .ok (.iconst 4, 1)) := by decide +kernel
theorem gX12_many_1 : (decode cX12_many 88 = .ok (.iaload, 1)) ∧ (decode cX12_many 89 = .ok (.ireturn, 1)) ∧ (decode cX12_many 90 = .ok (.aload_n 0, 1)) ∧ (decode cX12_many 91 = .ok (.getfield 9, 3)) ∧ (decode cX12_many 94 = .ok (.iconst 5, 1)) ∧ (decode cX12_many 95 = .ok (.iaload, 1)) ∧ (decode cX12_many 96 = .ok (.ireturn, 1)) ∧ (decode cX12_many 97 = .ok (.aload_n 0, 1)) ∧ (decode cX12_many 98 = .ok (.invokevirtual 107, 3)) ∧ (decode cX12_many 101 = .ok (.invokestatic 110, 3)) := by decide +kernel
theorem gX12_many_2 : (decode cX12_many 104 = .ok (.ireturn, 1)) ∧ (decode cX12_many 105 = .ok (.aload_n 0, 1)) ∧ (decode cX12_many 106 = .ok (.getfield 9, 3)) ∧ (decode cX12_many 109 = .ok (.bipush 6, 2)) ∧ (decode cX12_many 111 = .ok (.iaload, 1)) ∧ (decode cX12_many 112 = .ok (.ireturn, 1)) ∧ (decode cX12_many 113 = .ok (.aload_n 0, 1)) ∧ (decode cX12_many 114 = .ok (.getfield 9, 3)) ∧ (decode cX12_many 117 = .ok (.bipush 7, 2)) ∧ (decode cX12_many 119 = .ok (.iaload, 1)) := by decide +kernel
theorem gX12_many_3 : (decode cX12_many 120 = .ok (.ireturn, 1)) ∧ (decode cX12_many 121 = .ok (.aload_n 0, 1)) ∧ (decode cX12_many 122 = .ok (.getfield 9, 3)) ∧ (decode cX12_many 125 = .ok (.bipush 8, 2)) ∧ (decode cX12_many 127 = .ok (.iaload, 1)) ∧ (decode cX12_many 128 = .ok (.ireturn, 1)) ∧ (decode cX12_many 129 = .ok (.aload_n 0, 1)) ∧ (decode cX12_many 130 = .ok (.iconst (-1), 1)) ∧ (decode cX12_many 131 = .ok (.invokevirtual 127, 3)) ∧ (decode cX12_many 134 = .ok (.ireturn, 1)) := by decide +kernel
theorem gX12_many_4 : (decode cX12_many 135 = .ok (.aload_n 0, 1)) ∧ (decode cX12_many 136 = .ok (.getfield 9, 3)) ∧ (decode cX12_many 139 = .ok (.bipush 9, 2)) ∧ (decode cX12_many 141 = .ok (.iaload, 1)) ∧ (decode cX12_many 142 = .ok (.ireturn, 1)) ∧ (decode cX12_many 143 = .ok (.iconst 0, 1)) ∧ (decode cX12_many 144 = .ok (.istore_n 2, 1)) ∧ (decode cX12_many 145 = .ok (.iconst 0, 1)) ∧ (decode cX12_many 146 = .ok (.istore_n 3, 1)) ∧ (decode cX12_many 147 = .ok (.iload_n 3, 1)) := by decide +kernel
theorem gX12_many_5 : (decode cX12_many 148 = .ok (.aload_n 0, 1)) ∧ (decode cX12_many 149 = .ok (.getfield 9, 3)) ∧ (decode cX12_many 152 = .ok (.bipush 9, 2)) ∧ (decode cX12_many 154 = .ok (.iaload, 1)) ∧ (decode cX12_many 155 = .ok (.if_icmp .ge 25, 3)) ∧ (decode cX12_many 158 = .ok (.iload_n 2, 1)) ∧ (decode cX12_many 159 = .ok (.aload_n 0, 1)) ∧ (decode cX12_many 160 = .ok (.iload_n 3, 1)) ∧ (decode cX12_many 161 = .ok (.invokevirtual 305, 3)) ∧ (decode cX12_many 164 = .ok (.ifCond .eq 7, 3)) := by decide +kernel
theorem gX12_many_6 : (decode cX12_many 167 = .ok (.iconst 1, 1)) ∧ (decode cX12_many 168 = .ok (.goto 4, 3)) ∧ (decode cX12_many 171 = .ok (.iconst 0, 1)) ∧ (decode cX12_many 172 = .ok (.iadd, 1)) ∧ (decode cX12_many 173 = .ok (.istore_n 2, 1)) ∧ (decode cX12_many 174 = .ok (.iinc 3 1, 3)) ∧ (decode cX12_many 177 = .ok (.goto (-30), 3)) ∧ (decode cX12_many 180 = .ok (.iload_n 2, 1)) ∧ (decode cX12_many 181 = .ok (.ireturn, 1)) ∧ (decode cX12_many 182 = .ok (.aload_n 0, 1)) := by decide +kernel
theorem gX12_many_7 : (decode cX12_many 183 = .ok (.getfield 9, 3)) ∧ (decode cX12_many 186 = .ok (.bipush 10, 2)) ∧ (decode cX12_many 188 = .ok (.iaload, 1)) ∧ (decode cX12_many 189 = .ok (.ireturn, 1)) ∧ (decode cX12_many 190 = .ok (.aload_n 0, 1)) ∧ (decode cX12_many 191 = .ok (.getfield 9, 3)) ∧ (decode cX12_many 194 = .ok (.bipush 11, 2)) ∧ (decode cX12_many 196 = .ok (.iaload, 1)) ∧ (decode cX12_many 197 = .ok (.ireturn, 1)) ∧ (decode cX12_many 198 = .ok (.aload_n 0, 1)) := by decide +kernel
theorem gX12_many_8 : (decode cX12_many 199 = .ok (.getfield 327, 3)) ∧ (decode cX12_many 202 = .ok (.ireturn, 1)) ∧ (decode cX12_many 203 = .ok (.aload_n 0, 1)) ∧ (decode cX12_many 204 = .ok (.getfield 206, 3)) ∧ (decode cX12_many 207 = .ok (.ireturn, 1)) ∧ (decode cX12_many 208 = .ok (.aload_n 0, 1)) ∧ (decode cX12_many 209 = .ok (.getfield 351, 3)) ∧ (decode cX12_many 212 = .ok (.ireturn, 1)) ∧ (decode cX12_many 213 = .ok (.iconst (-1), 1)) ∧ (decode cX12_many 214 = .ok (.ireturn, 1)) := by decide +kernel
end WR
theorem rm_6_5_3 {mc ms : Nat} : 5 + 1 ≤ (RM 6 mc ms).frames ∧ 8 + (3 + 11) + 40 * 5 ≤ (RM 6 mc ms).locals := ⟨by show 5 + 1 ≤ 6; decide, by show 8 + (3 + 11) + 40 * 5 ≤ 40 * 6; decide⟩
theorem rm_7_6_12 {mc ms : Nat} : 6 + 1 ≤ (RM 7 mc ms).frames ∧ 8 + (12 + 11) + 40 * 6 ≤ (RM 7 mc ms).locals := ⟨by show 6 + 1 ≤ 7; decide, by show 8 + (12 + 11) + 40 * 6 ≤ 40 * 7; decide⟩
theorem rm_8_2_3 {mc ms : Nat} : 2 + 1 ≤ (RM 8 mc ms).frames ∧ 8 + (3 + 11) + 40 * 2 ≤ (RM 8 mc ms).locals := ⟨by show 2 + 1 ≤ 8; decide, by show 8 + (3 + 11) + 40 * 2 ≤ 40 * 8; decide⟩
theorem rm_8_2_4 {mc ms : Nat} : 2 + 1 ≤ (RM 8 mc ms).frames ∧ 8 + (4 + 11) + 40 * 2 ≤ (RM 8 mc ms).locals := ⟨by show 2 + 1 ≤ 8; decide, by show 8 + (4 + 11) + 40 * 2 ≤ 40 * 8; decide⟩
theorem rm_9_8_7 {mc ms : Nat} : 8 + 1 ≤ (RM 9 mc ms).frames ∧ 8 + (7 + 11) + 40 * 8 ≤ (RM 9 mc ms).locals := ⟨by show 8 + 1 ≤ 9; decide, by show 8 + (7 + 11) + 40 * 8 ≤ 40 * 9; decide⟩
theorem rm_10_9_4 {mc ms : Nat} : 9 + 1 ≤ (RM 10 mc ms).frames ∧ 8 + (4 + 11) + 40 * 9 ≤ (RM 10 mc ms).locals := ⟨by show 9 + 1 ≤ 10; decide, by show 8 + (4 + 11) + 40 * 9 ≤ 40 * 10; decide⟩
theorem rm_11_3_3 {mc ms : Nat} : 3 + 1 ≤ (RM 11 mc ms).frames ∧ 8 + (3 + 11) + 40 * 3 ≤ (RM 11 mc ms).locals := ⟨by show 3 + 1 ≤ 11; decide, by show 8 + (3 + 11) + 40 * 3 ≤ 40 * 11; decide⟩
theorem rm_11_10_3 {mc ms : Nat} : 10 + 1 ≤ (RM 11 mc ms).frames ∧ 8 + (3 + 11) + 40 * 10 ≤ (RM 11 mc ms).locals := ⟨by show 10 + 1 ≤ 11; decide, by show 8 + (3 + 11) + 40 * 10 ≤ 40 * 11; decide⟩
def K_m_factOfX (l : Launch) (G : GG) (kq : Nat) (h0 : Nat) (jk : Nat) (je : Nat) (nw : Nat) (nk : Nat) (mhasKept : Int32) (nt : Nat) (mtaped : Int32) (nr : Nat) (mrowMany : Int32) (mroundOf : Int32) (mroundFrom : Int32) (nm : Nat) (mfromHour : Int32) (mtoHour : Int32) (ns : Nat) (mfrom : Int32) (mto : Int32) (msort : Int32) (misFault : Int32) (mdeep : Int32) (mcoded : Int32) (mlines : Int32) (nl : Nat) (nc : Nat) (nF : Nat) (np : Nat) (ntr : Nat) (nb : Nat) (mbestCost : Int32) (nso : Nat) (nsi : Nat) (nit : Nat) (nsh : Nat) (nsf : Nat) (nss : Nat) (nrc : Nat) (mtraced : Int32) (mdealer : Int32) (mnumber : Int32) (mwhose : Int32) (msize : Int32) (misParted : Int32) (fnw : Nat → Int32) : Prop := MP l G yX12_factOf cX12_factOf 3 (some .int) 5 [.ref h0, .int (nI jk), .int (nI je)] [(h0, oX12 nw nk mhasKept nt mtaped nr mrowMany mroundOf mroundFrom 0 nm mfromHour mtoHour ns mfrom mto msort misFault mdeep mcoded mlines nl nc nF np ntr nb mbestCost nso nsi nit nsh nsf nss nrc mtraced mdealer mnumber mwhose msize misParted), (nw, iA G 1662 fnw)] (fun r : Int32 => r = ((FAX (shf fnw 12) (shf fnw 32) (VSE fnw kq) kq je) jk))
set_option maxHeartbeats 4000000 in
set_option maxRecDepth 100000 in
theorem m_factOfX (l : Launch) (G : GG) (kq : Nat) (h0 : Nat) (jk : Nat) (je : Nat) (nw : Nat) (nk : Nat) (mhasKept : Int32) (nt : Nat) (mtaped : Int32) (nr : Nat) (mrowMany : Int32) (mroundOf : Int32) (mroundFrom : Int32) (nm : Nat) (mfromHour : Int32) (mtoHour : Int32) (ns : Nat) (mfrom : Int32) (mto : Int32) (msort : Int32) (misFault : Int32) (mdeep : Int32) (mcoded : Int32) (mlines : Int32) (nl : Nat) (nc : Nat) (nF : Nat) (np : Nat) (ntr : Nat) (nb : Nat) (mbestCost : Int32) (nso : Nat) (nsi : Nat) (nit : Nat) (nsh : Nat) (nsf : Nat) (nss : Nat) (nrc : Nat) (mtraced : Int32) (mdealer : Int32) (mnumber : Int32) (mwhose : Int32) (msize : Int32) (misParted : Int32) (fnw : Nat → Int32) (hN : NI fnw) (ekq : fnw 5 = nI kq) (hkq : kq ≤ 12) (hje : je < 10) (hjk : jk < 5) : K_m_factOfX l G kq h0 jk je nw nk mhasKept nt mtaped nr mrowMany mroundOf mroundFrom nm mfromHour mtoHour ns mfrom mto msort misFault mdeep mcoded mlines nl nc nF np ntr nb mbestCost nso nsi nit nsh nsf nss nrc mtraced mdealer mnumber mwhose msize misParted fnw := by
  refine MP.start (by decide +kernel) (Nat.le_of_ble_eq_true rfl) ?_
  intro p e s m below meth c ls hC hK hP hD hl
  refine absQ (fun Q0 hQ0 => ?_)
  have hl : lv_has ls 3 [(0, .ref h0), (1, .int (nI jk)), (2, .int (nI je))] := hl
  refine Kan8 hC (fun hx hb hr hml hB hown hlocks hnm => ?_)
  refine lv_iload_n hx hb gX12_factOf_0.1 rfl (lv_at1 hl) ?_
  by_cases c_1_9833 : nI jk = 0
  · refine lv_tableIn (tgt := 32) hx hb gX12_factOf_0.2.1 (by rw [c_1_9833]; decide) (by rw [c_1_9833]; decide) (by rw [c_1_9833]; rfl) (by decide) ?_
    refine lv_iload_n hx hb gX12_factOf_0.2.2.1 rfl (lv_at2 hl) ?_
    refine toQ hQ0 ?_
    exact RP (v := nI je) hC (FAR.r0 ((nI_eq (b := 0) (by omega) (by decide)).mp c_1_9833)) rfl gX12_factOf_0.2.2.2.1
  by_cases c_1_9834 : nI jk = 1
  · refine lv_tableIn (tgt := 34) hx hb gX12_factOf_0.2.1 (by rw [c_1_9834]; decide) (by rw [c_1_9834]; decide) (by rw [c_1_9834]; rfl) (by decide) ?_
    refine lv_aload_n hx hb gX12_factOf_0.2.2.2.2.1 rfl (lv_at0 hl) ?_
    refine gf_X12_9 hC rfl hK hP 0 rfl rfl gX12_factOf_0.2.2.2.2.2.1 ?_
    refine lv_bipush (v := 12) hx hb gX12_factOf_0.2.2.2.2.2.2.1 (by decide) ?_
    refine lv_iconst (v := 2) hx hb gX12_factOf_0.2.2.2.2.2.2.2.1 (by decide) ?_
    refine lv_iload_n hx hb gX12_factOf_0.2.2.2.2.2.2.2.2.1 rfl (lv_at2 hl) ?_
    refine lv_imul hx hb gX12_factOf_0.2.2.2.2.2.2.2.2.2 ?_
    refine eqi (x1 := nI (2 * je)) (nI_mul 2 je) ?_
    refine lv_iadd hx hb gX12_factOf_1.1 ?_
    refine eqi (x1 := nI (12 + 2 * je)) (nI_add 12 (2 * je)) ?_
    refine aldN hC hK hP 1 rfl (k := (12 + 2 * je)) (by omega) (Nat.le_of_ble_eq_true rfl) (v := fnw (12 + 2 * je)) rfl gX12_factOf_1.2.1 ?_
    refine toQ hQ0 ?_
    exact RP (v := fnw (12 + 2 * je)) hC (FAR.r1 ((nI_eq (b := 1) (by omega) (by decide)).mp c_1_9834)) rfl gX12_factOf_1.2.2.1
  by_cases c_1_9835 : nI jk = 2
  · refine lv_tableIn (tgt := 46) hx hb gX12_factOf_0.2.1 (by rw [c_1_9835]; decide) (by rw [c_1_9835]; decide) (by rw [c_1_9835]; rfl) (by decide) ?_
    refine lv_aload_n hx hb gX12_factOf_1.2.2.2.1 rfl (lv_at0 hl) ?_
    refine lv_iload_n hx hb gX12_factOf_1.2.2.2.2.1 rfl (lv_at2 hl) ?_
    refine lv_iconst (v := 0) hx hb gX12_factOf_1.2.2.2.2.2.1 (by decide) ?_
    refine pV hC hK hl hP hD (m_papersToX l G kq h0 je nw nk mhasKept nt mtaped nr mrowMany mroundOf mroundFrom nm mfromHour mtoHour ns mfrom mto msort misFault mdeep mcoded mlines nl nc nF np ntr nb mbestCost nso nsi nit nsh nsf nss nrc mtraced mdealer mnumber mwhose msize misParted fnw (ekq) (hkq) (hje)) si_X12_123 [0, 1] sm_0_1 fm_0_1 nd_0_1 rfl rfl rfl rfl rfl (Nat.le_of_ble_eq_true rfl) rm_5_4_5 ⟨by first | exact Nat.le_of_ble_eq_true rfl | exact Nat.zero_le _, by first | exact Nat.le_of_ble_eq_true rfl | exact Nat.zero_le _⟩ gX12_factOf_1.2.2.2.2.2.2.1 (Keqr ?_)
    refine toQ hQ0 ?_
    exact RP (v := (CNT (fun p9 => SEE (shf fnw 32) (fnw 0) (fnw 1) (fnw 2) p9 ∧ HB (shf fnw 32 (p9 * 6 + 1)) (nI je)) kq)) hC (FAR.r2 (fun _ h9 => SEE.vse h9) ((nI_eq (b := 2) (by omega) (by decide)).mp c_1_9835)) rfl gX12_factOf_1.2.2.2.2.2.2.2.1
  by_cases c_1_9838 : nI jk = 3
  · refine lv_tableIn (tgt := 53) hx hb gX12_factOf_0.2.1 (by rw [c_1_9838]; decide) (by rw [c_1_9838]; decide) (by rw [c_1_9838]; rfl) (by decide) ?_
    refine lv_aload_n hx hb gX12_factOf_1.2.2.2.2.2.2.2.2.1 rfl (lv_at0 hl) ?_
    refine lv_iload_n hx hb gX12_factOf_1.2.2.2.2.2.2.2.2.2 rfl (lv_at2 hl) ?_
    refine lv_iconst (v := 1) hx hb gX12_factOf_2.1 (by decide) ?_
    refine pV hC hK hl hP hD (m_papersByX l G kq h0 je nw nk mhasKept nt mtaped nr mrowMany mroundOf mroundFrom nm mfromHour mtoHour ns mfrom mto msort misFault mdeep mcoded mlines nl nc nF np ntr nb mbestCost nso nsi nit nsh nsf nss nrc mtraced mdealer mnumber mwhose msize misParted fnw (ekq) (hkq) (hje)) si_X12_123 [0, 1] sm_0_1 fm_0_1 nd_0_1 rfl rfl rfl rfl rfl (Nat.le_of_ble_eq_true rfl) rm_5_4_5 ⟨by first | exact Nat.le_of_ble_eq_true rfl | exact Nat.zero_le _, by first | exact Nat.le_of_ble_eq_true rfl | exact Nat.zero_le _⟩ gX12_factOf_2.2.1 (Keqr ?_)
    refine toQ hQ0 ?_
    exact RP (v := (CNT (fun p9 => SEE (shf fnw 32) (fnw 0) (fnw 1) (fnw 2) p9 ∧ shf fnw 32 (p9 * 6 + 0) = (nI je)) kq)) hC (FAR.r3 (fun _ h9 => SEE.vse h9) ((nI_eq (b := 3) (by omega) (by decide)).mp c_1_9838)) rfl gX12_factOf_2.2.2.1
  refine lv_tableOut (tgt := 60) hx hb gX12_factOf_0.2.1 (by have q9 := sw_0_3 (x := nI jk); simp only [c_1_9833, c_1_9834, c_1_9835, c_1_9838, not_false_eq_true, true_implies] at q9; exact q9) (by decide) ?_
  refine lv_aload_n hx hb gX12_factOf_2.2.2.2.1 rfl (lv_at0 hl) ?_
  refine gf_X12_9 hC rfl hK hP 0 rfl rfl gX12_factOf_2.2.2.2.2.1 ?_
  refine lv_bipush (v := 12) hx hb gX12_factOf_2.2.2.2.2.2.1 (by decide) ?_
  refine lv_iconst (v := 2) hx hb gX12_factOf_2.2.2.2.2.2.2.1 (by decide) ?_
  refine lv_iload_n hx hb gX12_factOf_2.2.2.2.2.2.2.2.1 rfl (lv_at2 hl) ?_
  refine lv_imul hx hb gX12_factOf_2.2.2.2.2.2.2.2.2.1 ?_
  refine eqi (x1 := nI (2 * je)) (nI_mul 2 je) ?_
  refine lv_iadd hx hb gX12_factOf_2.2.2.2.2.2.2.2.2.2 ?_
  refine eqi (x1 := nI (12 + 2 * je)) (nI_add 12 (2 * je)) ?_
  refine lv_iconst (v := 1) hx hb gX12_factOf_3.1 (by decide) ?_
  refine lv_iadd hx hb gX12_factOf_3.2.1 ?_
  refine eqi (x1 := nI (12 + 2 * je + 1)) (nI_add (12 + 2 * je) 1) ?_
  refine aldN hC hK hP 1 rfl (k := (12 + 2 * je + 1)) (by omega) (Nat.le_of_ble_eq_true rfl) (v := fnw (12 + 2 * je + 1)) rfl gX12_factOf_3.2.2.1 ?_
  refine toQ hQ0 ?_
  exact RP (v := fnw (12 + 2 * je + 1)) hC (FAR.r4 (fun h9 => c_1_9833 (congrArg nI h9)) (fun h9 => c_1_9834 (congrArg nI h9)) (fun h9 => c_1_9835 (congrArg nI h9)) (fun h9 => c_1_9838 (congrArg nI h9))) rfl gX12_factOf_3.2.2.2
def K_m_rulesX (l : Launch) (G : GG) (k7 : Nat) (DY : Nat → Int32) (h0 : Nat) (nw : Nat) (nk : Nat) (mhasKept : Int32) (nt : Nat) (mtaped : Int32) (nr : Nat) (mrowMany : Int32) (mroundOf : Int32) (mroundFrom : Int32) (mouts : Int32) (nm : Nat) (mfromHour : Int32) (mtoHour : Int32) (ns : Nat) (mfrom : Int32) (mto : Int32) (msort : Int32) (misFault : Int32) (mdeep : Int32) (mcoded : Int32) (mlines : Int32) (nl : Nat) (nc : Nat) (nF : Nat) (np : Nat) (ntr : Nat) (nb : Nat) (mbestCost : Int32) (nso : Nat) (nsi : Nat) (nit : Nat) (nsh : Nat) (nsf : Nat) (nss : Nat) (nrc : Nat) (mtraced : Int32) (mdealer : Int32) (mnumber : Int32) (mwhose : Int32) (msize : Int32) (misParted : Int32) (fnw : Nat → Int32) : Prop := MP l G yX12_rules cX12_rules 3 (some .int) 2 [.ref h0] [(h0, oX12 nw nk mhasKept nt mtaped nr mrowMany mroundOf mroundFrom mouts nm mfromHour mtoHour ns mfrom mto msort misFault mdeep mcoded mlines nl nc nF np ntr nb mbestCost nso nsi nit nsh nsf nss nrc mtraced mdealer mnumber mwhose msize misParted), (nw, iA G 1662 fnw)] (fun r : Int32 => r = (LAT (RLO DY (DAYV (fnw 0) (fnw 1)) k7)))
set_option maxHeartbeats 4000000 in
set_option maxRecDepth 100000 in
theorem m_rulesX (l : Launch) (G : GG) (k7 : Nat) (DY : Nat → Int32) (h0 : Nat) (nw : Nat) (nk : Nat) (mhasKept : Int32) (nt : Nat) (mtaped : Int32) (nr : Nat) (mrowMany : Int32) (mroundOf : Int32) (mroundFrom : Int32) (mouts : Int32) (nm : Nat) (mfromHour : Int32) (mtoHour : Int32) (ns : Nat) (mfrom : Int32) (mto : Int32) (msort : Int32) (misFault : Int32) (mdeep : Int32) (mcoded : Int32) (mlines : Int32) (nl : Nat) (nc : Nat) (nF : Nat) (np : Nat) (ntr : Nat) (nb : Nat) (mbestCost : Int32) (nso : Nat) (nsi : Nat) (nit : Nat) (nsh : Nat) (nsf : Nat) (nss : Nat) (nrc : Nat) (mtraced : Int32) (mdealer : Int32) (mnumber : Int32) (mwhose : Int32) (msize : Int32) (misParted : Int32) (fnw : Nat → Int32) (hN : NI fnw) (ek7 : fnw 7 = nI k7) (hk7 : k7 ≤ 8) (hDY : ∀ v9, v9 < k7 → fnw (176 + 156 * v9 + 0) = DY v9) : K_m_rulesX l G k7 DY h0 nw nk mhasKept nt mtaped nr mrowMany mroundOf mroundFrom mouts nm mfromHour mtoHour ns mfrom mto msort misFault mdeep mcoded mlines nl nc nF np ntr nb mbestCost nso nsi nit nsh nsf nss nrc mtraced mdealer mnumber mwhose msize misParted fnw := by
  refine MP.start (by decide +kernel) (Nat.le_of_ble_eq_true rfl) ?_
  intro p e s m below meth c ls hC hK hP hD hl
  refine absQ (fun Q0 hQ0 => ?_)
  have hl : lv_has ls 3 [(0, .ref h0)] := hl
  refine Kan8 hC (fun hx hb hr hml hB hown hlocks hnm => ?_)
  refine lv_iconst (v := (-1)) hx hb gX12_rules_0.1 (by decide) ?_
  refine lv_istore_n (lv' := [(1, .int (-1)), (0, .ref h0)]) hx hb gX12_rules_0.2.1 rfl hl (by decide) rfl (fun ls hl => ?_)
  refine lv_iconst (v := 0) hx hb gX12_rules_0.2.2.1 (by decide) ?_
  refine lv_istore_n (lv' := [(2, .int 0), (1, .int (-1)), (0, .ref h0)]) hx hb gX12_rules_0.2.2.2.1 rfl hl (by decide) rfl (fun ls hl => ?_)
  have keyP : ∀ (nP kP : Nat) (lv : Int32) (ls : Array Slot), kP + nP = k7 → (lv = LAT (RLO DY (DAYV (fnw 0) (fnw 1)) kP)) → lv_has ls 3 [(2, .int (nI kP)), (1, .int lv), (0, .ref h0)] → W p l e (RM 2 0 0) s m ([.ref h0] : List Value).toArray below meth c s.heap [] 0 0 Q0 (F0 m 4 ls []) := by
    intro nP
    induction nP with
    | zero =>
      intro kP lv ls hkP hlv hl
      obtain rfl : k7 = kP := by omega
      have hl : lv_has ls 3 [(2, .int (nI k7)), (1, .int lv), (0, .ref h0)] := hl
      refine lv_iload_n hx hb gX12_rules_0.2.2.2.2.1 rfl (lv_at0 hl) ?_
      refine lv_aload_n hx hb gX12_rules_0.2.2.2.2.2.1 rfl (lv_at2 hl) ?_
      refine gf_X12_9 hC rfl hK hP 0 rfl rfl gX12_rules_0.2.2.2.2.2.2.1 ?_
      refine lv_bipush (v := 7) hx hb gX12_rules_0.2.2.2.2.2.2.2.1 (by decide) ?_
      refine ald hC hK hP 1 rfl (vin (by decide +kernel)) (k := 7) (by decide +kernel) (v := nI k7) (ek7) gX12_rules_0.2.2.2.2.2.2.2.2.1 ?_
      refine lv_icmp_ge (tgt := 50) hx hb gX12_rules_0.2.2.2.2.2.2.2.2.2 (by decide) (fun _ => ?_) (fun c9 => absurd (Int32.le_refl _) c9)
      refine lv_iload_n hx hb gX12_rules_2.2.2.2.2.2.2.2.2.2 rfl (lv_at1 hl) ?_
      refine toQ hQ0 ?_
      exact RP (v := lv) hC (hlv) rfl gX12_rules_3
    | succ nP ihP =>
      intro kP lv ls hkP hlv hl
      refine lv_iload_n hx hb gX12_rules_0.2.2.2.2.1 rfl (lv_at0 hl) ?_
      refine lv_aload_n hx hb gX12_rules_0.2.2.2.2.2.1 rfl (lv_at2 hl) ?_
      refine gf_X12_9 hC rfl hK hP 0 rfl rfl gX12_rules_0.2.2.2.2.2.2.1 ?_
      refine lv_bipush (v := 7) hx hb gX12_rules_0.2.2.2.2.2.2.2.1 (by decide) ?_
      refine ald hC hK hP 1 rfl (vin (by decide +kernel)) (k := 7) (by decide +kernel) (v := nI k7) (ek7) gX12_rules_0.2.2.2.2.2.2.2.2.1 ?_
      refine lv_icmp_ge (tgt := 50) hx hb gX12_rules_0.2.2.2.2.2.2.2.2.2 (by decide) (fun c9 => absurd c9 (nI_ge (a := kP) (b := k7) (by omega) (by omega))) (fun _ => ?_)
      refine lv_aload_n hx hb gX12_rules_1.1 rfl (lv_at2 hl) ?_
      refine gf_X12_9 hC rfl hK hP 0 rfl rfl gX12_rules_1.2.1 ?_
      refine lv_sipush (v := 176) hx hb gX12_rules_1.2.2.1 (by decide) ?_
      refine lv_sipush (v := 156) hx hb gX12_rules_1.2.2.2.1 (by decide) ?_
      refine lv_iload_n hx hb gX12_rules_1.2.2.2.2.1 rfl (lv_at0 hl) ?_
      refine lv_imul hx hb gX12_rules_1.2.2.2.2.2.1 ?_
      refine eqi (x1 := nI (156 * kP)) (nI_mul 156 kP) ?_
      refine lv_iadd hx hb gX12_rules_1.2.2.2.2.2.2.1 ?_
      refine eqi (x1 := nI (176 + 156 * kP)) (nI_add 176 (156 * kP)) ?_
      refine lv_iconst (v := 0) hx hb gX12_rules_1.2.2.2.2.2.2.2.1 (by decide) ?_
      refine lv_iadd hx hb gX12_rules_1.2.2.2.2.2.2.2.2.1 ?_
      refine eqi (x1 := nI (176 + 156 * kP + 0)) (nI_add (176 + 156 * kP) 0) ?_
      refine aldN hC hK hP 1 rfl (k := 176 + 156 * kP + 0) (by omega) (Nat.le_of_ble_eq_true rfl) (v := DY kP) (hDY kP (by omega)) gX12_rules_1.2.2.2.2.2.2.2.2.2 ?_
      refine lv_aload_n hx hb gX12_rules_2.1 rfl (lv_at2 hl) ?_
      refine pV hC hK hl hP hD (m_dayX l G h0 nw nk mhasKept nt mtaped nr mrowMany mroundOf mroundFrom mouts nm mfromHour mtoHour ns mfrom mto msort misFault mdeep mcoded mlines nl nc nF np ntr nb mbestCost nso nsi nit nsh nsf nss nrc mtraced mdealer mnumber mwhose msize misParted fnw) si_X12_92 [0, 1] sm_0_1 fm_0_1 nd_0_1 rfl rfl rfl rfl rfl (Nat.le_of_ble_eq_true rfl) rm_2_1_1 ⟨by first | exact Nat.le_of_ble_eq_true rfl | exact Nat.zero_le _, by first | exact Nat.le_of_ble_eq_true rfl | exact Nat.zero_le _⟩ gX12_rules_2.2.1 (Keqr ?_)
      refine lv_icmp_gt (tgt := 42) hx hb gX12_rules_2.2.2.1 (by decide) (fun c_35_9843 => ?_) (fun c_35_9843 => ?_)
      · refine lv_iload_n hx hb gX12_rules_2.2.2.2.2.2.1 rfl (lv_at1 hl) ?_
        refine lv_istore_n (lv' := [(1, .int lv), (2, .int (nI kP)), (0, .ref h0)]) hx hb gX12_rules_2.2.2.2.2.2.2.1 rfl hl (by decide) rfl (fun ls hl => ?_)
        refine lv_iinc (v := nI (kP + 1)) (lv' := [(2, .int (nI (kP + 1))), (1, .int lv), (0, .ref h0)]) hx hb gX12_rules_2.2.2.2.2.2.2.2.1 hl (k := 1) rfl (nI_1 _) (by decide) rfl (fun ls hl => ?_)
        refine lv_goto (tgt := 4) hx hb gX12_rules_2.2.2.2.2.2.2.2.2.1 (by decide) ?_
        have hst9 : lv = LAT (RLO DY (DAYV (fnw 0) (fnw 1)) (kP + 1)) := hlv.trans (congrArg LAT (LTS.n (fun h9 => Int32.not_le.mpr c_35_9843 h9)).symm)
        exact ihP (kP + 1) lv _ (by omega) (by first | assumption | exact Or.inl rfl | exact Or.inr rfl | exact rfl) (lv_sub hl [0, 1, 2] rfl)
      · refine lv_iload_n hx hb gX12_rules_2.2.2.2.1 rfl (lv_at0 hl) ?_
        refine lv_goto (tgt := 43) hx hb gX12_rules_2.2.2.2.2.1 (by decide) ?_
        refine lv_istore_n (lv' := [(1, .int (nI kP)), (2, .int (nI kP)), (0, .ref h0)]) hx hb gX12_rules_2.2.2.2.2.2.2.1 rfl hl (by decide) rfl (fun ls hl => ?_)
        refine lv_iinc (v := nI (kP + 1)) (lv' := [(2, .int (nI (kP + 1))), (1, .int (nI kP)), (0, .ref h0)]) hx hb gX12_rules_2.2.2.2.2.2.2.2.1 hl (k := 1) rfl (nI_1 _) (by decide) rfl (fun ls hl => ?_)
        refine lv_goto (tgt := 4) hx hb gX12_rules_2.2.2.2.2.2.2.2.2.1 (by decide) ?_
        have hst9 : nI kP = LAT (RLO DY (DAYV (fnw 0) (fnw 1)) (kP + 1)) := (congrArg LAT (LTS.y (Int32.not_lt.mp c_35_9843))).symm
        exact ihP (kP + 1) (nI kP) _ (by omega) (by first | assumption | exact Or.inl rfl | exact Or.inr rfl | exact rfl) (lv_sub hl [0, 1, 2] rfl)
  exact keyP k7 0 (-1) _ (by omega) (by first | assumption | exact Or.inl rfl | exact Or.inr rfl | exact rfl) (lv_sub hl [0, 1, 2] rfl)
def K_m_holdsX (l : Launch) (G : GG) (kq : Nat) (T9 : List Int32) (h0 : Nat) (jv : Nat) (jl : Nat) (je : Nat) (nw : Nat) (nk : Nat) (mhasKept : Int32) (nt : Nat) (mtaped : Int32) (nr : Nat) (mrowMany : Int32) (mroundOf : Int32) (mroundFrom : Int32) (nm : Nat) (mfromHour : Int32) (mtoHour : Int32) (ns : Nat) (mfrom : Int32) (mto : Int32) (msort : Int32) (misFault : Int32) (mdeep : Int32) (mcoded : Int32) (mlines : Int32) (nl : Nat) (nc : Nat) (nF : Nat) (np : Nat) (ntr : Nat) (nb : Nat) (mbestCost : Int32) (nso : Nat) (nsi : Nat) (nit : Nat) (nsh : Nat) (nsf : Nat) (nss : Nat) (nrc : Nat) (mtraced : Int32) (mdealer : Int32) (mnumber : Int32) (mwhose : Int32) (msize : Int32) (misParted : Int32) (fnw : Nat → Int32) (fnp : Nat → Int32) : Prop := MI l G yX12_holds cX12_holds 12 (some .boolean) 6 0 0 [.ref h0, .int (nI jv), .int (nI jl), .int (nI je)] [(h0, oX12 nw nk mhasKept nt mtaped nr mrowMany mroundOf mroundFrom 0 nm mfromHour mtoHour ns mfrom mto msort misFault mdeep mcoded mlines nl nc nF np ntr nb mbestCost nso nsi nit nsh nsf nss nrc mtraced mdealer mnumber mwhose msize misParted), (nw, iA G 1662 fnw), (np, iA G 100 fnp)] (fun (r : Int32) (u : (Nat → Int32)) => ((r = 1 ∧ PLN (FAX (shf fnw 12) (shf fnw 32) (VSE fnw kq) kq je) T9 1 % 2 = 1) ∨ (r = 0 ∧ ¬ PLN (FAX (shf fnw 12) (shf fnw 32) (VSE fnw kq) kq je) T9 1 % 2 = 1))) (fun u : (Nat → Int32) => [(h0, oX12 nw nk mhasKept nt mtaped nr mrowMany mroundOf mroundFrom 0 nm mfromHour mtoHour ns mfrom mto msort misFault mdeep mcoded mlines nl nc nF np ntr nb mbestCost nso nsi nit nsh nsf nss nrc mtraced mdealer mnumber mwhose msize misParted), (nw, iA G 1662 fnw), (np, iA G 100 u)])
set_option maxHeartbeats 4000000 in
set_option maxRecDepth 100000 in
theorem m_holdsX (l : Launch) (G : GG) (kq : Nat) (LX9 : LNT) (T9 : List Int32) (h0 : Nat) (jv : Nat) (jl : Nat) (je : Nat) (nw : Nat) (nk : Nat) (mhasKept : Int32) (nt : Nat) (mtaped : Int32) (nr : Nat) (mrowMany : Int32) (mroundOf : Int32) (mroundFrom : Int32) (nm : Nat) (mfromHour : Int32) (mtoHour : Int32) (ns : Nat) (mfrom : Int32) (mto : Int32) (msort : Int32) (misFault : Int32) (mdeep : Int32) (mcoded : Int32) (mlines : Int32) (nl : Nat) (nc : Nat) (nF : Nat) (np : Nat) (ntr : Nat) (nb : Nat) (mbestCost : Int32) (nso : Nat) (nsi : Nat) (nit : Nat) (nsh : Nat) (nsf : Nat) (nss : Nat) (nrc : Nat) (mtraced : Int32) (mdealer : Int32) (mnumber : Int32) (mwhose : Int32) (msize : Int32) (misParted : Int32) (fnw : Nat → Int32) (fnp : Nat → Int32) (hjv : jv < 8) (hjl : jl < 9) (hln : LN fnw jv jl) (hLZ : LZM fnw jv jl LX9 T9) (hje : je < 10) (hN : NI fnw) (ekq : fnw 5 = nI kq) (hkq : kq ≤ 12) : K_m_holdsX l G kq T9 h0 jv jl je nw nk mhasKept nt mtaped nr mrowMany mroundOf mroundFrom nm mfromHour mtoHour ns mfrom mto msort misFault mdeep mcoded mlines nl nc nF np ntr nb mbestCost nso nsi nit nsh nsf nss nrc mtraced mdealer mnumber mwhose msize misParted fnw fnp := by
  refine MI.start (by decide +kernel) (Nat.le_of_ble_eq_true rfl) ?_
  intro p e s m below meth c A ls hC hK hP hD hS hA hl
  refine absQ (fun Q0 hQ0 => ?_)
  have hl : lv_has ls 12 [(0, .ref h0), (1, .int (nI jv)), (2, .int (nI jl)), (3, .int (nI je))] := hl
  refine Kan8 hC (fun hx hb hr hml hB hown hlocks hnm => ?_)
  have hln0 := hln
  obtain ⟨⟨so, hso, e0, hAl, hBl⟩, la9, lb9, e4, e5, hab9, hlb9, ht9, h09, hst9⟩ := hln
  obtain ⟨hlb, -, -, -, -, r0, r1, f4, f5, hr1, hor⟩ := hLZ
  have hr0 : r0 ≤ r1 := hor.elim (fun h9 => by omega) (fun ⟨tr, _, h9, _⟩ => by omega)
  obtain rfl : r0 = la9 := (nI_eq (by omega) (by omega)).mp (f4.symm.trans e4)
  obtain rfl : r1 = lb9 := (nI_eq (by omega) (by omega)).mp (f5.symm.trans e5)
  rcases hor with ⟨rfl, rfl⟩ | ⟨tr9, hsm9, hlt9, hcd9⟩
  · refine lv_aload_n hx hb gX12_holds_0.1 rfl (lv_at0 hl) ?_
    refine lv_iload_n hx hb gX12_holds_0.2.1 rfl (lv_at1 hl) ?_
    refine lv_iload_n hx hb gX12_holds_0.2.2.1 rfl (lv_at2 hl) ?_
    refine lv_iconst (v := 4) hx hb gX12_holds_0.2.2.2.1 (by decide) ?_
    refine pV hC hK hl hP hD (m_lineOf l G h0 jv jl 4 nw nk mhasKept nt mtaped nr mrowMany mroundOf mroundFrom 0 nm mfromHour mtoHour ns mfrom mto msort misFault mdeep mcoded mlines nl nc nF np ntr nb mbestCost nso nsi nit nsh nsf nss nrc mtraced mdealer mnumber mwhose msize misParted fnw (hjv) (hjl) (by omega)) si_X12_193 [0, 1] sm_0_1 fm_0_1 nd_0_1 rfl rfl rfl rfl rfl (Nat.le_of_ble_eq_true rfl) rm_6_1_4 ⟨by first | exact Nat.le_of_ble_eq_true rfl | exact Nat.zero_le _, by first | exact Nat.le_of_ble_eq_true rfl | exact Nat.zero_le _⟩ gX12_holds_0.2.2.2.2.1 (Keqr ?_)
    refine eqi (x1 := nI r0) (e4) ?_
    refine lv_istore (lv' := [(4, .int (nI r0)), (0, .ref h0), (1, .int (nI jv)), (2, .int (nI jl)), (3, .int (nI je))]) hx hb gX12_holds_0.2.2.2.2.2.1 hl (by decide) rfl (fun ls hl => ?_)
    refine lv_aload_n hx hb gX12_holds_0.2.2.2.2.2.2.1 rfl (lv_at1 hl) ?_
    refine lv_iload_n hx hb gX12_holds_0.2.2.2.2.2.2.2.1 rfl (lv_at2 hl) ?_
    refine lv_iload_n hx hb gX12_holds_0.2.2.2.2.2.2.2.2.1 rfl (lv_at3 hl) ?_
    refine lv_iconst (v := 5) hx hb gX12_holds_0.2.2.2.2.2.2.2.2.2 (by decide) ?_
    refine pV hC hK hl hP hD (m_lineOf l G h0 jv jl 5 nw nk mhasKept nt mtaped nr mrowMany mroundOf mroundFrom 0 nm mfromHour mtoHour ns mfrom mto msort misFault mdeep mcoded mlines nl nc nF np ntr nb mbestCost nso nsi nit nsh nsf nss nrc mtraced mdealer mnumber mwhose msize misParted fnw (hjv) (hjl) (by omega)) si_X12_193 [0, 1] sm_0_1 fm_0_1 nd_0_1 rfl rfl rfl rfl rfl (Nat.le_of_ble_eq_true rfl) rm_6_1_4 ⟨by first | exact Nat.le_of_ble_eq_true rfl | exact Nat.zero_le _, by first | exact Nat.le_of_ble_eq_true rfl | exact Nat.zero_le _⟩ gX12_holds_1.1 (Keqr ?_)
    refine eqi (x1 := nI r0) (e5) ?_
    refine lv_istore (lv' := [(5, .int (nI r0)), (4, .int (nI r0)), (0, .ref h0), (1, .int (nI jv)), (2, .int (nI jl)), (3, .int (nI je))]) hx hb gX12_holds_1.2.1 hl (by decide) rfl (fun ls hl => ?_)
    refine lv_iconst (v := 0) hx hb gX12_holds_1.2.2.1 (by decide) ?_
    refine lv_istore (lv' := [(6, .int 0), (5, .int (nI r0)), (4, .int (nI r0)), (0, .ref h0), (1, .int (nI jv)), (2, .int (nI jl)), (3, .int (nI je))]) hx hb gX12_holds_1.2.2.2.1 hl (by decide) rfl (fun ls hl => ?_)
    refine lv_iload hx hb gX12_holds_1.2.2.2.2.1 (lv_at2 hl) ?_
    refine lv_istore (lv' := [(7, .int (nI r0)), (6, .int 0), (5, .int (nI r0)), (4, .int (nI r0)), (0, .ref h0), (1, .int (nI jv)), (2, .int (nI jl)), (3, .int (nI je))]) hx hb gX12_holds_1.2.2.2.2.2.1 hl (by decide) rfl (fun ls hl => ?_)
    refine lv_iload hx hb gX12_holds_1.2.2.2.2.2.2.1 (lv_at0 hl) ?_
    refine lv_iload hx hb gX12_holds_1.2.2.2.2.2.2.2.1 (lv_at2 hl) ?_
    refine lv_icmp_ge (tgt := 243) hx hb gX12_holds_1.2.2.2.2.2.2.2.2.1 (by decide) (fun _ => ?_) (fun c9 => absurd (Int32.le_refl _) c9)
    refine lv_iload hx hb gX12_holds_13.1 (lv_at3 hl) ?_
    refine lv_iload hx hb gX12_holds_13.2.1 (lv_at2 hl) ?_
    refine lv_icmp_eq (tgt := 260) hx hb gX12_holds_13.2.2.1 (by decide) (fun _ => ?_) (fun c9 => absurd (rfl) c9)
    refine lv_iconst (v := 1) hx hb gX12_holds_13.2.2.2.2.2.2.2.2.2 (by decide) ?_
    refine lv_goto (tgt := 265) hx hb gX12_holds_14.1 (by decide) ?_
    refine toQ hQ0 ?_
    exact RI (v := 1) hC hP hD hS [0, 1, 2] fnp rfl rfl (by decide) (Or.inl ⟨rfl, rfl⟩) (by decide +kernel) gX12_holds_14.2.2
  · refine lv_aload_n hx hb gX12_holds_0.1 rfl (lv_at0 hl) ?_
    refine lv_iload_n hx hb gX12_holds_0.2.1 rfl (lv_at1 hl) ?_
    refine lv_iload_n hx hb gX12_holds_0.2.2.1 rfl (lv_at2 hl) ?_
    refine lv_iconst (v := 4) hx hb gX12_holds_0.2.2.2.1 (by decide) ?_
    refine pV hC hK hl hP hD (m_lineOf l G h0 jv jl 4 nw nk mhasKept nt mtaped nr mrowMany mroundOf mroundFrom 0 nm mfromHour mtoHour ns mfrom mto msort misFault mdeep mcoded mlines nl nc nF np ntr nb mbestCost nso nsi nit nsh nsf nss nrc mtraced mdealer mnumber mwhose msize misParted fnw (hjv) (hjl) (by omega)) si_X12_193 [0, 1] sm_0_1 fm_0_1 nd_0_1 rfl rfl rfl rfl rfl (Nat.le_of_ble_eq_true rfl) rm_6_1_4 ⟨by first | exact Nat.le_of_ble_eq_true rfl | exact Nat.zero_le _, by first | exact Nat.le_of_ble_eq_true rfl | exact Nat.zero_le _⟩ gX12_holds_0.2.2.2.2.1 (Keqr ?_)
    refine eqi (x1 := nI r0) (e4) ?_
    refine lv_istore (lv' := [(4, .int (nI r0)), (0, .ref h0), (1, .int (nI jv)), (2, .int (nI jl)), (3, .int (nI je))]) hx hb gX12_holds_0.2.2.2.2.2.1 hl (by decide) rfl (fun ls hl => ?_)
    refine lv_aload_n hx hb gX12_holds_0.2.2.2.2.2.2.1 rfl (lv_at1 hl) ?_
    refine lv_iload_n hx hb gX12_holds_0.2.2.2.2.2.2.2.1 rfl (lv_at2 hl) ?_
    refine lv_iload_n hx hb gX12_holds_0.2.2.2.2.2.2.2.2.1 rfl (lv_at3 hl) ?_
    refine lv_iconst (v := 5) hx hb gX12_holds_0.2.2.2.2.2.2.2.2.2 (by decide) ?_
    refine pV hC hK hl hP hD (m_lineOf l G h0 jv jl 5 nw nk mhasKept nt mtaped nr mrowMany mroundOf mroundFrom 0 nm mfromHour mtoHour ns mfrom mto msort misFault mdeep mcoded mlines nl nc nF np ntr nb mbestCost nso nsi nit nsh nsf nss nrc mtraced mdealer mnumber mwhose msize misParted fnw (hjv) (hjl) (by omega)) si_X12_193 [0, 1] sm_0_1 fm_0_1 nd_0_1 rfl rfl rfl rfl rfl (Nat.le_of_ble_eq_true rfl) rm_6_1_4 ⟨by first | exact Nat.le_of_ble_eq_true rfl | exact Nat.zero_le _, by first | exact Nat.le_of_ble_eq_true rfl | exact Nat.zero_le _⟩ gX12_holds_1.1 (Keqr ?_)
    refine eqi (x1 := nI r1) (e5) ?_
    refine lv_istore (lv' := [(5, .int (nI r1)), (4, .int (nI r0)), (0, .ref h0), (1, .int (nI jv)), (2, .int (nI jl)), (3, .int (nI je))]) hx hb gX12_holds_1.2.1 hl (by decide) rfl (fun ls hl => ?_)
    refine lv_iconst (v := 0) hx hb gX12_holds_1.2.2.1 (by decide) ?_
    refine lv_istore (lv' := [(6, .int 0), (5, .int (nI r1)), (4, .int (nI r0)), (0, .ref h0), (1, .int (nI jv)), (2, .int (nI jl)), (3, .int (nI je))]) hx hb gX12_holds_1.2.2.2.1 hl (by decide) rfl (fun ls hl => ?_)
    refine lv_iload hx hb gX12_holds_1.2.2.2.2.1 (lv_at2 hl) ?_
    refine lv_istore (lv' := [(7, .int (nI r0)), (6, .int 0), (5, .int (nI r1)), (4, .int (nI r0)), (0, .ref h0), (1, .int (nI jv)), (2, .int (nI jl)), (3, .int (nI je))]) hx hb gX12_holds_1.2.2.2.2.2.1 hl (by decide) rfl (fun ls hl => ?_)
    have keyP : ∀ (nP kP : Nat) (vP : Nat → Int32) (hg : Nat) (H : Heap) (locs : List Loc) (ls : Array Slot), kP + nP = r1 → (r0 ≤ kP) → (hg = ht9 kP) → (hg + r0 ≤ kP) → ((hg, vP) = PRK (FAX (shf fnw 12) (shf fnw 32) (VSE fnw kq) kq je) tr9 fnp (kP - r0)) → va_PD G A [(h0, oX12 nw nk mhasKept nt mtaped nr mrowMany mroundOf mroundFrom 0 nm mfromHour mtoHour ns mfrom mto msort misFault mdeep mcoded mlines nl nc nF np ntr nb mbestCost nso nsi nit nsh nsf nss nrc mtraced mdealer mnumber mwhose msize misParted), (nw, iA G 1662 fnw), (np, iA G 100 vP)] H → va_S A s.heap H locs → lv_has ls 12 [(7, .int (nI kP)), (6, .int (nI hg)), (5, .int (nI r1)), (4, .int (nI r0)), (0, .ref h0), (1, .int (nI jv)), (2, .int (nI jl)), (3, .int (nI je))] → W p l e (RM 6 0 0) s m ([.ref h0, .int (nI jv), .int (nI jl), .int (nI je)] : List Value).toArray below meth c H locs 0 0 Q0 (F0 m 25 ls []) := by
      intro nP
      induction nP with
      | zero =>
        intro kP vP hg H locs ls hkP hha hhb hhc hpr hPD hS hl
        refine Kan2 hPD (fun hP hD => ?_)
        obtain rfl : r1 = kP := by omega
        have hl : lv_has ls 12 [(7, .int (nI r1)), (6, .int (nI hg)), (5, .int (nI r1)), (4, .int (nI r0)), (0, .ref h0), (1, .int (nI jv)), (2, .int (nI jl)), (3, .int (nI je))] := hl
        refine lv_iload hx hb gX12_holds_1.2.2.2.2.2.2.1 (lv_at0 hl) ?_
        refine lv_iload hx hb gX12_holds_1.2.2.2.2.2.2.2.1 (lv_at2 hl) ?_
        refine lv_icmp_ge (tgt := 243) hx hb gX12_holds_1.2.2.2.2.2.2.2.2.1 (by decide) (fun _ => ?_) (fun c9 => absurd (Int32.le_refl _) c9)
        have hln9 := hsm9.len
        refine lv_iload hx hb gX12_holds_13.1 (lv_at3 hl) ?_
        refine lv_iload hx hb gX12_holds_13.2.1 (lv_at2 hl) ?_
        refine lv_icmp_eq (tgt := 260) hx hb gX12_holds_13.2.2.1 (by decide) (fun c9 => absurd c9 (fun h9 => absurd ((nI_eq (by omega) (by omega)).mp h9) (by omega))) (fun _ => ?_)
        refine lv_aload_n hx hb gX12_holds_13.2.2.2.1 rfl (lv_at4 hl) ?_
        refine gf_X12_54 hC rfl hK hP 0 rfl rfl gX12_holds_13.2.2.2.2.1 ?_
        refine lv_iconst (v := 0) hx hb gX12_holds_13.2.2.2.2.2.1 (by decide) ?_
        refine ald hC hK hP 2 rfl (vin (by decide +kernel)) (k := 0) (by decide +kernel) (v := vP 0) (rfl) gX12_holds_13.2.2.2.2.2.2.1 ?_
        refine lv_iconst (v := 1) hx hb gX12_holds_13.2.2.2.2.2.2.2.1 (by decide) ?_
        refine lv_icmp_ne (tgt := 264) hx hb gX12_holds_13.2.2.2.2.2.2.2.2.1 (by decide) (fun c_257_9852 => ?_) (fun c_257_9852 => ?_)
        · refine lv_iconst (v := 0) hx hb gX12_holds_14.2.1 (by decide) ?_
          refine toQ hQ0 ?_
          exact RI (v := 0) hC hP hD hS [0, 1, 2] vP rfl rfl (by decide) (Or.inr ⟨rfl, fun h9 => c_257_9852 ((hsm9.tru (hpr.trans (PRK.all (by omega)))).mpr h9)⟩) (by decide +kernel) gX12_holds_14.2.2
        · refine lv_iconst (v := 1) hx hb gX12_holds_13.2.2.2.2.2.2.2.2.2 (by decide) ?_
          refine lv_goto (tgt := 265) hx hb gX12_holds_14.1 (by decide) ?_
          refine toQ hQ0 ?_
          exact RI (v := 1) hC hP hD hS [0, 1, 2] vP rfl rfl (by decide) (Or.inl ⟨rfl, (hsm9.tru (hpr.trans (PRK.all (by omega)))).mp c_257_9852⟩) (by decide +kernel) gX12_holds_14.2.2
      | succ nP ihP =>
        intro kP vP hg H locs ls hkP hha hhb hhc hpr hPD hS hl
        refine Kan2 hPD (fun hP hD => ?_)
        refine lv_iload hx hb gX12_holds_1.2.2.2.2.2.2.1 (lv_at0 hl) ?_
        refine lv_iload hx hb gX12_holds_1.2.2.2.2.2.2.2.1 (lv_at2 hl) ?_
        refine lv_icmp_ge (tgt := 243) hx hb gX12_holds_1.2.2.2.2.2.2.2.2.1 (by decide) (fun c9 => absurd c9 (nI_ge (a := kP) (b := r1) (by omega) (by omega))) (fun _ => ?_)
        refine lv_aload_n hx hb gX12_holds_1.2.2.2.2.2.2.2.2.2 rfl (lv_at4 hl) ?_
        refine gf_X12_9 hC rfl hK hP 0 rfl rfl gX12_holds_2.1 ?_
        refine lv_sipush (v := 176) hx hb gX12_holds_2.2.1 (by decide) ?_
        refine lv_sipush (v := 156) hx hb gX12_holds_2.2.2.1 (by decide) ?_
        refine lv_iload_n hx hb gX12_holds_2.2.2.2.1 rfl (lv_at5 hl) ?_
        refine lv_imul hx hb gX12_holds_2.2.2.2.2.1 ?_
        refine eqi (x1 := nI (156 * jv)) (nI_mul 156 jv) ?_
        refine lv_iadd hx hb gX12_holds_2.2.2.2.2.2.1 ?_
        refine eqi (x1 := nI (176 + 156 * jv)) (nI_add 176 (156 * jv)) ?_
        refine lv_bipush (v := 56) hx hb gX12_holds_2.2.2.2.2.2.2.1 (by decide) ?_
        refine lv_iadd hx hb gX12_holds_2.2.2.2.2.2.2.2.1 ?_
        refine eqi (x1 := nI (176 + 156 * jv + 56)) (nI_add (176 + 156 * jv) 56) ?_
        refine lv_iload hx hb gX12_holds_2.2.2.2.2.2.2.2.2.1 (lv_at0 hl) ?_
        refine lv_iadd hx hb gX12_holds_2.2.2.2.2.2.2.2.2.2 ?_
        refine eqi (x1 := nI (176 + 156 * jv + 56 + kP)) (nI_add (176 + 156 * jv + 56) kP) ?_
        refine aldN hC hK hP 1 rfl (k := (176 + 156 * jv + 56 + kP)) (by omega) (Nat.le_of_ble_eq_true rfl) (v := fnw (176 + 156 * jv + 56 + kP)) rfl gX12_holds_3.1 ?_
        have hcd := hcd9 (kP - r0) (by omega)
        rw [show r0 + (kP - r0) = kP by omega] at hcd
        rcases hsm9.2.1 (tr9.getD (kP - r0) 0) (getD_mem (by omega)) with ev9 | ev9 | ev9 | ⟨jv9, hjv9, ev9⟩
        · have hs9 := STEP.no (hst9 kP (by omega) (by omega)) (hcd.trans ev9).symm (by decide) rfl
          refine eqi (x1 := 30000) (hcd.trans ev9) ?_
          refine lv_istore (lv' := [(8, .int 30000), (7, .int (nI kP)), (6, .int (nI hg)), (5, .int (nI r1)), (4, .int (nI r0)), (0, .ref h0), (1, .int (nI jv)), (2, .int (nI jl)), (3, .int (nI je))]) hx hb gX12_holds_3.2.1 hl (by decide) rfl (fun ls hl => ?_)
          refine lv_iload hx hb gX12_holds_3.2.2.1 (lv_at0 hl) ?_
          refine lv_sipush (v := 30000) hx hb gX12_holds_3.2.2.2.1 (by decide) ?_
          refine lv_icmp_ge (tgt := 149) hx hb gX12_holds_3.2.2.2.2.1 (by decide) (fun _ => ?_) (fun c9 => absurd (by decide) c9)
          refine lv_iload hx hb gX12_holds_7.2.2.2.2.2.2.2.1 (lv_at0 hl) ?_
          refine lv_sipush (v := 30000) hx hb gX12_holds_7.2.2.2.2.2.2.2.2.1 (by decide) ?_
          refine lv_icmp_ne (tgt := 180) hx hb gX12_holds_7.2.2.2.2.2.2.2.2.2 (by decide) (fun c9 => absurd (by decide) c9) (fun _ => ?_)
          refine lv_aload_n hx hb gX12_holds_8.1 rfl (lv_at5 hl) ?_
          refine gf_X12_54 hC rfl hK hP 0 rfl rfl gX12_holds_8.2.1 ?_
          refine lv_iload hx hb gX12_holds_8.2.2.1 (lv_at2 hl) ?_
          refine lv_iconst (v := 1) hx hb gX12_holds_8.2.2.2.1 (by decide) ?_
          refine lv_isub hx hb gX12_holds_8.2.2.2.2.1 ?_
          refine eqi (x1 := nI (hg - 1)) (nI_sb (by omega)) ?_
          refine lv_iconst (v := 1) hx hb gX12_holds_8.2.2.2.2.2.1 (by decide) ?_
          refine lv_aload_n hx hb gX12_holds_8.2.2.2.2.2.2.1 rfl (lv_at5 hl) ?_
          refine gf_X12_54 hC rfl hK hP 0 rfl rfl gX12_holds_8.2.2.2.2.2.2.2.1 ?_
          refine lv_iload hx hb gX12_holds_8.2.2.2.2.2.2.2.2.1 (lv_at2 hl) ?_
          refine lv_iconst (v := 1) hx hb gX12_holds_8.2.2.2.2.2.2.2.2.2 (by decide) ?_
          refine lv_isub hx hb gX12_holds_9.1 ?_
          refine eqi (x1 := nI (hg - 1)) (nI_sb (by omega)) ?_
          refine aldN hC hK hP 2 rfl (k := (hg - 1)) (by omega) (Nat.le_of_ble_eq_true rfl) (v := vP (hg - 1)) rfl gX12_holds_9.2.1 ?_
          refine lv_isub hx hb gX12_holds_9.2.2.1 ?_
          refine astN hC hK hP hD hS 2 (ws' := [(h0, oX12 nw nk mhasKept nt mtaped nr mrowMany mroundOf mroundFrom 0 nm mfromHour mtoHour ns mfrom mto msort misFault mdeep mcoded mlines nl nc nF np ntr nb mbestCost nso nsi nit nsh nsf nss nrc mtraced mdealer mnumber mwhose msize misParted), (nw, iA G 1662 fnw), (np, iA G 100 (upd vP (hg - 1) (1 - (vP (hg - 1)))))]) rfl (k := (hg - 1)) (by omega) (Nat.le_of_ble_eq_true rfl) (rfl) gX12_holds_9.2.2.2.1 (fun H locs hP hD hS => ?_)
          refine lv_goto (tgt := 237) hx hb gX12_holds_9.2.2.2.2.1 (by decide) ?_
          refine lv_iinc (v := nI (kP + 1)) (lv' := [(7, .int (nI (kP + 1))), (8, .int 30000), (6, .int (nI hg)), (5, .int (nI r1)), (4, .int (nI r0)), (0, .ref h0), (1, .int (nI jv)), (2, .int (nI jl)), (3, .int (nI je))]) hx hb gX12_holds_12.2.2.2.2.2.2.2.2.1 hl (k := 1) rfl (nI_1 _) (by decide) rfl (fun ls hl => ?_)
          refine lv_goto (tgt := 25) hx hb gX12_holds_12.2.2.2.2.2.2.2.2.2 (by decide) ?_
          have hst8 : (hg, upd vP (hg - 1) (1 - (vP (hg - 1)))) = PRK (FAX (shf fnw 12) (shf fnw 32) (VSE fnw kq) kq je) tr9 fnp (kP + 1 - r0) := PRK.nt hpr (by omega) (by omega) ev9
          exact ihP (kP + 1) (upd vP (hg - 1) (1 - (vP (hg - 1)))) hg _ _ _ (by omega) (by first | assumption | exact Or.inl rfl | exact Or.inr rfl | omega | exact h09.symm | exact PRK.zero (by omega)) (by first | assumption | exact Or.inl rfl | exact Or.inr rfl | omega | exact h09.symm | exact PRK.zero (by omega)) (by first | assumption | exact Or.inl rfl | exact Or.inr rfl | omega | exact h09.symm | exact PRK.zero (by omega)) (by first | assumption | exact Or.inl rfl | exact Or.inr rfl | omega | exact h09.symm | exact PRK.zero (by omega)) (And.intro hP hD) hS (lv_sub hl [0, 2, 3, 4, 5, 6, 7, 8] rfl)
        · have hs9 := STEP.op (hst9 kP (by omega) (by omega)) (hcd.trans ev9).symm (by decide) (by decide)
          refine eqi (x1 := 30001) (hcd.trans ev9) ?_
          refine lv_istore (lv' := [(8, .int 30001), (7, .int (nI kP)), (6, .int (nI hg)), (5, .int (nI r1)), (4, .int (nI r0)), (0, .ref h0), (1, .int (nI jv)), (2, .int (nI jl)), (3, .int (nI je))]) hx hb gX12_holds_3.2.1 hl (by decide) rfl (fun ls hl => ?_)
          refine lv_iload hx hb gX12_holds_3.2.2.1 (lv_at0 hl) ?_
          refine lv_sipush (v := 30000) hx hb gX12_holds_3.2.2.2.1 (by decide) ?_
          refine lv_icmp_ge (tgt := 149) hx hb gX12_holds_3.2.2.2.2.1 (by decide) (fun _ => ?_) (fun c9 => absurd (by decide) c9)
          refine lv_iload hx hb gX12_holds_7.2.2.2.2.2.2.2.1 (lv_at0 hl) ?_
          refine lv_sipush (v := 30000) hx hb gX12_holds_7.2.2.2.2.2.2.2.2.1 (by decide) ?_
          refine lv_icmp_ne (tgt := 180) hx hb gX12_holds_7.2.2.2.2.2.2.2.2.2 (by decide) (fun _ => ?_) (fun c9 => absurd c9 (by decide))
          refine lv_iinc (v := nI (hg - 1)) (lv' := [(6, .int (nI (hg - 1))), (8, .int 30001), (7, .int (nI kP)), (5, .int (nI r1)), (4, .int (nI r0)), (0, .ref h0), (1, .int (nI jv)), (2, .int (nI jl)), (3, .int (nI je))]) hx hb gX12_holds_9.2.2.2.2.2.1 hl (k := 2) rfl ((nI_dec hg).trans (nI_sb (by omega))) (by decide) rfl (fun ls hl => ?_)
          refine lv_aload_n hx hb gX12_holds_9.2.2.2.2.2.2.1 rfl (lv_at5 hl) ?_
          refine gf_X12_54 hC rfl hK hP 0 rfl rfl gX12_holds_9.2.2.2.2.2.2.2.1 ?_
          refine lv_iload hx hb gX12_holds_9.2.2.2.2.2.2.2.2.1 (lv_at0 hl) ?_
          refine lv_iconst (v := 1) hx hb gX12_holds_9.2.2.2.2.2.2.2.2.2 (by decide) ?_
          refine lv_isub hx hb gX12_holds_10.1 ?_
          refine eqi (x1 := nI ((hg - 1) - 1)) (nI_sb (by omega)) ?_
          refine lv_iload hx hb gX12_holds_10.2.1 (lv_at1 hl) ?_
          refine lv_sipush (v := 30001) hx hb gX12_holds_10.2.2.1 (by decide) ?_
          refine lv_icmp_ne (tgt := 219) hx hb gX12_holds_10.2.2.2.1 (by decide) (fun c9 => absurd (by decide) c9) (fun _ => ?_)
          refine lv_aload_n hx hb gX12_holds_10.2.2.2.2.1 rfl (lv_at5 hl) ?_
          refine gf_X12_54 hC rfl hK hP 0 rfl rfl gX12_holds_10.2.2.2.2.2.1 ?_
          refine lv_iload hx hb gX12_holds_10.2.2.2.2.2.2.1 (lv_at0 hl) ?_
          refine lv_iconst (v := 1) hx hb gX12_holds_10.2.2.2.2.2.2.2.1 (by decide) ?_
          refine lv_isub hx hb gX12_holds_10.2.2.2.2.2.2.2.2.1 ?_
          refine eqi (x1 := nI ((hg - 1) - 1)) (nI_sb (by omega)) ?_
          refine aldN hC hK hP 2 rfl (k := ((hg - 1) - 1)) (by omega) (Nat.le_of_ble_eq_true rfl) (v := vP ((hg - 1) - 1)) rfl gX12_holds_10.2.2.2.2.2.2.2.2.2 ?_
          refine lv_aload_n hx hb gX12_holds_11.1 rfl (lv_at5 hl) ?_
          refine gf_X12_54 hC rfl hK hP 0 rfl rfl gX12_holds_11.2.1 ?_
          refine lv_iload hx hb gX12_holds_11.2.2.1 (lv_at0 hl) ?_
          refine aldN hC hK hP 2 rfl (k := (hg - 1)) (by omega) (Nat.le_of_ble_eq_true rfl) (v := vP (hg - 1)) rfl gX12_holds_11.2.2.2.1 ?_
          refine lv_iand hx hb gX12_holds_11.2.2.2.2.1 ?_
          refine lv_goto (tgt := 236) hx hb gX12_holds_11.2.2.2.2.2.1 (by decide) ?_
          refine astN hC hK hP hD hS 2 (ws' := [(h0, oX12 nw nk mhasKept nt mtaped nr mrowMany mroundOf mroundFrom 0 nm mfromHour mtoHour ns mfrom mto msort misFault mdeep mcoded mlines nl nc nF np ntr nb mbestCost nso nsi nit nsh nsf nss nrc mtraced mdealer mnumber mwhose msize misParted), (nw, iA G 1662 fnw), (np, iA G 100 (upd vP ((hg - 1) - 1) ((vP ((hg - 1) - 1)) &&& (vP (hg - 1)))))]) rfl (k := ((hg - 1) - 1)) (by omega) (Nat.le_of_ble_eq_true rfl) (rfl) gX12_holds_12.2.2.2.2.2.2.2.1 (fun H locs hP hD hS => ?_)
          refine lv_iinc (v := nI (kP + 1)) (lv' := [(7, .int (nI (kP + 1))), (6, .int (nI (hg - 1))), (8, .int 30001), (5, .int (nI r1)), (4, .int (nI r0)), (0, .ref h0), (1, .int (nI jv)), (2, .int (nI jl)), (3, .int (nI je))]) hx hb gX12_holds_12.2.2.2.2.2.2.2.2.1 hl (k := 2) rfl (nI_1 _) (by decide) rfl (fun ls hl => ?_)
          refine lv_goto (tgt := 25) hx hb gX12_holds_12.2.2.2.2.2.2.2.2.2 (by decide) ?_
          have hst8 : ((hg - 1), upd vP ((hg - 1) - 1) ((vP ((hg - 1) - 1)) &&& (vP (hg - 1)))) = PRK (FAX (shf fnw 12) (shf fnw 32) (VSE fnw kq) kq je) tr9 fnp (kP + 1 - r0) := PRK.an hpr (by omega) (by omega) ev9
          exact ihP (kP + 1) (upd vP ((hg - 1) - 1) ((vP ((hg - 1) - 1)) &&& (vP (hg - 1)))) (hg - 1) _ _ _ (by omega) (by first | assumption | exact Or.inl rfl | exact Or.inr rfl | omega | exact h09.symm | exact PRK.zero (by omega)) (by first | assumption | exact Or.inl rfl | exact Or.inr rfl | omega | exact h09.symm | exact PRK.zero (by omega)) (by first | assumption | exact Or.inl rfl | exact Or.inr rfl | omega | exact h09.symm | exact PRK.zero (by omega)) (by first | assumption | exact Or.inl rfl | exact Or.inr rfl | omega | exact h09.symm | exact PRK.zero (by omega)) (And.intro hP hD) hS (lv_sub hl [0, 1, 3, 4, 5, 6, 7, 8] rfl)
        · have hs9 := STEP.op (hst9 kP (by omega) (by omega)) (hcd.trans ev9).symm (by decide) (by decide)
          refine eqi (x1 := 30002) (hcd.trans ev9) ?_
          refine lv_istore (lv' := [(8, .int 30002), (7, .int (nI kP)), (6, .int (nI hg)), (5, .int (nI r1)), (4, .int (nI r0)), (0, .ref h0), (1, .int (nI jv)), (2, .int (nI jl)), (3, .int (nI je))]) hx hb gX12_holds_3.2.1 hl (by decide) rfl (fun ls hl => ?_)
          refine lv_iload hx hb gX12_holds_3.2.2.1 (lv_at0 hl) ?_
          refine lv_sipush (v := 30000) hx hb gX12_holds_3.2.2.2.1 (by decide) ?_
          refine lv_icmp_ge (tgt := 149) hx hb gX12_holds_3.2.2.2.2.1 (by decide) (fun _ => ?_) (fun c9 => absurd (by decide) c9)
          refine lv_iload hx hb gX12_holds_7.2.2.2.2.2.2.2.1 (lv_at0 hl) ?_
          refine lv_sipush (v := 30000) hx hb gX12_holds_7.2.2.2.2.2.2.2.2.1 (by decide) ?_
          refine lv_icmp_ne (tgt := 180) hx hb gX12_holds_7.2.2.2.2.2.2.2.2.2 (by decide) (fun _ => ?_) (fun c9 => absurd c9 (by decide))
          refine lv_iinc (v := nI (hg - 1)) (lv' := [(6, .int (nI (hg - 1))), (8, .int 30002), (7, .int (nI kP)), (5, .int (nI r1)), (4, .int (nI r0)), (0, .ref h0), (1, .int (nI jv)), (2, .int (nI jl)), (3, .int (nI je))]) hx hb gX12_holds_9.2.2.2.2.2.1 hl (k := 2) rfl ((nI_dec hg).trans (nI_sb (by omega))) (by decide) rfl (fun ls hl => ?_)
          refine lv_aload_n hx hb gX12_holds_9.2.2.2.2.2.2.1 rfl (lv_at5 hl) ?_
          refine gf_X12_54 hC rfl hK hP 0 rfl rfl gX12_holds_9.2.2.2.2.2.2.2.1 ?_
          refine lv_iload hx hb gX12_holds_9.2.2.2.2.2.2.2.2.1 (lv_at0 hl) ?_
          refine lv_iconst (v := 1) hx hb gX12_holds_9.2.2.2.2.2.2.2.2.2 (by decide) ?_
          refine lv_isub hx hb gX12_holds_10.1 ?_
          refine eqi (x1 := nI ((hg - 1) - 1)) (nI_sb (by omega)) ?_
          refine lv_iload hx hb gX12_holds_10.2.1 (lv_at1 hl) ?_
          refine lv_sipush (v := 30001) hx hb gX12_holds_10.2.2.1 (by decide) ?_
          refine lv_icmp_ne (tgt := 219) hx hb gX12_holds_10.2.2.2.1 (by decide) (fun _ => ?_) (fun c9 => absurd c9 (by decide))
          refine lv_aload_n hx hb gX12_holds_11.2.2.2.2.2.2.1 rfl (lv_at5 hl) ?_
          refine gf_X12_54 hC rfl hK hP 0 rfl rfl gX12_holds_11.2.2.2.2.2.2.2.1 ?_
          refine lv_iload hx hb gX12_holds_11.2.2.2.2.2.2.2.2.1 (lv_at0 hl) ?_
          refine lv_iconst (v := 1) hx hb gX12_holds_11.2.2.2.2.2.2.2.2.2 (by decide) ?_
          refine lv_isub hx hb gX12_holds_12.1 ?_
          refine eqi (x1 := nI ((hg - 1) - 1)) (nI_sb (by omega)) ?_
          refine aldN hC hK hP 2 rfl (k := ((hg - 1) - 1)) (by omega) (Nat.le_of_ble_eq_true rfl) (v := vP ((hg - 1) - 1)) rfl gX12_holds_12.2.1 ?_
          refine lv_aload_n hx hb gX12_holds_12.2.2.1 rfl (lv_at5 hl) ?_
          refine gf_X12_54 hC rfl hK hP 0 rfl rfl gX12_holds_12.2.2.2.1 ?_
          refine lv_iload hx hb gX12_holds_12.2.2.2.2.1 (lv_at0 hl) ?_
          refine aldN hC hK hP 2 rfl (k := (hg - 1)) (by omega) (Nat.le_of_ble_eq_true rfl) (v := vP (hg - 1)) rfl gX12_holds_12.2.2.2.2.2.1 ?_
          refine lv_ior hx hb gX12_holds_12.2.2.2.2.2.2.1 ?_
          refine astN hC hK hP hD hS 2 (ws' := [(h0, oX12 nw nk mhasKept nt mtaped nr mrowMany mroundOf mroundFrom 0 nm mfromHour mtoHour ns mfrom mto msort misFault mdeep mcoded mlines nl nc nF np ntr nb mbestCost nso nsi nit nsh nsf nss nrc mtraced mdealer mnumber mwhose msize misParted), (nw, iA G 1662 fnw), (np, iA G 100 (upd vP ((hg - 1) - 1) ((vP ((hg - 1) - 1)) ||| (vP (hg - 1)))))]) rfl (k := ((hg - 1) - 1)) (by omega) (Nat.le_of_ble_eq_true rfl) (rfl) gX12_holds_12.2.2.2.2.2.2.2.1 (fun H locs hP hD hS => ?_)
          refine lv_iinc (v := nI (kP + 1)) (lv' := [(7, .int (nI (kP + 1))), (6, .int (nI (hg - 1))), (8, .int 30002), (5, .int (nI r1)), (4, .int (nI r0)), (0, .ref h0), (1, .int (nI jv)), (2, .int (nI jl)), (3, .int (nI je))]) hx hb gX12_holds_12.2.2.2.2.2.2.2.2.1 hl (k := 2) rfl (nI_1 _) (by decide) rfl (fun ls hl => ?_)
          refine lv_goto (tgt := 25) hx hb gX12_holds_12.2.2.2.2.2.2.2.2.2 (by decide) ?_
          have hst8 : ((hg - 1), upd vP ((hg - 1) - 1) ((vP ((hg - 1) - 1)) ||| (vP (hg - 1)))) = PRK (FAX (shf fnw 12) (shf fnw 32) (VSE fnw kq) kq je) tr9 fnp (kP + 1 - r0) := PRK.or hpr (by omega) (by omega) ev9
          exact ihP (kP + 1) (upd vP ((hg - 1) - 1) ((vP ((hg - 1) - 1)) ||| (vP (hg - 1)))) (hg - 1) _ _ _ (by omega) (by first | assumption | exact Or.inl rfl | exact Or.inr rfl | omega | exact h09.symm | exact PRK.zero (by omega)) (by first | assumption | exact Or.inl rfl | exact Or.inr rfl | omega | exact h09.symm | exact PRK.zero (by omega)) (by first | assumption | exact Or.inl rfl | exact Or.inr rfl | omega | exact h09.symm | exact PRK.zero (by omega)) (by first | assumption | exact Or.inl rfl | exact Or.inr rfl | omega | exact h09.symm | exact PRK.zero (by omega)) (And.intro hP hD) hS (lv_sub hl [0, 1, 3, 4, 5, 6, 7, 8] rfl)
        · have hs9 := STEP.lt (hst9 kP (by omega) (by omega)) (hcd.trans ev9).symm (nI_ge (a := jv9) (b := 30000) (by omega) (by omega))
          refine eqi (x1 := nI jv9) (hcd.trans ev9) ?_
          refine lv_istore (lv' := [(8, .int (nI jv9)), (7, .int (nI kP)), (6, .int (nI hg)), (5, .int (nI r1)), (4, .int (nI r0)), (0, .ref h0), (1, .int (nI jv)), (2, .int (nI jl)), (3, .int (nI je))]) hx hb gX12_holds_3.2.1 hl (by decide) rfl (fun ls hl => ?_)
          refine lv_iload hx hb gX12_holds_3.2.2.1 (lv_at0 hl) ?_
          refine lv_sipush (v := 30000) hx hb gX12_holds_3.2.2.2.1 (by decide) ?_
          refine lv_icmp_ge (tgt := 149) hx hb gX12_holds_3.2.2.2.2.1 (by decide) (fun c9 => absurd c9 (nI_ge (a := jv9) (b := 30000) (by omega) (by omega))) (fun _ => ?_)
          refine lv_aload_n hx hb gX12_holds_3.2.2.2.2.2.1 rfl (lv_at5 hl) ?_
          refine lv_iload hx hb gX12_holds_3.2.2.2.2.2.2.1 (lv_at0 hl) ?_
          refine lv_sipush (v := 3000) hx hb gX12_holds_3.2.2.2.2.2.2.2.1 (by decide) ?_
          refine lv_idiv hx hb gX12_holds_3.2.2.2.2.2.2.2.2.1 (by decide) ?_
          refine eqi (x1 := nI (jv9 / 3000)) (pk_div (d := 3000) (by omega) (by decide) (by decide)) ?_
          refine lv_iload_n hx hb gX12_holds_3.2.2.2.2.2.2.2.2.2 rfl (lv_at8 hl) ?_
          refine pV hC hK hl hP hD (m_factOfX l G kq h0 (jv9 / 3000) je nw nk mhasKept nt mtaped nr mrowMany mroundOf mroundFrom nm mfromHour mtoHour ns mfrom mto msort misFault mdeep mcoded mlines nl nc nF np ntr nb mbestCost nso nsi nit nsh nsf nss nrc mtraced mdealer mnumber mwhose msize misParted fnw (hN) (ekq) (hkq) (hje) (by omega)) si_X12_295 [0, 1] sm_0_1 fm_0_1 nd_0_1 rfl rfl rfl rfl rfl (Nat.le_of_ble_eq_true rfl) rm_6_5_3 ⟨by first | exact Nat.le_of_ble_eq_true rfl | exact Nat.zero_le _, by first | exact Nat.le_of_ble_eq_true rfl | exact Nat.zero_le _⟩ gX12_holds_4.1 (Keqr ?_)
          refine lv_istore (lv' := [(9, .int ((FAX (shf fnw 12) (shf fnw 32) (VSE fnw kq) kq je) (jv9 / 3000))), (8, .int (nI jv9)), (7, .int (nI kP)), (6, .int (nI hg)), (5, .int (nI r1)), (4, .int (nI r0)), (0, .ref h0), (1, .int (nI jv)), (2, .int (nI jl)), (3, .int (nI je))]) hx hb gX12_holds_4.2.1 hl (by decide) rfl (fun ls hl => ?_)
          refine lv_iload hx hb gX12_holds_4.2.2.1 (lv_at1 hl) ?_
          refine lv_sipush (v := 1000) hx hb gX12_holds_4.2.2.2.1 (by decide) ?_
          refine lv_irem hx hb gX12_holds_4.2.2.2.2.1 (by decide) ?_
          refine eqi (x1 := nI (jv9 % 1000)) (pk_rem (d := 1000) (by omega) (by decide) (by decide)) ?_
          refine lv_istore (lv' := [(10, .int (nI (jv9 % 1000))), (9, .int ((FAX (shf fnw 12) (shf fnw 32) (VSE fnw kq) kq je) (jv9 / 3000))), (8, .int (nI jv9)), (7, .int (nI kP)), (6, .int (nI hg)), (5, .int (nI r1)), (4, .int (nI r0)), (0, .ref h0), (1, .int (nI jv)), (2, .int (nI jl)), (3, .int (nI je))]) hx hb gX12_holds_4.2.2.2.2.2.1 hl (by decide) rfl (fun ls hl => ?_)
          refine lv_iload hx hb gX12_holds_4.2.2.2.2.2.2.1 (lv_at2 hl) ?_
          refine lv_sipush (v := 1000) hx hb gX12_holds_4.2.2.2.2.2.2.2.1 (by decide) ?_
          refine lv_idiv hx hb gX12_holds_4.2.2.2.2.2.2.2.2.1 (by decide) ?_
          refine eqi (x1 := nI (jv9 / 1000)) (pk_div (d := 1000) (by omega) (by decide) (by decide)) ?_
          refine lv_iconst (v := 3) hx hb gX12_holds_4.2.2.2.2.2.2.2.2.2 (by decide) ?_
          refine lv_irem hx hb gX12_holds_5.1 (by decide) ?_
          refine eqi (x1 := nI ((jv9 / 1000) % 3)) (pk_rem (d := 3) (by omega) (by decide) (by decide)) ?_
          refine lv_istore (lv' := [(11, .int (nI ((jv9 / 1000) % 3))), (10, .int (nI (jv9 % 1000))), (9, .int ((FAX (shf fnw 12) (shf fnw 32) (VSE fnw kq) kq je) (jv9 / 3000))), (8, .int (nI jv9)), (7, .int (nI kP)), (6, .int (nI hg)), (5, .int (nI r1)), (4, .int (nI r0)), (0, .ref h0), (1, .int (nI jv)), (2, .int (nI jl)), (3, .int (nI je))]) hx hb gX12_holds_5.2.1 hl (by decide) rfl (fun ls hl => ?_)
          refine lv_aload_n hx hb gX12_holds_5.2.2.1 rfl (lv_at8 hl) ?_
          refine gf_X12_54 hC rfl hK hP 0 rfl rfl gX12_holds_5.2.2.2.1 ?_
          refine lv_iload hx hb gX12_holds_5.2.2.2.2.1 (lv_at5 hl) ?_
          refine lv_iload hx hb gX12_holds_5.2.2.2.2.2.1 (lv_at0 hl) ?_
          refine lv_if_ne (tgt := 114) hx hb gX12_holds_5.2.2.2.2.2.2.1 (by decide) (fun c_101_9855 => ?_) (fun c_101_9855 => ?_)
          · refine lv_iload hx hb gX12_holds_6.2.1 (lv_at0 hl) ?_
            refine lv_iconst (v := 1) hx hb gX12_holds_6.2.2.1 (by decide) ?_
            refine lv_icmp_ne (tgt := 130) hx hb gX12_holds_6.2.2.2.1 (by decide) (fun c_117_9856 => ?_) (fun c_117_9856 => ?_)
            · refine lv_iload hx hb gX12_holds_6.2.2.2.2.2.2.2.2.1 (lv_at2 hl) ?_
              refine lv_iload hx hb gX12_holds_6.2.2.2.2.2.2.2.2.2 (lv_at1 hl) ?_
              refine lv_icmp_le (tgt := 141) hx hb gX12_holds_7.1 (by decide) (fun c_134_9857 => ?_) (fun c_134_9857 => ?_)
              · refine lv_iconst (v := 0) hx hb gX12_holds_7.2.2.2.1 (by decide) ?_
                refine astN hC hK hP hD hS 2 (ws' := [(h0, oX12 nw nk mhasKept nt mtaped nr mrowMany mroundOf mroundFrom 0 nm mfromHour mtoHour ns mfrom mto msort misFault mdeep mcoded mlines nl nc nF np ntr nb mbestCost nso nsi nit nsh nsf nss nrc mtraced mdealer mnumber mwhose msize misParted), (nw, iA G 1662 fnw), (np, iA G 100 (upd vP hg 0))]) rfl (k := hg) (by omega) (Nat.le_of_ble_eq_true rfl) (rfl) gX12_holds_7.2.2.2.2.1 (fun H locs hP hD hS => ?_)
                refine lv_iinc (v := nI (hg + 1)) (lv' := [(6, .int (nI (hg + 1))), (11, .int (nI ((jv9 / 1000) % 3))), (10, .int (nI (jv9 % 1000))), (9, .int ((FAX (shf fnw 12) (shf fnw 32) (VSE fnw kq) kq je) (jv9 / 3000))), (8, .int (nI jv9)), (7, .int (nI kP)), (5, .int (nI r1)), (4, .int (nI r0)), (0, .ref h0), (1, .int (nI jv)), (2, .int (nI jl)), (3, .int (nI je))]) hx hb gX12_holds_7.2.2.2.2.2.1 hl (k := 5) rfl (nI_1 _) (by decide) rfl (fun ls hl => ?_)
                refine lv_goto (tgt := 237) hx hb gX12_holds_7.2.2.2.2.2.2.1 (by decide) ?_
                refine lv_iinc (v := nI (kP + 1)) (lv' := [(7, .int (nI (kP + 1))), (6, .int (nI (hg + 1))), (11, .int (nI ((jv9 / 1000) % 3))), (10, .int (nI (jv9 % 1000))), (9, .int ((FAX (shf fnw 12) (shf fnw 32) (VSE fnw kq) kq je) (jv9 / 3000))), (8, .int (nI jv9)), (5, .int (nI r1)), (4, .int (nI r0)), (0, .ref h0), (1, .int (nI jv)), (2, .int (nI jl)), (3, .int (nI je))]) hx hb gX12_holds_12.2.2.2.2.2.2.2.2.1 hl (k := 5) rfl (nI_1 _) (by decide) rfl (fun ls hl => ?_)
                refine lv_goto (tgt := 25) hx hb gX12_holds_12.2.2.2.2.2.2.2.2.2 (by decide) ?_
                have hst8 : ((hg + 1), upd vP hg 0) = PRK (FAX (shf fnw 12) (shf fnw 32) (VSE fnw kq) kq je) tr9 fnp (kP + 1 - r0) := PRK.fa0 hpr (by omega) (by omega) ev9 hjv9 (SOV.g3 (fun h9 => c_101_9855 (congrArg nI h9)) (fun h9 => c_117_9856 (congrArg nI h9)) (decide_eq_false (Int32.not_lt.mpr c_134_9857)))
                exact ihP (kP + 1) (upd vP hg 0) (hg + 1) _ _ _ (by omega) (by first | assumption | exact Or.inl rfl | exact Or.inr rfl | omega | exact h09.symm | exact PRK.zero (by omega)) (by first | assumption | exact Or.inl rfl | exact Or.inr rfl | omega | exact h09.symm | exact PRK.zero (by omega)) (by first | assumption | exact Or.inl rfl | exact Or.inr rfl | omega | exact h09.symm | exact PRK.zero (by omega)) (by first | assumption | exact Or.inl rfl | exact Or.inr rfl | omega | exact h09.symm | exact PRK.zero (by omega)) (And.intro hP hD) hS (lv_sub hl [0, 1, 6, 7, 8, 9, 10, 11] rfl)
              · refine lv_iconst (v := 1) hx hb gX12_holds_7.2.1 (by decide) ?_
                refine lv_goto (tgt := 142) hx hb gX12_holds_7.2.2.1 (by decide) ?_
                refine astN hC hK hP hD hS 2 (ws' := [(h0, oX12 nw nk mhasKept nt mtaped nr mrowMany mroundOf mroundFrom 0 nm mfromHour mtoHour ns mfrom mto msort misFault mdeep mcoded mlines nl nc nF np ntr nb mbestCost nso nsi nit nsh nsf nss nrc mtraced mdealer mnumber mwhose msize misParted), (nw, iA G 1662 fnw), (np, iA G 100 (upd vP hg 1))]) rfl (k := hg) (by omega) (Nat.le_of_ble_eq_true rfl) (rfl) gX12_holds_7.2.2.2.2.1 (fun H locs hP hD hS => ?_)
                refine lv_iinc (v := nI (hg + 1)) (lv' := [(6, .int (nI (hg + 1))), (11, .int (nI ((jv9 / 1000) % 3))), (10, .int (nI (jv9 % 1000))), (9, .int ((FAX (shf fnw 12) (shf fnw 32) (VSE fnw kq) kq je) (jv9 / 3000))), (8, .int (nI jv9)), (7, .int (nI kP)), (5, .int (nI r1)), (4, .int (nI r0)), (0, .ref h0), (1, .int (nI jv)), (2, .int (nI jl)), (3, .int (nI je))]) hx hb gX12_holds_7.2.2.2.2.2.1 hl (k := 5) rfl (nI_1 _) (by decide) rfl (fun ls hl => ?_)
                refine lv_goto (tgt := 237) hx hb gX12_holds_7.2.2.2.2.2.2.1 (by decide) ?_
                refine lv_iinc (v := nI (kP + 1)) (lv' := [(7, .int (nI (kP + 1))), (6, .int (nI (hg + 1))), (11, .int (nI ((jv9 / 1000) % 3))), (10, .int (nI (jv9 % 1000))), (9, .int ((FAX (shf fnw 12) (shf fnw 32) (VSE fnw kq) kq je) (jv9 / 3000))), (8, .int (nI jv9)), (5, .int (nI r1)), (4, .int (nI r0)), (0, .ref h0), (1, .int (nI jv)), (2, .int (nI jl)), (3, .int (nI je))]) hx hb gX12_holds_12.2.2.2.2.2.2.2.2.1 hl (k := 5) rfl (nI_1 _) (by decide) rfl (fun ls hl => ?_)
                refine lv_goto (tgt := 25) hx hb gX12_holds_12.2.2.2.2.2.2.2.2.2 (by decide) ?_
                have hst8 : ((hg + 1), upd vP hg 1) = PRK (FAX (shf fnw 12) (shf fnw 32) (VSE fnw kq) kq je) tr9 fnp (kP + 1 - r0) := PRK.fa1 hpr (by omega) (by omega) ev9 hjv9 (SOV.g3 (fun h9 => c_101_9855 (congrArg nI h9)) (fun h9 => c_117_9856 (congrArg nI h9)) (decide_eq_true (Int32.not_le.mp c_134_9857)))
                exact ihP (kP + 1) (upd vP hg 1) (hg + 1) _ _ _ (by omega) (by first | assumption | exact Or.inl rfl | exact Or.inr rfl | omega | exact h09.symm | exact PRK.zero (by omega)) (by first | assumption | exact Or.inl rfl | exact Or.inr rfl | omega | exact h09.symm | exact PRK.zero (by omega)) (by first | assumption | exact Or.inl rfl | exact Or.inr rfl | omega | exact h09.symm | exact PRK.zero (by omega)) (by first | assumption | exact Or.inl rfl | exact Or.inr rfl | omega | exact h09.symm | exact PRK.zero (by omega)) (And.intro hP hD) hS (lv_sub hl [0, 1, 6, 7, 8, 9, 10, 11] rfl)
            · refine lv_iload hx hb gX12_holds_6.2.2.2.2.1 (lv_at2 hl) ?_
              refine lv_iload hx hb gX12_holds_6.2.2.2.2.2.1 (lv_at1 hl) ?_
              refine lv_icmp_ne (tgt := 141) hx hb gX12_holds_6.2.2.2.2.2.2.1 (by decide) (fun c_124_9858 => ?_) (fun c_124_9858 => ?_)
              · refine lv_iconst (v := 0) hx hb gX12_holds_7.2.2.2.1 (by decide) ?_
                refine astN hC hK hP hD hS 2 (ws' := [(h0, oX12 nw nk mhasKept nt mtaped nr mrowMany mroundOf mroundFrom 0 nm mfromHour mtoHour ns mfrom mto msort misFault mdeep mcoded mlines nl nc nF np ntr nb mbestCost nso nsi nit nsh nsf nss nrc mtraced mdealer mnumber mwhose msize misParted), (nw, iA G 1662 fnw), (np, iA G 100 (upd vP hg 0))]) rfl (k := hg) (by omega) (Nat.le_of_ble_eq_true rfl) (rfl) gX12_holds_7.2.2.2.2.1 (fun H locs hP hD hS => ?_)
                refine lv_iinc (v := nI (hg + 1)) (lv' := [(6, .int (nI (hg + 1))), (11, .int (nI ((jv9 / 1000) % 3))), (10, .int (nI (jv9 % 1000))), (9, .int ((FAX (shf fnw 12) (shf fnw 32) (VSE fnw kq) kq je) (jv9 / 3000))), (8, .int (nI jv9)), (7, .int (nI kP)), (5, .int (nI r1)), (4, .int (nI r0)), (0, .ref h0), (1, .int (nI jv)), (2, .int (nI jl)), (3, .int (nI je))]) hx hb gX12_holds_7.2.2.2.2.2.1 hl (k := 5) rfl (nI_1 _) (by decide) rfl (fun ls hl => ?_)
                refine lv_goto (tgt := 237) hx hb gX12_holds_7.2.2.2.2.2.2.1 (by decide) ?_
                refine lv_iinc (v := nI (kP + 1)) (lv' := [(7, .int (nI (kP + 1))), (6, .int (nI (hg + 1))), (11, .int (nI ((jv9 / 1000) % 3))), (10, .int (nI (jv9 % 1000))), (9, .int ((FAX (shf fnw 12) (shf fnw 32) (VSE fnw kq) kq je) (jv9 / 3000))), (8, .int (nI jv9)), (5, .int (nI r1)), (4, .int (nI r0)), (0, .ref h0), (1, .int (nI jv)), (2, .int (nI jl)), (3, .int (nI je))]) hx hb gX12_holds_12.2.2.2.2.2.2.2.2.1 hl (k := 5) rfl (nI_1 _) (by decide) rfl (fun ls hl => ?_)
                refine lv_goto (tgt := 25) hx hb gX12_holds_12.2.2.2.2.2.2.2.2.2 (by decide) ?_
                have hst8 : ((hg + 1), upd vP hg 0) = PRK (FAX (shf fnw 12) (shf fnw 32) (VSE fnw kq) kq je) tr9 fnp (kP + 1 - r0) := PRK.fa0 hpr (by omega) (by omega) ev9 hjv9 (SOV.e3 ((nI_eq (b := 1) (by omega) (by decide)).mp c_117_9856) (decide_eq_false c_124_9858))
                exact ihP (kP + 1) (upd vP hg 0) (hg + 1) _ _ _ (by omega) (by first | assumption | exact Or.inl rfl | exact Or.inr rfl | omega | exact h09.symm | exact PRK.zero (by omega)) (by first | assumption | exact Or.inl rfl | exact Or.inr rfl | omega | exact h09.symm | exact PRK.zero (by omega)) (by first | assumption | exact Or.inl rfl | exact Or.inr rfl | omega | exact h09.symm | exact PRK.zero (by omega)) (by first | assumption | exact Or.inl rfl | exact Or.inr rfl | omega | exact h09.symm | exact PRK.zero (by omega)) (And.intro hP hD) hS (lv_sub hl [0, 1, 6, 7, 8, 9, 10, 11] rfl)
              · refine lv_goto (tgt := 137) hx hb gX12_holds_6.2.2.2.2.2.2.2.1 (by decide) ?_
                refine lv_iconst (v := 1) hx hb gX12_holds_7.2.1 (by decide) ?_
                refine lv_goto (tgt := 142) hx hb gX12_holds_7.2.2.1 (by decide) ?_
                refine astN hC hK hP hD hS 2 (ws' := [(h0, oX12 nw nk mhasKept nt mtaped nr mrowMany mroundOf mroundFrom 0 nm mfromHour mtoHour ns mfrom mto msort misFault mdeep mcoded mlines nl nc nF np ntr nb mbestCost nso nsi nit nsh nsf nss nrc mtraced mdealer mnumber mwhose msize misParted), (nw, iA G 1662 fnw), (np, iA G 100 (upd vP hg 1))]) rfl (k := hg) (by omega) (Nat.le_of_ble_eq_true rfl) (rfl) gX12_holds_7.2.2.2.2.1 (fun H locs hP hD hS => ?_)
                refine lv_iinc (v := nI (hg + 1)) (lv' := [(6, .int (nI (hg + 1))), (11, .int (nI ((jv9 / 1000) % 3))), (10, .int (nI (jv9 % 1000))), (9, .int ((FAX (shf fnw 12) (shf fnw 32) (VSE fnw kq) kq je) (jv9 / 3000))), (8, .int (nI jv9)), (7, .int (nI kP)), (5, .int (nI r1)), (4, .int (nI r0)), (0, .ref h0), (1, .int (nI jv)), (2, .int (nI jl)), (3, .int (nI je))]) hx hb gX12_holds_7.2.2.2.2.2.1 hl (k := 5) rfl (nI_1 _) (by decide) rfl (fun ls hl => ?_)
                refine lv_goto (tgt := 237) hx hb gX12_holds_7.2.2.2.2.2.2.1 (by decide) ?_
                refine lv_iinc (v := nI (kP + 1)) (lv' := [(7, .int (nI (kP + 1))), (6, .int (nI (hg + 1))), (11, .int (nI ((jv9 / 1000) % 3))), (10, .int (nI (jv9 % 1000))), (9, .int ((FAX (shf fnw 12) (shf fnw 32) (VSE fnw kq) kq je) (jv9 / 3000))), (8, .int (nI jv9)), (5, .int (nI r1)), (4, .int (nI r0)), (0, .ref h0), (1, .int (nI jv)), (2, .int (nI jl)), (3, .int (nI je))]) hx hb gX12_holds_12.2.2.2.2.2.2.2.2.1 hl (k := 5) rfl (nI_1 _) (by decide) rfl (fun ls hl => ?_)
                refine lv_goto (tgt := 25) hx hb gX12_holds_12.2.2.2.2.2.2.2.2.2 (by decide) ?_
                have hst8 : ((hg + 1), upd vP hg 1) = PRK (FAX (shf fnw 12) (shf fnw 32) (VSE fnw kq) kq je) tr9 fnp (kP + 1 - r0) := PRK.fa1 hpr (by omega) (by omega) ev9 hjv9 (SOV.e3 ((nI_eq (b := 1) (by omega) (by decide)).mp c_117_9856) (decide_eq_true c_124_9858))
                exact ihP (kP + 1) (upd vP hg 1) (hg + 1) _ _ _ (by omega) (by first | assumption | exact Or.inl rfl | exact Or.inr rfl | omega | exact h09.symm | exact PRK.zero (by omega)) (by first | assumption | exact Or.inl rfl | exact Or.inr rfl | omega | exact h09.symm | exact PRK.zero (by omega)) (by first | assumption | exact Or.inl rfl | exact Or.inr rfl | omega | exact h09.symm | exact PRK.zero (by omega)) (by first | assumption | exact Or.inl rfl | exact Or.inr rfl | omega | exact h09.symm | exact PRK.zero (by omega)) (And.intro hP hD) hS (lv_sub hl [0, 1, 6, 7, 8, 9, 10, 11] rfl)
          · refine lv_iload hx hb gX12_holds_5.2.2.2.2.2.2.2.1 (lv_at2 hl) ?_
            refine lv_iload hx hb gX12_holds_5.2.2.2.2.2.2.2.2.1 (lv_at1 hl) ?_
            refine lv_icmp_ge (tgt := 141) hx hb gX12_holds_5.2.2.2.2.2.2.2.2.2 (by decide) (fun c_108_9859 => ?_) (fun c_108_9859 => ?_)
            · refine lv_iconst (v := 0) hx hb gX12_holds_7.2.2.2.1 (by decide) ?_
              refine astN hC hK hP hD hS 2 (ws' := [(h0, oX12 nw nk mhasKept nt mtaped nr mrowMany mroundOf mroundFrom 0 nm mfromHour mtoHour ns mfrom mto msort misFault mdeep mcoded mlines nl nc nF np ntr nb mbestCost nso nsi nit nsh nsf nss nrc mtraced mdealer mnumber mwhose msize misParted), (nw, iA G 1662 fnw), (np, iA G 100 (upd vP hg 0))]) rfl (k := hg) (by omega) (Nat.le_of_ble_eq_true rfl) (rfl) gX12_holds_7.2.2.2.2.1 (fun H locs hP hD hS => ?_)
              refine lv_iinc (v := nI (hg + 1)) (lv' := [(6, .int (nI (hg + 1))), (11, .int (nI ((jv9 / 1000) % 3))), (10, .int (nI (jv9 % 1000))), (9, .int ((FAX (shf fnw 12) (shf fnw 32) (VSE fnw kq) kq je) (jv9 / 3000))), (8, .int (nI jv9)), (7, .int (nI kP)), (5, .int (nI r1)), (4, .int (nI r0)), (0, .ref h0), (1, .int (nI jv)), (2, .int (nI jl)), (3, .int (nI je))]) hx hb gX12_holds_7.2.2.2.2.2.1 hl (k := 5) rfl (nI_1 _) (by decide) rfl (fun ls hl => ?_)
              refine lv_goto (tgt := 237) hx hb gX12_holds_7.2.2.2.2.2.2.1 (by decide) ?_
              refine lv_iinc (v := nI (kP + 1)) (lv' := [(7, .int (nI (kP + 1))), (6, .int (nI (hg + 1))), (11, .int (nI ((jv9 / 1000) % 3))), (10, .int (nI (jv9 % 1000))), (9, .int ((FAX (shf fnw 12) (shf fnw 32) (VSE fnw kq) kq je) (jv9 / 3000))), (8, .int (nI jv9)), (5, .int (nI r1)), (4, .int (nI r0)), (0, .ref h0), (1, .int (nI jv)), (2, .int (nI jl)), (3, .int (nI je))]) hx hb gX12_holds_12.2.2.2.2.2.2.2.2.1 hl (k := 5) rfl (nI_1 _) (by decide) rfl (fun ls hl => ?_)
              refine lv_goto (tgt := 25) hx hb gX12_holds_12.2.2.2.2.2.2.2.2.2 (by decide) ?_
              have hst8 : ((hg + 1), upd vP hg 0) = PRK (FAX (shf fnw 12) (shf fnw 32) (VSE fnw kq) kq je) tr9 fnp (kP + 1 - r0) := PRK.fa0 hpr (by omega) (by omega) ev9 hjv9 (SOV.l3 ((nI_eq (b := 0) (by omega) (by decide)).mp c_101_9855) (decide_eq_false (Int32.not_lt.mpr c_108_9859)))
              exact ihP (kP + 1) (upd vP hg 0) (hg + 1) _ _ _ (by omega) (by first | assumption | exact Or.inl rfl | exact Or.inr rfl | omega | exact h09.symm | exact PRK.zero (by omega)) (by first | assumption | exact Or.inl rfl | exact Or.inr rfl | omega | exact h09.symm | exact PRK.zero (by omega)) (by first | assumption | exact Or.inl rfl | exact Or.inr rfl | omega | exact h09.symm | exact PRK.zero (by omega)) (by first | assumption | exact Or.inl rfl | exact Or.inr rfl | omega | exact h09.symm | exact PRK.zero (by omega)) (And.intro hP hD) hS (lv_sub hl [0, 1, 6, 7, 8, 9, 10, 11] rfl)
            · refine lv_goto (tgt := 137) hx hb gX12_holds_6.1 (by decide) ?_
              refine lv_iconst (v := 1) hx hb gX12_holds_7.2.1 (by decide) ?_
              refine lv_goto (tgt := 142) hx hb gX12_holds_7.2.2.1 (by decide) ?_
              refine astN hC hK hP hD hS 2 (ws' := [(h0, oX12 nw nk mhasKept nt mtaped nr mrowMany mroundOf mroundFrom 0 nm mfromHour mtoHour ns mfrom mto msort misFault mdeep mcoded mlines nl nc nF np ntr nb mbestCost nso nsi nit nsh nsf nss nrc mtraced mdealer mnumber mwhose msize misParted), (nw, iA G 1662 fnw), (np, iA G 100 (upd vP hg 1))]) rfl (k := hg) (by omega) (Nat.le_of_ble_eq_true rfl) (rfl) gX12_holds_7.2.2.2.2.1 (fun H locs hP hD hS => ?_)
              refine lv_iinc (v := nI (hg + 1)) (lv' := [(6, .int (nI (hg + 1))), (11, .int (nI ((jv9 / 1000) % 3))), (10, .int (nI (jv9 % 1000))), (9, .int ((FAX (shf fnw 12) (shf fnw 32) (VSE fnw kq) kq je) (jv9 / 3000))), (8, .int (nI jv9)), (7, .int (nI kP)), (5, .int (nI r1)), (4, .int (nI r0)), (0, .ref h0), (1, .int (nI jv)), (2, .int (nI jl)), (3, .int (nI je))]) hx hb gX12_holds_7.2.2.2.2.2.1 hl (k := 5) rfl (nI_1 _) (by decide) rfl (fun ls hl => ?_)
              refine lv_goto (tgt := 237) hx hb gX12_holds_7.2.2.2.2.2.2.1 (by decide) ?_
              refine lv_iinc (v := nI (kP + 1)) (lv' := [(7, .int (nI (kP + 1))), (6, .int (nI (hg + 1))), (11, .int (nI ((jv9 / 1000) % 3))), (10, .int (nI (jv9 % 1000))), (9, .int ((FAX (shf fnw 12) (shf fnw 32) (VSE fnw kq) kq je) (jv9 / 3000))), (8, .int (nI jv9)), (5, .int (nI r1)), (4, .int (nI r0)), (0, .ref h0), (1, .int (nI jv)), (2, .int (nI jl)), (3, .int (nI je))]) hx hb gX12_holds_12.2.2.2.2.2.2.2.2.1 hl (k := 5) rfl (nI_1 _) (by decide) rfl (fun ls hl => ?_)
              refine lv_goto (tgt := 25) hx hb gX12_holds_12.2.2.2.2.2.2.2.2.2 (by decide) ?_
              have hst8 : ((hg + 1), upd vP hg 1) = PRK (FAX (shf fnw 12) (shf fnw 32) (VSE fnw kq) kq je) tr9 fnp (kP + 1 - r0) := PRK.fa1 hpr (by omega) (by omega) ev9 hjv9 (SOV.l3 ((nI_eq (b := 0) (by omega) (by decide)).mp c_101_9855) (decide_eq_true (Int32.not_le.mp c_108_9859)))
              exact ihP (kP + 1) (upd vP hg 1) (hg + 1) _ _ _ (by omega) (by first | assumption | exact Or.inl rfl | exact Or.inr rfl | omega | exact h09.symm | exact PRK.zero (by omega)) (by first | assumption | exact Or.inl rfl | exact Or.inr rfl | omega | exact h09.symm | exact PRK.zero (by omega)) (by first | assumption | exact Or.inl rfl | exact Or.inr rfl | omega | exact h09.symm | exact PRK.zero (by omega)) (by first | assumption | exact Or.inl rfl | exact Or.inr rfl | omega | exact h09.symm | exact PRK.zero (by omega)) (And.intro hP hD) hS (lv_sub hl [0, 1, 6, 7, 8, 9, 10, 11] rfl)
    exact keyP (r1 - r0) r0 fnp 0 _ _ _ (by omega) (by first | assumption | exact Or.inl rfl | exact Or.inr rfl | omega | exact h09.symm | exact PRK.zero (by omega)) (by first | assumption | exact Or.inl rfl | exact Or.inr rfl | omega | exact h09.symm | exact PRK.zero (by omega)) (by first | assumption | exact Or.inl rfl | exact Or.inr rfl | omega | exact h09.symm | exact PRK.zero (by omega)) (by first | assumption | exact Or.inl rfl | exact Or.inr rfl | omega | exact h09.symm | exact PRK.zero (by omega)) (And.intro hP hD) hS (lv_sub hl [0, 1, 2, 3, 4, 5, 6, 7] rfl)
def K_m_thingOfX (l : Launch) (G : GG) (LX9 : LNT) (h0 : Nat) (jv : Nat) (jl : Nat) (nw : Nat) (nk : Nat) (mhasKept : Int32) (nt : Nat) (mtaped : Int32) (nr : Nat) (mrowMany : Int32) (mroundOf : Int32) (mroundFrom : Int32) (mouts : Int32) (nm : Nat) (mfromHour : Int32) (mtoHour : Int32) (ns : Nat) (mfrom : Int32) (mto : Int32) (msort : Int32) (misFault : Int32) (mdeep : Int32) (mcoded : Int32) (mlines : Int32) (nl : Nat) (nc : Nat) (nF : Nat) (np : Nat) (ntr : Nat) (nb : Nat) (mbestCost : Int32) (nso : Nat) (nsi : Nat) (nit : Nat) (nsh : Nat) (nsf : Nat) (nss : Nat) (nrc : Nat) (mtraced : Int32) (mdealer : Int32) (mnumber : Int32) (mwhose : Int32) (msize : Int32) (misParted : Int32) (fnw : Nat → Int32) : Prop := MP l G yX12_thingOf cX12_thingOf 4 (some .int) 2 [.ref h0, .int (nI jv), .int (nI jl)] [(h0, oX12 nw nk mhasKept nt mtaped nr mrowMany mroundOf mroundFrom mouts nm mfromHour mtoHour ns mfrom mto msort misFault mdeep mcoded mlines nl nc nF np ntr nb mbestCost nso nsi nit nsh nsf nss nrc mtraced mdealer mnumber mwhose msize misParted), (nw, iA G 1662 fnw)] (fun r : Int32 => ∃ t9, (t9 = TNO LX9 ∧ t9 < 8) ∧ r = nI t9)
set_option maxHeartbeats 4000000 in
set_option maxRecDepth 100000 in
theorem m_thingOfX (l : Launch) (G : GG) (LX9 : LNT) (T9 : List Int32) (h0 : Nat) (jv : Nat) (jl : Nat) (nw : Nat) (nk : Nat) (mhasKept : Int32) (nt : Nat) (mtaped : Int32) (nr : Nat) (mrowMany : Int32) (mroundOf : Int32) (mroundFrom : Int32) (mouts : Int32) (nm : Nat) (mfromHour : Int32) (mtoHour : Int32) (ns : Nat) (mfrom : Int32) (mto : Int32) (msort : Int32) (misFault : Int32) (mdeep : Int32) (mcoded : Int32) (mlines : Int32) (nl : Nat) (nc : Nat) (nF : Nat) (np : Nat) (ntr : Nat) (nb : Nat) (mbestCost : Int32) (nso : Nat) (nsi : Nat) (nit : Nat) (nsh : Nat) (nsf : Nat) (nss : Nat) (nrc : Nat) (mtraced : Int32) (mdealer : Int32) (mnumber : Int32) (mwhose : Int32) (msize : Int32) (misParted : Int32) (fnw : Nat → Int32) (hjv : jv < 8) (hjl : jl < 9) (hln : LN fnw jv jl) (hLZ : LZM fnw jv jl LX9 T9) : K_m_thingOfX l G LX9 h0 jv jl nw nk mhasKept nt mtaped nr mrowMany mroundOf mroundFrom mouts nm mfromHour mtoHour ns mfrom mto msort misFault mdeep mcoded mlines nl nc nF np ntr nb mbestCost nso nsi nit nsh nsf nss nrc mtraced mdealer mnumber mwhose msize misParted fnw := by
  refine MP.start (by decide +kernel) (Nat.le_of_ble_eq_true rfl) ?_
  intro p e s m below meth c ls hC hK hP hD hl
  refine absQ (fun Q0 hQ0 => ?_)
  have hl : lv_has ls 4 [(0, .ref h0), (1, .int (nI jv)), (2, .int (nI jl))] := hl
  refine Kan8 hC (fun hx hb hr hml hB hown hlocks hnm => ?_)
  have hln0 := hln
  obtain ⟨⟨so, hso, e0, hAl, hBl⟩, -⟩ := hln
  obtain ⟨hlb, f0, f1, f2, f3, -⟩ := hLZ
  have hsx : so = LX9.1 := (nI_eq (by omega) (by have h9 := hlb.le; omega)).mp (e0.symm.trans f0)
  refine lv_aload_n hx hb gX12_thingOf_0.1 rfl (lv_at0 hl) ?_
  refine lv_iload_n hx hb gX12_thingOf_0.2.1 rfl (lv_at1 hl) ?_
  refine lv_iload_n hx hb gX12_thingOf_0.2.2.1 rfl (lv_at2 hl) ?_
  refine lv_iconst (v := 0) hx hb gX12_thingOf_0.2.2.2.1 (by decide) ?_
  refine pV hC hK hl hP hD (m_lineOf l G h0 jv jl 0 nw nk mhasKept nt mtaped nr mrowMany mroundOf mroundFrom mouts nm mfromHour mtoHour ns mfrom mto msort misFault mdeep mcoded mlines nl nc nF np ntr nb mbestCost nso nsi nit nsh nsf nss nrc mtraced mdealer mnumber mwhose msize misParted fnw (hjv) (hjl) (by omega)) si_X12_193 [0, 1] sm_0_1 fm_0_1 nd_0_1 rfl rfl rfl rfl rfl (Nat.le_of_ble_eq_true rfl) rm_2_1_4 ⟨by first | exact Nat.le_of_ble_eq_true rfl | exact Nat.zero_le _, by first | exact Nat.le_of_ble_eq_true rfl | exact Nat.zero_le _⟩ gX12_thingOf_0.2.2.2.2.1 (Keqr ?_)
  refine eqi (x1 := nI so) (e0) ?_
  refine lv_istore_n (lv' := [(3, .int (nI so)), (0, .ref h0), (1, .int (nI jv)), (2, .int (nI jl))]) hx hb gX12_thingOf_0.2.2.2.2.2.1 rfl hl (by decide) rfl (fun ls hl => ?_)
  refine lv_iload_n hx hb gX12_thingOf_0.2.2.2.2.2.2.1 rfl (lv_at0 hl) ?_
  refine lv_iconst (v := 2) hx hb gX12_thingOf_0.2.2.2.2.2.2.2.1 (by decide) ?_
  refine lv_icmp_ne (tgt := 23) hx hb gX12_thingOf_0.2.2.2.2.2.2.2.2.1 (by decide) (fun c_10_9862 => ?_) (fun c_10_9862 => ?_)
  · refine lv_iload_n hx hb gX12_thingOf_1.2.2.2.2.2.1 rfl (lv_at0 hl) ?_
    refine lv_if_ne (tgt := 37) hx hb gX12_thingOf_1.2.2.2.2.2.2.1 (by decide) (fun c_24_9863 => ?_) (fun c_24_9863 => ?_)
    · refine lv_iconst (v := 0) hx hb gX12_thingOf_2.2.2.2.1 (by decide) ?_
      refine toQ hQ0 ?_
      exact RP (v := 0) hC (⟨0, ⟨((TNO.v hlb).2.2 (fun h9 => c_10_9862 (congrArg nI (hsx.trans h9))) (fun h9 => c_24_9863 (congrArg nI (hsx.trans h9)))).symm, by decide⟩, rfl⟩) rfl gX12_thingOf_2.2.2.2.2
    · refine lv_aload_n hx hb gX12_thingOf_1.2.2.2.2.2.2.2.1 rfl (lv_at1 hl) ?_
      refine lv_iload_n hx hb gX12_thingOf_1.2.2.2.2.2.2.2.2.1 rfl (lv_at2 hl) ?_
      refine lv_iload_n hx hb gX12_thingOf_1.2.2.2.2.2.2.2.2.2 rfl (lv_at3 hl) ?_
      refine lv_iconst (v := 2) hx hb gX12_thingOf_2.1 (by decide) ?_
      refine pV hC hK hl hP hD (m_lineOf l G h0 jv jl 2 nw nk mhasKept nt mtaped nr mrowMany mroundOf mroundFrom mouts nm mfromHour mtoHour ns mfrom mto msort misFault mdeep mcoded mlines nl nc nF np ntr nb mbestCost nso nsi nit nsh nsf nss nrc mtraced mdealer mnumber mwhose msize misParted fnw (hjv) (hjl) (by omega)) si_X12_193 [0, 1] sm_0_1 fm_0_1 nd_0_1 rfl rfl rfl rfl rfl (Nat.le_of_ble_eq_true rfl) rm_2_1_4 ⟨by first | exact Nat.le_of_ble_eq_true rfl | exact Nat.zero_le _, by first | exact Nat.le_of_ble_eq_true rfl | exact Nat.zero_le _⟩ gX12_thingOf_2.2.1 (Keqr ?_)
      refine eqi (x1 := nI (TNO LX9)) (f2.trans ((TNO.v hlb).2.1 (hsx.symm.trans ((nI_eq (b := 0) (by omega) (by decide)).mp c_24_9863)))) ?_
      refine lv_goto (tgt := 38) hx hb gX12_thingOf_2.2.2.1 (by decide) ?_
      refine toQ hQ0 ?_
      exact RP (v := nI (TNO LX9)) hC (⟨TNO LX9, ⟨rfl, TNO.lt hlb⟩, rfl⟩) rfl gX12_thingOf_2.2.2.2.2
  · refine lv_aload_n hx hb gX12_thingOf_0.2.2.2.2.2.2.2.2.2 rfl (lv_at1 hl) ?_
    refine lv_iload_n hx hb gX12_thingOf_1.1 rfl (lv_at2 hl) ?_
    refine lv_iload_n hx hb gX12_thingOf_1.2.1 rfl (lv_at3 hl) ?_
    refine lv_iconst (v := 1) hx hb gX12_thingOf_1.2.2.1 (by decide) ?_
    refine pV hC hK hl hP hD (m_lineOf l G h0 jv jl 1 nw nk mhasKept nt mtaped nr mrowMany mroundOf mroundFrom mouts nm mfromHour mtoHour ns mfrom mto msort misFault mdeep mcoded mlines nl nc nF np ntr nb mbestCost nso nsi nit nsh nsf nss nrc mtraced mdealer mnumber mwhose msize misParted fnw (hjv) (hjl) (by omega)) si_X12_193 [0, 1] sm_0_1 fm_0_1 nd_0_1 rfl rfl rfl rfl rfl (Nat.le_of_ble_eq_true rfl) rm_2_1_4 ⟨by first | exact Nat.le_of_ble_eq_true rfl | exact Nat.zero_le _, by first | exact Nat.le_of_ble_eq_true rfl | exact Nat.zero_le _⟩ gX12_thingOf_1.2.2.2.1 (Keqr ?_)
    refine eqi (x1 := nI (TNO LX9)) (f1.trans ((TNO.v hlb).1 (hsx.symm.trans ((nI_eq (b := 2) (by omega) (by decide)).mp c_10_9862)))) ?_
    refine lv_goto (tgt := 38) hx hb gX12_thingOf_1.2.2.2.2.1 (by decide) ?_
    refine toQ hQ0 ?_
    exact RP (v := nI (TNO LX9)) hC (⟨TNO LX9, ⟨rfl, TNO.lt hlb⟩, rfl⟩) rfl gX12_thingOf_2.2.2.2.2
def K_m_fromLineX (l : Launch) (G : GG) (kq : Nat) (LX9 : LNT) (T9 : List Int32) (S9 : HOP) (h0 : Nat) (jv : Nat) (jl : Nat) (je : Nat) (nw : Nat) (nk : Nat) (mhasKept : Int32) (nt : Nat) (mtaped : Int32) (nr : Nat) (mrowMany : Int32) (mroundOf : Int32) (mroundFrom : Int32) (nm : Nat) (mfromHour : Int32) (mtoHour : Int32) (ns : Nat) (mfrom : Int32) (mto : Int32) (msort : Int32) (misFault : Int32) (mdeep : Int32) (mcoded : Int32) (mlines : Int32) (nl : Nat) (nc : Nat) (nF : Nat) (np : Nat) (ntr : Nat) (nb : Nat) (mbestCost : Int32) (nso : Nat) (nsi : Nat) (nit : Nat) (nsh : Nat) (nsf : Nat) (nss : Nat) (nrc : Nat) (mtraced : Int32) (mdealer : Int32) (mnumber : Int32) (mwhose : Int32) (msize : Int32) (misParted : Int32) (fnw : Nat → Int32) (fns : Nat → Int32) (fnp : Nat → Int32) : Prop := MI l G yX12_fromLine cX12_fromLine 6 (some .int) 7 0 0 [.ref h0, .int (nI jv), .int (nI jl), .int (nI je)] [(h0, oX12 nw nk mhasKept nt mtaped nr mrowMany mroundOf mroundFrom 0 nm mfromHour mtoHour ns mfrom mto msort misFault mdeep mcoded mlines nl nc nF np ntr nb mbestCost nso nsi nit nsh nsf nss nrc mtraced mdealer mnumber mwhose msize misParted), (nw, iA G 1662 fnw), (ns, iA G 8 fns), (np, iA G 100 fnp)] (fun (r : Int32) (u : (Nat → Int32)) => (∃ (y9:Int32), (FLQ 100000 S9 (LVX LX9 (PLN (FAX (shf fnw 12) (shf fnw 32) (VSE fnw kq) kq je) T9 1 % 2 = 1)) y9) ∧ r = y9)) (fun u : (Nat → Int32) => [(h0, oX12 nw nk mhasKept nt mtaped nr mrowMany mroundOf mroundFrom 0 nm mfromHour mtoHour ns mfrom mto msort misFault mdeep mcoded mlines nl nc nF np ntr nb mbestCost nso nsi nit nsh nsf nss nrc mtraced mdealer mnumber mwhose msize misParted), (nw, iA G 1662 fnw), (ns, iA G 8 fns), (np, iA G 100 u)])
set_option maxHeartbeats 4000000 in
set_option maxRecDepth 100000 in
theorem m_fromLineX (l : Launch) (G : GG) (kq : Nat) (LX9 : LNT) (T9 : List Int32) (S9 : HOP) (h0 : Nat) (jv : Nat) (jl : Nat) (je : Nat) (nw : Nat) (nk : Nat) (mhasKept : Int32) (nt : Nat) (mtaped : Int32) (nr : Nat) (mrowMany : Int32) (mroundOf : Int32) (mroundFrom : Int32) (nm : Nat) (mfromHour : Int32) (mtoHour : Int32) (ns : Nat) (mfrom : Int32) (mto : Int32) (msort : Int32) (misFault : Int32) (mdeep : Int32) (mcoded : Int32) (mlines : Int32) (nl : Nat) (nc : Nat) (nF : Nat) (np : Nat) (ntr : Nat) (nb : Nat) (mbestCost : Int32) (nso : Nat) (nsi : Nat) (nit : Nat) (nsh : Nat) (nsf : Nat) (nss : Nat) (nrc : Nat) (mtraced : Int32) (mdealer : Int32) (mnumber : Int32) (mwhose : Int32) (msize : Int32) (misParted : Int32) (fnw : Nat → Int32) (fns : Nat → Int32) (fnp : Nat → Int32) (hjv : jv < 8) (hjl : jl < 9) (hln : LN fnw jv jl) (hLZ : LZM fnw jv jl LX9 T9) (hAR : ARS 100000 S9 fns) (hBD : HBD S9) (hje : je < 10) (hN : NI fnw) (ekq : fnw 5 = nI kq) (hkq : kq ≤ 12) : K_m_fromLineX l G kq LX9 T9 S9 h0 jv jl je nw nk mhasKept nt mtaped nr mrowMany mroundOf mroundFrom nm mfromHour mtoHour ns mfrom mto msort misFault mdeep mcoded mlines nl nc nF np ntr nb mbestCost nso nsi nit nsh nsf nss nrc mtraced mdealer mnumber mwhose msize misParted fnw fns fnp := by
  refine MI.start (by decide +kernel) (Nat.le_of_ble_eq_true rfl) ?_
  intro p e s m below meth c A ls hC hK hP hD hS hA hl
  refine absQ (fun Q0 hQ0 => ?_)
  have hl : lv_has ls 6 [(0, .ref h0), (1, .int (nI jv)), (2, .int (nI jl)), (3, .int (nI je))] := hl
  refine Kan8 hC (fun hx hb hr hml hB hown hlocks hnm => ?_)
  have hLZ0 := hLZ
  have hln0 := hln
  obtain ⟨⟨so, hso, e0, hAl, hBl⟩, -⟩ := hln
  obtain ⟨hlb, f0, f1, f2, f3, -⟩ := hLZ
  have hsx : so = LX9.1 := (nI_eq (by omega) (by have h9 := hlb.le; omega)).mp (e0.symm.trans f0)
  refine lv_aload_n hx hb gX12_fromLine_0.1 rfl (lv_at0 hl) ?_
  refine lv_iload_n hx hb gX12_fromLine_0.2.1 rfl (lv_at1 hl) ?_
  refine lv_iload_n hx hb gX12_fromLine_0.2.2.1 rfl (lv_at2 hl) ?_
  refine lv_iconst (v := 0) hx hb gX12_fromLine_0.2.2.2.1 (by decide) ?_
  refine pV hC hK hl hP hD (m_lineOf l G h0 jv jl 0 nw nk mhasKept nt mtaped nr mrowMany mroundOf mroundFrom 0 nm mfromHour mtoHour ns mfrom mto msort misFault mdeep mcoded mlines nl nc nF np ntr nb mbestCost nso nsi nit nsh nsf nss nrc mtraced mdealer mnumber mwhose msize misParted fnw (hjv) (hjl) (by omega)) si_X12_193 [0, 1] sm_0_1 fm_0_1 nd_0_1 rfl rfl rfl rfl rfl (Nat.le_of_ble_eq_true rfl) rm_7_1_4 ⟨by first | exact Nat.le_of_ble_eq_true rfl | exact Nat.zero_le _, by first | exact Nat.le_of_ble_eq_true rfl | exact Nat.zero_le _⟩ gX12_fromLine_0.2.2.2.2.1 (Keqr ?_)
  refine eqi (x1 := nI so) (e0) ?_
  refine lv_istore (lv' := [(4, .int (nI so)), (0, .ref h0), (1, .int (nI jv)), (2, .int (nI jl)), (3, .int (nI je))]) hx hb gX12_fromLine_0.2.2.2.2.2.1 hl (by decide) rfl (fun ls hl => ?_)
  refine lv_iload hx hb gX12_fromLine_0.2.2.2.2.2.2.1 (lv_at0 hl) ?_
  refine lv_if_eq (tgt := 20) hx hb gX12_fromLine_0.2.2.2.2.2.2.2.1 (by decide) (fun c_11_9870 => ?_) (fun c_11_9870 => ?_)
  · refine lv_aload_n hx hb gX12_fromLine_1.2.1 rfl (lv_at1 hl) ?_
    refine lv_iload_n hx hb gX12_fromLine_1.2.2.1 rfl (lv_at2 hl) ?_
    refine lv_iload_n hx hb gX12_fromLine_1.2.2.2.1 rfl (lv_at3 hl) ?_
    refine lv_iload_n hx hb gX12_fromLine_1.2.2.2.2.1 rfl (lv_at4 hl) ?_
    refine iV (wr := [(ns, iA G 8 fns)]) hC hK hl hP hD hS hA (m_holdsX l G kq LX9 T9 h0 jv jl je nw nk mhasKept nt mtaped nr mrowMany mroundOf mroundFrom nm mfromHour mtoHour ns mfrom mto msort misFault mdeep mcoded mlines nl nc nF np ntr nb mbestCost nso nsi nit nsh nsf nss nrc mtraced mdealer mnumber mwhose msize misParted fnw fnp (hjv) (hjl) (hln0) (hLZ0) (hje) (hN) (ekq) (hkq)) si_X12_196 [0, 1, 3] [2] sm_0_1_3 fm_0_1_3 nd_0_1_3 sm_2 nd_2 dj_0_1_3__2 rfl rfl rfl rfl rfl (Nat.le_of_ble_eq_true rfl) rm_7_6_12 ⟨Nat.le_of_ble_eq_true rfl, Nat.le_of_ble_eq_true rfl⟩ gX12_fromLine_1.2.2.2.2.2.1 (fun r9871 gnp9873 H locs hr9871 hP hD hS => ?_)
    try dsimp only at hr9871
    refine Kpdr (ws := [(ns, iA G 8 fns), (h0, oX12 nw nk mhasKept nt mtaped nr mrowMany mroundOf mroundFrom 0 nm mfromHour mtoHour ns mfrom mto msort misFault mdeep mcoded mlines nl nc nF np ntr nb mbestCost nso nsi nit nsh nsf nss nrc mtraced mdealer mnumber mwhose msize misParted), (nw, iA G 1662 fnw), (np, iA G 100 gnp9873)]) hP hD (fun hP hD => ?_)
    rcases hr9871 with ⟨rfl, a9874⟩ | ⟨rfl, a9874⟩
    · refine lv_if_ne (tgt := 33) hx hb gX12_fromLine_1.2.2.2.2.2.2.1 (by decide) (fun _ => ?_) (fun c9 => absurd c9 (by decide))
      obtain ⟨jj9, jc9, jw9, eL9, hc9, hw9, g1, g3⟩ := (LVX.mk hlb a9874).1 (hsx.symm.trans ((nI_eq (b := 0) (by omega) (by decide)).mp c_11_9870))
      have hn29 : ¬ nI so = 2 := fun h9 => absurd (c_11_9870.symm.trans h9) (by decide)
      refine lv_iload hx hb gX12_fromLine_1.2.2.2.2.2.2.2.2.2 (lv_at0 hl) ?_
      refine lv_iconst (v := 2) hx hb gX12_fromLine_2.1 (by decide) ?_
      refine lv_icmp_ne (tgt := 49) hx hb gX12_fromLine_2.2.1 (by decide) (fun _ => ?_) (fun c9 => absurd c9 (hn29))
      refine lv_aload_n hx hb gX12_fromLine_2.2.2.2.2.2.2.2.2.1 rfl (lv_at1 hl) ?_
      refine gf_X12_29 hC rfl hK hP 1 rfl rfl gX12_fromLine_2.2.2.2.2.2.2.2.2.2 ?_
      refine lv_aload_n hx hb gX12_fromLine_3.1 rfl (lv_at1 hl) ?_
      refine lv_iload_n hx hb gX12_fromLine_3.2.1 rfl (lv_at2 hl) ?_
      refine lv_iload_n hx hb gX12_fromLine_3.2.2.1 rfl (lv_at3 hl) ?_
      refine lv_iconst (v := 3) hx hb gX12_fromLine_3.2.2.2.1 (by decide) ?_
      refine pV hC hK hl hP hD (m_lineOf l G h0 jv jl 3 nw nk mhasKept nt mtaped nr mrowMany mroundOf mroundFrom 0 nm mfromHour mtoHour ns mfrom mto msort misFault mdeep mcoded mlines nl nc nF np ntr nb mbestCost nso nsi nit nsh nsf nss nrc mtraced mdealer mnumber mwhose msize misParted fnw (hjv) (hjl) (by omega)) si_X12_193 [1, 2] sm_1_2 fm_1_2 nd_1_2 rfl rfl rfl rfl rfl (Nat.le_of_ble_eq_true rfl) rm_7_1_4 ⟨by first | exact Nat.le_of_ble_eq_true rfl | exact Nat.zero_le _, by first | exact Nat.le_of_ble_eq_true rfl | exact Nat.zero_le _⟩ gX12_fromLine_3.2.2.2.2.1 (Keqr ?_)
      refine eqi (x1 := nI jc9) (f3.trans g3) ?_
      refine aldN hC hK hP 0 rfl (k := jc9) (by omega) (Nat.le_of_ble_eq_true rfl) (v := fns jc9) rfl gX12_fromLine_3.2.2.2.2.2.1 ?_
      refine lv_istore (lv' := [(5, .int (fns jc9)), (4, .int (nI so)), (0, .ref h0), (1, .int (nI jv)), (2, .int (nI jl)), (3, .int (nI je))]) hx hb gX12_fromLine_3.2.2.2.2.2.2.1 hl (by decide) rfl (fun ls hl => ?_)
      refine lv_iload hx hb gX12_fromLine_3.2.2.2.2.2.2.2.1 (lv_at1 hl) ?_
      refine lv_iconst (v := 2) hx hb gX12_fromLine_3.2.2.2.2.2.2.2.2.1 (by decide) ?_
      refine lv_icmp_eq (tgt := 76) hx hb gX12_fromLine_3.2.2.2.2.2.2.2.2.2 (by decide) (fun c9 => absurd c9 (hn29)) (fun _ => ?_)
      refine lv_iload hx hb gX12_fromLine_4.1 (lv_at0 hl) ?_
      refine lv_ldc hx hb hown (hB _ m_1204) gX12_fromLine_4.2.1 ?_
      refine lv_icmp_ne (tgt := 81) hx hb gX12_fromLine_4.2.2.1 (by decide) (fun c_73_9877 => ?_) (fun c_73_9877 => ?_)
      · refine lv_iload hx hb gX12_fromLine_4.2.2.2.2.2.1 (lv_at0 hl) ?_
        refine lv_aload_n hx hb gX12_fromLine_4.2.2.2.2.2.2.1 rfl (lv_at2 hl) ?_
        refine lv_iload_n hx hb gX12_fromLine_4.2.2.2.2.2.2.2.1 rfl (lv_at3 hl) ?_
        refine lv_iload_n hx hb gX12_fromLine_4.2.2.2.2.2.2.2.2.1 rfl (lv_at4 hl) ?_
        refine lv_iconst (v := 1) hx hb gX12_fromLine_4.2.2.2.2.2.2.2.2.2 (by decide) ?_
        refine pV hC hK hl hP hD (m_lineOf l G h0 jv jl 1 nw nk mhasKept nt mtaped nr mrowMany mroundOf mroundFrom 0 nm mfromHour mtoHour ns mfrom mto msort misFault mdeep mcoded mlines nl nc nF np ntr nb mbestCost nso nsi nit nsh nsf nss nrc mtraced mdealer mnumber mwhose msize misParted fnw (hjv) (hjl) (by omega)) si_X12_193 [1, 2] sm_1_2 fm_1_2 nd_1_2 rfl rfl rfl rfl rfl (Nat.le_of_ble_eq_true rfl) rm_7_1_4 ⟨by first | exact Nat.le_of_ble_eq_true rfl | exact Nat.zero_le _, by first | exact Nat.le_of_ble_eq_true rfl | exact Nat.zero_le _⟩ gX12_fromLine_5.1 (Keqr ?_)
        refine eqi (x1 := nI jw9) (f1.trans g1) ?_
        refine lv_iadd hx hb gX12_fromLine_5.2.1 ?_
        refine toQ hQ0 ?_
        exact RI (v := (fns jc9) + (nI jw9)) hC hP hD hS [1, 2, 0, 3] gnp9873 rfl rfl (by decide) (⟨_, FLQ.sm eL9 hAR hBD hc9 (by decide) c_73_9877 hw9, rfl⟩) rfl gX12_fromLine_5.2.2
      · refine lv_iload hx hb gX12_fromLine_4.2.2.2.1 (lv_at0 hl) ?_
        refine lv_goto (tgt := 91) hx hb gX12_fromLine_4.2.2.2.2.1 (by decide) ?_
        refine toQ hQ0 ?_
        exact RI (v := fns jc9) hC hP hD hS [1, 2, 0, 3] gnp9873 rfl rfl (by decide) (⟨_, FLQ.nv eL9 hAR hBD hc9 (by decide) c_73_9877, rfl⟩) rfl gX12_fromLine_5.2.2
    · refine lv_if_ne (tgt := 33) hx hb gX12_fromLine_1.2.2.2.2.2.2.1 (by decide) (fun c9 => absurd (by decide) c9) (fun _ => ?_)
      refine lv_ldc hx hb hown (hB _ m_1204) gX12_fromLine_1.2.2.2.2.2.2.2.1 ?_
      refine toQ hQ0 ?_
      exact RI (v := 100000) hC hP hD hS [1, 2, 0, 3] gnp9873 rfl rfl (by decide) (⟨_, Or.inl ⟨LVX.n a9874, rfl⟩, rfl⟩) rfl gX12_fromLine_1.2.2.2.2.2.2.2.2.1
  · refine lv_iload hx hb gX12_fromLine_0.2.2.2.2.2.2.2.2.1 (lv_at0 hl) ?_
    refine lv_iconst (v := 2) hx hb gX12_fromLine_0.2.2.2.2.2.2.2.2.2 (by decide) ?_
    refine lv_icmp_ne (tgt := 30) hx hb gX12_fromLine_1.1 (by decide) (fun c_17_9880 => ?_) (fun c_17_9880 => ?_)
    · refine lv_ldc hx hb hown (hB _ m_1204) gX12_fromLine_1.2.2.2.2.2.2.2.1 ?_
      refine toQ hQ0 ?_
      exact RI (v := 100000) hC hP hD hS [0, 1, 2, 3] fnp rfl rfl (by decide) (⟨_, Or.inl ⟨LVX.w (fun h9 => c_11_9870 (congrArg nI (hsx.trans h9))) (fun h9 => c_17_9880 (congrArg nI (hsx.trans h9))), rfl⟩, rfl⟩) rfl gX12_fromLine_1.2.2.2.2.2.2.2.2.1
    · refine lv_aload_n hx hb gX12_fromLine_1.2.1 rfl (lv_at1 hl) ?_
      refine lv_iload_n hx hb gX12_fromLine_1.2.2.1 rfl (lv_at2 hl) ?_
      refine lv_iload_n hx hb gX12_fromLine_1.2.2.2.1 rfl (lv_at3 hl) ?_
      refine lv_iload_n hx hb gX12_fromLine_1.2.2.2.2.1 rfl (lv_at4 hl) ?_
      refine iV (wr := [(ns, iA G 8 fns)]) hC hK hl hP hD hS hA (m_holdsX l G kq LX9 T9 h0 jv jl je nw nk mhasKept nt mtaped nr mrowMany mroundOf mroundFrom nm mfromHour mtoHour ns mfrom mto msort misFault mdeep mcoded mlines nl nc nF np ntr nb mbestCost nso nsi nit nsh nsf nss nrc mtraced mdealer mnumber mwhose msize misParted fnw fnp (hjv) (hjl) (hln0) (hLZ0) (hje) (hN) (ekq) (hkq)) si_X12_196 [0, 1, 3] [2] sm_0_1_3 fm_0_1_3 nd_0_1_3 sm_2 nd_2 dj_0_1_3__2 rfl rfl rfl rfl rfl (Nat.le_of_ble_eq_true rfl) rm_7_6_12 ⟨Nat.le_of_ble_eq_true rfl, Nat.le_of_ble_eq_true rfl⟩ gX12_fromLine_1.2.2.2.2.2.1 (fun r9881 gnp9883 H locs hr9881 hP hD hS => ?_)
      try dsimp only at hr9881
      refine Kpdr (ws := [(ns, iA G 8 fns), (h0, oX12 nw nk mhasKept nt mtaped nr mrowMany mroundOf mroundFrom 0 nm mfromHour mtoHour ns mfrom mto msort misFault mdeep mcoded mlines nl nc nF np ntr nb mbestCost nso nsi nit nsh nsf nss nrc mtraced mdealer mnumber mwhose msize misParted), (nw, iA G 1662 fnw), (np, iA G 100 gnp9883)]) hP hD (fun hP hD => ?_)
      rcases hr9881 with ⟨rfl, a9884⟩ | ⟨rfl, a9884⟩
      · refine lv_if_ne (tgt := 33) hx hb gX12_fromLine_1.2.2.2.2.2.2.1 (by decide) (fun _ => ?_) (fun c9 => absurd c9 (by decide))
        obtain ⟨jj9, jw9, eL9, hw9, g9⟩ := (LVX.mk hlb a9884).2 (hsx.symm.trans ((nI_eq (b := 2) (by omega) (by decide)).mp c_17_9880))
        refine lv_iload hx hb gX12_fromLine_1.2.2.2.2.2.2.2.2.2 (lv_at0 hl) ?_
        refine lv_iconst (v := 2) hx hb gX12_fromLine_2.1 (by decide) ?_
        refine lv_icmp_ne (tgt := 49) hx hb gX12_fromLine_2.2.1 (by decide) (fun c9 => absurd (c_17_9880) c9) (fun _ => ?_)
        refine lv_aload_n hx hb gX12_fromLine_2.2.2.1 rfl (lv_at1 hl) ?_
        refine lv_iload_n hx hb gX12_fromLine_2.2.2.2.1 rfl (lv_at2 hl) ?_
        refine lv_iload_n hx hb gX12_fromLine_2.2.2.2.2.1 rfl (lv_at3 hl) ?_
        refine lv_iconst (v := 2) hx hb gX12_fromLine_2.2.2.2.2.2.1 (by decide) ?_
        refine pV hC hK hl hP hD (m_lineOf l G h0 jv jl 2 nw nk mhasKept nt mtaped nr mrowMany mroundOf mroundFrom 0 nm mfromHour mtoHour ns mfrom mto msort misFault mdeep mcoded mlines nl nc nF np ntr nb mbestCost nso nsi nit nsh nsf nss nrc mtraced mdealer mnumber mwhose msize misParted fnw (hjv) (hjl) (by omega)) si_X12_193 [1, 2] sm_1_2 fm_1_2 nd_1_2 rfl rfl rfl rfl rfl (Nat.le_of_ble_eq_true rfl) rm_7_1_4 ⟨by first | exact Nat.le_of_ble_eq_true rfl | exact Nat.zero_le _, by first | exact Nat.le_of_ble_eq_true rfl | exact Nat.zero_le _⟩ gX12_fromLine_2.2.2.2.2.2.2.1 (Keqr ?_)
        refine eqi (x1 := nI jw9) (f2.trans g9) ?_
        refine lv_goto (tgt := 61) hx hb gX12_fromLine_2.2.2.2.2.2.2.2.1 (by decide) ?_
        refine lv_istore (lv' := [(5, .int (nI jw9)), (4, .int (nI so)), (0, .ref h0), (1, .int (nI jv)), (2, .int (nI jl)), (3, .int (nI je))]) hx hb gX12_fromLine_3.2.2.2.2.2.2.1 hl (by decide) rfl (fun ls hl => ?_)
        refine lv_iload hx hb gX12_fromLine_3.2.2.2.2.2.2.2.1 (lv_at1 hl) ?_
        refine lv_iconst (v := 2) hx hb gX12_fromLine_3.2.2.2.2.2.2.2.2.1 (by decide) ?_
        refine lv_icmp_eq (tgt := 76) hx hb gX12_fromLine_3.2.2.2.2.2.2.2.2.2 (by decide) (fun _ => ?_) (fun c9 => absurd (c_17_9880) c9)
        refine lv_iload hx hb gX12_fromLine_4.2.2.2.1 (lv_at0 hl) ?_
        refine lv_goto (tgt := 91) hx hb gX12_fromLine_4.2.2.2.2.1 (by decide) ?_
        refine toQ hQ0 ?_
        exact RI (v := nI jw9) hC hP hD hS [1, 2, 0, 3] gnp9883 rfl rfl (by decide) (⟨_, FLQ.ask eL9 hw9, rfl⟩) rfl gX12_fromLine_5.2.2
      · refine lv_if_ne (tgt := 33) hx hb gX12_fromLine_1.2.2.2.2.2.2.1 (by decide) (fun c9 => absurd (by decide) c9) (fun _ => ?_)
        refine lv_ldc hx hb hown (hB _ m_1204) gX12_fromLine_1.2.2.2.2.2.2.2.1 ?_
        refine toQ hQ0 ?_
        exact RI (v := 100000) hC hP hD hS [1, 2, 0, 3] gnp9883 rfl rfl (by decide) (⟨_, Or.inl ⟨LVX.n a9884, rfl⟩, rfl⟩) rfl gX12_fromLine_1.2.2.2.2.2.2.2.2.1
def K_m_knewByX (l : Launch) (G : GG) (kq : Nat) (k6 : Nat) (h0 : Nat) (je : Nat) (jt : Nat) (su : Int32) (nw : Nat) (nk : Nat) (mhasKept : Int32) (nt : Nat) (mtaped : Int32) (nr : Nat) (mrowMany : Int32) (mroundOf : Int32) (mroundFrom : Int32) (nm : Nat) (mfromHour : Int32) (mtoHour : Int32) (ns : Nat) (mfrom : Int32) (mto : Int32) (msort : Int32) (misFault : Int32) (mdeep : Int32) (mcoded : Int32) (mlines : Int32) (nl : Nat) (nc : Nat) (nF : Nat) (np : Nat) (ntr : Nat) (nb : Nat) (mbestCost : Int32) (nso : Nat) (nsi : Nat) (nit : Nat) (nsh : Nat) (nsf : Nat) (nss : Nat) (nrc : Nat) (mtraced : Int32) (mdealer : Int32) (mnumber : Int32) (mwhose : Int32) (msize : Int32) (misParted : Int32) (fnw : Nat → Int32) (fnm : Nat → Int32) : Prop := MI l G yX12_knewBy cX12_knewBy 7 (some .int) 5 0 0 [.ref h0, .int (nI je), .int (nI jt), .int su] [(h0, oX12 nw nk mhasKept nt mtaped nr mrowMany mroundOf mroundFrom 0 nm mfromHour mtoHour ns mfrom mto msort misFault mdeep mcoded mlines nl nc nF np ntr nb mbestCost nso nsi nit nsh nsf nss nrc mtraced mdealer mnumber mwhose msize misParted), (nw, iA G 1662 fnw), (nm, iA G 36 fnm)] (fun (r : Int32) (u : Int32 × Int32 × (Nat → Int32)) => (∃ (r9:Int32), (ARV 100000 (TOF (TCD (KST (shf fnw 104) (VSE fnw kq) (fnw 3).toInt k6) (shf fnw 104) (VSE fnw kq) (shf fnw 32) (shf fnw 12) k6 kq je su jt)) r9) ∧ r = r9) ∧ (MB u.2.2)) (fun u : Int32 × Int32 × (Nat → Int32) => [(h0, oX12 nw nk mhasKept nt mtaped nr mrowMany mroundOf mroundFrom 0 nm u.1 u.2.1 ns mfrom mto msort misFault mdeep mcoded mlines nl nc nF np ntr nb mbestCost nso nsi nit nsh nsf nss nrc mtraced mdealer mnumber mwhose msize misParted), (nw, iA G 1662 fnw), (nm, iA G 36 u.2.2)])
set_option maxHeartbeats 4000000 in
set_option maxRecDepth 100000 in
theorem m_knewByX (l : Launch) (G : GG) (kq : Nat) (k6 : Nat) (h0 : Nat) (je : Nat) (jt : Nat) (su : Int32) (nw : Nat) (nk : Nat) (mhasKept : Int32) (nt : Nat) (mtaped : Int32) (nr : Nat) (mrowMany : Int32) (mroundOf : Int32) (mroundFrom : Int32) (nm : Nat) (mfromHour : Int32) (mtoHour : Int32) (ns : Nat) (mfrom : Int32) (mto : Int32) (msort : Int32) (misFault : Int32) (mdeep : Int32) (mcoded : Int32) (mlines : Int32) (nl : Nat) (nc : Nat) (nF : Nat) (np : Nat) (ntr : Nat) (nb : Nat) (mbestCost : Int32) (nso : Nat) (nsi : Nat) (nit : Nat) (nsh : Nat) (nsf : Nat) (nss : Nat) (nrc : Nat) (mtraced : Int32) (mdealer : Int32) (mnumber : Int32) (mwhose : Int32) (msize : Int32) (misParted : Int32) (fnw : Nat → Int32) (fnm : Nat → Int32) (hM : MB fnm) (hN : NI fnw) (hgp : GPRm (fnw 3)) (ekq : fnw 5 = nI kq) (hkq : kq ≤ 12) (e6 : fnw 6 = nI k6) (hk6 : k6 ≤ 24) (hje : je < 10) (hjt : jt < 8) : K_m_knewByX l G kq k6 h0 je jt su nw nk mhasKept nt mtaped nr mrowMany mroundOf mroundFrom nm mfromHour mtoHour ns mfrom mto msort misFault mdeep mcoded mlines nl nc nF np ntr nb mbestCost nso nsi nit nsh nsf nss nrc mtraced mdealer mnumber mwhose msize misParted fnw fnm := by
  refine MI.start (by decide +kernel) (Nat.le_of_ble_eq_true rfl) ?_
  intro p e s m below meth c A ls hC hK hP hD hS hA hl
  refine absQ (fun Q0 hQ0 => ?_)
  have hl : lv_has ls 7 [(0, .ref h0), (1, .int (nI je)), (2, .int (nI jt)), (3, .int su)] := hl
  refine Kan8 hC (fun hx hb hr hml hB hown hlocks hnm => ?_)
  refine lv_aload_n hx hb gX12_knewBy_0.1 rfl (lv_at0 hl) ?_
  refine iV (wr := []) hC hK hl hP hD hS hA (m_findClocksX l G kq k6 h0 nw nk mhasKept nt mtaped nr mrowMany mroundOf mroundFrom nm mfromHour mtoHour ns mfrom mto msort misFault mdeep mcoded mlines nl nc nF np ntr nb mbestCost nso nsi nit nsh nsf nss nrc mtraced mdealer mnumber mwhose msize misParted fnw fnm (hN) (hgp) (ekq) (hkq) (e6) (hk6)) si_X12_148 [0, 1, 2] [] sm_0_1_2 fm_0_1_2 nd_0_1_2 rfl rfl (by decide) rfl rfl rfl rfl rfl (Nat.le_of_ble_eq_true rfl) rm_5_4_7 ⟨Nat.le_of_ble_eq_true rfl, Nat.le_of_ble_eq_true rfl⟩ gX12_knewBy_0.2.1 (fun r9887 gnm9889 H locs hr9887 hP hD hS => ?_)
  try dsimp only at hr9887
  refine Kpdr (ws := [(h0, oX12 nw nk mhasKept nt mtaped nr mrowMany mroundOf mroundFrom 0 nm mfromHour mtoHour ns mfrom mto msort misFault mdeep mcoded mlines nl nc nF np ntr nb mbestCost nso nsi nit nsh nsf nss nrc mtraced mdealer mnumber mwhose msize misParted), (nw, iA G 1662 fnw), (nm, iA G 36 gnm9889)]) hP hD (fun hP hD => ?_)
  obtain ⟨hr9887, w9890⟩ := hr9887
  rcases hr9887 with ⟨rfl, a9891⟩ | ⟨rfl, a9891⟩
  · refine lv_istore (lv' := [(4, .int 1), (0, .ref h0), (1, .int (nI je)), (2, .int (nI jt)), (3, .int su)]) hx hb gX12_knewBy_0.2.2.1 hl (by decide) rfl (fun ls hl => ?_)
    refine lv_ldc hx hb hown (hB _ m_1204) gX12_knewBy_0.2.2.2.1 ?_
    refine lv_istore (lv' := [(5, .int 100000), (4, .int 1), (0, .ref h0), (1, .int (nI je)), (2, .int (nI jt)), (3, .int su)]) hx hb gX12_knewBy_0.2.2.2.2.1 hl (by decide) rfl (fun ls hl => ?_)
    refine lv_iconst (v := 0) hx hb gX12_knewBy_0.2.2.2.2.2.1 (by decide) ?_
    refine lv_istore (lv' := [(6, .int 0), (5, .int 100000), (4, .int 1), (0, .ref h0), (1, .int (nI je)), (2, .int (nI jt)), (3, .int su)]) hx hb gX12_knewBy_0.2.2.2.2.2.2.1 hl (by decide) rfl (fun ls hl => ?_)
    have hsl9 : 0 ≤ (shf fnw 12 (je * 2 + 1)).toInt ∧ (shf fnw 12 (je * 2 + 1)).toInt ≤ 48 := NI.slow hN (by omega)
    have keyP : ∀ (nP kP : Nat) (be : Int32) (vfh : Int32) (vth : Int32) (H : Heap) (locs : List Loc) (ls : Array Slot), kP + nP = kq → (LST9 (TCD (KST (shf fnw 104) (VSE fnw kq) (fnw 3).toInt k6) (shf fnw 104) (VSE fnw kq) (shf fnw 32) (shf fnw 12) k6 kP je su jt) 100000 be) → va_PD G A [(h0, oX12 nw nk mhasKept nt mtaped nr mrowMany mroundOf mroundFrom 0 nm vfh vth ns mfrom mto msort misFault mdeep mcoded mlines nl nc nF np ntr nb mbestCost nso nsi nit nsh nsf nss nrc mtraced mdealer mnumber mwhose msize misParted), (nw, iA G 1662 fnw), (nm, iA G 36 gnm9889)] H → va_S A s.heap H locs → lv_has ls 7 [(6, .int (nI kP)), (5, .int be), (4, .int 1), (0, .ref h0), (1, .int (nI je)), (2, .int (nI jt)), (3, .int su)] → W p l e (RM 5 0 0) s m ([.ref h0, .int (nI je), .int (nI jt), .int su] : List Value).toArray below meth c H locs 0 0 Q0 (F0 m 13 ls []) := by
      intro nP
      induction nP with
      | zero =>
        intro kP be vfh vth H locs ls hkP hle hPD hS hl
        refine Kan2 hPD (fun hP hD => ?_)
        obtain rfl : kq = kP := by omega
        have hl : lv_has ls 7 [(6, .int (nI kq)), (5, .int be), (4, .int 1), (0, .ref h0), (1, .int (nI je)), (2, .int (nI jt)), (3, .int su)] := hl
        refine lv_iload hx hb gX12_knewBy_0.2.2.2.2.2.2.2.1 (lv_at0 hl) ?_
        refine lv_aload_n hx hb gX12_knewBy_0.2.2.2.2.2.2.2.2.1 rfl (lv_at3 hl) ?_
        refine gf_X12_9 hC rfl hK hP 0 rfl rfl gX12_knewBy_0.2.2.2.2.2.2.2.2.2 ?_
        refine lv_iconst (v := 5) hx hb gX12_knewBy_1.1 (by decide) ?_
        refine ald hC hK hP 1 rfl (vin (by decide +kernel)) (k := 5) (by decide +kernel) (v := nI kq) (ekq) gX12_knewBy_1.2.1 ?_
        refine lv_icmp_ge (tgt := 78) hx hb gX12_knewBy_1.2.2.1 (by decide) (fun _ => ?_) (fun c9 => absurd (Int32.le_refl _) c9)
        refine lv_iload hx hb gX12_knewBy_3.2.2.2.2.2.2.2.2.1 (lv_at1 hl) ?_
        refine toQ hQ0 ?_
        exact RI (v := be) hC hP hD hS [0, 1, 2] (vfh, vth, gnm9889) rfl rfl (by decide) (⟨⟨_, LST9.tof hle, rfl⟩, by first | assumption | exact hM⟩) rfl gX12_knewBy_3.2.2.2.2.2.2.2.2.2
      | succ nP ihP =>
        intro kP be vfh vth H locs ls hkP hle hPD hS hl
        refine Kan2 hPD (fun hP hD => ?_)
        refine lv_iload hx hb gX12_knewBy_0.2.2.2.2.2.2.2.1 (lv_at0 hl) ?_
        refine lv_aload_n hx hb gX12_knewBy_0.2.2.2.2.2.2.2.2.1 rfl (lv_at3 hl) ?_
        refine gf_X12_9 hC rfl hK hP 0 rfl rfl gX12_knewBy_0.2.2.2.2.2.2.2.2.2 ?_
        refine lv_iconst (v := 5) hx hb gX12_knewBy_1.1 (by decide) ?_
        refine ald hC hK hP 1 rfl (vin (by decide +kernel)) (k := 5) (by decide +kernel) (v := nI kq) (ekq) gX12_knewBy_1.2.1 ?_
        refine lv_icmp_ge (tgt := 78) hx hb gX12_knewBy_1.2.2.1 (by decide) (fun c9 => absurd c9 (nI_ge (a := kP) (b := kq) (by omega) (by omega))) (fun _ => ?_)
        refine lv_aload_n hx hb gX12_knewBy_1.2.2.2.1 rfl (lv_at3 hl) ?_
        refine lv_iload hx hb gX12_knewBy_1.2.2.2.2.1 (lv_at0 hl) ?_
        refine lv_iconst (v := 2) hx hb gX12_knewBy_1.2.2.2.2.2.1 (by decide) ?_
        refine pV hC hK hl hP hD (m_paper l G h0 kP 2 nw nk mhasKept nt mtaped nr mrowMany mroundOf mroundFrom 0 nm vfh vth ns mfrom mto msort misFault mdeep mcoded mlines nl nc nF np ntr nb mbestCost nso nsi nit nsh nsf nss nrc mtraced mdealer mnumber mwhose msize misParted fnw (by omega) (by omega)) si_X12_88 [0, 1] sm_0_1 fm_0_1 nd_0_1 rfl rfl rfl rfl rfl (Nat.le_of_ble_eq_true rfl) rm_5_1_3 ⟨by first | exact Nat.le_of_ble_eq_true rfl | exact Nat.zero_le _, by first | exact Nat.le_of_ble_eq_true rfl | exact Nat.zero_le _⟩ gX12_knewBy_1.2.2.2.2.2.2.1 (Keqr ?_)
        refine lv_iload_n hx hb gX12_knewBy_1.2.2.2.2.2.2.2.1 rfl (lv_at5 hl) ?_
        refine pS hC hK hl (m_has l G (fnw (32 + 6 * kP + 2)) (nI jt)) si_X12_99 rfl rfl (Nat.le_of_ble_eq_true rfl) rm_5_1_2 ⟨by first | exact Nat.le_of_ble_eq_true rfl | exact Nat.zero_le _, by first | exact Nat.le_of_ble_eq_true rfl | exact Nat.zero_le _⟩ gX12_knewBy_1.2.2.2.2.2.2.2.2.1 (Kors (Keqa fun a9895 => ?_) (Keqa fun a9895 => ?_))
        · refine lv_if_eq (tgt := 72) hx hb gX12_knewBy_1.2.2.2.2.2.2.2.2.2 (by decide) (fun c9 => absurd c9 (by decide)) (fun _ => ?_)
          refine lv_aload_n hx hb gX12_knewBy_2.1 rfl (lv_at3 hl) ?_
          refine lv_iload hx hb gX12_knewBy_2.2.1 (lv_at0 hl) ?_
          refine lv_iload_n hx hb gX12_knewBy_2.2.2.1 rfl (lv_at4 hl) ?_
          refine lv_iload hx hb gX12_knewBy_2.2.2.2.1 (lv_at2 hl) ?_
          refine pV hC hK hl hP hD (m_inHandC l G k6 h0 kP je nw nk mhasKept nt mtaped nr mrowMany mroundOf mroundFrom 0 nm vfh vth ns mfrom mto msort misFault mdeep mcoded mlines nl nc nF np ntr nb mbestCost nso nsi nit nsh nsf nss nrc mtraced mdealer mnumber mwhose msize misParted fnw (e6) (hk6) (by omega)) si_X12_171 [0, 1] sm_0_1 fm_0_1 nd_0_1 rfl rfl rfl rfl rfl (Nat.le_of_ble_eq_true rfl) rm_5_4_4 ⟨by first | exact Nat.le_of_ble_eq_true rfl | exact Nat.zero_le _, by first | exact Nat.le_of_ble_eq_true rfl | exact Nat.zero_le _⟩ gX12_knewBy_2.2.2.2.2.1 (Keqr ?_)
          refine lv_if_eq (tgt := 72) hx hb gX12_knewBy_2.2.2.2.2.2.1 (by decide) (fun _ => ?_) (fun c9 => absurd (by decide) c9)
          refine lv_iinc (v := nI (kP + 1)) (lv' := [(6, .int (nI (kP + 1))), (5, .int be), (4, .int 1), (0, .ref h0), (1, .int (nI je)), (2, .int (nI jt)), (3, .int su)]) hx hb gX12_knewBy_3.2.2.2.2.2.2.1 hl (k := 0) rfl (nI_1 _) (by decide) rfl (fun ls hl => ?_)
          refine lv_goto (tgt := 13) hx hb gX12_knewBy_3.2.2.2.2.2.2.2.1 (by decide) ?_
          have hst9 : LST9 (TCD (KST (shf fnw 104) (VSE fnw kq) (fnw 3).toInt k6) (shf fnw 104) (VSE fnw kq) (shf fnw 32) (shf fnw 12) k6 (kP + 1) je su jt) 100000 be := hle.sk (TC1.n2 (Or.inl a9891))
          exact ihP (kP + 1) be vfh vth _ _ _ (by omega) (by first | assumption | exact Or.inl rfl | exact Or.inr rfl | exact LST9.zero) (And.intro hP hD) hS (lv_sub hl [0, 1, 2, 3, 4, 5, 6] rfl)
        · refine lv_if_eq (tgt := 72) hx hb gX12_knewBy_1.2.2.2.2.2.2.2.2.2 (by decide) (fun _ => ?_) (fun c9 => absurd (by decide) c9)
          refine lv_iinc (v := nI (kP + 1)) (lv' := [(6, .int (nI (kP + 1))), (5, .int be), (4, .int 1), (0, .ref h0), (1, .int (nI je)), (2, .int (nI jt)), (3, .int su)]) hx hb gX12_knewBy_3.2.2.2.2.2.2.1 hl (k := 0) rfl (nI_1 _) (by decide) rfl (fun ls hl => ?_)
          refine lv_goto (tgt := 13) hx hb gX12_knewBy_3.2.2.2.2.2.2.2.1 (by decide) ?_
          have hst9 : LST9 (TCD (KST (shf fnw 104) (VSE fnw kq) (fnw 3).toInt k6) (shf fnw 104) (VSE fnw kq) (shf fnw 32) (shf fnw 12) k6 (kP + 1) je su jt) 100000 be := hle.sk (TC1.n1 (THM.no a9895))
          exact ihP (kP + 1) be vfh vth _ _ _ (by omega) (by first | assumption | exact Or.inl rfl | exact Or.inr rfl | exact LST9.zero) (And.intro hP hD) hS (lv_sub hl [0, 1, 2, 3, 4, 5, 6] rfl)
    exact keyP kq 0 100000 mfromHour mtoHour _ _ _ (by omega) (by first | assumption | exact Or.inl rfl | exact Or.inr rfl | exact LST9.zero) (And.intro hP hD) hS (lv_sub hl [0, 1, 2, 3, 4, 5, 6] rfl)
  · refine lv_istore (lv' := [(4, .int 0), (0, .ref h0), (1, .int (nI je)), (2, .int (nI jt)), (3, .int su)]) hx hb gX12_knewBy_0.2.2.1 hl (by decide) rfl (fun ls hl => ?_)
    refine lv_ldc hx hb hown (hB _ m_1204) gX12_knewBy_0.2.2.2.1 ?_
    refine lv_istore (lv' := [(5, .int 100000), (4, .int 0), (0, .ref h0), (1, .int (nI je)), (2, .int (nI jt)), (3, .int su)]) hx hb gX12_knewBy_0.2.2.2.2.1 hl (by decide) rfl (fun ls hl => ?_)
    refine lv_iconst (v := 0) hx hb gX12_knewBy_0.2.2.2.2.2.1 (by decide) ?_
    refine lv_istore (lv' := [(6, .int 0), (5, .int 100000), (4, .int 0), (0, .ref h0), (1, .int (nI je)), (2, .int (nI jt)), (3, .int su)]) hx hb gX12_knewBy_0.2.2.2.2.2.2.1 hl (by decide) rfl (fun ls hl => ?_)
    have hsl9 : 0 ≤ (shf fnw 12 (je * 2 + 1)).toInt ∧ (shf fnw 12 (je * 2 + 1)).toInt ≤ 48 := NI.slow hN (by omega)
    have keyP : ∀ (nP kP : Nat) (be : Int32) (vfh : Int32) (vth : Int32) (H : Heap) (locs : List Loc) (ls : Array Slot), kP + nP = kq → (LST9 (TCD (KST (shf fnw 104) (VSE fnw kq) (fnw 3).toInt k6) (shf fnw 104) (VSE fnw kq) (shf fnw 32) (shf fnw 12) k6 kP je su jt) 100000 be) → va_PD G A [(h0, oX12 nw nk mhasKept nt mtaped nr mrowMany mroundOf mroundFrom 0 nm vfh vth ns mfrom mto msort misFault mdeep mcoded mlines nl nc nF np ntr nb mbestCost nso nsi nit nsh nsf nss nrc mtraced mdealer mnumber mwhose msize misParted), (nw, iA G 1662 fnw), (nm, iA G 36 gnm9889)] H → va_S A s.heap H locs → lv_has ls 7 [(6, .int (nI kP)), (5, .int be), (4, .int 0), (0, .ref h0), (1, .int (nI je)), (2, .int (nI jt)), (3, .int su)] → W p l e (RM 5 0 0) s m ([.ref h0, .int (nI je), .int (nI jt), .int su] : List Value).toArray below meth c H locs 0 0 Q0 (F0 m 13 ls []) := by
      intro nP
      induction nP with
      | zero =>
        intro kP be vfh vth H locs ls hkP hle hPD hS hl
        refine Kan2 hPD (fun hP hD => ?_)
        obtain rfl : kq = kP := by omega
        have hl : lv_has ls 7 [(6, .int (nI kq)), (5, .int be), (4, .int 0), (0, .ref h0), (1, .int (nI je)), (2, .int (nI jt)), (3, .int su)] := hl
        refine lv_iload hx hb gX12_knewBy_0.2.2.2.2.2.2.2.1 (lv_at0 hl) ?_
        refine lv_aload_n hx hb gX12_knewBy_0.2.2.2.2.2.2.2.2.1 rfl (lv_at3 hl) ?_
        refine gf_X12_9 hC rfl hK hP 0 rfl rfl gX12_knewBy_0.2.2.2.2.2.2.2.2.2 ?_
        refine lv_iconst (v := 5) hx hb gX12_knewBy_1.1 (by decide) ?_
        refine ald hC hK hP 1 rfl (vin (by decide +kernel)) (k := 5) (by decide +kernel) (v := nI kq) (ekq) gX12_knewBy_1.2.1 ?_
        refine lv_icmp_ge (tgt := 78) hx hb gX12_knewBy_1.2.2.1 (by decide) (fun _ => ?_) (fun c9 => absurd (Int32.le_refl _) c9)
        refine lv_iload hx hb gX12_knewBy_3.2.2.2.2.2.2.2.2.1 (lv_at1 hl) ?_
        refine toQ hQ0 ?_
        exact RI (v := be) hC hP hD hS [0, 1, 2] (vfh, vth, gnm9889) rfl rfl (by decide) (⟨⟨_, LST9.tof hle, rfl⟩, by first | assumption | exact hM⟩) rfl gX12_knewBy_3.2.2.2.2.2.2.2.2.2
      | succ nP ihP =>
        intro kP be vfh vth H locs ls hkP hle hPD hS hl
        refine Kan2 hPD (fun hP hD => ?_)
        refine lv_iload hx hb gX12_knewBy_0.2.2.2.2.2.2.2.1 (lv_at0 hl) ?_
        refine lv_aload_n hx hb gX12_knewBy_0.2.2.2.2.2.2.2.2.1 rfl (lv_at3 hl) ?_
        refine gf_X12_9 hC rfl hK hP 0 rfl rfl gX12_knewBy_0.2.2.2.2.2.2.2.2.2 ?_
        refine lv_iconst (v := 5) hx hb gX12_knewBy_1.1 (by decide) ?_
        refine ald hC hK hP 1 rfl (vin (by decide +kernel)) (k := 5) (by decide +kernel) (v := nI kq) (ekq) gX12_knewBy_1.2.1 ?_
        refine lv_icmp_ge (tgt := 78) hx hb gX12_knewBy_1.2.2.1 (by decide) (fun c9 => absurd c9 (nI_ge (a := kP) (b := kq) (by omega) (by omega))) (fun _ => ?_)
        refine lv_aload_n hx hb gX12_knewBy_1.2.2.2.1 rfl (lv_at3 hl) ?_
        refine lv_iload hx hb gX12_knewBy_1.2.2.2.2.1 (lv_at0 hl) ?_
        refine lv_iconst (v := 2) hx hb gX12_knewBy_1.2.2.2.2.2.1 (by decide) ?_
        refine pV hC hK hl hP hD (m_paper l G h0 kP 2 nw nk mhasKept nt mtaped nr mrowMany mroundOf mroundFrom 0 nm vfh vth ns mfrom mto msort misFault mdeep mcoded mlines nl nc nF np ntr nb mbestCost nso nsi nit nsh nsf nss nrc mtraced mdealer mnumber mwhose msize misParted fnw (by omega) (by omega)) si_X12_88 [0, 1] sm_0_1 fm_0_1 nd_0_1 rfl rfl rfl rfl rfl (Nat.le_of_ble_eq_true rfl) rm_5_1_3 ⟨by first | exact Nat.le_of_ble_eq_true rfl | exact Nat.zero_le _, by first | exact Nat.le_of_ble_eq_true rfl | exact Nat.zero_le _⟩ gX12_knewBy_1.2.2.2.2.2.2.1 (Keqr ?_)
        refine lv_iload_n hx hb gX12_knewBy_1.2.2.2.2.2.2.2.1 rfl (lv_at5 hl) ?_
        refine pS hC hK hl (m_has l G (fnw (32 + 6 * kP + 2)) (nI jt)) si_X12_99 rfl rfl (Nat.le_of_ble_eq_true rfl) rm_5_1_2 ⟨by first | exact Nat.le_of_ble_eq_true rfl | exact Nat.zero_le _, by first | exact Nat.le_of_ble_eq_true rfl | exact Nat.zero_le _⟩ gX12_knewBy_1.2.2.2.2.2.2.2.2.1 (Kors (Keqa fun a9901 => ?_) (Keqa fun a9901 => ?_))
        · refine lv_if_eq (tgt := 72) hx hb gX12_knewBy_1.2.2.2.2.2.2.2.2.2 (by decide) (fun c9 => absurd c9 (by decide)) (fun _ => ?_)
          refine lv_aload_n hx hb gX12_knewBy_2.1 rfl (lv_at3 hl) ?_
          refine lv_iload hx hb gX12_knewBy_2.2.1 (lv_at0 hl) ?_
          refine lv_iload_n hx hb gX12_knewBy_2.2.2.1 rfl (lv_at4 hl) ?_
          refine lv_iload hx hb gX12_knewBy_2.2.2.2.1 (lv_at2 hl) ?_
          refine iV (wr := []) hC hK hl hP hD hS hA (m_inHandL l G kq k6 h0 kP je nw nk mhasKept nt mtaped nr mrowMany mroundOf mroundFrom nm vfh vth ns mfrom mto msort misFault mdeep mcoded mlines nl nc nF np ntr nb mbestCost nso nsi nit nsh nsf nss nrc mtraced mdealer mnumber mwhose msize misParted fnw gnm9889 (hN) (e6) (hk6) (ekq) (by omega) (hkq) (hje)) si_X12_171 [0, 1, 2] [] sm_0_1_2 fm_0_1_2 nd_0_1_2 rfl rfl (by decide) rfl rfl rfl rfl rfl (Nat.le_of_ble_eq_true rfl) rm_5_4_4 ⟨Nat.le_of_ble_eq_true rfl, Nat.le_of_ble_eq_true rfl⟩ gX12_knewBy_2.2.2.2.2.1 (fun r9902 => Ktu2 fun fh19904 th19905 => ?_)
          intro H locs hr9902 hP hD hS
          try dsimp only at hr9902
          refine Kpdr (ws := [(h0, oX12 nw nk mhasKept nt mtaped nr mrowMany mroundOf mroundFrom 0 nm fh19904 th19905 ns mfrom mto msort misFault mdeep mcoded mlines nl nc nF np ntr nb mbestCost nso nsi nit nsh nsf nss nrc mtraced mdealer mnumber mwhose msize misParted), (nw, iA G 1662 fnw), (nm, iA G 36 gnm9889)]) hP hD (fun hP hD => ?_)
          rcases hr9902 with ⟨rfl, a9906⟩ | ⟨rfl, a9906⟩
          · refine lv_if_eq (tgt := 72) hx hb gX12_knewBy_2.2.2.2.2.2.1 (by decide) (fun c9 => absurd c9 (by decide)) (fun _ => ?_)
            refine lv_iload hx hb gX12_knewBy_2.2.2.2.2.2.2.1 (lv_at1 hl) ?_
            refine lv_iload_n hx hb gX12_knewBy_2.2.2.2.2.2.2.2.1 rfl (lv_at6 hl) ?_
            refine lv_if_eq (tgt := 63) hx hb gX12_knewBy_2.2.2.2.2.2.2.2.2.1 (by decide) (fun c_53_9907 => ?_) (fun c_53_9907 => ?_)
            · refine lv_aload_n hx hb gX12_knewBy_3.2.2.1 rfl (lv_at3 hl) ?_
              refine gf_X12_161 hC rfl hK hP 0 rfl rfl gX12_knewBy_3.2.2.2.1 ?_
              refine va_mmin hx hb (hml.trans hl.1.symm) hown (hB _ m_1165) (hB _ m_373) (hB _ m_105) (hB _ m_374) (Nat.le_of_ble_eq_true rfl) (Nat.le_of_ble_eq_true rfl) (by first | exact Nat.le_of_ble_eq_true rfl | exact Nat.zero_le _)  (by first | exact Nat.le_of_ble_eq_true rfl | exact Nat.zero_le _) gX12_knewBy_3.2.2.2.2.1 ?_
              refine eqi (x1 := IMN be fh19904) (rfl) ?_
              refine lv_istore (lv' := [(5, .int (IMN be fh19904)), (6, .int (nI kP)), (4, .int 0), (0, .ref h0), (1, .int (nI je)), (2, .int (nI jt)), (3, .int su)]) hx hb gX12_knewBy_3.2.2.2.2.2.1 hl (by decide) rfl (fun ls hl => ?_)
              refine lv_iinc (v := nI (kP + 1)) (lv' := [(6, .int (nI (kP + 1))), (5, .int (IMN be fh19904)), (4, .int 0), (0, .ref h0), (1, .int (nI je)), (2, .int (nI jt)), (3, .int su)]) hx hb gX12_knewBy_3.2.2.2.2.2.2.1 hl (k := 1) rfl (nI_1 _) (by decide) rfl (fun ls hl => ?_)
              refine lv_goto (tgt := 13) hx hb gX12_knewBy_3.2.2.2.2.2.2.2.1 (by decide) ?_
              have hst9 : LST9 (TCD (KST (shf fnw 104) (VSE fnw kq) (fnw 3).toInt k6) (shf fnw 104) (VSE fnw kq) (shf fnw 32) (shf fnw 12) k6 (kP + 1) je su jt) 100000 (IMN be fh19904) := hle.tk (SVL.ofm hN (by omega)) hsl9.1 hsl9.2 (by decide) (TC1.mk (THM.hb (by omega) a9901) (INQ.re (HIQ.rb (by omega) a9891 a9906)) (Or.inl ⟨c_53_9907, rfl⟩))
              exact ihP (kP + 1) (IMN be fh19904) fh19904 th19905 _ _ _ (by omega) (by first | assumption | exact Or.inl rfl | exact Or.inr rfl | exact LST9.zero) (And.intro hP hD) hS (lv_sub hl [0, 1, 2, 3, 4, 5, 6] rfl)
            · refine lv_aload_n hx hb gX12_knewBy_2.2.2.2.2.2.2.2.2.2 rfl (lv_at3 hl) ?_
              refine gf_X12_164 hC rfl hK hP 0 rfl rfl gX12_knewBy_3.1 ?_
              refine lv_goto (tgt := 67) hx hb gX12_knewBy_3.2.1 (by decide) ?_
              refine va_mmin hx hb (hml.trans hl.1.symm) hown (hB _ m_1165) (hB _ m_373) (hB _ m_105) (hB _ m_374) (Nat.le_of_ble_eq_true rfl) (Nat.le_of_ble_eq_true rfl) (by first | exact Nat.le_of_ble_eq_true rfl | exact Nat.zero_le _)  (by first | exact Nat.le_of_ble_eq_true rfl | exact Nat.zero_le _) gX12_knewBy_3.2.2.2.2.1 ?_
              refine eqi (x1 := IMN be th19905) (rfl) ?_
              refine lv_istore (lv' := [(5, .int (IMN be th19905)), (6, .int (nI kP)), (4, .int 0), (0, .ref h0), (1, .int (nI je)), (2, .int (nI jt)), (3, .int su)]) hx hb gX12_knewBy_3.2.2.2.2.2.1 hl (by decide) rfl (fun ls hl => ?_)
              refine lv_iinc (v := nI (kP + 1)) (lv' := [(6, .int (nI (kP + 1))), (5, .int (IMN be th19905)), (4, .int 0), (0, .ref h0), (1, .int (nI je)), (2, .int (nI jt)), (3, .int su)]) hx hb gX12_knewBy_3.2.2.2.2.2.2.1 hl (k := 1) rfl (nI_1 _) (by decide) rfl (fun ls hl => ?_)
              refine lv_goto (tgt := 13) hx hb gX12_knewBy_3.2.2.2.2.2.2.2.1 (by decide) ?_
              have hst9 : LST9 (TCD (KST (shf fnw 104) (VSE fnw kq) (fnw 3).toInt k6) (shf fnw 104) (VSE fnw kq) (shf fnw 32) (shf fnw 12) k6 (kP + 1) je su jt) 100000 (IMN be th19905) := hle.tk (SVL.ofm hN (by omega)) hsl9.1 hsl9.2 (by decide) (TC1.mk (THM.hb (by omega) a9901) (INQ.re (HIQ.rb (by omega) a9891 a9906)) (Or.inr ⟨c_53_9907, rfl⟩))
              exact ihP (kP + 1) (IMN be th19905) fh19904 th19905 _ _ _ (by omega) (by first | assumption | exact Or.inl rfl | exact Or.inr rfl | exact LST9.zero) (And.intro hP hD) hS (lv_sub hl [0, 1, 2, 3, 4, 5, 6] rfl)
          · refine lv_if_eq (tgt := 72) hx hb gX12_knewBy_2.2.2.2.2.2.1 (by decide) (fun _ => ?_) (fun c9 => absurd (by decide) c9)
            refine lv_iinc (v := nI (kP + 1)) (lv' := [(6, .int (nI (kP + 1))), (5, .int be), (4, .int 0), (0, .ref h0), (1, .int (nI je)), (2, .int (nI jt)), (3, .int su)]) hx hb gX12_knewBy_3.2.2.2.2.2.2.1 hl (k := 0) rfl (nI_1 _) (by decide) rfl (fun ls hl => ?_)
            refine lv_goto (tgt := 13) hx hb gX12_knewBy_3.2.2.2.2.2.2.2.1 (by decide) ?_
            have hst9 : LST9 (TCD (KST (shf fnw 104) (VSE fnw kq) (fnw 3).toInt k6) (shf fnw 104) (VSE fnw kq) (shf fnw 32) (shf fnw 12) k6 (kP + 1) je su jt) 100000 be := hle.sk (TC1.n2 (NIQ.rn (by rw [shf_pa, shf_pa]; exact a9906)))
            exact ihP (kP + 1) be fh19904 th19905 _ _ _ (by omega) (by first | assumption | exact Or.inl rfl | exact Or.inr rfl | exact LST9.zero) (And.intro hP hD) hS (lv_sub hl [0, 1, 2, 3, 4, 5, 6] rfl)
        · refine lv_if_eq (tgt := 72) hx hb gX12_knewBy_1.2.2.2.2.2.2.2.2.2 (by decide) (fun _ => ?_) (fun c9 => absurd (by decide) c9)
          refine lv_iinc (v := nI (kP + 1)) (lv' := [(6, .int (nI (kP + 1))), (5, .int be), (4, .int 0), (0, .ref h0), (1, .int (nI je)), (2, .int (nI jt)), (3, .int su)]) hx hb gX12_knewBy_3.2.2.2.2.2.2.1 hl (k := 0) rfl (nI_1 _) (by decide) rfl (fun ls hl => ?_)
          refine lv_goto (tgt := 13) hx hb gX12_knewBy_3.2.2.2.2.2.2.2.1 (by decide) ?_
          have hst9 : LST9 (TCD (KST (shf fnw 104) (VSE fnw kq) (fnw 3).toInt k6) (shf fnw 104) (VSE fnw kq) (shf fnw 32) (shf fnw 12) k6 (kP + 1) je su jt) 100000 be := hle.sk (TC1.n1 (THM.no a9901))
          exact ihP (kP + 1) be vfh vth _ _ _ (by omega) (by first | assumption | exact Or.inl rfl | exact Or.inr rfl | exact LST9.zero) (And.intro hP hD) hS (lv_sub hl [0, 1, 2, 3, 4, 5, 6] rfl)
    exact keyP kq 0 100000 mfromHour mtoHour _ _ _ (by omega) (by first | assumption | exact Or.inl rfl | exact Or.inr rfl | exact LST9.zero) (And.intro hP hD) hS (lv_sub hl [0, 1, 2, 3, 4, 5, 6] rfl)
def K_m_findShouldX (l : Launch) (G : GG) (kq : Nat) (k6 : Nat) (k7 : Nat) (VL : Nat → List LNT) (VC : Nat → Nat → List Int32) (DY : Nat → Int32) (h0 : Nat) (je : Nat) (nw : Nat) (nk : Nat) (mhasKept : Int32) (nt : Nat) (mtaped : Int32) (nr : Nat) (mrowMany : Int32) (mroundOf : Int32) (mroundFrom : Int32) (nm : Nat) (mfromHour : Int32) (mtoHour : Int32) (ns : Nat) (mfrom : Int32) (mto : Int32) (msort : Int32) (misFault : Int32) (mdeep : Int32) (mcoded : Int32) (mlines : Int32) (nl : Nat) (nc : Nat) (nF : Nat) (np : Nat) (ntr : Nat) (nb : Nat) (mbestCost : Int32) (nso : Nat) (nsi : Nat) (nit : Nat) (nsh : Nat) (nsf : Nat) (nss : Nat) (nrc : Nat) (mtraced : Int32) (mdealer : Int32) (mnumber : Int32) (mwhose : Int32) (msize : Int32) (misParted : Int32) (fnw : Nat → Int32) (fnm : Nat → Int32) (fns : Nat → Int32) (fnp : Nat → Int32) : Prop := MV l G yX12_findShould cX12_findShould 7 8 0 0 [.ref h0, .int (nI je)] [(h0, oX12 nw nk mhasKept nt mtaped nr mrowMany mroundOf mroundFrom 0 nm mfromHour mtoHour ns mfrom mto msort misFault mdeep mcoded mlines nl nc nF np ntr nb mbestCost nso nsi nit nsh nsf nss nrc mtraced mdealer mnumber mwhose msize misParted), (nw, iA G 1662 fnw), (nm, iA G 36 fnm), (ns, iA G 8 fns), (np, iA G 100 fnp)] (fun u : Int32 × Int32 × (Nat → Int32) × (Nat → Int32) × (Nat → Int32) => MB u.2.2.1 ∧ ARS 100000 (SHF (KST (shf fnw 104) (VSE fnw kq) (fnw 3).toInt k6) (shf fnw 104) (VSE fnw kq) (shf fnw 32) (shf fnw 12) k6 kq je (LVF (LNF (RLO DY (DAYV (fnw 0) (fnw 1)) k7) VL) (TRF (RLO DY (DAYV (fnw 0) (fnw 1)) k7) VC (FAX (shf fnw 12) (shf fnw 32) (VSE fnw kq) kq je))) (LVN (RLO DY (DAYV (fnw 0) (fnw 1)) k7) VL)) u.2.2.2.1) (fun u : Int32 × Int32 × (Nat → Int32) × (Nat → Int32) × (Nat → Int32) => [(h0, oX12 nw nk mhasKept nt mtaped nr mrowMany mroundOf mroundFrom 0 nm u.1 u.2.1 ns mfrom mto msort misFault mdeep mcoded mlines nl nc nF np ntr nb mbestCost nso nsi nit nsh nsf nss nrc mtraced mdealer mnumber mwhose msize misParted), (nw, iA G 1662 fnw), (nm, iA G 36 u.2.2.1), (ns, iA G 8 u.2.2.2.1), (np, iA G 100 u.2.2.2.2)])
set_option maxHeartbeats 4000000 in
set_option maxRecDepth 100000 in
theorem m_findShouldX (l : Launch) (G : GG) (kq : Nat) (k6 : Nat) (k7 : Nat) (VL : Nat → List LNT) (VC : Nat → Nat → List Int32) (DY : Nat → Int32) (h0 : Nat) (je : Nat) (nw : Nat) (nk : Nat) (mhasKept : Int32) (nt : Nat) (mtaped : Int32) (nr : Nat) (mrowMany : Int32) (mroundOf : Int32) (mroundFrom : Int32) (nm : Nat) (mfromHour : Int32) (mtoHour : Int32) (ns : Nat) (mfrom : Int32) (mto : Int32) (msort : Int32) (misFault : Int32) (mdeep : Int32) (mcoded : Int32) (mlines : Int32) (nl : Nat) (nc : Nat) (nF : Nat) (np : Nat) (ntr : Nat) (nb : Nat) (mbestCost : Int32) (nso : Nat) (nsi : Nat) (nit : Nat) (nsh : Nat) (nsf : Nat) (nss : Nat) (nrc : Nat) (mtraced : Int32) (mdealer : Int32) (mnumber : Int32) (mwhose : Int32) (msize : Int32) (misParted : Int32) (fnw : Nat → Int32) (fnm : Nat → Int32) (fns : Nat → Int32) (fnp : Nat → Int32) (hje : je < 10) (hV : VI fnw) (hM : MB fnm) (hN : NI fnw) (hgp : GPRm (fnw 3)) (ekq : fnw 5 = nI kq) (hkq : kq ≤ 12) (e6 : fnw 6 = nI k6) (hk6 : k6 ≤ 24) (ek7 : fnw 7 = nI k7) (hk7 : k7 ≤ 8) (hVM : VMZ fnw k7 VL VC DY) : K_m_findShouldX l G kq k6 k7 VL VC DY h0 je nw nk mhasKept nt mtaped nr mrowMany mroundOf mroundFrom nm mfromHour mtoHour ns mfrom mto msort misFault mdeep mcoded mlines nl nc nF np ntr nb mbestCost nso nsi nit nsh nsf nss nrc mtraced mdealer mnumber mwhose msize misParted fnw fnm fns fnp := by
  refine MV.start (by decide +kernel) (Nat.le_of_ble_eq_true rfl) ?_
  intro p e s m below meth c A ls hC hK hP hD hS hA hl
  refine absQ (fun Q0 hQ0 => ?_)
  have hl : lv_has ls 7 [(0, .ref h0), (1, .int (nI je))] := hl
  refine Kan8 hC (fun hx hb hr hml hB hown hlocks hnm => ?_)
  refine lv_iconst (v := 0) hx hb gX12_findShould_0.1 (by decide) ?_
  refine lv_istore_n (lv' := [(2, .int 0), (0, .ref h0), (1, .int (nI je))]) hx hb gX12_findShould_0.2.1 rfl hl (by decide) rfl (fun ls hl => ?_)
  have hsl9 : 0 ≤ (shf fnw 12 (je * 2 + 1)).toInt ∧ (shf fnw 12 (je * 2 + 1)).toInt ≤ 48 := NI.slow hN (by omega)
  have hb09 : HBD (S0F (KST (shf fnw 104) (VSE fnw kq) (fnw 3).toInt k6) (shf fnw 104) (VSE fnw kq) (shf fnw 32) (shf fnw 12) k6 kq je) := S0F.hbd (SVL.ofm hN (by omega)) hsl9.1 hsl9.2
  have keyA : ∀ (nA kA : Nat) (vfh : Int32) (vth : Int32) (vA : Nat → Int32) (vS : Nat → Int32) (H : Heap) (locs : List Loc) (ls : Array Slot), kA + nA = 8 → (MB vA) → (TDP 100000 (S0F (KST (shf fnw 104) (VSE fnw kq) (fnw 3).toInt k6) (shf fnw 104) (VSE fnw kq) (shf fnw 32) (shf fnw 12) k6 kq je) vS kA) → va_PD G A [(h0, oX12 nw nk mhasKept nt mtaped nr mrowMany mroundOf mroundFrom 0 nm vfh vth ns mfrom mto msort misFault mdeep mcoded mlines nl nc nF np ntr nb mbestCost nso nsi nit nsh nsf nss nrc mtraced mdealer mnumber mwhose msize misParted), (nw, iA G 1662 fnw), (nm, iA G 36 vA), (ns, iA G 8 vS), (np, iA G 100 fnp)] H → va_S A s.heap H locs → lv_has ls 7 [(2, .int (nI kA)), (0, .ref h0), (1, .int (nI je))] → W p l e (RM 8 0 0) s m ([.ref h0, .int (nI je)] : List Value).toArray below meth c H locs 0 0 Q0 (F0 m 2 ls []) := by
    intro nA
    induction nA with
    | zero =>
      intro kA vfh vth vA vS H locs ls hkA hvA htd hPD hS hl
      refine Kan2 hPD (fun hP hD => ?_)
      obtain rfl : 8 = kA := by omega
      have hl : lv_has ls 7 [(2, .int 8), (0, .ref h0), (1, .int (nI je))] := hl
      refine lv_iload_n hx hb gX12_findShould_0.2.2.1 rfl (lv_at0 hl) ?_
      refine lv_bipush (v := 8) hx hb gX12_findShould_0.2.2.2.1 (by decide) ?_
      refine lv_icmp_ge (tgt := 27) hx hb gX12_findShould_0.2.2.2.2.1 (by decide) (fun _ => ?_) (fun c9 => absurd (by decide) c9)
      refine lv_aload_n hx hb gX12_findShould_1.2.2.2.2.2.2.1 rfl (lv_at1 hl) ?_
      have hdy9 : ∀ v9, v9 < k7 → fnw (176 + 156 * v9 + 0) = DY v9 := fun v9 h9 => (hVM v9 h9).1
      refine pV hC hK hl hP hD (m_rulesX l G k7 DY h0 nw nk mhasKept nt mtaped nr mrowMany mroundOf mroundFrom 0 nm vfh vth ns mfrom mto msort misFault mdeep mcoded mlines nl nc nF np ntr nb mbestCost nso nsi nit nsh nsf nss nrc mtraced mdealer mnumber mwhose msize misParted fnw (hN) (ek7) (hk7) (hdy9)) si_X12_180 [0, 1] sm_0_1 fm_0_1 nd_0_1 rfl rfl rfl rfl rfl (Nat.le_of_ble_eq_true rfl) rm_8_2_3 ⟨by first | exact Nat.le_of_ble_eq_true rfl | exact Nat.zero_le _, by first | exact Nat.le_of_ble_eq_true rfl | exact Nat.zero_le _⟩ gX12_findShould_1.2.2.2.2.2.2.2.1 (Keqr ?_)
      obtain ⟨o9, eo9⟩ : ∃ z9, z9 = (RLO DY (DAYV (fnw 0) (fnw 1)) k7) := ⟨_, rfl⟩
      rcases o9 with _ | v9
      · refine eqi (x1 := (-1)) (congrArg LAT eo9.symm) ?_
        refine lv_istore_n (lv' := [(2, .int (-1)), (0, .ref h0), (1, .int (nI je))]) hx hb gX12_findShould_1.2.2.2.2.2.2.2.2.1 rfl hl (by decide) rfl (fun ls hl => ?_)
        refine lv_iload_n hx hb gX12_findShould_1.2.2.2.2.2.2.2.2.2 rfl (lv_at0 hl) ?_
        refine lv_if_lt (tgt := 40) hx hb gX12_findShould_2.1 (by decide) (fun _ => ?_) (fun c9 => absurd (by decide) c9)
        refine lv_iconst (v := 0) hx hb gX12_findShould_2.2.2.2.1 (by decide) ?_
        refine lv_istore_n (lv' := [(3, .int 0), (2, .int (-1)), (0, .ref h0), (1, .int (nI je))]) hx hb gX12_findShould_2.2.2.2.2.1 rfl hl (by decide) rfl (fun ls hl => ?_)
        refine lv_iload_n hx hb gX12_findShould_2.2.2.2.2.2.1 rfl (lv_at0 hl) ?_
        refine lv_if_eq (tgt := 112) hx hb gX12_findShould_2.2.2.2.2.2.2.1 (by decide) (fun _ => ?_) (fun c9 => absurd (by decide) c9)
        refine toQ hQ0 ?_
        exact RV hC hP hD hS [0, 1, 2, 3, 4] (vfh, vth, vA, vS, fnp) rfl rfl (by decide) (⟨by first | assumption | exact hM, (by unfold SHF; exact PIT.end0 (by rw [← eo9]; rfl) htd)⟩) gX12_findShould_6.2.2.2
      · have hv9 := LTS.lt _ _ eo9.symm
        obtain ⟨ed9, hl9, eb9, hrow9⟩ := hVM v9 hv9
        obtain ⟨n9, hn9⟩ : ∃ z9, z9 = (VL v9).length := ⟨_, rfl⟩
        rw [← hn9] at hl9 eb9 hrow9
        obtain ⟨L8, hL8, eL8, hLN8⟩ := VI.line hV (v := v9) (by omega)
        obtain rfl : L8 = n9 := (nI_eq (by omega) (by omega)).mp (eL8.symm.trans eb9)
        have hlb9 : ∀ i, i < L8 → LVB ((LVF (LNF (RLO DY (DAYV (fnw 0) (fnw 1)) k7) VL) (TRF (RLO DY (DAYV (fnw 0) (fnw 1)) k7) VC (FAX (shf fnw 12) (shf fnw 32) (VSE fnw kq) kq je))) i) := fun i hi => by rw [← eo9]; exact LVX.b (hrow9 i hi).1
        refine eqi (x1 := nI v9) (congrArg LAT eo9.symm) ?_
        refine lv_istore_n (lv' := [(2, .int (nI v9)), (0, .ref h0), (1, .int (nI je))]) hx hb gX12_findShould_1.2.2.2.2.2.2.2.2.1 rfl hl (by decide) rfl (fun ls hl => ?_)
        refine lv_iload_n hx hb gX12_findShould_1.2.2.2.2.2.2.2.2.2 rfl (lv_at0 hl) ?_
        refine lv_if_lt (tgt := 40) hx hb gX12_findShould_2.1 (by decide) (fun c9 => absurd c9 (nI_pos (by omega))) (fun _ => ?_)
        refine lv_iconst (v := 1) hx hb gX12_findShould_2.2.1 (by decide) ?_
        refine lv_goto (tgt := 41) hx hb gX12_findShould_2.2.2.1 (by decide) ?_
        refine lv_istore_n (lv' := [(3, .int 1), (2, .int (nI v9)), (0, .ref h0), (1, .int (nI je))]) hx hb gX12_findShould_2.2.2.2.2.1 rfl hl (by decide) rfl (fun ls hl => ?_)
        have keyW : ∀ (nW : Nat) (eaW : Int32) (w0 : Nat → Int32) (w1 : Nat → Int32) (H : Heap) (locs : List Loc) (ls : Array Slot), ((eaW = 0 ∨ (eaW = 1 ∧ mu w0 < nW)) ∧ ∃ jj, ARS 100000 (PIT (LVF (LNF (RLO DY (DAYV (fnw 0) (fnw 1)) k7) VL) (TRF (RLO DY (DAYV (fnw 0) (fnw 1)) k7) VC (FAX (shf fnw 12) (shf fnw 32) (VSE fnw kq) kq je))) L8 jj (S0F (KST (shf fnw 104) (VSE fnw kq) (fnw 3).toInt k6) (shf fnw 104) (VSE fnw kq) (shf fnw 32) (shf fnw 12) k6 kq je)) w0 ∧ (eaW = 0 → PSS (LVF (LNF (RLO DY (DAYV (fnw 0) (fnw 1)) k7) VL) (TRF (RLO DY (DAYV (fnw 0) (fnw 1)) k7) VC (FAX (shf fnw 12) (shf fnw 32) (VSE fnw kq) kq je))) L8 (PIT (LVF (LNF (RLO DY (DAYV (fnw 0) (fnw 1)) k7) VL) (TRF (RLO DY (DAYV (fnw 0) (fnw 1)) k7) VC (FAX (shf fnw 12) (shf fnw 32) (VSE fnw kq) kq je))) L8 jj (S0F (KST (shf fnw 104) (VSE fnw kq) (fnw 3).toInt k6) (shf fnw 104) (VSE fnw kq) (shf fnw 32) (shf fnw 12) k6 kq je)) = PIT (LVF (LNF (RLO DY (DAYV (fnw 0) (fnw 1)) k7) VL) (TRF (RLO DY (DAYV (fnw 0) (fnw 1)) k7) VC (FAX (shf fnw 12) (shf fnw 32) (VSE fnw kq) kq je))) L8 jj (S0F (KST (shf fnw 104) (VSE fnw kq) (fnw 3).toInt k6) (shf fnw 104) (VSE fnw kq) (shf fnw 32) (shf fnw 12) k6 kq je))) → va_PD G A [(h0, oX12 nw nk mhasKept nt mtaped nr mrowMany mroundOf mroundFrom 0 nm vfh vth ns mfrom mto msort misFault mdeep mcoded mlines nl nc nF np ntr nb mbestCost nso nsi nit nsh nsf nss nrc mtraced mdealer mnumber mwhose msize misParted), (nw, iA G 1662 fnw), (nm, iA G 36 vA), (ns, iA G 8 w0), (np, iA G 100 w1)] H → va_S A s.heap H locs → lv_has ls 7 [(3, .int eaW), (2, .int (nI v9)), (0, .ref h0), (1, .int (nI je))] → W p l e (RM 8 0 0) s m ([.ref h0, .int (nI je)] : List Value).toArray below meth c H locs 0 0 Q0 (F0 m 42 ls []) := by
          intro nW
          induction nW with
          | zero =>
            intro eaW w0 w1 H locs ls hWW hPD hS hl
            refine Kan2 hPD (fun hP hD => ?_)
            obtain rfl : eaW = 0 := hWW.1.elim (fun h => h) (fun h => absurd h.2 (Nat.not_lt_zero _)); obtain ⟨-, jj, hj1, hj2⟩ := hWW
            refine lv_iload_n hx hb gX12_findShould_2.2.2.2.2.2.1 rfl (lv_at0 hl) ?_
            refine lv_if_eq (tgt := 112) hx hb gX12_findShould_2.2.2.2.2.2.2.1 (by decide) (fun _ => ?_) (fun c9 => absurd (by decide) c9)
            refine toQ hQ0 ?_
            exact RV hC hP hD hS [0, 1, 2, 3, 4] (vfh, vth, vA, w0, w1) rfl rfl (by decide) (⟨by first | assumption | exact hM, (by unfold SHF; rw [show LVN (RLO DY (DAYV (fnw 0) (fnw 1)) k7) VL = L8 from (congrArg (fun z9 => LVN z9 VL) eo9.symm).trans hn9.symm]; exact PIT.end9 hlb9 hj1 (hj2 rfl))⟩) gX12_findShould_6.2.2.2
          | succ nW ihW =>
            intro eaW w0 w1 H locs ls hWW hPD hS hl
            refine Kan2 hPD (fun hP hD => ?_)
            obtain ⟨hWW, jj, hj1, hj2⟩ := hWW; rcases hWW with rfl | ⟨rfl, hWW⟩
            · refine lv_iload_n hx hb gX12_findShould_2.2.2.2.2.2.1 rfl (lv_at0 hl) ?_
              refine lv_if_eq (tgt := 112) hx hb gX12_findShould_2.2.2.2.2.2.2.1 (by decide) (fun _ => ?_) (fun c9 => absurd (by decide) c9)
              refine toQ hQ0 ?_
              exact RV hC hP hD hS [0, 1, 2, 3, 4] (vfh, vth, vA, w0, w1) rfl rfl (by decide) (⟨by first | assumption | exact hM, (by unfold SHF; rw [show LVN (RLO DY (DAYV (fnw 0) (fnw 1)) k7) VL = L8 from (congrArg (fun z9 => LVN z9 VL) eo9.symm).trans hn9.symm]; exact PIT.end9 hlb9 hj1 (hj2 rfl))⟩) gX12_findShould_6.2.2.2
            · refine lv_iload_n hx hb gX12_findShould_2.2.2.2.2.2.1 rfl (lv_at0 hl) ?_
              refine lv_if_eq (tgt := 112) hx hb gX12_findShould_2.2.2.2.2.2.2.1 (by decide) (fun c9 => absurd c9 (by decide)) (fun _ => ?_)
              refine lv_iconst (v := 0) hx hb gX12_findShould_2.2.2.2.2.2.2.2.1 (by decide) ?_
              refine lv_istore_n (lv' := [(3, .int 0), (2, .int (nI v9)), (0, .ref h0), (1, .int (nI je))]) hx hb gX12_findShould_2.2.2.2.2.2.2.2.2.1 rfl hl (by decide) rfl (fun ls hl => ?_)
              refine lv_iconst (v := 0) hx hb gX12_findShould_2.2.2.2.2.2.2.2.2.2 (by decide) ?_
              refine lv_istore (lv' := [(4, .int 0), (3, .int 0), (2, .int (nI v9)), (0, .ref h0), (1, .int (nI je))]) hx hb gX12_findShould_3.1 hl (by decide) rfl (fun ls hl => ?_)
              have hbj9 : HBD (PIT (LVF (LNF (RLO DY (DAYV (fnw 0) (fnw 1)) k7) VL) (TRF (RLO DY (DAYV (fnw 0) (fnw 1)) k7) VC (FAX (shf fnw 12) (shf fnw 32) (VSE fnw kq) kq je))) L8 jj (S0F (KST (shf fnw 104) (VSE fnw kq) (fnw 3).toInt k6) (shf fnw 104) (VSE fnw kq) (shf fnw 32) (shf fnw 12) k6 kq je)) := HBD.pit hb09 hlb9 jj
              have keyQ : ∀ (nQ kQ : Nat) (ea : Int32) (vQ : Nat → Int32) (vR : Nat → Int32) (H : Heap) (locs : List Loc) (ls : Array Slot), kQ + nQ = L8 → ((ea = 0 ∧ mu vQ ≤ mu w0) ∨ (ea = 1 ∧ mu vQ < mu w0)) → (ARS 100000 (PSS (LVF (LNF (RLO DY (DAYV (fnw 0) (fnw 1)) k7) VL) (TRF (RLO DY (DAYV (fnw 0) (fnw 1)) k7) VC (FAX (shf fnw 12) (shf fnw 32) (VSE fnw kq) kq je))) kQ (PIT (LVF (LNF (RLO DY (DAYV (fnw 0) (fnw 1)) k7) VL) (TRF (RLO DY (DAYV (fnw 0) (fnw 1)) k7) VC (FAX (shf fnw 12) (shf fnw 32) (VSE fnw kq) kq je))) L8 jj (S0F (KST (shf fnw 104) (VSE fnw kq) (fnw 3).toInt k6) (shf fnw 104) (VSE fnw kq) (shf fnw 32) (shf fnw 12) k6 kq je))) vQ) → ((ea = 0 ∧ PSS (LVF (LNF (RLO DY (DAYV (fnw 0) (fnw 1)) k7) VL) (TRF (RLO DY (DAYV (fnw 0) (fnw 1)) k7) VC (FAX (shf fnw 12) (shf fnw 32) (VSE fnw kq) kq je))) kQ (PIT (LVF (LNF (RLO DY (DAYV (fnw 0) (fnw 1)) k7) VL) (TRF (RLO DY (DAYV (fnw 0) (fnw 1)) k7) VC (FAX (shf fnw 12) (shf fnw 32) (VSE fnw kq) kq je))) L8 jj (S0F (KST (shf fnw 104) (VSE fnw kq) (fnw 3).toInt k6) (shf fnw 104) (VSE fnw kq) (shf fnw 32) (shf fnw 12) k6 kq je)) = PIT (LVF (LNF (RLO DY (DAYV (fnw 0) (fnw 1)) k7) VL) (TRF (RLO DY (DAYV (fnw 0) (fnw 1)) k7) VC (FAX (shf fnw 12) (shf fnw 32) (VSE fnw kq) kq je))) L8 jj (S0F (KST (shf fnw 104) (VSE fnw kq) (fnw 3).toInt k6) (shf fnw 104) (VSE fnw kq) (shf fnw 32) (shf fnw 12) k6 kq je)) ∨ ea = 1) → va_PD G A [(h0, oX12 nw nk mhasKept nt mtaped nr mrowMany mroundOf mroundFrom 0 nm vfh vth ns mfrom mto msort misFault mdeep mcoded mlines nl nc nF np ntr nb mbestCost nso nsi nit nsh nsf nss nrc mtraced mdealer mnumber mwhose msize misParted), (nw, iA G 1662 fnw), (nm, iA G 36 vA), (ns, iA G 8 vQ), (np, iA G 100 vR)] H → va_S A s.heap H locs → lv_has ls 7 [(4, .int (nI kQ)), (3, .int ea), (2, .int (nI v9)), (0, .ref h0), (1, .int (nI je))] → W p l e (RM 8 0 0) s m ([.ref h0, .int (nI je)] : List Value).toArray below meth c H locs 0 0 Q0 (F0 m 51 ls []) := by
                intro nQ
                induction nQ with
                | zero =>
                  intro kQ ea vQ vR H locs ls hkQ hQ hsv hch hPD hS hl
                  refine Kan2 hPD (fun hP hD => ?_)
                  obtain rfl : L8 = kQ := by omega
                  have hl : lv_has ls 7 [(4, .int (nI L8)), (3, .int ea), (2, .int (nI v9)), (0, .ref h0), (1, .int (nI je))] := hl
                  refine lv_iload hx hb gX12_findShould_3.2.1 (lv_at0 hl) ?_
                  refine lv_aload_n hx hb gX12_findShould_3.2.2.1 rfl (lv_at3 hl) ?_
                  refine lv_iload_n hx hb gX12_findShould_3.2.2.2.1 rfl (lv_at2 hl) ?_
                  refine pV hC hK hl hP hD (m_lines l G L8 h0 v9 nw nk mhasKept nt mtaped nr mrowMany mroundOf mroundFrom 0 nm vfh vth ns mfrom mto msort misFault mdeep mcoded mlines nl nc nF np ntr nb mbestCost nso nsi nit nsh nsf nss nrc mtraced mdealer mnumber mwhose msize misParted fnw (by omega) (eL8)) si_X12_183 [0, 1] sm_0_1 fm_0_1 nd_0_1 rfl rfl rfl rfl rfl (Nat.le_of_ble_eq_true rfl) rm_8_1_2 ⟨by first | exact Nat.le_of_ble_eq_true rfl | exact Nat.zero_le _, by first | exact Nat.le_of_ble_eq_true rfl | exact Nat.zero_le _⟩ gX12_findShould_3.2.2.2.2.1 (Keqr ?_)
                  refine lv_icmp_ge (tgt := 109) hx hb gX12_findShould_3.2.2.2.2.2.1 (by decide) (fun _ => ?_) (fun c9 => absurd (Int32.le_refl _) c9)
                  refine lv_goto (tgt := 42) hx hb gX12_findShould_6.2.2.1 (by decide) ?_
                  exact ihW ea vQ vR _ _ _ (⟨hQ.elim (fun h => Or.inl h.1) (fun h => Or.inr ⟨h.1, by have := h.2; omega⟩), jj + 1, hsv, fun h9 => PIT.sx (hch.elim (fun h8 => h8.2) (fun h8 => absurd (h8.symm.trans h9) (by decide)))⟩) (And.intro hP hD) hS (lv_sub hl [1, 2, 3, 4] rfl)
                | succ nQ ihQ =>
                  intro kQ ea vQ vR H locs ls hkQ hQ hsv hch hPD hS hl
                  refine Kan2 hPD (fun hP hD => ?_)
                  refine lv_iload hx hb gX12_findShould_3.2.1 (lv_at0 hl) ?_
                  refine lv_aload_n hx hb gX12_findShould_3.2.2.1 rfl (lv_at3 hl) ?_
                  refine lv_iload_n hx hb gX12_findShould_3.2.2.2.1 rfl (lv_at2 hl) ?_
                  refine pV hC hK hl hP hD (m_lines l G L8 h0 v9 nw nk mhasKept nt mtaped nr mrowMany mroundOf mroundFrom 0 nm vfh vth ns mfrom mto msort misFault mdeep mcoded mlines nl nc nF np ntr nb mbestCost nso nsi nit nsh nsf nss nrc mtraced mdealer mnumber mwhose msize misParted fnw (by omega) (eL8)) si_X12_183 [0, 1] sm_0_1 fm_0_1 nd_0_1 rfl rfl rfl rfl rfl (Nat.le_of_ble_eq_true rfl) rm_8_1_2 ⟨by first | exact Nat.le_of_ble_eq_true rfl | exact Nat.zero_le _, by first | exact Nat.le_of_ble_eq_true rfl | exact Nat.zero_le _⟩ gX12_findShould_3.2.2.2.2.1 (Keqr ?_)
                  refine lv_icmp_ge (tgt := 109) hx hb gX12_findShould_3.2.2.2.2.2.1 (by decide) (fun c9 => absurd c9 (nI_ge (a := kQ) (b := L8) (by omega) (by omega))) (fun _ => ?_)
                  have hln9 := hLN8 kQ (by omega)
                  have hlz9 := hrow9 kQ (by omega)
                  have hbq9 : HBD (PSS (LVF (LNF (RLO DY (DAYV (fnw 0) (fnw 1)) k7) VL) (TRF (RLO DY (DAYV (fnw 0) (fnw 1)) k7) VC (FAX (shf fnw 12) (shf fnw 32) (VSE fnw kq) kq je))) kQ (PIT (LVF (LNF (RLO DY (DAYV (fnw 0) (fnw 1)) k7) VL) (TRF (RLO DY (DAYV (fnw 0) (fnw 1)) k7) VC (FAX (shf fnw 12) (shf fnw 32) (VSE fnw kq) kq je))) L8 jj (S0F (KST (shf fnw 104) (VSE fnw kq) (fnw 3).toInt k6) (shf fnw 104) (VSE fnw kq) (shf fnw 32) (shf fnw 12) k6 kq je))) := HBD.pss hbj9 hlb9 kQ (by omega)
                  refine lv_aload_n hx hb gX12_findShould_3.2.2.2.2.2.2.1 rfl (lv_at3 hl) ?_
                  refine lv_iload_n hx hb gX12_findShould_3.2.2.2.2.2.2.2.1 rfl (lv_at2 hl) ?_
                  refine lv_iload hx hb gX12_findShould_3.2.2.2.2.2.2.2.2.1 (lv_at0 hl) ?_
                  refine lv_iload_n hx hb gX12_findShould_3.2.2.2.2.2.2.2.2.2 rfl (lv_at4 hl) ?_
                  refine iV (wr := [(nm, iA G 36 vA)]) hC hK hl hP hD hS hA (m_fromLineX l G kq ((VL v9).getD kQ LN0) (VC v9 kQ) (PSS (LVF (LNF (RLO DY (DAYV (fnw 0) (fnw 1)) k7) VL) (TRF (RLO DY (DAYV (fnw 0) (fnw 1)) k7) VC (FAX (shf fnw 12) (shf fnw 32) (VSE fnw kq) kq je))) kQ (PIT (LVF (LNF (RLO DY (DAYV (fnw 0) (fnw 1)) k7) VL) (TRF (RLO DY (DAYV (fnw 0) (fnw 1)) k7) VC (FAX (shf fnw 12) (shf fnw 32) (VSE fnw kq) kq je))) L8 jj (S0F (KST (shf fnw 104) (VSE fnw kq) (fnw 3).toInt k6) (shf fnw 104) (VSE fnw kq) (shf fnw 32) (shf fnw 12) k6 kq je))) h0 v9 kQ je nw nk mhasKept nt mtaped nr mrowMany mroundOf mroundFrom nm vfh vth ns mfrom mto msort misFault mdeep mcoded mlines nl nc nF np ntr nb mbestCost nso nsi nit nsh nsf nss nrc mtraced mdealer mnumber mwhose msize misParted fnw vQ vR (by omega) (by omega) (hln9) (hlz9) (hsv) (hbq9) (hje) (hN) (ekq) (hkq)) si_X12_186 [0, 1, 3, 4] [2] sm_0_1_3_4 fm_0_1_3_4 nd_0_1_3_4 sm_2 nd_2 dj_0_1_3_4__2 rfl rfl rfl rfl rfl (Nat.le_of_ble_eq_true rfl) rm_8_7_6 ⟨Nat.le_of_ble_eq_true rfl, Nat.le_of_ble_eq_true rfl⟩ gX12_findShould_4.1 (fun r9914 gnp9916 H locs hr9914 hP hD hS => ?_)
                  try dsimp only at hr9914
                  refine Kpdr (ws := [(nm, iA G 36 vA), (h0, oX12 nw nk mhasKept nt mtaped nr mrowMany mroundOf mroundFrom 0 nm vfh vth ns mfrom mto msort misFault mdeep mcoded mlines nl nc nF np ntr nb mbestCost nso nsi nit nsh nsf nss nrc mtraced mdealer mnumber mwhose msize misParted), (nw, iA G 1662 fnw), (ns, iA G 8 vQ), (np, iA G 100 gnp9916)]) hP hD (fun hP hD => ?_)
                  obtain ⟨y9_9917, hpx9917, hpe9917⟩ := hr9914
                  subst r9914
                  try dsimp only at hpx9917
                  refine lv_istore (lv' := [(5, .int y9_9917), (4, .int (nI kQ)), (3, .int ea), (2, .int (nI v9)), (0, .ref h0), (1, .int (nI je))]) hx hb gX12_findShould_4.2.1 hl (by decide) rfl (fun ls hl => ?_)
                  refine lv_aload_n hx hb gX12_findShould_4.2.2.1 rfl (lv_at4 hl) ?_
                  refine lv_iload_n hx hb gX12_findShould_4.2.2.2.1 rfl (lv_at3 hl) ?_
                  refine lv_iload hx hb gX12_findShould_4.2.2.2.2.1 (lv_at1 hl) ?_
                  refine pV hC hK hl hP hD (m_thingOfX l G ((VL v9).getD kQ LN0) (VC v9 kQ) h0 v9 kQ nw nk mhasKept nt mtaped nr mrowMany mroundOf mroundFrom 0 nm vfh vth ns mfrom mto msort misFault mdeep mcoded mlines nl nc nF np ntr nb mbestCost nso nsi nit nsh nsf nss nrc mtraced mdealer mnumber mwhose msize misParted fnw (by omega) (by omega) (hln9) (hlz9)) si_X12_190 [1, 2] sm_1_2 fm_1_2 nd_1_2 rfl rfl rfl rfl rfl (Nat.le_of_ble_eq_true rfl) rm_8_2_4 ⟨by first | exact Nat.le_of_ble_eq_true rfl | exact Nat.zero_le _, by first | exact Nat.le_of_ble_eq_true rfl | exact Nat.zero_le _⟩ gX12_findShould_4.2.2.2.2.2.1 (fun r9918 hr9918 => ?_)
                  obtain ⟨t9_9919, hpx9919, rfl⟩ := hr9918
                  try dsimp only at hpx9919
                  refine lv_istore (lv' := [(6, .int (nI t9_9919)), (5, .int y9_9917), (4, .int (nI kQ)), (3, .int ea), (2, .int (nI v9)), (0, .ref h0), (1, .int (nI je))]) hx hb gX12_findShould_4.2.2.2.2.2.2.1 hl (by decide) rfl (fun ls hl => ?_)
                  refine lv_iload hx hb gX12_findShould_4.2.2.2.2.2.2.2.1 (lv_at1 hl) ?_
                  refine lv_aload_n hx hb gX12_findShould_4.2.2.2.2.2.2.2.2.1 rfl (lv_at5 hl) ?_
                  refine gf_X12_29 hC rfl hK hP 1 rfl rfl gX12_findShould_4.2.2.2.2.2.2.2.2.2 ?_
                  refine lv_iload hx hb gX12_findShould_5.1 (lv_at0 hl) ?_
                  refine aldN hC hK hP 3 rfl (k := t9_9919) (by omega) (Nat.le_of_ble_eq_true rfl) (v := vQ t9_9919) rfl gX12_findShould_5.2.1 ?_
                  refine lv_icmp_ge (tgt := 103) hx hb gX12_findShould_5.2.2.1 (by decide) (fun c_89_9920 => ?_) (fun c_89_9920 => ?_)
                  · refine lv_iinc (v := nI (kQ + 1)) (lv' := [(4, .int (nI (kQ + 1))), (6, .int (nI t9_9919)), (5, .int y9_9917), (3, .int ea), (2, .int (nI v9)), (0, .ref h0), (1, .int (nI je))]) hx hb gX12_findShould_6.1 hl (k := 2) rfl (nI_1 _) (by decide) rfl (fun ls hl => ?_)
                    refine lv_goto (tgt := 51) hx hb gX12_findShould_6.2.1 (by decide) ?_
                    refine Kpds (ws' := [(h0, oX12 nw nk mhasKept nt mtaped nr mrowMany mroundOf mroundFrom 0 nm vfh vth ns mfrom mto msort misFault mdeep mcoded mlines nl nc nF np ntr nb mbestCost nso nsi nit nsh nsf nss nrc mtraced mdealer mnumber mwhose msize misParted), (nw, iA G 1662 fnw), (nm, iA G 36 vA), (ns, iA G 8 vQ), (np, iA G 100 gnp9916)]) hP hD [1, 2, 0, 3, 4] fm_1_2_0_3_4 nd_1_2_0_3_4 sm_1_2_0_3_4 (fun hP hD => ?_)
                    have eLV9 : (LVF (LNF (RLO DY (DAYV (fnw 0) (fnw 1)) k7) VL) (TRF (RLO DY (DAYV (fnw 0) (fnw 1)) k7) VC (FAX (shf fnw 12) (shf fnw 32) (VSE fnw kq) kq je))) kQ = LVX ((VL v9).getD kQ LN0) (PLN (FAX (shf fnw 12) (shf fnw 32) (VSE fnw kq) kq je) (VC v9 kQ) 1 % 2 = 1) := by rw [← eo9]; rfl
                    have hlw9 := FLQ.low (L := (LVF (LNF (RLO DY (DAYV (fnw 0) (fnw 1)) k7) VL) (TRF (RLO DY (DAYV (fnw 0) (fnw 1)) k7) VC (FAX (shf fnw 12) (shf fnw 32) (VSE fnw kq) kq je))) kQ) hsv hbq9 (hlb9 kQ (by omega)) (by rw [eLV9]; exact hpx9917) (fun j o w h9 => hpx9919.1.trans (TNO.of (by rw [eLV9] at h9; exact h9))) hpx9919.2 (by decide)
                    have heq9 : PSS (LVF (LNF (RLO DY (DAYV (fnw 0) (fnw 1)) k7) VL) (TRF (RLO DY (DAYV (fnw 0) (fnw 1)) k7) VC (FAX (shf fnw 12) (shf fnw 32) (VSE fnw kq) kq je))) (kQ + 1) (PIT (LVF (LNF (RLO DY (DAYV (fnw 0) (fnw 1)) k7) VL) (TRF (RLO DY (DAYV (fnw 0) (fnw 1)) k7) VC (FAX (shf fnw 12) (shf fnw 32) (VSE fnw kq) kq je))) L8 jj (S0F (KST (shf fnw 104) (VSE fnw kq) (fnw 3).toInt k6) (shf fnw 104) (VSE fnw kq) (shf fnw 32) (shf fnw 12) k6 kq je)) = PSS (LVF (LNF (RLO DY (DAYV (fnw 0) (fnw 1)) k7) VL) (TRF (RLO DY (DAYV (fnw 0) (fnw 1)) k7) VC (FAX (shf fnw 12) (shf fnw 32) (VSE fnw kq) kq je))) kQ (PIT (LVF (LNF (RLO DY (DAYV (fnw 0) (fnw 1)) k7) VL) (TRF (RLO DY (DAYV (fnw 0) (fnw 1)) k7) VC (FAX (shf fnw 12) (shf fnw 32) (VSE fnw kq) kq je))) L8 jj (S0F (KST (shf fnw 104) (VSE fnw kq) (fnw 3).toInt k6) (shf fnw 104) (VSE fnw kq) (shf fnw 32) (shf fnw 12) k6 kq je)) := hlw9.2 (Int32.not_lt.mpr c_89_9920)
                    have hst8 : ARS 100000 (PSS (LVF (LNF (RLO DY (DAYV (fnw 0) (fnw 1)) k7) VL) (TRF (RLO DY (DAYV (fnw 0) (fnw 1)) k7) VC (FAX (shf fnw 12) (shf fnw 32) (VSE fnw kq) kq je))) (kQ + 1) (PIT (LVF (LNF (RLO DY (DAYV (fnw 0) (fnw 1)) k7) VL) (TRF (RLO DY (DAYV (fnw 0) (fnw 1)) k7) VC (FAX (shf fnw 12) (shf fnw 32) (VSE fnw kq) kq je))) L8 jj (S0F (KST (shf fnw 104) (VSE fnw kq) (fnw 3).toInt k6) (shf fnw 104) (VSE fnw kq) (shf fnw 32) (shf fnw 12) k6 kq je))) vQ := by rw [heq9]; exact hsv
                    have hst9 : (ea = 0 ∧ PSS (LVF (LNF (RLO DY (DAYV (fnw 0) (fnw 1)) k7) VL) (TRF (RLO DY (DAYV (fnw 0) (fnw 1)) k7) VC (FAX (shf fnw 12) (shf fnw 32) (VSE fnw kq) kq je))) (kQ + 1) (PIT (LVF (LNF (RLO DY (DAYV (fnw 0) (fnw 1)) k7) VL) (TRF (RLO DY (DAYV (fnw 0) (fnw 1)) k7) VC (FAX (shf fnw 12) (shf fnw 32) (VSE fnw kq) kq je))) L8 jj (S0F (KST (shf fnw 104) (VSE fnw kq) (fnw 3).toInt k6) (shf fnw 104) (VSE fnw kq) (shf fnw 32) (shf fnw 12) k6 kq je)) = PIT (LVF (LNF (RLO DY (DAYV (fnw 0) (fnw 1)) k7) VL) (TRF (RLO DY (DAYV (fnw 0) (fnw 1)) k7) VC (FAX (shf fnw 12) (shf fnw 32) (VSE fnw kq) kq je))) L8 jj (S0F (KST (shf fnw 104) (VSE fnw kq) (fnw 3).toInt k6) (shf fnw 104) (VSE fnw kq) (shf fnw 32) (shf fnw 12) k6 kq je)) ∨ ea = 1 := hch.imp (fun h9 => ⟨h9.1, heq9.trans h9.2⟩) id
                    exact ihQ (kQ + 1) ea vQ gnp9916 _ _ _ (by omega) (by first | assumption | exact Or.inl rfl | exact Or.inr rfl | exact Or.inl ⟨rfl, Nat.le_refl _⟩ | exact hj1 | exact Or.inl ⟨rfl, rfl⟩) (by first | assumption | exact Or.inl rfl | exact Or.inr rfl | exact Or.inl ⟨rfl, Nat.le_refl _⟩ | exact hj1 | exact Or.inl ⟨rfl, rfl⟩) (by first | assumption | exact Or.inl rfl | exact Or.inr rfl | exact Or.inl ⟨rfl, Nat.le_refl _⟩ | exact hj1 | exact Or.inl ⟨rfl, rfl⟩) (And.intro hP hD) hS (lv_sub hl [0, 3, 4, 5, 6] rfl)
                  · refine lv_aload_n hx hb gX12_findShould_5.2.2.2.1 rfl (lv_at5 hl) ?_
                    refine gf_X12_29 hC rfl hK hP 1 rfl rfl gX12_findShould_5.2.2.2.2.1 ?_
                    refine lv_iload hx hb gX12_findShould_5.2.2.2.2.2.1 (lv_at0 hl) ?_
                    refine lv_iload hx hb gX12_findShould_5.2.2.2.2.2.2.1 (lv_at1 hl) ?_
                    refine astN hC hK hP hD hS 3 (ws' := [(nm, iA G 36 vA), (h0, oX12 nw nk mhasKept nt mtaped nr mrowMany mroundOf mroundFrom 0 nm vfh vth ns mfrom mto msort misFault mdeep mcoded mlines nl nc nF np ntr nb mbestCost nso nsi nit nsh nsf nss nrc mtraced mdealer mnumber mwhose msize misParted), (nw, iA G 1662 fnw), (ns, iA G 8 (upd vQ t9_9919 y9_9917)), (np, iA G 100 gnp9916)]) rfl (k := t9_9919) (by omega) (Nat.le_of_ble_eq_true rfl) (rfl) gX12_findShould_5.2.2.2.2.2.2.2.1 (fun H locs hP hD hS => ?_)
                    have hmu9 := mu_upd (f := vQ) (t := t9_9919) (x := y9_9917) (y := vQ t9_9919) (by omega) rfl c_89_9920
                    have hQ2 : mu vQ ≤ mu w0 := hQ.elim (fun h => h.2) (fun h => Nat.le_of_lt h.2)
                    have hQ3 : ((1 : Int32) = 0 ∧ mu (upd vQ t9_9919 y9_9917) ≤ mu w0) ∨ ((1 : Int32) = 1 ∧ mu (upd vQ t9_9919 y9_9917) < mu w0) := Or.inr ⟨rfl, by omega⟩
                    refine lv_iconst (v := 1) hx hb gX12_findShould_5.2.2.2.2.2.2.2.2.1 (by decide) ?_
                    refine lv_istore_n (lv' := [(3, .int 1), (6, .int (nI t9_9919)), (5, .int y9_9917), (4, .int (nI kQ)), (2, .int (nI v9)), (0, .ref h0), (1, .int (nI je))]) hx hb gX12_findShould_5.2.2.2.2.2.2.2.2.2 rfl hl (by decide) rfl (fun ls hl => ?_)
                    refine lv_iinc (v := nI (kQ + 1)) (lv' := [(4, .int (nI (kQ + 1))), (3, .int 1), (6, .int (nI t9_9919)), (5, .int y9_9917), (2, .int (nI v9)), (0, .ref h0), (1, .int (nI je))]) hx hb gX12_findShould_6.1 hl (k := 3) rfl (nI_1 _) (by decide) rfl (fun ls hl => ?_)
                    refine lv_goto (tgt := 51) hx hb gX12_findShould_6.2.1 (by decide) ?_
                    refine Kpds (ws' := [(h0, oX12 nw nk mhasKept nt mtaped nr mrowMany mroundOf mroundFrom 0 nm vfh vth ns mfrom mto msort misFault mdeep mcoded mlines nl nc nF np ntr nb mbestCost nso nsi nit nsh nsf nss nrc mtraced mdealer mnumber mwhose msize misParted), (nw, iA G 1662 fnw), (nm, iA G 36 vA), (ns, iA G 8 (upd vQ t9_9919 y9_9917)), (np, iA G 100 gnp9916)]) hP hD [1, 2, 0, 3, 4] fm_1_2_0_3_4 nd_1_2_0_3_4 sm_1_2_0_3_4 (fun hP hD => ?_)
                    have eLV9 : (LVF (LNF (RLO DY (DAYV (fnw 0) (fnw 1)) k7) VL) (TRF (RLO DY (DAYV (fnw 0) (fnw 1)) k7) VC (FAX (shf fnw 12) (shf fnw 32) (VSE fnw kq) kq je))) kQ = LVX ((VL v9).getD kQ LN0) (PLN (FAX (shf fnw 12) (shf fnw 32) (VSE fnw kq) kq je) (VC v9 kQ) 1 % 2 = 1) := by rw [← eo9]; rfl
                    have hlw9 := FLQ.low (L := (LVF (LNF (RLO DY (DAYV (fnw 0) (fnw 1)) k7) VL) (TRF (RLO DY (DAYV (fnw 0) (fnw 1)) k7) VC (FAX (shf fnw 12) (shf fnw 32) (VSE fnw kq) kq je))) kQ) hsv hbq9 (hlb9 kQ (by omega)) (by rw [eLV9]; exact hpx9917) (fun j o w h9 => hpx9919.1.trans (TNO.of (by rw [eLV9] at h9; exact h9))) hpx9919.2 (by decide)
                    have hst8 : ARS 100000 (PSS (LVF (LNF (RLO DY (DAYV (fnw 0) (fnw 1)) k7) VL) (TRF (RLO DY (DAYV (fnw 0) (fnw 1)) k7) VC (FAX (shf fnw 12) (shf fnw 32) (VSE fnw kq) kq je))) (kQ + 1) (PIT (LVF (LNF (RLO DY (DAYV (fnw 0) (fnw 1)) k7) VL) (TRF (RLO DY (DAYV (fnw 0) (fnw 1)) k7) VC (FAX (shf fnw 12) (shf fnw 32) (VSE fnw kq) kq je))) L8 jj (S0F (KST (shf fnw 104) (VSE fnw kq) (fnw 3).toInt k6) (shf fnw 104) (VSE fnw kq) (shf fnw 32) (shf fnw 12) k6 kq je))) (upd vQ t9_9919 y9_9917) := hlw9.1 (Int32.not_le.mp c_89_9920)
                    have hst9 : ((1 : Int32) = 0 ∧ PSS (LVF (LNF (RLO DY (DAYV (fnw 0) (fnw 1)) k7) VL) (TRF (RLO DY (DAYV (fnw 0) (fnw 1)) k7) VC (FAX (shf fnw 12) (shf fnw 32) (VSE fnw kq) kq je))) (kQ + 1) (PIT (LVF (LNF (RLO DY (DAYV (fnw 0) (fnw 1)) k7) VL) (TRF (RLO DY (DAYV (fnw 0) (fnw 1)) k7) VC (FAX (shf fnw 12) (shf fnw 32) (VSE fnw kq) kq je))) L8 jj (S0F (KST (shf fnw 104) (VSE fnw kq) (fnw 3).toInt k6) (shf fnw 104) (VSE fnw kq) (shf fnw 32) (shf fnw 12) k6 kq je)) = PIT (LVF (LNF (RLO DY (DAYV (fnw 0) (fnw 1)) k7) VL) (TRF (RLO DY (DAYV (fnw 0) (fnw 1)) k7) VC (FAX (shf fnw 12) (shf fnw 32) (VSE fnw kq) kq je))) L8 jj (S0F (KST (shf fnw 104) (VSE fnw kq) (fnw 3).toInt k6) (shf fnw 104) (VSE fnw kq) (shf fnw 32) (shf fnw 12) k6 kq je)) ∨ (1 : Int32) = 1 := Or.inr rfl
                    exact ihQ (kQ + 1) 1 (upd vQ t9_9919 y9_9917) gnp9916 _ _ _ (by omega) (by first | assumption | exact Or.inl rfl | exact Or.inr rfl | exact Or.inl ⟨rfl, Nat.le_refl _⟩ | exact hj1 | exact Or.inl ⟨rfl, rfl⟩) (by first | assumption | exact Or.inl rfl | exact Or.inr rfl | exact Or.inl ⟨rfl, Nat.le_refl _⟩ | exact hj1 | exact Or.inl ⟨rfl, rfl⟩) (by first | assumption | exact Or.inl rfl | exact Or.inr rfl | exact Or.inl ⟨rfl, Nat.le_refl _⟩ | exact hj1 | exact Or.inl ⟨rfl, rfl⟩) (And.intro hP hD) hS (lv_sub hl [0, 1, 4, 5, 6] rfl)
              exact keyQ L8 0 0 w0 w1 _ _ _ (by omega) (by first | assumption | exact Or.inl rfl | exact Or.inr rfl | exact Or.inl ⟨rfl, Nat.le_refl _⟩ | exact hj1 | exact Or.inl ⟨rfl, rfl⟩) (by first | assumption | exact Or.inl rfl | exact Or.inr rfl | exact Or.inl ⟨rfl, Nat.le_refl _⟩ | exact hj1 | exact Or.inl ⟨rfl, rfl⟩) (by first | assumption | exact Or.inl rfl | exact Or.inr rfl | exact Or.inl ⟨rfl, Nat.le_refl _⟩ | exact hj1 | exact Or.inl ⟨rfl, rfl⟩) (And.intro hP hD) hS (lv_sub hl [0, 1, 2, 3, 4] rfl)
        exact keyW (mu vS + 1) 1 vS fnp _ _ _ (⟨Or.inr ⟨rfl, Nat.lt_succ_self _⟩, 0, htd, fun h9 => absurd h9 (by decide)⟩) (And.intro hP hD) hS (lv_sub hl [0, 1, 2, 3] rfl)
    | succ nA ihA =>
      intro kA vfh vth vA vS H locs ls hkA hvA htd hPD hS hl
      refine Kan2 hPD (fun hP hD => ?_)
      refine lv_iload_n hx hb gX12_findShould_0.2.2.1 rfl (lv_at0 hl) ?_
      refine lv_bipush (v := 8) hx hb gX12_findShould_0.2.2.2.1 (by decide) ?_
      refine lv_icmp_ge (tgt := 27) hx hb gX12_findShould_0.2.2.2.2.1 (by decide) (fun c9 => absurd c9 (nI_ge (a := kA) (b := 8) (by omega) (by omega))) (fun _ => ?_)
      refine lv_aload_n hx hb gX12_findShould_0.2.2.2.2.2.1 rfl (lv_at1 hl) ?_
      refine gf_X12_29 hC rfl hK hP 0 rfl rfl gX12_findShould_0.2.2.2.2.2.2.1 ?_
      refine lv_iload_n hx hb gX12_findShould_0.2.2.2.2.2.2.2.1 rfl (lv_at0 hl) ?_
      refine lv_aload_n hx hb gX12_findShould_0.2.2.2.2.2.2.2.2.1 rfl (lv_at1 hl) ?_
      refine lv_iload_n hx hb gX12_findShould_0.2.2.2.2.2.2.2.2.2 rfl (lv_at2 hl) ?_
      refine lv_iload_n hx hb gX12_findShould_1.1 rfl (lv_at0 hl) ?_
      refine lv_iconst (v := 1) hx hb gX12_findShould_1.2.1 (by decide) ?_
      refine iV (wr := [(ns, iA G 8 vS), (np, iA G 100 fnp)]) hC hK hl hP hD hS hA (m_knewByX l G kq k6 h0 je kA 1 nw nk mhasKept nt mtaped nr mrowMany mroundOf mroundFrom nm vfh vth ns mfrom mto msort misFault mdeep mcoded mlines nl nc nF np ntr nb mbestCost nso nsi nit nsh nsf nss nrc mtraced mdealer mnumber mwhose msize misParted fnw vA (hvA) (hN) (hgp) (ekq) (hkq) (e6) (hk6) (hje) (by omega)) si_X12_176 [0, 1, 2] [3, 4] sm_0_1_2 fm_0_1_2 nd_0_1_2 sm_3_4 nd_3_4 dj_0_1_2__3_4 rfl rfl rfl rfl rfl (Nat.le_of_ble_eq_true rfl) rm_8_5_7 ⟨Nat.le_of_ble_eq_true rfl, Nat.le_of_ble_eq_true rfl⟩ gX12_findShould_1.2.2.1 (fun r9921 => Ktu3 fun fh19923 th19924 gnm9925 => ?_)
      intro H locs hr9921 hP hD hS
      try dsimp only at hr9921
      refine Kpdr (ws := [(ns, iA G 8 vS), (np, iA G 100 fnp), (h0, oX12 nw nk mhasKept nt mtaped nr mrowMany mroundOf mroundFrom 0 nm fh19923 th19924 ns mfrom mto msort misFault mdeep mcoded mlines nl nc nF np ntr nb mbestCost nso nsi nit nsh nsf nss nrc mtraced mdealer mnumber mwhose msize misParted), (nw, iA G 1662 fnw), (nm, iA G 36 gnm9925)]) hP hD (fun hP hD => ?_)
      obtain ⟨hr9921, w9926⟩ := hr9921
      obtain ⟨r9_9927, hpx9927, hpe9927⟩ := hr9921
      subst r9921
      try dsimp only at hpx9927
      refine astN hC hK hP hD hS 0 (ws' := [(ns, iA G 8 (upd vS kA r9_9927)), (np, iA G 100 fnp), (h0, oX12 nw nk mhasKept nt mtaped nr mrowMany mroundOf mroundFrom 0 nm fh19923 th19924 ns mfrom mto msort misFault mdeep mcoded mlines nl nc nF np ntr nb mbestCost nso nsi nit nsh nsf nss nrc mtraced mdealer mnumber mwhose msize misParted), (nw, iA G 1662 fnw), (nm, iA G 36 gnm9925)]) rfl (k := kA) (by omega) (Nat.le_of_ble_eq_true rfl) (rfl) gX12_findShould_1.2.2.2.1 (fun H locs hP hD hS => ?_)
      refine lv_iinc (v := nI (kA + 1)) (lv' := [(2, .int (nI (kA + 1))), (0, .ref h0), (1, .int (nI je))]) hx hb gX12_findShould_1.2.2.2.2.1 hl (k := 0) rfl (nI_1 _) (by decide) rfl (fun ls hl => ?_)
      refine lv_goto (tgt := 2) hx hb gX12_findShould_1.2.2.2.2.2.1 (by decide) ?_
      refine Kpds (ws' := [(h0, oX12 nw nk mhasKept nt mtaped nr mrowMany mroundOf mroundFrom 0 nm fh19923 th19924 ns mfrom mto msort misFault mdeep mcoded mlines nl nc nF np ntr nb mbestCost nso nsi nit nsh nsf nss nrc mtraced mdealer mnumber mwhose msize misParted), (nw, iA G 1662 fnw), (nm, iA G 36 gnm9925), (ns, iA G 8 (upd vS kA r9_9927)), (np, iA G 100 fnp)]) hP hD [2, 3, 4, 0, 1] fm_2_3_4_0_1 nd_2_3_4_0_1 sm_2_3_4_0_1 (fun hP hD => ?_)
      have hst9 : TDP 100000 (S0F (KST (shf fnw 104) (VSE fnw kq) (fnw 3).toInt k6) (shf fnw 104) (VSE fnw kq) (shf fnw 32) (shf fnw 12) k6 kq je) (upd vS kA r9_9927) (kA + 1) := TDP.next htd hpx9927
      exact ihA (kA + 1) fh19923 th19924 gnm9925 (upd vS kA r9_9927) _ _ _ (by omega) (by first | assumption | exact Or.inl rfl | exact Or.inr rfl | exact TDP.zero) (by first | assumption | exact Or.inl rfl | exact Or.inr rfl | exact TDP.zero) (And.intro hP hD) hS (lv_sub hl [0, 1, 2] rfl)
  exact keyA 8 0 mfromHour mtoHour fnm fns _ _ _ (by omega) (by first | assumption | exact Or.inl rfl | exact Or.inr rfl | exact TDP.zero) (by first | assumption | exact Or.inl rfl | exact Or.inr rfl | exact TDP.zero) (And.intro hP hD) hS (lv_sub hl [0, 1, 2] rfl)
def K_m_fromOfX (l : Launch) (G : GG) (kq : Nat) (k6 : Nat) (k7 : Nat) (VL : Nat → List LNT) (VC : Nat → Nat → List Int32) (DY : Nat → Int32) (h0 : Nat) (je : Nat) (jt : Nat) (wy : Int32) (nw : Nat) (nk : Nat) (mhasKept : Int32) (nt : Nat) (mtaped : Int32) (nr : Nat) (mrowMany : Int32) (mroundOf : Int32) (mroundFrom : Int32) (nm : Nat) (mfromHour : Int32) (mtoHour : Int32) (ns : Nat) (mfrom : Int32) (mto : Int32) (msort : Int32) (misFault : Int32) (mdeep : Int32) (mcoded : Int32) (mlines : Int32) (nl : Nat) (nc : Nat) (nF : Nat) (np : Nat) (ntr : Nat) (nb : Nat) (mbestCost : Int32) (nso : Nat) (nsi : Nat) (nit : Nat) (nsh : Nat) (nsf : Nat) (nss : Nat) (nrc : Nat) (mtraced : Int32) (mdealer : Int32) (mnumber : Int32) (mwhose : Int32) (msize : Int32) (misParted : Int32) (fnw : Nat → Int32) (fnm : Nat → Int32) (fns : Nat → Int32) (fnp : Nat → Int32) : Prop := MI l G yX12_fromOf cX12_fromOf 4 (some .int) 9 0 0 [.ref h0, .int (nI je), .int (nI jt), .int wy] [(h0, oX12 nw nk mhasKept nt mtaped nr mrowMany mroundOf mroundFrom 0 nm mfromHour mtoHour ns mfrom mto msort misFault mdeep mcoded mlines nl nc nF np ntr nb mbestCost nso nsi nit nsh nsf nss nrc mtraced mdealer mnumber mwhose msize misParted), (nw, iA G 1662 fnw), (nm, iA G 36 fnm), (ns, iA G 8 fns), (np, iA G 100 fnp)] (fun (r : Int32) (u : Int32 × Int32 × (Nat → Int32) × (Nat → Int32) × (Nat → Int32)) => (∃ (w9:Int32), (ARW 100000 (KWO (KST (shf fnw 104) (VSE fnw kq) (fnw 3).toInt k6) (shf fnw 104) (VSE fnw kq) (shf fnw 32) (shf fnw 12) k6 kq je (LVF (LNF (RLO DY (DAYV (fnw 0) (fnw 1)) k7) VL) (TRF (RLO DY (DAYV (fnw 0) (fnw 1)) k7) VC (FAX (shf fnw 12) (shf fnw 32) (VSE fnw kq) kq je))) (LVN (RLO DY (DAYV (fnw 0) (fnw 1)) k7) VL) jt wy) w9) ∧ r = w9) ∧ (MB u.2.2.1)) (fun u : Int32 × Int32 × (Nat → Int32) × (Nat → Int32) × (Nat → Int32) => [(h0, oX12 nw nk mhasKept nt mtaped nr mrowMany mroundOf mroundFrom 0 nm u.1 u.2.1 ns mfrom mto msort misFault mdeep mcoded mlines nl nc nF np ntr nb mbestCost nso nsi nit nsh nsf nss nrc mtraced mdealer mnumber mwhose msize misParted), (nw, iA G 1662 fnw), (nm, iA G 36 u.2.2.1), (ns, iA G 8 u.2.2.2.1), (np, iA G 100 u.2.2.2.2)])
set_option maxHeartbeats 4000000 in
set_option maxRecDepth 100000 in
theorem m_fromOfX (l : Launch) (G : GG) (kq : Nat) (k6 : Nat) (k7 : Nat) (VL : Nat → List LNT) (VC : Nat → Nat → List Int32) (DY : Nat → Int32) (h0 : Nat) (je : Nat) (jt : Nat) (wy : Int32) (nw : Nat) (nk : Nat) (mhasKept : Int32) (nt : Nat) (mtaped : Int32) (nr : Nat) (mrowMany : Int32) (mroundOf : Int32) (mroundFrom : Int32) (nm : Nat) (mfromHour : Int32) (mtoHour : Int32) (ns : Nat) (mfrom : Int32) (mto : Int32) (msort : Int32) (misFault : Int32) (mdeep : Int32) (mcoded : Int32) (mlines : Int32) (nl : Nat) (nc : Nat) (nF : Nat) (np : Nat) (ntr : Nat) (nb : Nat) (mbestCost : Int32) (nso : Nat) (nsi : Nat) (nit : Nat) (nsh : Nat) (nsf : Nat) (nss : Nat) (nrc : Nat) (mtraced : Int32) (mdealer : Int32) (mnumber : Int32) (mwhose : Int32) (msize : Int32) (misParted : Int32) (fnw : Nat → Int32) (fnm : Nat → Int32) (fns : Nat → Int32) (fnp : Nat → Int32) (hje : je < 10) (hjt : jt < 8) (hwy : Wi wy 0 2) (hV : VI fnw) (hM : MB fnm) (hN : NI fnw) (hgp : GPRm (fnw 3)) (ekq : fnw 5 = nI kq) (hkq : kq ≤ 12) (e6 : fnw 6 = nI k6) (hk6 : k6 ≤ 24) (ek7 : fnw 7 = nI k7) (hk7 : k7 ≤ 8) (hVM : VMZ fnw k7 VL VC DY) : K_m_fromOfX l G kq k6 k7 VL VC DY h0 je jt wy nw nk mhasKept nt mtaped nr mrowMany mroundOf mroundFrom nm mfromHour mtoHour ns mfrom mto msort misFault mdeep mcoded mlines nl nc nF np ntr nb mbestCost nso nsi nit nsh nsf nss nrc mtraced mdealer mnumber mwhose msize misParted fnw fnm fns fnp := by
  refine MI.start (by decide +kernel) (Nat.le_of_ble_eq_true rfl) ?_
  intro p e s m below meth c A ls hC hK hP hD hS hA hl
  refine absQ (fun Q0 hQ0 => ?_)
  have hl : lv_has ls 4 [(0, .ref h0), (1, .int (nI je)), (2, .int (nI jt)), (3, .int wy)] := hl
  refine Kan8 hC (fun hx hb hr hml hB hown hlocks hnm => ?_)
  refine lv_iload_n hx hb gX12_fromOf_0.1 rfl (lv_at3 hl) ?_
  refine lv_iconst (v := 2) hx hb gX12_fromOf_0.2.1 (by decide) ?_
  refine lv_icmp_ge (tgt := 21) hx hb gX12_fromOf_0.2.2.1 (by decide) (fun c_2_9928 => ?_) (fun c_2_9928 => ?_)
  · refine lv_aload_n hx hb gX12_fromOf_1.2.2.2.1 rfl (lv_at0 hl) ?_
    refine lv_iload_n hx hb gX12_fromOf_1.2.2.2.2.1 rfl (lv_at1 hl) ?_
    refine vV (wr := []) hC hK hl hP hD hS hA (m_findShouldX l G kq k6 k7 VL VC DY h0 je nw nk mhasKept nt mtaped nr mrowMany mroundOf mroundFrom nm mfromHour mtoHour ns mfrom mto msort misFault mdeep mcoded mlines nl nc nF np ntr nb mbestCost nso nsi nit nsh nsf nss nrc mtraced mdealer mnumber mwhose msize misParted fnw fnm fns fnp (hje) (hV) (hM) (hN) (hgp) (ekq) (hkq) (e6) (hk6) (ek7) (hk7) (hVM)) si_X12_199 [0, 1, 2, 3, 4] [] sm_0_1_2_3_4 fm_0_1_2_3_4 nd_0_1_2_3_4 rfl rfl (by decide) rfl rfl rfl rfl rfl (Nat.le_of_ble_eq_true rfl) rm_9_8_7 ⟨Nat.le_of_ble_eq_true rfl, Nat.le_of_ble_eq_true rfl⟩ gX12_fromOf_1.2.2.2.2.2.1 (Ktu5 fun fh19931 th19932 gnm9933 gns9934 gnp9935 => ?_)
    intro H locs hr9929 hP hD hS
    try dsimp only at hr9929
    refine Kpdr (ws := [(h0, oX12 nw nk mhasKept nt mtaped nr mrowMany mroundOf mroundFrom 0 nm fh19931 th19932 ns mfrom mto msort misFault mdeep mcoded mlines nl nc nF np ntr nb mbestCost nso nsi nit nsh nsf nss nrc mtraced mdealer mnumber mwhose msize misParted), (nw, iA G 1662 fnw), (nm, iA G 36 gnm9933), (ns, iA G 8 gns9934), (np, iA G 100 gnp9935)]) hP hD (fun hP hD => ?_)
    have hu9937 := hr9929.1
    have hu9938 := hr9929.2
    refine lv_aload_n hx hb gX12_fromOf_1.2.2.2.2.2.2.1 rfl (lv_at0 hl) ?_
    refine gf_X12_29 hC rfl hK hP 0 rfl rfl gX12_fromOf_1.2.2.2.2.2.2.2.1 ?_
    refine lv_iload_n hx hb gX12_fromOf_1.2.2.2.2.2.2.2.2.1 rfl (lv_at2 hl) ?_
    refine aldN hC hK hP 3 rfl (k := jt) (by omega) (Nat.le_of_ble_eq_true rfl) (v := gns9934 jt) rfl gX12_fromOf_1.2.2.2.2.2.2.2.2.2 ?_
    refine toQ hQ0 ?_
    exact RI (v := gns9934 jt) hC hP hD hS [0, 1, 2, 3, 4] (fh19931, th19932, gnm9933, gns9934, gnp9935) rfl rfl (by decide) (⟨⟨_, KWO.y (WY2.y hwy c_2_9928) (SHF.w (HBD.pit (S0F.hbd (SVL.ofm hN (by omega)) (NI.slow hN (by omega)).1 (NI.slow hN (by omega)).2) (LVM.lvb hVM) 9) hjt (hu9938 jt hjt)), rfl⟩, by first | assumption | exact hu9937⟩) rfl gX12_fromOf_2
  · refine lv_aload_n hx hb gX12_fromOf_0.2.2.2.1 rfl (lv_at0 hl) ?_
    refine lv_iload_n hx hb gX12_fromOf_0.2.2.2.2.1 rfl (lv_at1 hl) ?_
    refine lv_iload_n hx hb gX12_fromOf_0.2.2.2.2.2.1 rfl (lv_at2 hl) ?_
    refine lv_iload_n hx hb gX12_fromOf_0.2.2.2.2.2.2.1 rfl (lv_at3 hl) ?_
    refine lv_if_ne (tgt := 16) hx hb gX12_fromOf_0.2.2.2.2.2.2.2.1 (by decide) (fun c_9_9939 => ?_) (fun c_9_9939 => ?_)
    · refine lv_iconst (v := 0) hx hb gX12_fromOf_1.1 (by decide) ?_
      refine iV (wr := [(ns, iA G 8 fns), (np, iA G 100 fnp)]) hC hK hl hP hD hS hA (m_knewByX l G kq k6 h0 je jt 0 nw nk mhasKept nt mtaped nr mrowMany mroundOf mroundFrom nm mfromHour mtoHour ns mfrom mto msort misFault mdeep mcoded mlines nl nc nF np ntr nb mbestCost nso nsi nit nsh nsf nss nrc mtraced mdealer mnumber mwhose msize misParted fnw fnm (hM) (hN) (hgp) (ekq) (hkq) (e6) (hk6) (hje) (hjt)) si_X12_176 [0, 1, 2] [3, 4] sm_0_1_2 fm_0_1_2 nd_0_1_2 sm_3_4 nd_3_4 dj_0_1_2__3_4 rfl rfl rfl rfl rfl (Nat.le_of_ble_eq_true rfl) rm_9_5_7 ⟨Nat.le_of_ble_eq_true rfl, Nat.le_of_ble_eq_true rfl⟩ gX12_fromOf_1.2.1 (fun r9940 => Ktu3 fun fh19942 th19943 gnm9944 => ?_)
      intro H locs hr9940 hP hD hS
      try dsimp only at hr9940
      refine Kpdr (ws := [(ns, iA G 8 fns), (np, iA G 100 fnp), (h0, oX12 nw nk mhasKept nt mtaped nr mrowMany mroundOf mroundFrom 0 nm fh19942 th19943 ns mfrom mto msort misFault mdeep mcoded mlines nl nc nF np ntr nb mbestCost nso nsi nit nsh nsf nss nrc mtraced mdealer mnumber mwhose msize misParted), (nw, iA G 1662 fnw), (nm, iA G 36 gnm9944)]) hP hD (fun hP hD => ?_)
      obtain ⟨hr9940, w9945⟩ := hr9940
      obtain ⟨r9_9946, hpx9946, hpe9946⟩ := hr9940
      subst r9940
      try dsimp only at hpx9946
      refine toQ hQ0 ?_
      exact RI (v := r9_9946) hC hP hD hS [2, 3, 4, 0, 1] (fh19942, th19943, gnm9944, fns, fnp) rfl rfl (by decide) (⟨⟨_, KWO.n1 (SVL.ofm hN (by omega)) (NI.slow hN (by omega)).1 (NI.slow hN (by omega)).2 (WY2.n c_2_9928) c_9_9939 hpx9946, rfl⟩, by first | assumption | exact w9945⟩) rfl gX12_fromOf_1.2.2.1
    · refine lv_iconst (v := 1) hx hb gX12_fromOf_0.2.2.2.2.2.2.2.2.1 (by decide) ?_
      refine lv_goto (tgt := 17) hx hb gX12_fromOf_0.2.2.2.2.2.2.2.2.2 (by decide) ?_
      refine iV (wr := [(ns, iA G 8 fns), (np, iA G 100 fnp)]) hC hK hl hP hD hS hA (m_knewByX l G kq k6 h0 je jt 1 nw nk mhasKept nt mtaped nr mrowMany mroundOf mroundFrom nm mfromHour mtoHour ns mfrom mto msort misFault mdeep mcoded mlines nl nc nF np ntr nb mbestCost nso nsi nit nsh nsf nss nrc mtraced mdealer mnumber mwhose msize misParted fnw fnm (hM) (hN) (hgp) (ekq) (hkq) (e6) (hk6) (hje) (hjt)) si_X12_176 [0, 1, 2] [3, 4] sm_0_1_2 fm_0_1_2 nd_0_1_2 sm_3_4 nd_3_4 dj_0_1_2__3_4 rfl rfl rfl rfl rfl (Nat.le_of_ble_eq_true rfl) rm_9_5_7 ⟨Nat.le_of_ble_eq_true rfl, Nat.le_of_ble_eq_true rfl⟩ gX12_fromOf_1.2.1 (fun r9947 => Ktu3 fun fh19949 th19950 gnm9951 => ?_)
      intro H locs hr9947 hP hD hS
      try dsimp only at hr9947
      refine Kpdr (ws := [(ns, iA G 8 fns), (np, iA G 100 fnp), (h0, oX12 nw nk mhasKept nt mtaped nr mrowMany mroundOf mroundFrom 0 nm fh19949 th19950 ns mfrom mto msort misFault mdeep mcoded mlines nl nc nF np ntr nb mbestCost nso nsi nit nsh nsf nss nrc mtraced mdealer mnumber mwhose msize misParted), (nw, iA G 1662 fnw), (nm, iA G 36 gnm9951)]) hP hD (fun hP hD => ?_)
      obtain ⟨hr9947, w9952⟩ := hr9947
      obtain ⟨r9_9953, hpx9953, hpe9953⟩ := hr9947
      subst r9947
      try dsimp only at hpx9953
      refine toQ hQ0 ?_
      exact RI (v := r9_9953) hC hP hD hS [2, 3, 4, 0, 1] (fh19949, th19950, gnm9951, fns, fnp) rfl rfl (by decide) (⟨⟨_, KWO.n0 (SVL.ofm hN (by omega)) (NI.slow hN (by omega)).1 (NI.slow hN (by omega)).2 (WY2.n c_2_9928) c_9_9939 hpx9953, rfl⟩, by first | assumption | exact w9952⟩) rfl gX12_fromOf_1.2.2.1
def K_m_standsX (l : Launch) (G : GG) (kq : Nat) (k6 : Nat) (k7 : Nat) (VL : Nat → List LNT) (VC : Nat → Nat → List Int32) (DY : Nat → Int32) (h0 : Nat) (jf : Nat) (nw : Nat) (nk : Nat) (mhasKept : Int32) (nt : Nat) (mtaped : Int32) (nr : Nat) (mrowMany : Int32) (mroundOf : Int32) (mroundFrom : Int32) (nm : Nat) (mfromHour : Int32) (mtoHour : Int32) (ns : Nat) (mfrom : Int32) (mto : Int32) (msort : Int32) (misFault : Int32) (mdeep : Int32) (mcoded : Int32) (mlines : Int32) (nl : Nat) (nc : Nat) (nF : Nat) (np : Nat) (ntr : Nat) (nb : Nat) (mbestCost : Int32) (nso : Nat) (nsi : Nat) (nit : Nat) (nsh : Nat) (nsf : Nat) (nss : Nat) (nrc : Nat) (mtraced : Int32) (mdealer : Int32) (mnumber : Int32) (mwhose : Int32) (msize : Int32) (misParted : Int32) (fnw : Nat → Int32) (fnm : Nat → Int32) (fns : Nat → Int32) (fnp : Nat → Int32) : Prop := MI l G yX12_stands cX12_stands 3 (some .boolean) 10 0 0 [.ref h0, .int (nI jf)] [(h0, oX12 nw nk mhasKept nt mtaped nr mrowMany mroundOf mroundFrom 0 nm mfromHour mtoHour ns mfrom mto msort misFault mdeep mcoded mlines nl nc nF np ntr nb mbestCost nso nsi nit nsh nsf nss nrc mtraced mdealer mnumber mwhose msize misParted), (nw, iA G 1662 fnw), (nm, iA G 36 fnm), (ns, iA G 8 fns), (np, iA G 100 fnp)] (fun (r : Int32) (u : Int32 × Int32 × (Nat → Int32) × (Nat → Int32) × (Nat → Int32)) => ((r = 1 ∧ (STD (KST (shf fnw 104) (VSE fnw kq) (fnw 3).toInt k6) (shf fnw 104) (VSE fnw kq) (shf fnw 32) (shf fnw 12) k6 kq (fun e9 => LVF (LNF (RLO DY (DAYV (fnw 0) (fnw 1)) k7) VL) (TRF (RLO DY (DAYV (fnw 0) (fnw 1)) k7) VC (FAX (shf fnw 12) (shf fnw 32) (VSE fnw kq) kq e9))) (LVN (RLO DY (DAYV (fnw 0) (fnw 1)) k7) VL) (shf fnw 1552)) jf) ∨ (r = 0 ∧ ¬ (STD (KST (shf fnw 104) (VSE fnw kq) (fnw 3).toInt k6) (shf fnw 104) (VSE fnw kq) (shf fnw 32) (shf fnw 12) k6 kq (fun e9 => LVF (LNF (RLO DY (DAYV (fnw 0) (fnw 1)) k7) VL) (TRF (RLO DY (DAYV (fnw 0) (fnw 1)) k7) VC (FAX (shf fnw 12) (shf fnw 32) (VSE fnw kq) kq e9))) (LVN (RLO DY (DAYV (fnw 0) (fnw 1)) k7) VL) (shf fnw 1552)) jf)) ∧ (MB u.2.2.1)) (fun u : Int32 × Int32 × (Nat → Int32) × (Nat → Int32) × (Nat → Int32) => [(h0, oX12 nw nk mhasKept nt mtaped nr mrowMany mroundOf mroundFrom 0 nm u.1 u.2.1 ns mfrom mto msort misFault mdeep mcoded mlines nl nc nF np ntr nb mbestCost nso nsi nit nsh nsf nss nrc mtraced mdealer mnumber mwhose msize misParted), (nw, iA G 1662 fnw), (nm, iA G 36 u.2.2.1), (ns, iA G 8 u.2.2.2.1), (np, iA G 100 u.2.2.2.2)])
set_option maxHeartbeats 4000000 in
set_option maxRecDepth 100000 in
theorem m_standsX (l : Launch) (G : GG) (kq : Nat) (k6 : Nat) (k7 : Nat) (kp : Nat) (k9 : Nat) (VL : Nat → List LNT) (VC : Nat → Nat → List Int32) (DY : Nat → Int32) (h0 : Nat) (jf : Nat) (nw : Nat) (nk : Nat) (mhasKept : Int32) (nt : Nat) (mtaped : Int32) (nr : Nat) (mrowMany : Int32) (mroundOf : Int32) (mroundFrom : Int32) (nm : Nat) (mfromHour : Int32) (mtoHour : Int32) (ns : Nat) (mfrom : Int32) (mto : Int32) (msort : Int32) (misFault : Int32) (mdeep : Int32) (mcoded : Int32) (mlines : Int32) (nl : Nat) (nc : Nat) (nF : Nat) (np : Nat) (ntr : Nat) (nb : Nat) (mbestCost : Int32) (nso : Nat) (nsi : Nat) (nit : Nat) (nsh : Nat) (nsf : Nat) (nss : Nat) (nrc : Nat) (mtraced : Int32) (mdealer : Int32) (mnumber : Int32) (mwhose : Int32) (msize : Int32) (misParted : Int32) (fnw : Nat → Int32) (fnm : Nat → Int32) (fns : Nat → Int32) (fnp : Nat → Int32) (hjf : jf < k9) (hV : VI fnw) (hM : MB fnm) (hN : NI fnw) (hgp : GPRm (fnw 3)) (ekq : fnw 5 = nI kq) (hkq : kq ≤ 12) (e6 : fnw 6 = nI k6) (hk6 : k6 ≤ 24) (ek7 : fnw 7 = nI k7) (hk7 : k7 ≤ 8) (ekp : fnw 4 = nI kp) (hkp : kp ≤ 10) (hVM : VMZ fnw k7 VL VC DY) (hFN : FNO (shf fnw 1552) k9 kp) (hk9 : k9 ≤ 12) : K_m_standsX l G kq k6 k7 VL VC DY h0 jf nw nk mhasKept nt mtaped nr mrowMany mroundOf mroundFrom nm mfromHour mtoHour ns mfrom mto msort misFault mdeep mcoded mlines nl nc nF np ntr nb mbestCost nso nsi nit nsh nsf nss nrc mtraced mdealer mnumber mwhose msize misParted fnw fnm fns fnp := by
  refine MI.start (by decide +kernel) (Nat.le_of_ble_eq_true rfl) ?_
  intro p e s m below meth c A ls hC hK hP hD hS hA hl
  refine absQ (fun Q0 hQ0 => ?_)
  have hl : lv_has ls 3 [(0, .ref h0), (1, .int (nI jf))] := hl
  refine Kan8 hC (fun hx hb hr hml hB hown hlocks hnm => ?_)
  have hf9 := hFN jf hjf
  obtain ⟨je, hje, e90⟩ := Hs_nat (by omega) hf9.1
  obtain ⟨jt, hjt, e91⟩ := Wi7 hf9.2.1
  have hq0 : fnw (1552 + 4 * jf + 0) = shf fnw 1552 (jf * 4 + 0) := congrArg fnw (by omega)
  have hq1 : fnw (1552 + 4 * jf + 1) = shf fnw 1552 (jf * 4 + 1) := congrArg fnw (by omega)
  have hq2 : fnw (1552 + 4 * jf + 2) = shf fnw 1552 (jf * 4 + 2) := congrArg fnw (by omega)
  have hq3 : fnw (1552 + 4 * jf + 3) = shf fnw 1552 (jf * 4 + 3) := congrArg fnw (by omega)
  refine lv_sipush (v := 1552) hx hb gX12_stands_0.1 (by decide) ?_
  refine lv_iconst (v := 4) hx hb gX12_stands_0.2.1 (by decide) ?_
  refine lv_iload_n hx hb gX12_stands_0.2.2.1 rfl (lv_at1 hl) ?_
  refine lv_imul hx hb gX12_stands_0.2.2.2.1 ?_
  refine eqi (x1 := nI (4 * jf)) (nI_mul 4 jf) ?_
  refine lv_iadd hx hb gX12_stands_0.2.2.2.2.1 ?_
  refine eqi (x1 := nI (1552 + 4 * jf)) (nI_add 1552 (4 * jf)) ?_
  refine lv_istore_n (lv' := [(2, .int (nI (1552 + 4 * jf))), (0, .ref h0), (1, .int (nI jf))]) hx hb gX12_stands_0.2.2.2.2.2.1 rfl hl (by decide) rfl (fun ls hl => ?_)
  refine lv_aload_n hx hb gX12_stands_0.2.2.2.2.2.2.1 rfl (lv_at1 hl) ?_
  refine gf_X12_9 hC rfl hK hP 0 rfl rfl gX12_stands_0.2.2.2.2.2.2.2.1 ?_
  refine lv_iload_n hx hb gX12_stands_0.2.2.2.2.2.2.2.2.1 rfl (lv_at0 hl) ?_
  refine lv_iconst (v := 2) hx hb gX12_stands_0.2.2.2.2.2.2.2.2.2 (by decide) ?_
  refine lv_iadd hx hb gX12_stands_1.1 ?_
  refine eqi (x1 := nI (1552 + 4 * jf + 2)) (nI_add (1552 + 4 * jf) 2) ?_
  refine aldN hC hK hP 1 rfl (k := 1552 + 4 * jf + 2) (by omega) (Nat.le_of_ble_eq_true rfl) (v := shf fnw 1552 (jf * 4 + 2)) (hq2) gX12_stands_1.2.1 ?_
  refine lv_aload_n hx hb gX12_stands_1.2.2.1 rfl (lv_at1 hl) ?_
  refine lv_aload_n hx hb gX12_stands_1.2.2.2.1 rfl (lv_at1 hl) ?_
  refine gf_X12_9 hC rfl hK hP 0 rfl rfl gX12_stands_1.2.2.2.2.1 ?_
  refine lv_iload_n hx hb gX12_stands_1.2.2.2.2.2.1 rfl (lv_at0 hl) ?_
  refine lv_iconst (v := 0) hx hb gX12_stands_1.2.2.2.2.2.2.1 (by decide) ?_
  refine lv_iadd hx hb gX12_stands_1.2.2.2.2.2.2.2.1 ?_
  refine eqi (x1 := nI (1552 + 4 * jf + 0)) (nI_add (1552 + 4 * jf) 0) ?_
  refine aldN hC hK hP 1 rfl (k := 1552 + 4 * jf + 0) (by omega) (Nat.le_of_ble_eq_true rfl) (v := nI je) (hq0.trans e90) gX12_stands_1.2.2.2.2.2.2.2.2.1 ?_
  refine lv_aload_n hx hb gX12_stands_1.2.2.2.2.2.2.2.2.2 rfl (lv_at1 hl) ?_
  refine gf_X12_9 hC rfl hK hP 0 rfl rfl gX12_stands_2.1 ?_
  refine lv_iload_n hx hb gX12_stands_2.2.1 rfl (lv_at0 hl) ?_
  refine lv_iconst (v := 1) hx hb gX12_stands_2.2.2.1 (by decide) ?_
  refine lv_iadd hx hb gX12_stands_2.2.2.2.1 ?_
  refine eqi (x1 := nI (1552 + 4 * jf + 1)) (nI_add (1552 + 4 * jf) 1) ?_
  refine aldN hC hK hP 1 rfl (k := 1552 + 4 * jf + 1) (by omega) (Nat.le_of_ble_eq_true rfl) (v := nI jt) (hq1.trans e91) gX12_stands_2.2.2.2.2.1 ?_
  refine lv_aload_n hx hb gX12_stands_2.2.2.2.2.2.1 rfl (lv_at1 hl) ?_
  refine gf_X12_9 hC rfl hK hP 0 rfl rfl gX12_stands_2.2.2.2.2.2.2.1 ?_
  refine lv_iload_n hx hb gX12_stands_2.2.2.2.2.2.2.2.1 rfl (lv_at0 hl) ?_
  refine lv_iconst (v := 3) hx hb gX12_stands_2.2.2.2.2.2.2.2.2.1 (by decide) ?_
  refine lv_iadd hx hb gX12_stands_2.2.2.2.2.2.2.2.2.2 ?_
  refine eqi (x1 := nI (1552 + 4 * jf + 3)) (nI_add (1552 + 4 * jf) 3) ?_
  refine aldN hC hK hP 1 rfl (k := 1552 + 4 * jf + 3) (by omega) (Nat.le_of_ble_eq_true rfl) (v := shf fnw 1552 (jf * 4 + 3)) (hq3) gX12_stands_3.1 ?_
  refine iV (wr := []) hC hK hl hP hD hS hA (m_fromOfX l G kq k6 k7 VL VC DY h0 je jt (shf fnw 1552 (jf * 4 + 3)) nw nk mhasKept nt mtaped nr mrowMany mroundOf mroundFrom nm mfromHour mtoHour ns mfrom mto msort misFault mdeep mcoded mlines nl nc nF np ntr nb mbestCost nso nsi nit nsh nsf nss nrc mtraced mdealer mnumber mwhose msize misParted fnw fnm fns fnp (by omega) (by omega) (hf9.2.2.2) (hV) (hM) (hN) (hgp) (ekq) (hkq) (e6) (hk6) (ek7) (hk7) (hVM)) si_X12_203 [0, 1, 2, 3, 4] [] sm_0_1_2_3_4 fm_0_1_2_3_4 nd_0_1_2_3_4 rfl rfl (by decide) rfl rfl rfl rfl rfl (Nat.le_of_ble_eq_true rfl) rm_10_9_4 ⟨Nat.le_of_ble_eq_true rfl, Nat.le_of_ble_eq_true rfl⟩ gX12_stands_3.2.1 (fun r9954 => Ktu5 fun fh19956 th19957 gnm9958 gns9959 gnp9960 => ?_)
  intro H locs hr9954 hP hD hS
  try dsimp only at hr9954
  refine Kpdr (ws := [(h0, oX12 nw nk mhasKept nt mtaped nr mrowMany mroundOf mroundFrom 0 nm fh19956 th19957 ns mfrom mto msort misFault mdeep mcoded mlines nl nc nF np ntr nb mbestCost nso nsi nit nsh nsf nss nrc mtraced mdealer mnumber mwhose msize misParted), (nw, iA G 1662 fnw), (nm, iA G 36 gnm9958), (ns, iA G 8 gns9959), (np, iA G 100 gnp9960)]) hP hD (fun hP hD => ?_)
  obtain ⟨hr9954, w9961⟩ := hr9954
  obtain ⟨w9_9962, hpx9962, hpe9962⟩ := hr9954
  subst r9954
  try dsimp only at hpx9962
  refine lv_icmp_lt (tgt := 51) hx hb gX12_stands_3.2.2.1 (by decide) (fun c_44_9963 => ?_) (fun c_44_9963 => ?_)
  · refine lv_iconst (v := 0) hx hb gX12_stands_3.2.2.2.2.2.1 (by decide) ?_
    refine toQ hQ0 ?_
    exact RI (v := 0) hC hP hD hS [0, 1, 2, 3, 4] (fh19956, th19957, gnm9958, gns9959, gnp9960) rfl rfl (by decide) (⟨Or.inr ⟨rfl, fun h9 => Int32.not_le.mpr c_44_9963 ((STD.iff (LV := (fun e9 => LVF (LNF (RLO DY (DAYV (fnw 0) (fnw 1)) k7) VL) (TRF (RLO DY (DAYV (fnw 0) (fnw 1)) k7) VC (FAX (shf fnw 12) (shf fnw 32) (VSE fnw kq) kq e9)))) (ff := shf fnw 1552) (s := jf) e90 e91 (by omega) hjt hf9.2.2.1 (by decide) hpx9962).mpr h9)⟩, by first | assumption | exact w9961⟩) (by decide +kernel) gX12_stands_3.2.2.2.2.2.2
  · refine lv_iconst (v := 1) hx hb gX12_stands_3.2.2.2.1 (by decide) ?_
    refine lv_goto (tgt := 52) hx hb gX12_stands_3.2.2.2.2.1 (by decide) ?_
    refine toQ hQ0 ?_
    exact RI (v := 1) hC hP hD hS [0, 1, 2, 3, 4] (fh19956, th19957, gnm9958, gns9959, gnp9960) rfl rfl (by decide) (⟨Or.inl ⟨rfl, (STD.iff (LV := (fun e9 => LVF (LNF (RLO DY (DAYV (fnw 0) (fnw 1)) k7) VL) (TRF (RLO DY (DAYV (fnw 0) (fnw 1)) k7) VC (FAX (shf fnw 12) (shf fnw 32) (VSE fnw kq) kq e9)))) (ff := shf fnw 1552) (s := jf) e90 e91 (by omega) hjt hf9.2.2.1 (by decide) hpx9962).mp (Int32.not_lt.mp c_44_9963)⟩, by first | assumption | exact w9961⟩) (by decide +kernel) gX12_stands_3.2.2.2.2.2.2
def K_m_saidAllX (l : Launch) (G : GG) (k8 : Nat) (h0 : Nat) (nw : Nat) (nk : Nat) (mhasKept : Int32) (nt : Nat) (mtaped : Int32) (nr : Nat) (mrowMany : Int32) (mroundOf : Int32) (mroundFrom : Int32) (nm : Nat) (mfromHour : Int32) (mtoHour : Int32) (ns : Nat) (mfrom : Int32) (mto : Int32) (msort : Int32) (misFault : Int32) (mdeep : Int32) (mcoded : Int32) (mlines : Int32) (nl : Nat) (nc : Nat) (nF : Nat) (np : Nat) (ntr : Nat) (nb : Nat) (mbestCost : Int32) (nso : Nat) (nsi : Nat) (nit : Nat) (nsh : Nat) (nsf : Nat) (nss : Nat) (nrc : Nat) (mtraced : Int32) (mdealer : Int32) (mnumber : Int32) (mwhose : Int32) (msize : Int32) (misParted : Int32) (fnw : Nat → Int32) : Prop := MP l G yX12_saidBy cX12_saidBy 4 (some .int) 5 [.ref h0, .int (-1)] [(h0, oX12 nw nk mhasKept nt mtaped nr mrowMany mroundOf mroundFrom 0 nm mfromHour mtoHour ns mfrom mto msort misFault mdeep mcoded mlines nl nc nF np ntr nb mbestCost nso nsi nit nsh nsf nss nrc mtraced mdealer mnumber mwhose msize misParted), (nw, iA G 1662 fnw)] (fun r : Int32 => r = (CNT (CSQ (shf fnw 1424) (shf fnw 32) (fnw 0) (fnw 1) (fnw 2)) k8))
set_option maxHeartbeats 4000000 in
set_option maxRecDepth 100000 in
theorem m_saidAllX (l : Launch) (G : GG) (k8 : Nat) (h0 : Nat) (nw : Nat) (nk : Nat) (mhasKept : Int32) (nt : Nat) (mtaped : Int32) (nr : Nat) (mrowMany : Int32) (mroundOf : Int32) (mroundFrom : Int32) (nm : Nat) (mfromHour : Int32) (mtoHour : Int32) (ns : Nat) (mfrom : Int32) (mto : Int32) (msort : Int32) (misFault : Int32) (mdeep : Int32) (mcoded : Int32) (mlines : Int32) (nl : Nat) (nc : Nat) (nF : Nat) (np : Nat) (ntr : Nat) (nb : Nat) (mbestCost : Int32) (nso : Nat) (nsi : Nat) (nit : Nat) (nsh : Nat) (nsf : Nat) (nss : Nat) (nrc : Nat) (mtraced : Int32) (mdealer : Int32) (mnumber : Int32) (mwhose : Int32) (msize : Int32) (misParted : Int32) (fnw : Nat → Int32) (ek8 : fnw 8 = nI k8) (hk8 : k8 ≤ 16) (hN : NI fnw) : K_m_saidAllX l G k8 h0 nw nk mhasKept nt mtaped nr mrowMany mroundOf mroundFrom nm mfromHour mtoHour ns mfrom mto msort misFault mdeep mcoded mlines nl nc nF np ntr nb mbestCost nso nsi nit nsh nsf nss nrc mtraced mdealer mnumber mwhose msize misParted fnw := by
  refine MP.start (by decide +kernel) (Nat.le_of_ble_eq_true rfl) ?_
  intro p e s m below meth c ls hC hK hP hD hl
  refine absQ (fun Q0 hQ0 => ?_)
  have hl : lv_has ls 4 [(0, .ref h0), (1, .int (-1))] := hl
  refine Kan8 hC (fun hx hb hr hml hB hown hlocks hnm => ?_)
  refine lv_iconst (v := 0) hx hb gX12_saidBy_0.1 (by decide) ?_
  refine lv_istore_n (lv' := [(2, .int 0), (0, .ref h0), (1, .int (-1))]) hx hb gX12_saidBy_0.2.1 rfl hl (by decide) rfl (fun ls hl => ?_)
  refine lv_iconst (v := 0) hx hb gX12_saidBy_0.2.2.1 (by decide) ?_
  refine lv_istore_n (lv' := [(3, .int 0), (2, .int 0), (0, .ref h0), (1, .int (-1))]) hx hb gX12_saidBy_0.2.2.2.1 rfl hl (by decide) rfl (fun ls hl => ?_)
  have keyP : ∀ (nP kP : Nat) (nn : Int32) (ls : Array Slot), kP + nP = k8 → (nn = CNT (CSQ (shf fnw 1424) (shf fnw 32) (fnw 0) (fnw 1) (fnw 2)) kP) → lv_has ls 4 [(3, .int (nI kP)), (2, .int nn), (0, .ref h0), (1, .int (-1))] → W p l e (RM 5 0 0) s m ([.ref h0, .int (-1)] : List Value).toArray below meth c s.heap [] 0 0 Q0 (F0 m 4 ls []) := by
    intro nP
    induction nP with
    | zero =>
      intro kP nn ls hkP hcn hl
      obtain rfl : k8 = kP := by omega
      have hl : lv_has ls 4 [(3, .int (nI k8)), (2, .int nn), (0, .ref h0), (1, .int (-1))] := hl
      refine lv_iload_n hx hb gX12_saidBy_0.2.2.2.2.1 rfl (lv_at0 hl) ?_
      refine lv_aload_n hx hb gX12_saidBy_0.2.2.2.2.2.1 rfl (lv_at2 hl) ?_
      refine gf_X12_9 hC rfl hK hP 0 rfl rfl gX12_saidBy_0.2.2.2.2.2.2.1 ?_
      refine lv_bipush (v := 8) hx hb gX12_saidBy_0.2.2.2.2.2.2.2.1 (by decide) ?_
      refine ald hC hK hP 1 rfl (vin (by decide +kernel)) (k := 8) (by decide +kernel) (v := nI k8) (ek8) gX12_saidBy_0.2.2.2.2.2.2.2.2.1 ?_
      refine lv_icmp_ge (tgt := 51) hx hb gX12_saidBy_0.2.2.2.2.2.2.2.2.2 (by decide) (fun _ => ?_) (fun c9 => absurd (Int32.le_refl _) c9)
      refine lv_iload_n hx hb gX12_saidBy_3.1 rfl (lv_at1 hl) ?_
      refine toQ hQ0 ?_
      exact RP (v := nn) hC (hcn) rfl gX12_saidBy_3.2
    | succ nP ihP =>
      intro kP nn ls hkP hcn hl
      refine lv_iload_n hx hb gX12_saidBy_0.2.2.2.2.1 rfl (lv_at0 hl) ?_
      refine lv_aload_n hx hb gX12_saidBy_0.2.2.2.2.2.1 rfl (lv_at2 hl) ?_
      refine gf_X12_9 hC rfl hK hP 0 rfl rfl gX12_saidBy_0.2.2.2.2.2.2.1 ?_
      refine lv_bipush (v := 8) hx hb gX12_saidBy_0.2.2.2.2.2.2.2.1 (by decide) ?_
      refine ald hC hK hP 1 rfl (vin (by decide +kernel)) (k := 8) (by decide +kernel) (v := nI k8) (ek8) gX12_saidBy_0.2.2.2.2.2.2.2.2.1 ?_
      refine lv_icmp_ge (tgt := 51) hx hb gX12_saidBy_0.2.2.2.2.2.2.2.2.2 (by decide) (fun c9 => absurd c9 (nI_ge (a := kP) (b := k8) (by omega) (by omega))) (fun _ => ?_)
      refine lv_iload_n hx hb gX12_saidBy_1.1 rfl (lv_at1 hl) ?_
      refine lv_aload_n hx hb gX12_saidBy_1.2.1 rfl (lv_at2 hl) ?_
      refine lv_iload_n hx hb gX12_saidBy_1.2.2.1 rfl (lv_at0 hl) ?_
      refine pV hC hK hl hP hD (m_doesCountX l G h0 kP nw nk mhasKept nt mtaped nr mrowMany mroundOf mroundFrom nm mfromHour mtoHour ns mfrom mto msort misFault mdeep mcoded mlines nl nc nF np ntr nb mbestCost nso nsi nit nsh nsf nss nrc mtraced mdealer mnumber mwhose msize misParted fnw (by omega) (hN)) si_X12_117 [0, 1] sm_0_1 fm_0_1 nd_0_1 rfl rfl rfl rfl rfl (Nat.le_of_ble_eq_true rfl) rm_5_4_2 ⟨by first | exact Nat.le_of_ble_eq_true rfl | exact Nat.zero_le _, by first | exact Nat.le_of_ble_eq_true rfl | exact Nat.zero_le _⟩ gX12_saidBy_1.2.2.2.1 (Kors (Keqa fun a9965 => ?_) (Keqa fun a9965 => ?_))
      · refine lv_if_eq (tgt := 42) hx hb gX12_saidBy_1.2.2.2.2.1 (by decide) (fun c9 => absurd c9 (by decide)) (fun _ => ?_)
        refine lv_iload_n hx hb gX12_saidBy_1.2.2.2.2.2.1 rfl (lv_at3 hl) ?_
        refine lv_if_lt (tgt := 38) hx hb gX12_saidBy_1.2.2.2.2.2.2.1 (by decide) (fun _ => ?_) (fun c9 => absurd (by decide) c9)
        refine lv_iconst (v := 1) hx hb gX12_saidBy_2.2.2.2.1 (by decide) ?_
        refine lv_goto (tgt := 43) hx hb gX12_saidBy_2.2.2.2.2.1 (by decide) ?_
        refine lv_iadd hx hb gX12_saidBy_2.2.2.2.2.2.2.1 ?_
        refine lv_istore_n (lv' := [(2, .int (nn + 1)), (3, .int (nI kP)), (0, .ref h0), (1, .int (-1))]) hx hb gX12_saidBy_2.2.2.2.2.2.2.2.1 rfl hl (by decide) rfl (fun ls hl => ?_)
        refine lv_iinc (v := nI (kP + 1)) (lv' := [(3, .int (nI (kP + 1))), (2, .int (nn + 1)), (0, .ref h0), (1, .int (-1))]) hx hb gX12_saidBy_2.2.2.2.2.2.2.2.2.1 hl (k := 1) rfl (nI_1 _) (by decide) rfl (fun ls hl => ?_)
        refine lv_goto (tgt := 4) hx hb gX12_saidBy_2.2.2.2.2.2.2.2.2.2 (by decide) ?_
        have hst9 : nn + 1 = CNT (CSQ (shf fnw 1424) (shf fnw 32) (fnw 0) (fnw 1) (fnw 2)) (kP + 1) := CNT.y hcn a9965
        exact ihP (kP + 1) (nn + 1) _ (by omega) (by first | assumption | exact Or.inl rfl | exact Or.inr rfl | exact rfl) (lv_sub hl [0, 1, 2, 3] rfl)
      · refine lv_if_eq (tgt := 42) hx hb gX12_saidBy_1.2.2.2.2.1 (by decide) (fun _ => ?_) (fun c9 => absurd (by decide) c9)
        refine lv_iconst (v := 0) hx hb gX12_saidBy_2.2.2.2.2.2.1 (by decide) ?_
        refine lv_iadd hx hb gX12_saidBy_2.2.2.2.2.2.2.1 ?_
        refine lv_istore_n (lv' := [(2, .int (nn + 0)), (3, .int (nI kP)), (0, .ref h0), (1, .int (-1))]) hx hb gX12_saidBy_2.2.2.2.2.2.2.2.1 rfl hl (by decide) rfl (fun ls hl => ?_)
        refine lv_iinc (v := nI (kP + 1)) (lv' := [(3, .int (nI (kP + 1))), (2, .int (nn + 0)), (0, .ref h0), (1, .int (-1))]) hx hb gX12_saidBy_2.2.2.2.2.2.2.2.2.1 hl (k := 1) rfl (nI_1 _) (by decide) rfl (fun ls hl => ?_)
        refine lv_goto (tgt := 4) hx hb gX12_saidBy_2.2.2.2.2.2.2.2.2.2 (by decide) ?_
        have hst9 : nn + 0 = CNT (CSQ (shf fnw 1424) (shf fnw 32) (fnw 0) (fnw 1) (fnw 2)) (kP + 1) := CNT.n0 hcn a9965
        exact ihP (kP + 1) (nn + 0) _ (by omega) (by first | assumption | exact Or.inl rfl | exact Or.inr rfl | exact rfl) (lv_sub hl [0, 1, 2, 3] rfl)
  exact keyP k8 0 0 _ (by omega) (by first | assumption | exact Or.inl rfl | exact Or.inr rfl | exact rfl) (lv_sub hl [0, 1, 2, 3] rfl)
def K_r_many (l : Launch) (G : GG) (kq : Nat) (k6 : Nat) (k7 : Nat) (kp : Nat) (k9 : Nat) (k8 : Nat) (VL : Nat → List LNT) (VC : Nat → Nat → List Int32) (DY : Nat → Int32) (h0 : Nat) (x1 : Int32) (nw : Nat) (nk : Nat) (mhasKept : Int32) (nt : Nat) (mtaped : Int32) (nr : Nat) (mrowMany : Int32) (mroundOf : Int32) (mroundFrom : Int32) (nm : Nat) (mfromHour : Int32) (mtoHour : Int32) (ns : Nat) (mfrom : Int32) (mto : Int32) (msort : Int32) (misFault : Int32) (mdeep : Int32) (mcoded : Int32) (mlines : Int32) (nl : Nat) (nc : Nat) (nF : Nat) (np : Nat) (ntr : Nat) (nb : Nat) (mbestCost : Int32) (nso : Nat) (nsi : Nat) (nit : Nat) (nsh : Nat) (nsf : Nat) (nss : Nat) (nrc : Nat) (mtraced : Int32) (mdealer : Int32) (mnumber : Int32) (mwhose : Int32) (msize : Int32) (misParted : Int32) (fnw : Nat → Int32) (fnm : Nat → Int32) (fns : Nat → Int32) (fnp : Nat → Int32) : Prop := MI l G yX12_many cX12_many 4 (some .int) 11 0 0 [.ref h0, .int x1] [(h0, oX12 nw nk mhasKept nt mtaped nr mrowMany mroundOf mroundFrom 0 nm mfromHour mtoHour ns mfrom mto msort misFault mdeep mcoded mlines nl nc nF np ntr nb mbestCost nso nsi nit nsh nsf nss nrc mtraced mdealer mnumber mwhose msize misParted), (nw, iA G 1662 fnw), (nm, iA G 36 fnm), (ns, iA G 8 fns), (np, iA G 100 fnp)] (fun (r : Int32) (u : Int32 × Int32 × (Nat → Int32) × (Nat → Int32) × (Nat → Int32)) => (∃ s9, (MNY [fnw 0, nI kp, nI kq, BSUM (IVW (shf fnw 32) (fnw 0) (fnw 1) (fnw 2) kq) 16, nI k6, nI k7, nI k8, CNT (CSQ (shf fnw 1424) (shf fnw 32) (fnw 0) (fnw 1) (fnw 2)) k8, nI k9, CNT (STD (KST (shf fnw 104) (VSE fnw kq) (fnw 3).toInt k6) (shf fnw 104) (VSE fnw kq) (shf fnw 32) (shf fnw 12) k6 kq (fun e9 => LVF (LNF (RLO DY (DAYV (fnw 0) (fnw 1)) k7) VL) (TRF (RLO DY (DAYV (fnw 0) (fnw 1)) k7) VC (FAX (shf fnw 12) (shf fnw 32) (VSE fnw kq) kq e9))) (LVN (RLO DY (DAYV (fnw 0) (fnw 1)) k7) VL) (shf fnw 1552)) k9, fnw 10, fnw 11, mrowMany, mtaped, mtraced] x1 s9) ∧ r = s9) ∧ (MB u.2.2.1)) (fun u : Int32 × Int32 × (Nat → Int32) × (Nat → Int32) × (Nat → Int32) => [(h0, oX12 nw nk mhasKept nt mtaped nr mrowMany mroundOf mroundFrom 0 nm u.1 u.2.1 ns mfrom mto msort misFault mdeep mcoded mlines nl nc nF np ntr nb mbestCost nso nsi nit nsh nsf nss nrc mtraced mdealer mnumber mwhose msize misParted), (nw, iA G 1662 fnw), (nm, iA G 36 u.2.2.1), (ns, iA G 8 u.2.2.2.1), (np, iA G 100 u.2.2.2.2)])
set_option maxHeartbeats 4000000 in
set_option maxRecDepth 100000 in
theorem r_many (l : Launch) (G : GG) (kq : Nat) (k6 : Nat) (k7 : Nat) (kp : Nat) (k9 : Nat) (k8 : Nat) (VL : Nat → List LNT) (VC : Nat → Nat → List Int32) (DY : Nat → Int32) (h0 : Nat) (x1 : Int32) (nw : Nat) (nk : Nat) (mhasKept : Int32) (nt : Nat) (mtaped : Int32) (nr : Nat) (mrowMany : Int32) (mroundOf : Int32) (mroundFrom : Int32) (nm : Nat) (mfromHour : Int32) (mtoHour : Int32) (ns : Nat) (mfrom : Int32) (mto : Int32) (msort : Int32) (misFault : Int32) (mdeep : Int32) (mcoded : Int32) (mlines : Int32) (nl : Nat) (nc : Nat) (nF : Nat) (np : Nat) (ntr : Nat) (nb : Nat) (mbestCost : Int32) (nso : Nat) (nsi : Nat) (nit : Nat) (nsh : Nat) (nsf : Nat) (nss : Nat) (nrc : Nat) (mtraced : Int32) (mdealer : Int32) (mnumber : Int32) (mwhose : Int32) (msize : Int32) (misParted : Int32) (fnw : Nat → Int32) (fnm : Nat → Int32) (fns : Nat → Int32) (fnp : Nat → Int32) (hV : VI fnw) (hM : MB fnm) (hN : NI fnw) (hgp : GPRm (fnw 3)) (ekq : fnw 5 = nI kq) (hkq : kq ≤ 12) (e6 : fnw 6 = nI k6) (hk6 : k6 ≤ 24) (ek7 : fnw 7 = nI k7) (hk7 : k7 ≤ 8) (ekp : fnw 4 = nI kp) (hkp : kp ≤ 10) (hVM : VMZ fnw k7 VL VC DY) (hFN : FNO (shf fnw 1552) k9 kp) (hk9 : k9 ≤ 12) (ek8 : fnw 8 = nI k8) (hk8 : k8 ≤ 16) (ek9 : fnw 9 = nI k9) : K_r_many l G kq k6 k7 kp k9 k8 VL VC DY h0 x1 nw nk mhasKept nt mtaped nr mrowMany mroundOf mroundFrom nm mfromHour mtoHour ns mfrom mto msort misFault mdeep mcoded mlines nl nc nF np ntr nb mbestCost nso nsi nit nsh nsf nss nrc mtraced mdealer mnumber mwhose msize misParted fnw fnm fns fnp := by
  refine MI.start (by decide +kernel) (Nat.le_of_ble_eq_true rfl) ?_
  intro p e s m below meth c A ls hC hK hP hD hS hA hl
  refine absQ (fun Q0 hQ0 => ?_)
  have hl : lv_has ls 4 [(0, .ref h0), (1, .int x1)] := hl
  refine Kan8 hC (fun hx hb hr hml hB hown hlocks hnm => ?_)
  refine lv_iload_n hx hb gX12_many_0.1 rfl (lv_at1 hl) ?_
  by_cases c_1_9966 : x1 = 0
  · refine lv_tableIn (tgt := 76) hx hb gX12_many_0.2.1 (by rw [c_1_9966]; decide) (by rw [c_1_9966]; decide) (by rw [c_1_9966]; rfl) (by decide) ?_
    refine lv_aload_n hx hb gX12_many_0.2.2.1 rfl (lv_at0 hl) ?_
    refine gf_X12_9 hC rfl hK hP 0 rfl rfl gX12_many_0.2.2.2.1 ?_
    refine lv_iconst (v := 0) hx hb gX12_many_0.2.2.2.2.1 (by decide) ?_
    refine ald hC hK hP 1 rfl (vin (by decide +kernel)) (k := 0) (by decide +kernel) (v := fnw 0) (rfl) gX12_many_0.2.2.2.2.2.1 ?_
    refine toQ hQ0 ?_
    exact RI (v := fnw 0) hC hP hD hS [0, 1, 2, 3, 4] (mfromHour, mtoHour, fnm, fns, fnp) rfl rfl (by decide) (⟨⟨fnw 0, Or.inl ⟨0, by decide, c_1_9966, rfl⟩, rfl⟩, by first | assumption | exact hM⟩) rfl gX12_many_0.2.2.2.2.2.2.1
  by_cases c_1_9967 : x1 = 1
  · refine lv_tableIn (tgt := 83) hx hb gX12_many_0.2.1 (by rw [c_1_9967]; decide) (by rw [c_1_9967]; decide) (by rw [c_1_9967]; rfl) (by decide) ?_
    refine lv_aload_n hx hb gX12_many_0.2.2.2.2.2.2.2.1 rfl (lv_at0 hl) ?_
    refine gf_X12_9 hC rfl hK hP 0 rfl rfl gX12_many_0.2.2.2.2.2.2.2.2.1 ?_
    refine lv_iconst (v := 4) hx hb gX12_many_0.2.2.2.2.2.2.2.2.2 (by decide) ?_
    refine ald hC hK hP 1 rfl (vin (by decide +kernel)) (k := 4) (by decide +kernel) (v := nI kp) (ekp) gX12_many_1.1 ?_
    refine toQ hQ0 ?_
    exact RI (v := nI kp) hC hP hD hS [0, 1, 2, 3, 4] (mfromHour, mtoHour, fnm, fns, fnp) rfl rfl (by decide) (⟨⟨nI kp, Or.inl ⟨1, by decide, c_1_9967, rfl⟩, rfl⟩, by first | assumption | exact hM⟩) rfl gX12_many_1.2.1
  by_cases c_1_9968 : x1 = 2
  · refine lv_tableIn (tgt := 90) hx hb gX12_many_0.2.1 (by rw [c_1_9968]; decide) (by rw [c_1_9968]; decide) (by rw [c_1_9968]; rfl) (by decide) ?_
    refine lv_aload_n hx hb gX12_many_1.2.2.1 rfl (lv_at0 hl) ?_
    refine gf_X12_9 hC rfl hK hP 0 rfl rfl gX12_many_1.2.2.2.1 ?_
    refine lv_iconst (v := 5) hx hb gX12_many_1.2.2.2.2.1 (by decide) ?_
    refine ald hC hK hP 1 rfl (vin (by decide +kernel)) (k := 5) (by decide +kernel) (v := nI kq) (ekq) gX12_many_1.2.2.2.2.2.1 ?_
    refine toQ hQ0 ?_
    exact RI (v := nI kq) hC hP hD hS [0, 1, 2, 3, 4] (mfromHour, mtoHour, fnm, fns, fnp) rfl rfl (by decide) (⟨⟨nI kq, Or.inl ⟨2, by decide, c_1_9968, rfl⟩, rfl⟩, by first | assumption | exact hM⟩) rfl gX12_many_1.2.2.2.2.2.2.1
  by_cases c_1_9969 : x1 = 3
  · refine lv_tableIn (tgt := 97) hx hb gX12_many_0.2.1 (by rw [c_1_9969]; decide) (by rw [c_1_9969]; decide) (by rw [c_1_9969]; rfl) (by decide) ?_
    refine lv_aload_n hx hb gX12_many_1.2.2.2.2.2.2.2.1 rfl (lv_at0 hl) ?_
    refine pV hC hK hl hP hD (m_inViewX l G kq h0 nw nk mhasKept nt mtaped nr mrowMany mroundOf mroundFrom nm mfromHour mtoHour ns mfrom mto msort misFault mdeep mcoded mlines nl nc nF np ntr nb mbestCost nso nsi nit nsh nsf nss nrc mtraced mdealer mnumber mwhose msize misParted fnw (ekq) (hkq)) si_X12_107 [0, 1] sm_0_1 fm_0_1 nd_0_1 rfl rfl rfl rfl rfl (Nat.le_of_ble_eq_true rfl) rm_11_3_3 ⟨by first | exact Nat.le_of_ble_eq_true rfl | exact Nat.zero_le _, by first | exact Nat.le_of_ble_eq_true rfl | exact Nat.zero_le _⟩ gX12_many_1.2.2.2.2.2.2.2.2.1 (Keqr ?_)
    refine pS hC hK hl (m_bitsX l G (IVW (shf fnw 32) (fnw 0) (fnw 1) (fnw 2) kq)) si_X12_110 rfl rfl (Nat.le_of_ble_eq_true rfl) rm_11_1_3 ⟨by first | exact Nat.le_of_ble_eq_true rfl | exact Nat.zero_le _, by first | exact Nat.le_of_ble_eq_true rfl | exact Nat.zero_le _⟩ gX12_many_1.2.2.2.2.2.2.2.2.2 (Keqr ?_)
    refine toQ hQ0 ?_
    exact RI (v := (BSUM (IVW (shf fnw 32) (fnw 0) (fnw 1) (fnw 2) kq) 16)) hC hP hD hS [0, 1, 2, 3, 4] (mfromHour, mtoHour, fnm, fns, fnp) rfl rfl (by decide) (⟨⟨(BSUM (IVW (shf fnw 32) (fnw 0) (fnw 1) (fnw 2) kq) 16), Or.inl ⟨3, by decide, c_1_9969, rfl⟩, rfl⟩, by first | assumption | exact hM⟩) rfl gX12_many_2.1
  by_cases c_1_9974 : x1 = 4
  · refine lv_tableIn (tgt := 105) hx hb gX12_many_0.2.1 (by rw [c_1_9974]; decide) (by rw [c_1_9974]; decide) (by rw [c_1_9974]; rfl) (by decide) ?_
    refine lv_aload_n hx hb gX12_many_2.2.1 rfl (lv_at0 hl) ?_
    refine gf_X12_9 hC rfl hK hP 0 rfl rfl gX12_many_2.2.2.1 ?_
    refine lv_bipush (v := 6) hx hb gX12_many_2.2.2.2.1 (by decide) ?_
    refine ald hC hK hP 1 rfl (vin (by decide +kernel)) (k := 6) (by decide +kernel) (v := nI k6) (e6) gX12_many_2.2.2.2.2.1 ?_
    refine toQ hQ0 ?_
    exact RI (v := nI k6) hC hP hD hS [0, 1, 2, 3, 4] (mfromHour, mtoHour, fnm, fns, fnp) rfl rfl (by decide) (⟨⟨nI k6, Or.inl ⟨4, by decide, c_1_9974, rfl⟩, rfl⟩, by first | assumption | exact hM⟩) rfl gX12_many_2.2.2.2.2.2.1
  by_cases c_1_9975 : x1 = 5
  · refine lv_tableIn (tgt := 113) hx hb gX12_many_0.2.1 (by rw [c_1_9975]; decide) (by rw [c_1_9975]; decide) (by rw [c_1_9975]; rfl) (by decide) ?_
    refine lv_aload_n hx hb gX12_many_2.2.2.2.2.2.2.1 rfl (lv_at0 hl) ?_
    refine gf_X12_9 hC rfl hK hP 0 rfl rfl gX12_many_2.2.2.2.2.2.2.2.1 ?_
    refine lv_bipush (v := 7) hx hb gX12_many_2.2.2.2.2.2.2.2.2.1 (by decide) ?_
    refine ald hC hK hP 1 rfl (vin (by decide +kernel)) (k := 7) (by decide +kernel) (v := nI k7) (ek7) gX12_many_2.2.2.2.2.2.2.2.2.2 ?_
    refine toQ hQ0 ?_
    exact RI (v := nI k7) hC hP hD hS [0, 1, 2, 3, 4] (mfromHour, mtoHour, fnm, fns, fnp) rfl rfl (by decide) (⟨⟨nI k7, Or.inl ⟨5, by decide, c_1_9975, rfl⟩, rfl⟩, by first | assumption | exact hM⟩) rfl gX12_many_3.1
  by_cases c_1_9976 : x1 = 6
  · refine lv_tableIn (tgt := 121) hx hb gX12_many_0.2.1 (by rw [c_1_9976]; decide) (by rw [c_1_9976]; decide) (by rw [c_1_9976]; rfl) (by decide) ?_
    refine lv_aload_n hx hb gX12_many_3.2.1 rfl (lv_at0 hl) ?_
    refine gf_X12_9 hC rfl hK hP 0 rfl rfl gX12_many_3.2.2.1 ?_
    refine lv_bipush (v := 8) hx hb gX12_many_3.2.2.2.1 (by decide) ?_
    refine ald hC hK hP 1 rfl (vin (by decide +kernel)) (k := 8) (by decide +kernel) (v := nI k8) (ek8) gX12_many_3.2.2.2.2.1 ?_
    refine toQ hQ0 ?_
    exact RI (v := nI k8) hC hP hD hS [0, 1, 2, 3, 4] (mfromHour, mtoHour, fnm, fns, fnp) rfl rfl (by decide) (⟨⟨nI k8, Or.inl ⟨6, by decide, c_1_9976, rfl⟩, rfl⟩, by first | assumption | exact hM⟩) rfl gX12_many_3.2.2.2.2.2.1
  by_cases c_1_9977 : x1 = 7
  · refine lv_tableIn (tgt := 129) hx hb gX12_many_0.2.1 (by rw [c_1_9977]; decide) (by rw [c_1_9977]; decide) (by rw [c_1_9977]; rfl) (by decide) ?_
    refine lv_aload_n hx hb gX12_many_3.2.2.2.2.2.2.1 rfl (lv_at0 hl) ?_
    refine lv_iconst (v := (-1)) hx hb gX12_many_3.2.2.2.2.2.2.2.1 (by decide) ?_
    refine pV hC hK hl hP hD (m_saidAllX l G k8 h0 nw nk mhasKept nt mtaped nr mrowMany mroundOf mroundFrom nm mfromHour mtoHour ns mfrom mto msort misFault mdeep mcoded mlines nl nc nF np ntr nb mbestCost nso nsi nit nsh nsf nss nrc mtraced mdealer mnumber mwhose msize misParted fnw (ek8) (hk8) (hN)) si_X12_127 [0, 1] sm_0_1 fm_0_1 nd_0_1 rfl rfl rfl rfl rfl (Nat.le_of_ble_eq_true rfl) rm_11_5_4 ⟨by first | exact Nat.le_of_ble_eq_true rfl | exact Nat.zero_le _, by first | exact Nat.le_of_ble_eq_true rfl | exact Nat.zero_le _⟩ gX12_many_3.2.2.2.2.2.2.2.2.1 (Keqr ?_)
    refine toQ hQ0 ?_
    exact RI (v := (CNT (CSQ (shf fnw 1424) (shf fnw 32) (fnw 0) (fnw 1) (fnw 2)) k8)) hC hP hD hS [0, 1, 2, 3, 4] (mfromHour, mtoHour, fnm, fns, fnp) rfl rfl (by decide) (⟨⟨(CNT (CSQ (shf fnw 1424) (shf fnw 32) (fnw 0) (fnw 1) (fnw 2)) k8), Or.inl ⟨7, by decide, c_1_9977, rfl⟩, rfl⟩, by first | assumption | exact hM⟩) rfl gX12_many_3.2.2.2.2.2.2.2.2.2
  by_cases c_1_9980 : x1 = 8
  · refine lv_tableIn (tgt := 135) hx hb gX12_many_0.2.1 (by rw [c_1_9980]; decide) (by rw [c_1_9980]; decide) (by rw [c_1_9980]; rfl) (by decide) ?_
    refine lv_aload_n hx hb gX12_many_4.1 rfl (lv_at0 hl) ?_
    refine gf_X12_9 hC rfl hK hP 0 rfl rfl gX12_many_4.2.1 ?_
    refine lv_bipush (v := 9) hx hb gX12_many_4.2.2.1 (by decide) ?_
    refine ald hC hK hP 1 rfl (vin (by decide +kernel)) (k := 9) (by decide +kernel) (v := nI k9) (ek9) gX12_many_4.2.2.2.1 ?_
    refine toQ hQ0 ?_
    exact RI (v := nI k9) hC hP hD hS [0, 1, 2, 3, 4] (mfromHour, mtoHour, fnm, fns, fnp) rfl rfl (by decide) (⟨⟨nI k9, Or.inl ⟨8, by decide, c_1_9980, rfl⟩, rfl⟩, by first | assumption | exact hM⟩) rfl gX12_many_4.2.2.2.2.1
  by_cases c_1_9981 : x1 = 9
  · refine lv_tableIn (tgt := 143) hx hb gX12_many_0.2.1 (by rw [c_1_9981]; decide) (by rw [c_1_9981]; decide) (by rw [c_1_9981]; rfl) (by decide) ?_
    refine lv_iconst (v := 0) hx hb gX12_many_4.2.2.2.2.2.1 (by decide) ?_
    refine lv_istore_n (lv' := [(2, .int 0), (0, .ref h0), (1, .int x1)]) hx hb gX12_many_4.2.2.2.2.2.2.1 rfl hl (by decide) rfl (fun ls hl => ?_)
    refine lv_iconst (v := 0) hx hb gX12_many_4.2.2.2.2.2.2.2.1 (by decide) ?_
    refine lv_istore_n (lv' := [(3, .int 0), (2, .int 0), (0, .ref h0), (1, .int x1)]) hx hb gX12_many_4.2.2.2.2.2.2.2.2.1 rfl hl (by decide) rfl (fun ls hl => ?_)
    have keyP : ∀ (nP kP : Nat) (nn : Int32) (vfh : Int32) (vth : Int32) (vA : Nat → Int32) (vS : Nat → Int32) (vR : Nat → Int32) (H : Heap) (locs : List Loc) (ls : Array Slot), kP + nP = k9 → (MB vA) → (nn = CNT (STD (KST (shf fnw 104) (VSE fnw kq) (fnw 3).toInt k6) (shf fnw 104) (VSE fnw kq) (shf fnw 32) (shf fnw 12) k6 kq (fun e9 => LVF (LNF (RLO DY (DAYV (fnw 0) (fnw 1)) k7) VL) (TRF (RLO DY (DAYV (fnw 0) (fnw 1)) k7) VC (FAX (shf fnw 12) (shf fnw 32) (VSE fnw kq) kq e9))) (LVN (RLO DY (DAYV (fnw 0) (fnw 1)) k7) VL) (shf fnw 1552)) kP) → va_PD G A [(h0, oX12 nw nk mhasKept nt mtaped nr mrowMany mroundOf mroundFrom 0 nm vfh vth ns mfrom mto msort misFault mdeep mcoded mlines nl nc nF np ntr nb mbestCost nso nsi nit nsh nsf nss nrc mtraced mdealer mnumber mwhose msize misParted), (nw, iA G 1662 fnw), (nm, iA G 36 vA), (ns, iA G 8 vS), (np, iA G 100 vR)] H → va_S A s.heap H locs → lv_has ls 4 [(3, .int (nI kP)), (2, .int nn), (0, .ref h0), (1, .int x1)] → W p l e (RM 11 0 0) s m ([.ref h0, .int x1] : List Value).toArray below meth c H locs 0 0 Q0 (F0 m 147 ls []) := by
      intro nP
      induction nP with
      | zero =>
        intro kP nn vfh vth vA vS vR H locs ls hkP hvA hcn hPD hS hl
        refine Kan2 hPD (fun hP hD => ?_)
        obtain rfl : k9 = kP := by omega
        have hl : lv_has ls 4 [(3, .int (nI k9)), (2, .int nn), (0, .ref h0), (1, .int x1)] := hl
        refine lv_iload_n hx hb gX12_many_4.2.2.2.2.2.2.2.2.2 rfl (lv_at0 hl) ?_
        refine lv_aload_n hx hb gX12_many_5.1 rfl (lv_at2 hl) ?_
        refine gf_X12_9 hC rfl hK hP 0 rfl rfl gX12_many_5.2.1 ?_
        refine lv_bipush (v := 9) hx hb gX12_many_5.2.2.1 (by decide) ?_
        refine ald hC hK hP 1 rfl (vin (by decide +kernel)) (k := 9) (by decide +kernel) (v := nI k9) (ek9) gX12_many_5.2.2.2.1 ?_
        refine lv_icmp_ge (tgt := 180) hx hb gX12_many_5.2.2.2.2.1 (by decide) (fun _ => ?_) (fun c9 => absurd (Int32.le_refl _) c9)
        refine lv_iload_n hx hb gX12_many_6.2.2.2.2.2.2.2.1 rfl (lv_at1 hl) ?_
        refine toQ hQ0 ?_
        exact RI (v := nn) hC hP hD hS [0, 1, 2, 3, 4] (vfh, vth, vA, vS, vR) rfl rfl (by decide) (⟨⟨nn, Or.inl ⟨9, by decide, c_1_9981, hcn⟩, rfl⟩, by first | assumption | exact hvA⟩) rfl gX12_many_6.2.2.2.2.2.2.2.2.1
      | succ nP ihP =>
        intro kP nn vfh vth vA vS vR H locs ls hkP hvA hcn hPD hS hl
        refine Kan2 hPD (fun hP hD => ?_)
        refine lv_iload_n hx hb gX12_many_4.2.2.2.2.2.2.2.2.2 rfl (lv_at0 hl) ?_
        refine lv_aload_n hx hb gX12_many_5.1 rfl (lv_at2 hl) ?_
        refine gf_X12_9 hC rfl hK hP 0 rfl rfl gX12_many_5.2.1 ?_
        refine lv_bipush (v := 9) hx hb gX12_many_5.2.2.1 (by decide) ?_
        refine ald hC hK hP 1 rfl (vin (by decide +kernel)) (k := 9) (by decide +kernel) (v := nI k9) (ek9) gX12_many_5.2.2.2.1 ?_
        refine lv_icmp_ge (tgt := 180) hx hb gX12_many_5.2.2.2.2.1 (by decide) (fun c9 => absurd c9 (nI_ge (a := kP) (b := k9) (by omega) (by omega))) (fun _ => ?_)
        refine lv_iload_n hx hb gX12_many_5.2.2.2.2.2.1 rfl (lv_at1 hl) ?_
        refine lv_aload_n hx hb gX12_many_5.2.2.2.2.2.2.1 rfl (lv_at2 hl) ?_
        refine lv_iload_n hx hb gX12_many_5.2.2.2.2.2.2.2.1 rfl (lv_at0 hl) ?_
        refine iV (wr := []) hC hK hl hP hD hS hA (m_standsX l G kq k6 k7 kp k9 VL VC DY h0 kP nw nk mhasKept nt mtaped nr mrowMany mroundOf mroundFrom nm vfh vth ns mfrom mto msort misFault mdeep mcoded mlines nl nc nF np ntr nb mbestCost nso nsi nit nsh nsf nss nrc mtraced mdealer mnumber mwhose msize misParted fnw vA vS vR (by omega) (hV) (hvA) (hN) (hgp) (ekq) (hkq) (e6) (hk6) (ek7) (hk7) (ekp) (hkp) (hVM) (hFN) (hk9)) si_X12_305 [0, 1, 2, 3, 4] [] sm_0_1_2_3_4 fm_0_1_2_3_4 nd_0_1_2_3_4 rfl rfl (by decide) rfl rfl rfl rfl rfl (Nat.le_of_ble_eq_true rfl) rm_11_10_3 ⟨Nat.le_of_ble_eq_true rfl, Nat.le_of_ble_eq_true rfl⟩ gX12_many_5.2.2.2.2.2.2.2.2.1 (fun r9982 => Ktu5 fun fh19984 th19985 gnm9986 gns9987 gnp9988 => ?_)
        intro H locs hr9982 hP hD hS
        try dsimp only at hr9982
        refine Kpdr (ws := [(h0, oX12 nw nk mhasKept nt mtaped nr mrowMany mroundOf mroundFrom 0 nm fh19984 th19985 ns mfrom mto msort misFault mdeep mcoded mlines nl nc nF np ntr nb mbestCost nso nsi nit nsh nsf nss nrc mtraced mdealer mnumber mwhose msize misParted), (nw, iA G 1662 fnw), (nm, iA G 36 gnm9986), (ns, iA G 8 gns9987), (np, iA G 100 gnp9988)]) hP hD (fun hP hD => ?_)
        obtain ⟨hr9982, w9989⟩ := hr9982
        rcases hr9982 with ⟨rfl, a9990⟩ | ⟨rfl, a9990⟩
        · refine lv_if_eq (tgt := 171) hx hb gX12_many_5.2.2.2.2.2.2.2.2.2 (by decide) (fun c9 => absurd c9 (by decide)) (fun _ => ?_)
          refine lv_iconst (v := 1) hx hb gX12_many_6.1 (by decide) ?_
          refine lv_goto (tgt := 172) hx hb gX12_many_6.2.1 (by decide) ?_
          refine lv_iadd hx hb gX12_many_6.2.2.2.1 ?_
          refine lv_istore_n (lv' := [(2, .int (nn + 1)), (3, .int (nI kP)), (0, .ref h0), (1, .int x1)]) hx hb gX12_many_6.2.2.2.2.1 rfl hl (by decide) rfl (fun ls hl => ?_)
          refine lv_iinc (v := nI (kP + 1)) (lv' := [(3, .int (nI (kP + 1))), (2, .int (nn + 1)), (0, .ref h0), (1, .int x1)]) hx hb gX12_many_6.2.2.2.2.2.1 hl (k := 1) rfl (nI_1 _) (by decide) rfl (fun ls hl => ?_)
          refine lv_goto (tgt := 147) hx hb gX12_many_6.2.2.2.2.2.2.1 (by decide) ?_
          have hst9 : nn + 1 = CNT (STD (KST (shf fnw 104) (VSE fnw kq) (fnw 3).toInt k6) (shf fnw 104) (VSE fnw kq) (shf fnw 32) (shf fnw 12) k6 kq (fun e9 => LVF (LNF (RLO DY (DAYV (fnw 0) (fnw 1)) k7) VL) (TRF (RLO DY (DAYV (fnw 0) (fnw 1)) k7) VC (FAX (shf fnw 12) (shf fnw 32) (VSE fnw kq) kq e9))) (LVN (RLO DY (DAYV (fnw 0) (fnw 1)) k7) VL) (shf fnw 1552)) (kP + 1) := CNT.y hcn a9990
          exact ihP (kP + 1) (nn + 1) fh19984 th19985 gnm9986 gns9987 gnp9988 _ _ _ (by omega) (by first | assumption | exact Or.inl rfl | exact Or.inr rfl | exact rfl) (by first | assumption | exact Or.inl rfl | exact Or.inr rfl | exact rfl) (And.intro hP hD) hS (lv_sub hl [0, 1, 2, 3] rfl)
        · refine lv_if_eq (tgt := 171) hx hb gX12_many_5.2.2.2.2.2.2.2.2.2 (by decide) (fun _ => ?_) (fun c9 => absurd (by decide) c9)
          refine lv_iconst (v := 0) hx hb gX12_many_6.2.2.1 (by decide) ?_
          refine lv_iadd hx hb gX12_many_6.2.2.2.1 ?_
          refine lv_istore_n (lv' := [(2, .int (nn + 0)), (3, .int (nI kP)), (0, .ref h0), (1, .int x1)]) hx hb gX12_many_6.2.2.2.2.1 rfl hl (by decide) rfl (fun ls hl => ?_)
          refine lv_iinc (v := nI (kP + 1)) (lv' := [(3, .int (nI (kP + 1))), (2, .int (nn + 0)), (0, .ref h0), (1, .int x1)]) hx hb gX12_many_6.2.2.2.2.2.1 hl (k := 1) rfl (nI_1 _) (by decide) rfl (fun ls hl => ?_)
          refine lv_goto (tgt := 147) hx hb gX12_many_6.2.2.2.2.2.2.1 (by decide) ?_
          have hst9 : nn + 0 = CNT (STD (KST (shf fnw 104) (VSE fnw kq) (fnw 3).toInt k6) (shf fnw 104) (VSE fnw kq) (shf fnw 32) (shf fnw 12) k6 kq (fun e9 => LVF (LNF (RLO DY (DAYV (fnw 0) (fnw 1)) k7) VL) (TRF (RLO DY (DAYV (fnw 0) (fnw 1)) k7) VC (FAX (shf fnw 12) (shf fnw 32) (VSE fnw kq) kq e9))) (LVN (RLO DY (DAYV (fnw 0) (fnw 1)) k7) VL) (shf fnw 1552)) (kP + 1) := CNT.n0 hcn a9990
          exact ihP (kP + 1) (nn + 0) fh19984 th19985 gnm9986 gns9987 gnp9988 _ _ _ (by omega) (by first | assumption | exact Or.inl rfl | exact Or.inr rfl | exact rfl) (by first | assumption | exact Or.inl rfl | exact Or.inr rfl | exact rfl) (And.intro hP hD) hS (lv_sub hl [0, 1, 2, 3] rfl)
    exact keyP k9 0 0 mfromHour mtoHour fnm fns fnp _ _ _ (by omega) (by first | assumption | exact Or.inl rfl | exact Or.inr rfl | exact rfl) (by first | assumption | exact Or.inl rfl | exact Or.inr rfl | exact rfl) (And.intro hP hD) hS (lv_sub hl [0, 1, 2, 3] rfl)
  by_cases c_1_9991 : x1 = 10
  · refine lv_tableIn (tgt := 182) hx hb gX12_many_0.2.1 (by rw [c_1_9991]; decide) (by rw [c_1_9991]; decide) (by rw [c_1_9991]; rfl) (by decide) ?_
    refine lv_aload_n hx hb gX12_many_6.2.2.2.2.2.2.2.2.2 rfl (lv_at0 hl) ?_
    refine gf_X12_9 hC rfl hK hP 0 rfl rfl gX12_many_7.1 ?_
    refine lv_bipush (v := 10) hx hb gX12_many_7.2.1 (by decide) ?_
    refine ald hC hK hP 1 rfl (vin (by decide +kernel)) (k := 10) (by decide +kernel) (v := fnw 10) (rfl) gX12_many_7.2.2.1 ?_
    refine toQ hQ0 ?_
    exact RI (v := fnw 10) hC hP hD hS [0, 1, 2, 3, 4] (mfromHour, mtoHour, fnm, fns, fnp) rfl rfl (by decide) (⟨⟨fnw 10, Or.inl ⟨10, by decide, c_1_9991, rfl⟩, rfl⟩, by first | assumption | exact hM⟩) rfl gX12_many_7.2.2.2.1
  by_cases c_1_9992 : x1 = 11
  · refine lv_tableIn (tgt := 190) hx hb gX12_many_0.2.1 (by rw [c_1_9992]; decide) (by rw [c_1_9992]; decide) (by rw [c_1_9992]; rfl) (by decide) ?_
    refine lv_aload_n hx hb gX12_many_7.2.2.2.2.1 rfl (lv_at0 hl) ?_
    refine gf_X12_9 hC rfl hK hP 0 rfl rfl gX12_many_7.2.2.2.2.2.1 ?_
    refine lv_bipush (v := 11) hx hb gX12_many_7.2.2.2.2.2.2.1 (by decide) ?_
    refine ald hC hK hP 1 rfl (vin (by decide +kernel)) (k := 11) (by decide +kernel) (v := fnw 11) (rfl) gX12_many_7.2.2.2.2.2.2.2.1 ?_
    refine toQ hQ0 ?_
    exact RI (v := fnw 11) hC hP hD hS [0, 1, 2, 3, 4] (mfromHour, mtoHour, fnm, fns, fnp) rfl rfl (by decide) (⟨⟨fnw 11, Or.inl ⟨11, by decide, c_1_9992, rfl⟩, rfl⟩, by first | assumption | exact hM⟩) rfl gX12_many_7.2.2.2.2.2.2.2.2.1
  by_cases c_1_9993 : x1 = 12
  · refine lv_tableIn (tgt := 198) hx hb gX12_many_0.2.1 (by rw [c_1_9993]; decide) (by rw [c_1_9993]; decide) (by rw [c_1_9993]; rfl) (by decide) ?_
    refine lv_aload_n hx hb gX12_many_7.2.2.2.2.2.2.2.2.2 rfl (lv_at0 hl) ?_
    refine gf_X12_327 hC rfl hK hP 0 rfl rfl gX12_many_8.1 ?_
    refine toQ hQ0 ?_
    exact RI (v := mrowMany) hC hP hD hS [0, 1, 2, 3, 4] (mfromHour, mtoHour, fnm, fns, fnp) rfl rfl (by decide) (⟨⟨mrowMany, Or.inl ⟨12, by decide, c_1_9993, rfl⟩, rfl⟩, by first | assumption | exact hM⟩) rfl gX12_many_8.2.1
  by_cases c_1_9994 : x1 = 13
  · refine lv_tableIn (tgt := 203) hx hb gX12_many_0.2.1 (by rw [c_1_9994]; decide) (by rw [c_1_9994]; decide) (by rw [c_1_9994]; rfl) (by decide) ?_
    refine lv_aload_n hx hb gX12_many_8.2.2.1 rfl (lv_at0 hl) ?_
    refine gf_X12_206 hC rfl hK hP 0 rfl rfl gX12_many_8.2.2.2.1 ?_
    refine toQ hQ0 ?_
    exact RI (v := mtaped) hC hP hD hS [0, 1, 2, 3, 4] (mfromHour, mtoHour, fnm, fns, fnp) rfl rfl (by decide) (⟨⟨mtaped, Or.inl ⟨13, by decide, c_1_9994, rfl⟩, rfl⟩, by first | assumption | exact hM⟩) rfl gX12_many_8.2.2.2.2.1
  by_cases c_1_9995 : x1 = 14
  · refine lv_tableIn (tgt := 208) hx hb gX12_many_0.2.1 (by rw [c_1_9995]; decide) (by rw [c_1_9995]; decide) (by rw [c_1_9995]; rfl) (by decide) ?_
    refine lv_aload_n hx hb gX12_many_8.2.2.2.2.2.1 rfl (lv_at0 hl) ?_
    refine gf_X12_351 hC rfl hK hP 0 rfl rfl gX12_many_8.2.2.2.2.2.2.1 ?_
    refine toQ hQ0 ?_
    exact RI (v := mtraced) hC hP hD hS [0, 1, 2, 3, 4] (mfromHour, mtoHour, fnm, fns, fnp) rfl rfl (by decide) (⟨⟨mtraced, Or.inl ⟨14, by decide, c_1_9995, rfl⟩, rfl⟩, by first | assumption | exact hM⟩) rfl gX12_many_8.2.2.2.2.2.2.2.1
  refine lv_tableOut (tgt := 213) hx hb gX12_many_0.2.1 (by have q9 := sw_0_14 (x := x1); simp only [c_1_9966, c_1_9967, c_1_9968, c_1_9969, c_1_9974, c_1_9975, c_1_9976, c_1_9977, c_1_9980, c_1_9981, c_1_9991, c_1_9992, c_1_9993, c_1_9994, c_1_9995, not_false_eq_true, true_implies] at q9; exact q9) (by decide) ?_
  refine lv_iconst (v := (-1)) hx hb gX12_many_8.2.2.2.2.2.2.2.2.1 (by decide) ?_
  refine toQ hQ0 ?_
  exact RI (v := (-1)) hC hP hD hS [0, 1, 2, 3, 4] (mfromHour, mtoHour, fnm, fns, fnp) rfl rfl (by decide) (⟨⟨(-1), Or.inr ⟨MNY.out c_1_9966 c_1_9967 c_1_9968 c_1_9969 c_1_9974 c_1_9975 c_1_9976 c_1_9977 c_1_9980 c_1_9981 c_1_9991 c_1_9992 c_1_9993 c_1_9994 c_1_9995, rfl⟩, rfl⟩, by first | assumption | exact hM⟩) rfl gX12_many_8.2.2.2.2.2.2.2.2.2
