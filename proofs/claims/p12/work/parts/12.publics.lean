section WR
variable {p : Program} {l : Launch} {e : Env} {R : Room} {s : State} {m : MethodId} {args : Array Value} {below : List Frame} {meth : Method} {c : Code} {H : Heap} {locs : List Loc} {cells slots : Nat} {Q : State → Prop}
variable {pc : Nat} {ls : Array Slot} {rest : List Value} {G : GG} {ws : va_W} {A : Nat → Prop} {y0 : MethodName} {b0 : ByteArray} {mL0 : Nat} {rt0 : Option FieldType} {a : Nat} {H0 : Heap}
end WR
/-- a set of rows of a table of k rows -/
def HA (k : Nat) (x : Int32) : Prop := ¬ x < 0 ∧ x < 1 <<< (nI k &&& 31)
theorem sh13 : ∀ k : Fin 13, (1 : Int32) <<< (nI k.1 &&& 31) = nI (2 ^ k.1) ∧ ((nI k.1 &&& 31).toBitVec.smod 32).toNat = k.1 ∧ 2 ^ k.1 < 2 ^ 31 := by decide +kernel
theorem HA.iff {k : Nat} {x : Int32} (hk : k ≤ 12) (h0 : ¬ x < 0) : x >>> (nI k &&& 31) = 0 ↔ x < 1 <<< (nI k &&& 31) := by
  obtain ⟨j, hj, rfl⟩ := nI_of h0
  obtain ⟨h1, h2, h3⟩ := sh13 ⟨k, by omega⟩
  simp only at h1 h2 h3
  have hlt : j / 2 ^ k < 2 ^ 31 := Nat.lt_of_le_of_lt (Nat.div_le_self _ _) hj
  rw [h1, pk_shrN hj _ k h2, Int32.lt_iff_toInt_lt, nI_toInt hj, nI_toInt h3]
  constructor
  · intro h
    have h9 : j / 2 ^ k = 0 := (nI_eq (b := 0) hlt (by decide)).mp h
    have := Nat.lt_of_div_eq_zero (Nat.two_pow_pos k) h9
    omega
  · intro h
    have h9 : j / 2 ^ k = 0 := Nat.div_eq_of_lt (by omega)
    rw [h9]
    rfl
/-- an hour and a weight in one number -/
def HOW (x : Int32) : Prop := Wi x 1 9999 ∧ 0 < x - x / 10 * 10
theorem wi_lit {n a b : Nat} {lo hi : Int32} (hn : n < 2 ^ 31) (hl : lo.toInt = (a : Int)) (hh : hi.toInt = (b : Int)) : Wi (nI n) lo hi ↔ a ≤ n ∧ n ≤ b := by
  rw [Wi_iff, nI_toInt hn, hl, hh]
  omega
theorem how_div {n : Nat} (hn : n < 2 ^ 31) : nI n / 10 = nI (n / 10) := pk_div (d := 10) hn (by decide) (by decide)
theorem how_rem {n : Nat} (hn : n < 2 ^ 31) : nI n - nI n / 10 * 10 = nI (n % 10) := pk_rem (d := 10) hn (by decide) (by decide)
theorem HOW.iff {n : Nat} (hn : n < 2 ^ 31) : HOW (nI n) ↔ (1 ≤ n ∧ n ≤ 9999) ∧ n % 10 ≠ 0 := by
  unfold HOW
  rw [wi_lit (a := 1) (b := 9999) hn (by decide) (by decide), how_rem hn, Int32.lt_iff_toInt_lt, nI_toInt (n := n % 10) (by omega)]
  have e0 : (0 : Int32).toInt = 0 := by decide
  rw [e0]
  omega
theorem how0 {x : Int32} (h : x < 0) : ¬ HOW x := by
  intro h9
  have h1 := (Wi_iff.mp h9.1).1
  have e1 : (1 : Int32).toInt = 1 := by decide
  have e0 : (0 : Int32).toInt = 0 := by decide
  rw [Int32.lt_iff_toInt_lt] at h
  omega
theorem how1 {x q : Int32} (h0 : ¬ x < 0) (e : q = x / 10) (h : ¬ Wi q 0 999) : ¬ HOW x := by
  obtain ⟨n, hn, rfl⟩ := nI_of h0
  intro h9
  rw [HOW.iff hn] at h9
  apply h
  rw [e, how_div hn, wi_lit (a := 0) (b := 999) (by omega) (by decide) (by decide)]
  omega
theorem how2 {x r : Int32} (h0 : ¬ x < 0) (e : r = x - x / 10 * 10) (h : r = 0) : ¬ HOW x := by
  obtain ⟨n, hn, rfl⟩ := nI_of h0
  intro h9
  rw [HOW.iff hn] at h9
  rw [h, how_rem hn] at e
  have := (nI_eq (a := 0) (b := n % 10) (by decide) (by omega)).mp e
  omega
theorem howC {x q r : Int32} (h0 : ¬ x < 0) (e : q = x / 10) (h : Wi q 0 999) (e2 : r = x - x / 10 * 10) (h2 : ¬ r = 0) : HOW x := by
  obtain ⟨n, hn, rfl⟩ := nI_of h0
  rw [e, how_div hn, wi_lit (a := 0) (b := 999) (by omega) (by decide) (by decide)] at h
  rw [e2, how_rem hn] at h2
  have h3 : n % 10 ≠ 0 := fun h9 => h2 (congrArg nI h9)
  rw [HOW.iff hn]
  omega
theorem tatr {W j k c : Nat} {f : Nat → Int32} {col : Int32} (hj : j < k) (hk : k < 2 ^ 31) (hc : c < W) (hW : W < 2 ^ 31) (ec : col = nI c) : tat W f k (nI j) col = f (j * W + c) := by
  subst ec
  unfold tat
  rw [ifc_t ⟨nI_pos (by omega), fun h => by rw [nI_leI (by omega) (by omega)] at h; omega, nI_pos (by omega), nI_lt hc hW⟩, nI_clamp (by omega), nI_clamp (by omega)]
theorem tsj {W j k c : Nat} {f : Nat → Int32} {col v : Int32} (hj : j < k) (hk : k < 2 ^ 31) (hc : c < W) (hW : W < 2 ^ 31) (ec : col = nI c) : tset W f k (nI j) col v = upd f (j * W + c) v := by
  subst ec
  rw [tset_t ⟨nI_pos (by omega), fun h => by rw [nI_leI (by omega) (by omega)] at h; omega, nI_pos (by omega), nI_lt hc hW⟩, nI_clamp (by omega), nI_clamp (by omega)]
theorem ifc_cg {q : Prop} {a a' b : Int32} (h : q → a = a') : ifc q a b = ifc q a' b := by
  by_cases c : q
  · rw [ifc_t c, ifc_t c, h c]
  · rw [ifc_f c, ifc_f c]
theorem upd_cg {f g : Nat → Int32} {k i : Nat} {v : Int32} (h : f i = g i) : upd f k v i = upd g k v i := by
  unfold upd
  by_cases c : i = k
  · rw [if_pos c, if_pos c]
  · rw [if_neg c, if_neg c]; exact h
def TLK (x : Int32) (k : Nat) : Prop := x = (-1) ∨ Hs x k
/-- a row of numbers laid at a place -/
def rowu (f : Nat → Int32) (b : Nat) : List Int32 → Nat → Int32
  | [] => f
  | v :: vs => rowu (upd f b v) (b + 1) vs
theorem rowu_congr {n : Nat} : ∀ (vs : List Int32) {f g : Nat → Int32} {b : Nat}, (∀ j, j < n → f j = g j) → ∀ i, i < n → rowu f b vs i = rowu g b vs i
  | [], _, _, _, h, i, hi => h i hi
  | v :: vs, f, g, b, h, i, hi => by
    refine rowu_congr vs (f := upd f b v) (g := upd g b v) (fun j hj => ?_) i hi
    unfold upd
    by_cases c : j = b
    · rw [if_pos c, if_pos c]
    · rw [if_neg c, if_neg c]; exact h j hj
theorem ts1 {W k c : Nat} {f : Nat → Int32} {col v : Int32} (hc : c < W) (hW : W < 2 ^ 31) (hk : k + 1 < 2 ^ 31) (ec : col = nI c) : tset W f (k + 1) (nI k) col v = upd f (k * W + c) v := by
  subst ec
  rw [tset_t ⟨nI_pos (by omega), fun h => by rw [nI_leI (by omega) (by omega)] at h; omega, nI_pos (by omega), nI_lt hc hW⟩, nI_clamp (by omega), nI_clamp (by omega)]
theorem ifc_full {k R : Nat} {a b : Int32} (hk : k ≤ R) (hR : R < 2 ^ 31) : ifc (R ≤ k) a b = ifc (nI k = nI R) a b := by
  by_cases h : R ≤ k
  · rw [ifc_t h, ifc_t (show nI k = nI R from congrArg nI (by omega))]
  · have h8 : ¬ nI k = nI R := fun q => h (by have := (nI_eq (by omega) hR).mp q; omega)
    rw [ifc_f h, ifc_f h8]
section WR
variable {p : Program} {l : Launch} {e : Env} {R : Room} {s : State} {m : MethodId} {args : Array Value} {below : List Frame} {meth : Method} {c : Code} {H : Heap} {locs : List Loc} {cells slots : Nat} {Q : State → Prop}
variable {pc : Nat} {ls : Array Slot} {rest : List Value} {G : GG} {ws : va_W} {A : Nat → Prop} {y0 : MethodName} {b0 : ByteArray} {mL0 : Nat} {rt0 : Option FieldType} {a : Nat} {H0 : Heap}
theorem gX8_hasAll_0 : (decode cX8_hasAll 0 = .ok (.iload_n 1, 1)) ∧ (decode cX8_hasAll 1 = .ok (.ifCond .lt 21, 3)) ∧ (decode cX8_hasAll 4 = .ok (.iload_n 1, 1)) ∧ (decode cX8_hasAll 5 = .ok (.aload_n 0, 1)) ∧ (decode cX8_hasAll 6 = .ok (.getfield 28, 3)) ∧ (decode cX8_hasAll 9 = .ok (.bipush 31, 2)) ∧ (decode cX8_hasAll 11 = .ok (.invokestatic 31, 3)) ∧ (decode cX8_hasAll 14 = .ok (.ishr, 1)) ∧ (decode cX8_hasAll 15 = .ok (.ifCond .ne 7, 3)) ∧ (decode cX8_hasAll 18 = .ok (.iconst 1, 1)) := by decide +kernel
theorem gX8_hasAll_1 : (decode cX8_hasAll 19 = .ok (.goto 4, 3)) ∧ (decode cX8_hasAll 22 = .ok (.iconst 0, 1)) ∧ (decode cX8_hasAll 23 = .ok (.ireturn, 1)) := by decide +kernel
theorem m_372 : Cond.methodLink RX8 31 Lib.Math.min.name ∈ BW := iB_BW20 _ (List.mem_of_getElem? (i := 16) rfl)
theorem gX11_days_0 : (decode cX11_days 0 = .ok (.iload_n 1, 1)) ∧ (decode cX11_days 1 = .ok (.iconst 1, 1)) ∧ (decode cX11_days 2 = .ok (.bipush 99, 2)) ∧ (decode cX11_days 4 = .ok (.invokestatic 83, 3)) ∧ (decode cX11_days 7 = .ok (.ifCond .ne 5, 3)) ∧ (decode cX11_days 10 = .ok (.iconst (-1), 1)) ∧ (decode cX11_days 11 = .ok (.ireturn, 1)) ∧ (decode cX11_days 12 = .ok (.aload_n 0, 1)) ∧ (decode cX11_days 13 = .ok (.getfield 15, 3)) ∧ (decode cX11_days 16 = .ok (.getfield 87, 3)) := by decide +kernel
theorem in_X11 : ∀ w ∈ wsX110, w ∈ BW := iB_wsX110
theorem m_277 : Cond.fieldLink RX11 15 "InquiryBench" "book" "LInquiryBench$Book;" ∈ BW := iB_BW15 _ (List.mem_of_getElem? (i := 3) rfl)
theorem gf_X11_15 (hC : CX p s m meth c y0 b0 mL0 rt0 args) (hy0 : y0.cls = RX11) (hK : KK G s) (hP : va_P G.1 vwCl ws H) (q0 : Nat) {fs : List Value} {v : Value} (he : ws[q0]? = some (a, .inr (11, fs))) (hv : fs[0]? = some v) (hdg : decode b0 pc = .ok (.getfield 15, 3)) (kk : W p l e R s m args below meth c H locs cells slots Q (F0 m (pc + 3) ls (v :: rest))) : W p l e R s m args below meth c H locs cells slots Q (F0 m pc ls (.ref a :: rest)) := by
  obtain ⟨hx, hb, hr, hml, hB, hown, hlocks, hnm⟩ := hC
  rw [hy0] at hown
  exact va_get (ci := 11) (C := RX11) (T := TX11) (N := 11) hx hb hB in_X11 hown hK.1 hP q0 he rfl 0 (by decide) (hB _ m_277) (fun _ h => h) hv hdg kk
theorem nm_30 : Cond.fieldLinkNest RX11 87 RX0 "today" "I" RX11 ∈ NestW := List.mem_of_getElem? (i := 30) rfl
theorem gf_X11_87 (hC : CX p s m meth c y0 b0 mL0 rt0 args) (hy0 : y0.cls = RX11) (hK : KK G s) (hP : va_P G.1 vwCl ws H) (q0 : Nat) {fs : List Value} {v : Value} (he : ws[q0]? = some (a, .inr (0, fs))) (hv : fs[10]? = some v) (hdg : decode b0 pc = .ok (.getfield 87, 3)) (kk : W p l e R s m args below meth c H locs cells slots Q (F0 m (pc + 3) ls (v :: rest))) : W p l e R s m args below meth c H locs cells slots Q (F0 m pc ls (.ref a :: rest)) := by
  obtain ⟨hx, hb, hr, hml, hB, hown, hlocks, hnm⟩ := hC
  rw [hy0] at hown
  exact va_getN (ci := 0) (C := RX0) (T := TX0) (N := 14) hx hb hB in_X0 hown hK.1 hP q0 he rfl 10 (by decide) (va_Nw.use rfl (hK.2.1 _ nm_30)) (fun _ h => h) hv hdg kk
theorem gX11_days_1 : (decode cX11_days 19 = .ok (.iload_n 1, 1)) ∧ (decode cX11_days 20 = .ok (.iadd, 1)) ∧ (decode cX11_days 21 = .ok (.sipush 499, 3)) ∧ (decode cX11_days 24 = .ok (.if_icmp .le 6, 3)) ∧ (decode cX11_days 27 = .ok (.bipush (-4), 2)) ∧ (decode cX11_days 29 = .ok (.ireturn, 1)) ∧ (decode cX11_days 30 = .ok (.aload_n 0, 1)) ∧ (decode cX11_days 31 = .ok (.getfield 15, 3)) ∧ (decode cX11_days 34 = .ok (.dup, 1)) ∧ (decode cX11_days 35 = .ok (.getfield 87, 3)) := by decide +kernel
theorem gX11_days_2 : (decode cX11_days 38 = .ok (.iload_n 1, 1)) ∧ (decode cX11_days 39 = .ok (.iadd, 1)) ∧ (decode cX11_days 40 = .ok (.putfield 87, 3)) ∧ (decode cX11_days 43 = .ok (.aload_n 0, 1)) ∧ (decode cX11_days 44 = .ok (.getfield 15, 3)) ∧ (decode cX11_days 47 = .ok (.getfield 87, 3)) ∧ (decode cX11_days 50 = .ok (.ireturn, 1)) := by decide +kernel
theorem pf_X11_87 (hC : CX p s m meth c y0 b0 mL0 rt0 args) (hy0 : y0.cls = RX11) (hK : KK G s) (hP : va_P G.1 vwCl ws H) (hD : va_D A ws) (hS : va_S A H0 H locs) (q0 : Nat) {fs : List Value} {v : Value} {ws' : va_W} (he : ws[q0]? = some (a, .inr (0, fs))) (hl : 10 < fs.length) (hws : ws.set q0 (a, .inr (0, fs.set 10 v)) = ws') (hn : narrow .int v = v) (hfit : fits .int v = true) (hdg : decode b0 pc = .ok (.putfield 87, 3)) (kk : ∀ (H1 : Heap) (locs1 : List Loc), va_P G.1 vwCl ws' H1 → va_D A ws' → va_S A H0 H1 locs1 → W p l e R s m args below meth c H1 locs1 cells slots Q (F0 m (pc + 3) ls rest)) : W p l e R s m args below meth c H locs cells slots Q (F0 m pc ls (v :: .ref a :: rest)) := by
  obtain ⟨hx, hb, hr, hml, hB, hown, hlocks, hnm⟩ := hC
  rw [hy0] at hown
  subst hws
  exact va_putN (ci := 0) (ty := .int) (C := RX0) (T := TX0) (N := 14) hx hb hB in_X0 tyX0 tyX0_ok nmX0 hown hK.1 hP hD hS q0 he rfl 10 (by decide) (va_Nw.use rfl (hK.2.1 _ nm_30)) (fun _ h => h) rfl (by decide +kernel) hn hfit hl hdg kk
end WR
noncomputable def DAYV (td vd : Int32) : Int32 := ifc (vd < 0) td vd
/-- a paper is in the view -/
def SEE (f : Nat → Int32) (td vd vl : Int32) (p : Nat) : Prop := f (p * 6 + 4) ≤ DAYV td vd ∧ f (p * 6 + 3) ≤ vl ∧ ¬ (0 ≤ f (p * 6 + 5) ∧ f (p * 6 + 5) ≤ DAYV td vd)
/-- the papers in the view, among the first n -/
noncomputable def IVW (f : Nat → Int32) (td vd vl : Int32) : Nat → Int32
  | 0 => 0
  | n + 1 => ifc (SEE f td vd vl n) (IVW f td vd vl n ||| 1 <<< (nI n &&& 31)) (IVW f td vd vl n)
theorem SEE.cg {f g : Nat → Int32} {td vd vl : Int32} {p n : Nat} (h : ∀ i, i < n → f i = g i) (hp : p * 6 + 5 < n) : SEE f td vd vl p = SEE g td vd vl p := by
  unfold SEE
  rw [h _ (by omega), h _ (by omega), h _ hp]
theorem IVW.cg {f g : Nat → Int32} {td vd vl : Int32} {n : Nat} (h : ∀ i, i < n → f i = g i) : ∀ k, k * 6 ≤ n → IVW f td vd vl k = IVW g td vd vl k
  | 0, _ => rfl
  | k + 1, hk => by
    show ifc (SEE f td vd vl k) _ _ = ifc (SEE g td vd vl k) _ _
    rw [SEE.cg h (by omega), IVW.cg h k (by omega)]
theorem or_pow {j n : Nat} (hj : j < 2 ^ n) (hn : n ≤ 30) : nI j ||| nI (2 ^ n) = nI (j + 2 ^ n) := by
  have h2 : 2 ^ n ≤ 2 ^ 30 := Nat.pow_le_pow_right (by decide) hn
  have h3 : (2 : Nat) ^ 30 = 1073741824 := by decide
  apply Int32.toBitVec_inj.mp
  apply BitVec.eq_of_toNat_eq
  have e : ∀ k : Nat, k < 2 ^ 32 → (nI k).toBitVec.toNat = k := fun k hk => by
    show (BitVec.ofNat 32 k).toNat = k
    rw [BitVec.toNat_ofNat, Nat.mod_eq_of_lt hk]
  rw [Int32.toBitVec_or, BitVec.toNat_or, e j (by omega), e (2 ^ n) (by omega), e (j + 2 ^ n) (by omega)]
  have h := Nat.two_pow_add_eq_or_of_lt hj 1
  rw [Nat.mul_one] at h
  rw [Nat.add_comm, h, Nat.or_comm]
theorem IVW.nat {f : Nat → Int32} {td vd vl : Int32} : ∀ n, n ≤ 12 → ∃ j, j < 2 ^ n ∧ IVW f td vd vl n = nI j
  | 0, _ => ⟨0, by decide, rfl⟩
  | n + 1, hn => by
    obtain ⟨j, hj, e⟩ := IVW.nat (f := f) (td := td) (vd := vd) (vl := vl) n (by omega)
    have h2 : 2 ^ n ≤ 2 ^ 11 := Nat.pow_le_pow_right (by decide) (by omega)
    have h3 : (2 : Nat) ^ 11 = 2048 := by decide
    have h4 : 2 ^ (n + 1) = 2 ^ n + 2 ^ n := by rw [Nat.pow_succ]; omega
    by_cases c : SEE f td vd vl n
    · refine ⟨j + 2 ^ n, by omega, ?_⟩
      show ifc (SEE f td vd vl n) _ _ = _
      rw [ifc_t c, e]
      rw [(sh13 ⟨n, by omega⟩).1]
      exact or_pow hj (by omega)
    · refine ⟨j, by omega, ?_⟩
      show ifc (SEE f td vd vl n) _ _ = _
      rw [ifc_f c, e]
def usr (x s : Int32) : Int32 := (x.toUInt32 >>> (s.toUInt32 &&& Int32.toUInt32 31)).toInt32
def BC1 (i : Int32) : Int32 := i - (usr i 1 &&& 1431655765)
def BC2 (i : Int32) : Int32 := (i &&& 858993459) + (usr i 2 &&& 858993459)
def BC3 (i : Int32) : Int32 := (i + usr i 4) &&& 252645135
def BC4 (i : Int32) : Int32 := i + usr i 8
def BC5 (i : Int32) : Int32 := i + usr i 16
/-- how many bits, as the JDK's method goes -/
def BCN (i : Int32) : Int32 := BC5 (BC4 (BC3 (BC2 (BC1 i)))) &&& 63
/-- how many bits, one by one -/
def BSUM (se : Int32) : Nat → Int32
  | 0 => 0
  | n + 1 => BSUM se n + ((se >>> (nI n &&& 31)) &&& 1)
theorem bc_0 : ∀ j : Fin 256, BCN (nI (0 + j.1)) = BSUM (nI (0 + j.1)) 16 := by decide +kernel
theorem bc_1 : ∀ j : Fin 256, BCN (nI (256 + j.1)) = BSUM (nI (256 + j.1)) 16 := by decide +kernel
theorem bc_2 : ∀ j : Fin 256, BCN (nI (512 + j.1)) = BSUM (nI (512 + j.1)) 16 := by decide +kernel
theorem bc_3 : ∀ j : Fin 256, BCN (nI (768 + j.1)) = BSUM (nI (768 + j.1)) 16 := by decide +kernel
theorem bc_4 : ∀ j : Fin 256, BCN (nI (1024 + j.1)) = BSUM (nI (1024 + j.1)) 16 := by decide +kernel
theorem bc_5 : ∀ j : Fin 256, BCN (nI (1280 + j.1)) = BSUM (nI (1280 + j.1)) 16 := by decide +kernel
theorem bc_6 : ∀ j : Fin 256, BCN (nI (1536 + j.1)) = BSUM (nI (1536 + j.1)) 16 := by decide +kernel
theorem bc_7 : ∀ j : Fin 256, BCN (nI (1792 + j.1)) = BSUM (nI (1792 + j.1)) 16 := by decide +kernel
theorem bc_8 : ∀ j : Fin 256, BCN (nI (2048 + j.1)) = BSUM (nI (2048 + j.1)) 16 := by decide +kernel
theorem bc_9 : ∀ j : Fin 256, BCN (nI (2304 + j.1)) = BSUM (nI (2304 + j.1)) 16 := by decide +kernel
theorem bc_10 : ∀ j : Fin 256, BCN (nI (2560 + j.1)) = BSUM (nI (2560 + j.1)) 16 := by decide +kernel
theorem bc_11 : ∀ j : Fin 256, BCN (nI (2816 + j.1)) = BSUM (nI (2816 + j.1)) 16 := by decide +kernel
theorem bc_12 : ∀ j : Fin 256, BCN (nI (3072 + j.1)) = BSUM (nI (3072 + j.1)) 16 := by decide +kernel
theorem bc_13 : ∀ j : Fin 256, BCN (nI (3328 + j.1)) = BSUM (nI (3328 + j.1)) 16 := by decide +kernel
theorem bc_14 : ∀ j : Fin 256, BCN (nI (3584 + j.1)) = BSUM (nI (3584 + j.1)) 16 := by decide +kernel
theorem bc_15 : ∀ j : Fin 256, BCN (nI (3840 + j.1)) = BSUM (nI (3840 + j.1)) 16 := by decide +kernel
theorem bc_all {j : Nat} (hj : j < 4096) : BCN (nI j) = BSUM (nI j) 16 := by
  have h : ∀ a r : Nat, r < 256 → j = 256 * a + r → BCN (nI j) = BSUM (nI j) 16 := by
    intro a r hr e
    rcases (show a = 0 ∨ a = 1 ∨ a = 2 ∨ a = 3 ∨ a = 4 ∨ a = 5 ∨ a = 6 ∨ a = 7 ∨ a = 8 ∨ a = 9 ∨ a = 10 ∨ a = 11 ∨ a = 12 ∨ a = 13 ∨ a = 14 ∨ a = 15 by omega) with rfl | rfl | rfl | rfl | rfl | rfl | rfl | rfl | rfl | rfl | rfl | rfl | rfl | rfl | rfl | rfl
    · subst e; exact bc_0 ⟨r, hr⟩
    · subst e; exact bc_1 ⟨r, hr⟩
    · subst e; exact bc_2 ⟨r, hr⟩
    · subst e; exact bc_3 ⟨r, hr⟩
    · subst e; exact bc_4 ⟨r, hr⟩
    · subst e; exact bc_5 ⟨r, hr⟩
    · subst e; exact bc_6 ⟨r, hr⟩
    · subst e; exact bc_7 ⟨r, hr⟩
    · subst e; exact bc_8 ⟨r, hr⟩
    · subst e; exact bc_9 ⟨r, hr⟩
    · subst e; exact bc_10 ⟨r, hr⟩
    · subst e; exact bc_11 ⟨r, hr⟩
    · subst e; exact bc_12 ⟨r, hr⟩
    · subst e; exact bc_13 ⟨r, hr⟩
    · subst e; exact bc_14 ⟨r, hr⟩
    · subst e; exact bc_15 ⟨r, hr⟩
  exact h (j / 256) (j % 256) (by omega) (by omega)
theorem IVW.bc {f : Nat → Int32} {td vd vl : Int32} {n : Nat} (hn : n ≤ 12) : BCN (IVW f td vd vl n) = BSUM (IVW f td vd vl n) 16 := by
  obtain ⟨j, hj, e⟩ := IVW.nat (f := f) (td := td) (vd := vd) (vl := vl) n hn
  have h2 : 2 ^ n ≤ 2 ^ 12 := Nat.pow_le_pow_right (by decide) hn
  have h3 : (2 : Nat) ^ 12 = 4096 := by decide
  rw [e]
  exact bc_all (by omega)
section WR
variable {p : Program} {l : Launch} {e : Env} {R : Room} {s : State} {m : MethodId} {args : Array Value} {below : List Frame} {meth : Method} {c : Code} {H : Heap} {locs : List Loc} {cells slots : Nat} {Q : State → Prop}
variable {pc : Nat} {ls : Array Slot} {rest : List Value} {G : GG} {ws : va_W} {A : Nat → Prop} {y0 : MethodName} {b0 : ByteArray} {mL0 : Nat} {rt0 : Option FieldType} {a : Nat} {H0 : Heap}
theorem gX11_view_0 : (decode cX11_view 0 = .ok (.iload_n 1, 1)) ∧ (decode cX11_view 1 = .ok (.iconst (-1), 1)) ∧ (decode cX11_view 2 = .ok (.sipush 499, 3)) ∧ (decode cX11_view 5 = .ok (.invokestatic 83, 3)) ∧ (decode cX11_view 8 = .ok (.ifCond .eq 12, 3)) ∧ (decode cX11_view 11 = .ok (.iload_n 2, 1)) ∧ (decode cX11_view 12 = .ok (.iconst 0, 1)) ∧ (decode cX11_view 13 = .ok (.iconst 3, 1)) ∧ (decode cX11_view 14 = .ok (.invokestatic 83, 3)) ∧ (decode cX11_view 17 = .ok (.ifCond .ne 5, 3)) := by decide +kernel
theorem gX11_view_1 : (decode cX11_view 20 = .ok (.iconst (-1), 1)) ∧ (decode cX11_view 21 = .ok (.ireturn, 1)) ∧ (decode cX11_view 22 = .ok (.aload_n 0, 1)) ∧ (decode cX11_view 23 = .ok (.getfield 15, 3)) ∧ (decode cX11_view 26 = .ok (.iload_n 1, 1)) ∧ (decode cX11_view 27 = .ok (.putfield 91, 3)) ∧ (decode cX11_view 30 = .ok (.aload_n 0, 1)) ∧ (decode cX11_view 31 = .ok (.getfield 15, 3)) ∧ (decode cX11_view 34 = .ok (.iload_n 2, 1)) ∧ (decode cX11_view 35 = .ok (.putfield 94, 3)) := by decide +kernel
theorem nm_33 : Cond.fieldLinkNest RX11 91 RX0 "viewDay" "I" RX11 ∈ NestW := List.mem_of_getElem? (i := 33) rfl
theorem pf_X11_91 (hC : CX p s m meth c y0 b0 mL0 rt0 args) (hy0 : y0.cls = RX11) (hK : KK G s) (hP : va_P G.1 vwCl ws H) (hD : va_D A ws) (hS : va_S A H0 H locs) (q0 : Nat) {fs : List Value} {v : Value} {ws' : va_W} (he : ws[q0]? = some (a, .inr (0, fs))) (hl : 11 < fs.length) (hws : ws.set q0 (a, .inr (0, fs.set 11 v)) = ws') (hn : narrow .int v = v) (hfit : fits .int v = true) (hdg : decode b0 pc = .ok (.putfield 91, 3)) (kk : ∀ (H1 : Heap) (locs1 : List Loc), va_P G.1 vwCl ws' H1 → va_D A ws' → va_S A H0 H1 locs1 → W p l e R s m args below meth c H1 locs1 cells slots Q (F0 m (pc + 3) ls rest)) : W p l e R s m args below meth c H locs cells slots Q (F0 m pc ls (v :: .ref a :: rest)) := by
  obtain ⟨hx, hb, hr, hml, hB, hown, hlocks, hnm⟩ := hC
  rw [hy0] at hown
  subst hws
  exact va_putN (ci := 0) (ty := .int) (C := RX0) (T := TX0) (N := 14) hx hb hB in_X0 tyX0 tyX0_ok nmX0 hown hK.1 hP hD hS q0 he rfl 11 (by decide) (va_Nw.use rfl (hK.2.1 _ nm_33)) (fun _ h => h) rfl (by decide +kernel) hn hfit hl hdg kk
theorem nm_34 : Cond.fieldLinkNest RX11 94 RX0 "viewLevel" "I" RX11 ∈ NestW := List.mem_of_getElem? (i := 34) rfl
theorem pf_X11_94 (hC : CX p s m meth c y0 b0 mL0 rt0 args) (hy0 : y0.cls = RX11) (hK : KK G s) (hP : va_P G.1 vwCl ws H) (hD : va_D A ws) (hS : va_S A H0 H locs) (q0 : Nat) {fs : List Value} {v : Value} {ws' : va_W} (he : ws[q0]? = some (a, .inr (0, fs))) (hl : 12 < fs.length) (hws : ws.set q0 (a, .inr (0, fs.set 12 v)) = ws') (hn : narrow .int v = v) (hfit : fits .int v = true) (hdg : decode b0 pc = .ok (.putfield 94, 3)) (kk : ∀ (H1 : Heap) (locs1 : List Loc), va_P G.1 vwCl ws' H1 → va_D A ws' → va_S A H0 H1 locs1 → W p l e R s m args below meth c H1 locs1 cells slots Q (F0 m (pc + 3) ls rest)) : W p l e R s m args below meth c H locs cells slots Q (F0 m pc ls (v :: .ref a :: rest)) := by
  obtain ⟨hx, hb, hr, hml, hB, hown, hlocks, hnm⟩ := hC
  rw [hy0] at hown
  subst hws
  exact va_putN (ci := 0) (ty := .int) (C := RX0) (T := TX0) (N := 14) hx hb hB in_X0 tyX0 tyX0_ok nmX0 hown hK.1 hP hD hS q0 he rfl 12 (by decide) (va_Nw.use rfl (hK.2.1 _ nm_34)) (fun _ h => h) rfl (by decide +kernel) hn hfit hl hdg kk
theorem gX11_view_2 : (decode cX11_view 38 = .ok (.aload_n 0, 1)) ∧ (decode cX11_view 39 = .ok (.getfield 15, 3)) ∧ (decode cX11_view 42 = .ok (.invokevirtual 97, 3)) ∧ (decode cX11_view 45 = .ok (.invokestatic 101, 3)) ∧ (decode cX11_view 48 = .ok (.ireturn, 1)) := by decide +kernel
theorem m_302 : Cond.code yX0_inView cX0_inView 6 (some .int) ∈ BW := iB_BW16 _ (List.mem_of_getElem? (i := 8) rfl)
theorem m_299 : Cond.methodLink RX11 97 yX0_inView ∈ BW := iB_BW16 _ (List.mem_of_getElem? (i := 5) rfl)
theorem m_300 : Cond.instanceMethod yX0_inView ∈ BW := iB_BW16 _ (List.mem_of_getElem? (i := 6) rfl)
theorem m_301 : Cond.selects RX0 yX0_inView yX0_inView ∈ BW := iB_BW16 _ (List.mem_of_getElem? (i := 7) rfl)
theorem si_X11_97 : SV RX11 RX0 97 yX0_inView cX0_inView 6 (some .int) 0 := ⟨⟨m_299, m_300, m_301, m_103, m_302⟩, rfl, nK_RX0.1, nK_RX0.2, pd_1⟩
theorem m_315 : Cond.methodLink RX11 101 yJ6_bitCount_0f7a4 ∈ BW := iB_BW17 _ (List.mem_of_getElem? (i := 1) rfl)
theorem si_X11_101 : SS RX11 101 yJ6_bitCount_0f7a4 cJ6_bitCount_0f7a4 1 (some .int) 1 := ⟨⟨m_315, m_316, m_116, m_317⟩, ⟨nK_RJ6.1, nK_RJ6.2, pd_7⟩⟩
end WR
theorem up_ne {f : Nat → Int32} {k i : Nat} {v : Int32} (h : i ≠ k) : upd f k v i = f i := if_neg h
theorem up_eq {f : Nat → Int32} {k i : Nat} {v : Int32} (h : i = k) : upd f k v i = v := if_pos h
/-- the sayings' papers are there -/
def SPI (f : Nat → Int32) (ks kp : Nat) : Prop := ∀ s, s < ks → Hs (f (s * 8 + 2)) kp
theorem SPI.nil {f : Nat → Int32} {kp : Nat} : SPI f 0 kp := fun s h => absurd h (Nat.not_lt_zero s)
theorem Hs_mono {x : Int32} {k k2 : Nat} (h : Hs x k) (hk : k ≤ k2) (h2 : k2 < 2 ^ 31) : Hs x k2 := by
  obtain ⟨j, hj, rfl⟩ := Hs_nat (by omega) h
  exact ⟨h.1, fun h9 => absurd ((nI_leI h2 (by omega)).mp h9) (by omega)⟩
theorem SPI.mono {f : Nat → Int32} {ks kp kp2 : Nat} (h : SPI f ks kp) (hk : kp ≤ kp2) (h2 : kp2 < 2 ^ 31) : SPI f ks kp2 := fun s hs => Hs_mono (h s hs) hk h2
theorem SPI.cp {f g : Nat → Int32} {ks kp : Nat} (h : SPI f ks kp) (hk : ks ≤ 16) (e : ∀ j, j < 128 → g j = f j) : SPI g ks kp := fun s hs => by
  rw [e _ (by omega)]
  exact h s hs
theorem SPI.row {f : Nat → Int32} {k kp : Nat} {a0 a1 a2 a3 a4 a5 a6 a7 : Int32} (h : SPI f k kp) (hx : Hs a2 kp) : SPI (rowu f (k * 8) [a0, a1, a2, a3, a4, a5, a6, a7]) (k + 1) kp := by
  intro s hs
  show Hs (upd (upd (upd (upd (upd (upd (upd (upd f (k * 8 + 0) a0) (k * 8 + 1) a1) (k * 8 + 2) a2) (k * 8 + 3) a3) (k * 8 + 4) a4) (k * 8 + 5) a5) (k * 8 + 6) a6) (k * 8 + 7) a7 (s * 8 + 2)) kp
  by_cases e : s = k
  · rw [up_ne (by omega), up_ne (by omega), up_ne (by omega), up_ne (by omega), up_ne (by omega), up_eq (by omega)]
    exact hx
  · rw [up_ne (by omega), up_ne (by omega), up_ne (by omega), up_ne (by omega), up_ne (by omega), up_ne (by omega), up_ne (by omega), up_ne (by omega)]
    exact h s (by omega)
/-- how many of the first n are so -/
noncomputable def CNT (P : Nat → Prop) : Nat → Int32
  | 0 => 0
  | n + 1 => ifc (P n) (CNT P n + 1) (CNT P n)
theorem CNT.y {P : Nat → Prop} {n : Nat} {c : Int32} (h : c = CNT P n) (p : P n) : c + 1 = CNT P (n + 1) := by
  subst h
  exact (ifc_t p).symm
theorem CNT.n {P : Nat → Prop} {n : Nat} {c : Int32} (h : c = CNT P n) (p : ¬ P n) : c = CNT P (n + 1) := by
  subst h
  exact (ifc_f p).symm
theorem CNT.n0 {P : Nat → Prop} {n : Nat} {c : Int32} (h : c = CNT P n) (p : ¬ P n) : c + 0 = CNT P (n + 1) := by
  rw [Int32.add_zero]
  exact CNT.n h p
theorem CNT.cg {P Q : Nat → Prop} : ∀ n, (∀ k, k < n → (P k ↔ Q k)) → CNT P n = CNT Q n
  | 0, _ => rfl
  | n + 1, h => by
    show ifc (P n) _ _ = ifc (Q n) _ _
    rw [CNT.cg n (fun k hk => h k (by omega))]
    by_cases c : P n
    · rw [ifc_t c, ifc_t ((h n (by omega)).mp c)]
    · rw [ifc_f c, ifc_f (fun h9 => c ((h n (by omega)).mpr h9))]
/-- the view's bits, each by itself -/
theorem IVW.bit {f : Nat → Int32} {td vd vl : Int32} : ∀ n, n ≤ 12 → ∃ j, j < 2 ^ n ∧ IVW f td vd vl n = nI j ∧ ∀ p, p < n → (j / 2 ^ p % 2 = 1 ↔ SEE f td vd vl p)
  | 0, _ => ⟨0, by decide, rfl, fun p h => absurd h (Nat.not_lt_zero p)⟩
  | n + 1, hn => by
    obtain ⟨j, hj, e, hb⟩ := IVW.bit (f := f) (td := td) (vd := vd) (vl := vl) n (by omega)
    have h2 : 2 ^ n ≤ 2 ^ 11 := Nat.pow_le_pow_right (by decide) (by omega)
    have h3 : (2 : Nat) ^ 11 = 2048 := by decide
    have h4 : 2 ^ (n + 1) = 2 ^ n + 2 ^ n := by rw [Nat.pow_succ]; omega
    by_cases c : SEE f td vd vl n
    · refine ⟨j + 2 ^ n, by omega, ?_, fun p hp => ?_⟩
      · show ifc (SEE f td vd vl n) _ _ = _
        rw [ifc_t c, e]
        rw [(sh13 ⟨n, by omega⟩).1]
        exact or_pow hj (by omega)
      · by_cases hpn : p = n
        · rw [hpn]
          have h5 := Nat.add_div_right j (Nat.two_pow_pos n)
          have h6 := Nat.div_eq_of_lt hj
          rw [h5, h6]
          exact ⟨fun _ => c, fun _ => rfl⟩
        · obtain ⟨t, rfl⟩ : ∃ t, n = p + (t + 1) := ⟨n - p - 1, by omega⟩
          have h6 : 2 ^ (p + (t + 1)) = 2 ^ p * (2 * 2 ^ t) := by rw [Nat.pow_add, Nat.pow_succ, Nat.mul_comm (2 ^ t) 2]
          rw [h6, Nat.add_mul_div_left _ _ (Nat.two_pow_pos p), Nat.add_mul_mod_self_left]
          exact hb p (by omega)
    · refine ⟨j, by omega, ?_, fun p hp => ?_⟩
      · show ifc (SEE f td vd vl n) _ _ = _
        rw [ifc_f c, e]
      · by_cases hpn : p = n
        · rw [hpn, Nat.div_eq_of_lt hj]
          exact ⟨fun h => absurd h (by decide), fun h => absurd h c⟩
        · exact hb p (by omega)
theorem nI_nn {k : Nat} (h : k < 2 ^ 31) : ¬ nI k < 0 := by
  rw [Int32.lt_iff_toInt_lt, nI_toInt h]
  have e0 : (0 : Int32).toInt = 0 := by decide
  omega
theorem HB.mk {x : Int32} {k : Nat} (hk : k < 31) (h : (x >>> (nI k &&& 31)) &&& 1 = 1) : HB x (nI k) := ⟨nI_nn (by omega), fun h9 => absurd ((nI_leI (a := 31) (b := k) (by decide) (by omega)).mp h9) (by omega), h⟩
theorem IVW.hb {f : Nat → Int32} {td vd vl : Int32} {n p : Nat} (hn : n ≤ 12) (hp : p < n) : HB (IVW f td vd vl n) (nI p) ↔ SEE f td vd vl p := by
  obtain ⟨j, hj, e, hb⟩ := IVW.bit (f := f) (td := td) (vd := vd) (vl := vl) n hn
  have h2 : 2 ^ n ≤ 2 ^ 12 := Nat.pow_le_pow_right (by decide) hn
  have h3 : (2 : Nat) ^ 12 = 4096 := by decide
  have h5 := (sh13 ⟨p, by omega⟩).2.1
  have h6 : j / 2 ^ p ≤ j := Nat.div_le_self _ _
  have h7 : (nI j >>> (nI p &&& 31)) &&& 1 = nI (j / 2 ^ p % 2) := by
    rw [pk_shrN (by omega) _ p h5]
    exact pk_andN (by omega) 1 (by decide)
  rw [e, ← hb p hp]
  constructor
  · intro h
    have h8 := h7.symm.trans h.2.2
    exact (nI_eq (b := 1) (by omega) (by decide)).mp h8
  · intro h
    refine HB.mk (by omega) ?_
    rw [h7, h]
    rfl
/-- a saying counts -/
def CSQ (f fp : Nat → Int32) (td vd vl : Int32) (s : Nat) : Prop := f (s * 8 + 7) ≤ DAYV td vd ∧ f (s * 8 + 6) < 0 ∧ SEE fp td vd vl (f (s * 8 + 2)).toNatClampNeg
section WR
variable {p : Program} {l : Launch} {e : Env} {R : Room} {s : State} {m : MethodId} {args : Array Value} {below : List Frame} {meth : Method} {c : Code} {H : Heap} {locs : List Loc} {cells slots : Nat} {Q : State → Prop}
variable {pc : Nat} {ls : Array Slot} {rest : List Value} {G : GG} {ws : va_W} {A : Nat → Prop} {y0 : MethodName} {b0 : ByteArray} {mL0 : Nat} {rt0 : Option FieldType} {a : Nat} {H0 : Heap}
theorem gX11_person_0 : (decode cX11_person 0 = .ok (.iload_n 1, 1)) ∧ (decode cX11_person 1 = .ok (.iconst 0, 1)) ∧ (decode cX11_person 2 = .ok (.bipush 9, 2)) ∧ (decode cX11_person 4 = .ok (.invokestatic 83, 3)) ∧ (decode cX11_person 7 = .ok (.ifCond .eq 13, 3)) ∧ (decode cX11_person 10 = .ok (.iload_n 2, 1)) ∧ (decode cX11_person 11 = .ok (.iconst 0, 1)) ∧ (decode cX11_person 12 = .ok (.bipush 48, 2)) ∧ (decode cX11_person 14 = .ok (.invokestatic 83, 3)) ∧ (decode cX11_person 17 = .ok (.ifCond .ne 5, 3)) := by decide +kernel
theorem gX11_person_1 : (decode cX11_person 20 = .ok (.iconst (-1), 1)) ∧ (decode cX11_person 21 = .ok (.ireturn, 1)) ∧ (decode cX11_person 22 = .ok (.aload_n 0, 1)) ∧ (decode cX11_person 23 = .ok (.getfield 15, 3)) ∧ (decode cX11_person 26 = .ok (.getfield 107, 3)) ∧ (decode cX11_person 29 = .ok (.invokevirtual 111, 3)) ∧ (decode cX11_person 32 = .ok (.ifCond .eq 6, 3)) ∧ (decode cX11_person 35 = .ok (.bipush (-2), 2)) ∧ (decode cX11_person 37 = .ok (.ireturn, 1)) ∧ (decode cX11_person 38 = .ok (.aload_n 0, 1)) := by decide +kernel
theorem nm_2 : Cond.fieldLinkNest RX11 107 RX0 "persons" "LInquiryBench$Table;" RX11 ∈ NestW := List.mem_of_getElem? (i := 2) rfl
theorem gf_X11_107 (hC : CX p s m meth c y0 b0 mL0 rt0 args) (hy0 : y0.cls = RX11) (hK : KK G s) (hP : va_P G.1 vwCl ws H) (q0 : Nat) {fs : List Value} {v : Value} (he : ws[q0]? = some (a, .inr (0, fs))) (hv : fs[0]? = some v) (hdg : decode b0 pc = .ok (.getfield 107, 3)) (kk : W p l e R s m args below meth c H locs cells slots Q (F0 m (pc + 3) ls (v :: rest))) : W p l e R s m args below meth c H locs cells slots Q (F0 m pc ls (.ref a :: rest)) := by
  obtain ⟨hx, hb, hr, hml, hB, hown, hlocks, hnm⟩ := hC
  rw [hy0] at hown
  exact va_getN (ci := 0) (C := RX0) (T := TX0) (N := 14) hx hb hB in_X0 hown hK.1 hP q0 he rfl 0 (by decide) (va_Nw.use rfl (hK.2.1 _ nm_2)) (fun _ h => h) hv hdg kk
theorem m_328 : Cond.code yX8_isFull cX8_isFull 1 (some .boolean) ∈ BW := iB_BW17 _ (List.mem_of_getElem? (i := 14) rfl)
theorem m_325 : Cond.methodLink RX11 111 yX8_isFull ∈ BW := iB_BW17 _ (List.mem_of_getElem? (i := 11) rfl)
theorem m_326 : Cond.instanceMethod yX8_isFull ∈ BW := iB_BW17 _ (List.mem_of_getElem? (i := 12) rfl)
theorem m_327 : Cond.selects RX8 yX8_isFull yX8_isFull ∈ BW := iB_BW17 _ (List.mem_of_getElem? (i := 13) rfl)
theorem si_X11_111 : SV RX11 RX8 111 yX8_isFull cX8_isFull 1 (some .boolean) 0 := ⟨⟨m_325, m_326, m_327, m_104, m_328⟩, rfl, nK_RX8.1, nK_RX8.2, pd_15⟩
theorem gX11_person_2 : (decode cX11_person 39 = .ok (.getfield 15, 3)) ∧ (decode cX11_person 42 = .ok (.getfield 107, 3)) ∧ (decode cX11_person 45 = .ok (.invokevirtual 117, 3)) ∧ (decode cX11_person 48 = .ok (.istore_n 3, 1)) ∧ (decode cX11_person 49 = .ok (.aload_n 0, 1)) ∧ (decode cX11_person 50 = .ok (.getfield 15, 3)) ∧ (decode cX11_person 53 = .ok (.getfield 107, 3)) ∧ (decode cX11_person 56 = .ok (.iload_n 3, 1)) ∧ (decode cX11_person 57 = .ok (.iconst 0, 1)) ∧ (decode cX11_person 58 = .ok (.iload_n 1, 1)) := by decide +kernel
theorem m_329 : Cond.methodLink RX11 117 yX8_append ∈ BW := iB_BW17 _ (List.mem_of_getElem? (i := 15) rfl)
theorem si_X11_117 : SV RX11 RX8 117 yX8_append cX8_append 1 (some .int) 0 := ⟨⟨m_329, m_330, m_331, m_104, m_332⟩, rfl, nK_RX8.1, nK_RX8.2, pd_1⟩
theorem gX11_person_3 : (decode cX11_person 59 = .ok (.invokevirtual 120, 3)) ∧ (decode cX11_person 62 = .ok (.aload_n 0, 1)) ∧ (decode cX11_person 63 = .ok (.getfield 15, 3)) ∧ (decode cX11_person 66 = .ok (.getfield 107, 3)) ∧ (decode cX11_person 69 = .ok (.iload_n 3, 1)) ∧ (decode cX11_person 70 = .ok (.iconst 1, 1)) ∧ (decode cX11_person 71 = .ok (.iload_n 2, 1)) ∧ (decode cX11_person 72 = .ok (.invokevirtual 120, 3)) ∧ (decode cX11_person 75 = .ok (.iload_n 3, 1)) ∧ (decode cX11_person 76 = .ok (.ireturn, 1)) := by decide +kernel
theorem m_333 : Cond.methodLink RX11 120 yX8_set ∈ BW := iB_BW17 _ (List.mem_of_getElem? (i := 19) rfl)
theorem si_X11_120 : SV RX11 RX8 120 yX8_set cX8_set 4 none 3 := ⟨⟨m_333, m_334, m_335, m_104, m_336⟩, rfl, nK_RX8.1, nK_RX8.2, pd_4⟩
theorem gX11_question_0 : (decode cX11_question 0 = .ok (.iload_n 1, 1)) ∧ (decode cX11_question 1 = .ok (.iconst 1, 1)) ∧ (decode cX11_question 2 = .ok (.bipush 9, 2)) ∧ (decode cX11_question 4 = .ok (.invokestatic 83, 3)) ∧ (decode cX11_question 7 = .ok (.ifCond .eq 14, 3)) ∧ (decode cX11_question 10 = .ok (.iload_n 2, 1)) ∧ (decode cX11_question 11 = .ok (.iconst 0, 1)) ∧ (decode cX11_question 12 = .ok (.sipush 255, 3)) ∧ (decode cX11_question 15 = .ok (.invokestatic 83, 3)) ∧ (decode cX11_question 18 = .ok (.ifCond .ne 5, 3)) := by decide +kernel
theorem gX11_question_1 : (decode cX11_question 21 = .ok (.iconst (-1), 1)) ∧ (decode cX11_question 22 = .ok (.ireturn, 1)) ∧ (decode cX11_question 23 = .ok (.aload_n 0, 1)) ∧ (decode cX11_question 24 = .ok (.getfield 15, 3)) ∧ (decode cX11_question 27 = .ok (.getfield 286, 3)) ∧ (decode cX11_question 30 = .ok (.invokevirtual 111, 3)) ∧ (decode cX11_question 33 = .ok (.ifCond .eq 6, 3)) ∧ (decode cX11_question 36 = .ok (.bipush (-2), 2)) ∧ (decode cX11_question 38 = .ok (.ireturn, 1)) ∧ (decode cX11_question 39 = .ok (.aload_n 0, 1)) := by decide +kernel
theorem nm_29 : Cond.fieldLinkNest RX11 286 RX0 "questions" "LInquiryBench$Table;" RX11 ∈ NestW := List.mem_of_getElem? (i := 29) rfl
theorem gf_X11_286 (hC : CX p s m meth c y0 b0 mL0 rt0 args) (hy0 : y0.cls = RX11) (hK : KK G s) (hP : va_P G.1 vwCl ws H) (q0 : Nat) {fs : List Value} {v : Value} (he : ws[q0]? = some (a, .inr (0, fs))) (hv : fs[9]? = some v) (hdg : decode b0 pc = .ok (.getfield 286, 3)) (kk : W p l e R s m args below meth c H locs cells slots Q (F0 m (pc + 3) ls (v :: rest))) : W p l e R s m args below meth c H locs cells slots Q (F0 m pc ls (.ref a :: rest)) := by
  obtain ⟨hx, hb, hr, hml, hB, hown, hlocks, hnm⟩ := hC
  rw [hy0] at hown
  exact va_getN (ci := 0) (C := RX0) (T := TX0) (N := 14) hx hb hB in_X0 hown hK.1 hP q0 he rfl 9 (by decide) (va_Nw.use rfl (hK.2.1 _ nm_29)) (fun _ h => h) hv hdg kk
theorem gX11_question_2 : (decode cX11_question 40 = .ok (.getfield 15, 3)) ∧ (decode cX11_question 43 = .ok (.getfield 286, 3)) ∧ (decode cX11_question 46 = .ok (.invokevirtual 117, 3)) ∧ (decode cX11_question 49 = .ok (.istore_n 3, 1)) ∧ (decode cX11_question 50 = .ok (.aload_n 0, 1)) ∧ (decode cX11_question 51 = .ok (.getfield 15, 3)) ∧ (decode cX11_question 54 = .ok (.getfield 286, 3)) ∧ (decode cX11_question 57 = .ok (.iload_n 3, 1)) ∧ (decode cX11_question 58 = .ok (.iconst 0, 1)) ∧ (decode cX11_question 59 = .ok (.iload_n 1, 1)) := by decide +kernel
theorem gX11_question_3 : (decode cX11_question 60 = .ok (.invokevirtual 120, 3)) ∧ (decode cX11_question 63 = .ok (.aload_n 0, 1)) ∧ (decode cX11_question 64 = .ok (.getfield 15, 3)) ∧ (decode cX11_question 67 = .ok (.getfield 286, 3)) ∧ (decode cX11_question 70 = .ok (.iload_n 3, 1)) ∧ (decode cX11_question 71 = .ok (.iconst 1, 1)) ∧ (decode cX11_question 72 = .ok (.iload_n 2, 1)) ∧ (decode cX11_question 73 = .ok (.invokevirtual 120, 3)) ∧ (decode cX11_question 76 = .ok (.iload_n 3, 1)) ∧ (decode cX11_question 77 = .ok (.ireturn, 1)) := by decide +kernel
theorem gX11_gap_0 : (decode cX11_gap 0 = .ok (.iload_n 1, 1)) ∧ (decode cX11_gap 1 = .ok (.iconst 0, 1)) ∧ (decode cX11_gap 2 = .ok (.bipush 99, 2)) ∧ (decode cX11_gap 4 = .ok (.invokestatic 83, 3)) ∧ (decode cX11_gap 7 = .ok (.ifCond .ne 5, 3)) ∧ (decode cX11_gap 10 = .ok (.iconst (-1), 1)) ∧ (decode cX11_gap 11 = .ok (.ireturn, 1)) ∧ (decode cX11_gap 12 = .ok (.aload_n 0, 1)) ∧ (decode cX11_gap 13 = .ok (.getfield 15, 3)) ∧ (decode cX11_gap 16 = .ok (.getfield 177, 3)) := by decide +kernel
theorem nm_37 : Cond.fieldLinkNest RX11 177 RX0 "gap" "I" RX11 ∈ NestW := List.mem_of_getElem? (i := 37) rfl
theorem gf_X11_177 (hC : CX p s m meth c y0 b0 mL0 rt0 args) (hy0 : y0.cls = RX11) (hK : KK G s) (hP : va_P G.1 vwCl ws H) (q0 : Nat) {fs : List Value} {v : Value} (he : ws[q0]? = some (a, .inr (0, fs))) (hv : fs[13]? = some v) (hdg : decode b0 pc = .ok (.getfield 177, 3)) (kk : W p l e R s m args below meth c H locs cells slots Q (F0 m (pc + 3) ls (v :: rest))) : W p l e R s m args below meth c H locs cells slots Q (F0 m pc ls (.ref a :: rest)) := by
  obtain ⟨hx, hb, hr, hml, hB, hown, hlocks, hnm⟩ := hC
  rw [hy0] at hown
  exact va_getN (ci := 0) (C := RX0) (T := TX0) (N := 14) hx hb hB in_X0 hown hK.1 hP q0 he rfl 13 (by decide) (va_Nw.use rfl (hK.2.1 _ nm_37)) (fun _ h => h) hv hdg kk
theorem gX11_gap_1 : (decode cX11_gap 19 = .ok (.istore_n 2, 1)) ∧ (decode cX11_gap 20 = .ok (.aload_n 0, 1)) ∧ (decode cX11_gap 21 = .ok (.getfield 15, 3)) ∧ (decode cX11_gap 24 = .ok (.iload_n 1, 1)) ∧ (decode cX11_gap 25 = .ok (.putfield 177, 3)) ∧ (decode cX11_gap 28 = .ok (.iload_n 2, 1)) ∧ (decode cX11_gap 29 = .ok (.ireturn, 1)) := by decide +kernel
theorem pf_X11_177 (hC : CX p s m meth c y0 b0 mL0 rt0 args) (hy0 : y0.cls = RX11) (hK : KK G s) (hP : va_P G.1 vwCl ws H) (hD : va_D A ws) (hS : va_S A H0 H locs) (q0 : Nat) {fs : List Value} {v : Value} {ws' : va_W} (he : ws[q0]? = some (a, .inr (0, fs))) (hl : 13 < fs.length) (hws : ws.set q0 (a, .inr (0, fs.set 13 v)) = ws') (hn : narrow .int v = v) (hfit : fits .int v = true) (hdg : decode b0 pc = .ok (.putfield 177, 3)) (kk : ∀ (H1 : Heap) (locs1 : List Loc), va_P G.1 vwCl ws' H1 → va_D A ws' → va_S A H0 H1 locs1 → W p l e R s m args below meth c H1 locs1 cells slots Q (F0 m (pc + 3) ls rest)) : W p l e R s m args below meth c H locs cells slots Q (F0 m pc ls (v :: .ref a :: rest)) := by
  obtain ⟨hx, hb, hr, hml, hB, hown, hlocks, hnm⟩ := hC
  rw [hy0] at hown
  subst hws
  exact va_putN (ci := 0) (ty := .int) (C := RX0) (T := TX0) (N := 14) hx hb hB in_X0 tyX0 tyX0_ok nmX0 hown hK.1 hP hD hS q0 he rfl 13 (by decide) (va_Nw.use rfl (hK.2.1 _ nm_37)) (fun _ h => h) rfl (by decide +kernel) hn hfit hl hdg kk
theorem gX11_personOf_0 : (decode cX11_personOf 0 = .ok (.aload_n 0, 1)) ∧ (decode cX11_personOf 1 = .ok (.getfield 15, 3)) ∧ (decode cX11_personOf 4 = .ok (.getfield 107, 3)) ∧ (decode cX11_personOf 7 = .ok (.iload_n 1, 1)) ∧ (decode cX11_personOf 8 = .ok (.invokevirtual 124, 3)) ∧ (decode cX11_personOf 11 = .ok (.ifCond .ne 5, 3)) ∧ (decode cX11_personOf 14 = .ok (.iconst (-1), 1)) ∧ (decode cX11_personOf 15 = .ok (.ireturn, 1)) ∧ (decode cX11_personOf 16 = .ok (.iload_n 2, 1)) ∧ (decode cX11_personOf 17 = .ok (.tableswitch 109 0 4 #[35, 48, 61, 77, 93], 35)) := by decide +kernel
theorem m_341 : Cond.methodLink RX11 124 yX8_has ∈ BW := iB_BW18 _ (List.mem_of_getElem? (i := 7) rfl)
theorem si_X11_124 : SV RX11 RX8 124 yX8_has cX8_has 2 (some .boolean) 1 := ⟨⟨m_341, m_342, m_343, m_104, m_344⟩, rfl, nK_RX8.1, nK_RX8.2, pd_5⟩
theorem gX11_personOf_1 : (decode cX11_personOf 52 = .ok (.aload_n 0, 1)) ∧ (decode cX11_personOf 53 = .ok (.getfield 15, 3)) ∧ (decode cX11_personOf 56 = .ok (.getfield 107, 3)) ∧ (decode cX11_personOf 59 = .ok (.iload_n 1, 1)) ∧ (decode cX11_personOf 60 = .ok (.iconst 0, 1)) ∧ (decode cX11_personOf 61 = .ok (.invokevirtual 128, 3)) ∧ (decode cX11_personOf 64 = .ok (.ireturn, 1)) ∧ (decode cX11_personOf 65 = .ok (.aload_n 0, 1)) ∧ (decode cX11_personOf 66 = .ok (.getfield 15, 3)) ∧ (decode cX11_personOf 69 = .ok (.getfield 107, 3)) := by decide +kernel
theorem m_345 : Cond.methodLink RX11 128 yX8_at ∈ BW := iB_BW18 _ (List.mem_of_getElem? (i := 11) rfl)
theorem si_X11_128 : SV RX11 RX8 128 yX8_at cX8_at 3 (some .int) 2 := ⟨⟨m_345, m_312, m_313, m_104, m_314⟩, rfl, nK_RX8.1, nK_RX8.2, pd_2⟩
theorem gX11_personOf_2 : (decode cX11_personOf 72 = .ok (.iload_n 1, 1)) ∧ (decode cX11_personOf 73 = .ok (.iconst 1, 1)) ∧ (decode cX11_personOf 74 = .ok (.invokevirtual 128, 3)) ∧ (decode cX11_personOf 77 = .ok (.ireturn, 1)) ∧ (decode cX11_personOf 78 = .ok (.aload_n 0, 1)) ∧ (decode cX11_personOf 79 = .ok (.getfield 15, 3)) ∧ (decode cX11_personOf 82 = .ok (.iload_n 1, 1)) ∧ (decode cX11_personOf 83 = .ok (.aload_n 0, 1)) ∧ (decode cX11_personOf 84 = .ok (.getfield 15, 3)) ∧ (decode cX11_personOf 87 = .ok (.invokevirtual 97, 3)) := by decide +kernel
theorem gX11_personOf_3 : (decode cX11_personOf 90 = .ok (.invokevirtual 132, 3)) ∧ (decode cX11_personOf 93 = .ok (.ireturn, 1)) ∧ (decode cX11_personOf 94 = .ok (.aload_n 0, 1)) ∧ (decode cX11_personOf 95 = .ok (.getfield 15, 3)) ∧ (decode cX11_personOf 98 = .ok (.iload_n 1, 1)) ∧ (decode cX11_personOf 99 = .ok (.aload_n 0, 1)) ∧ (decode cX11_personOf 100 = .ok (.getfield 15, 3)) ∧ (decode cX11_personOf 103 = .ok (.invokevirtual 97, 3)) ∧ (decode cX11_personOf 106 = .ok (.invokevirtual 135, 3)) ∧ (decode cX11_personOf 109 = .ok (.ireturn, 1)) := by decide +kernel
theorem m_346 : Cond.methodLink RX11 132 yX0_countTo ∈ BW := iB_BW18 _ (List.mem_of_getElem? (i := 12) rfl)
theorem si_X11_132 : SV RX11 RX0 132 yX0_countTo cX0_countTo 5 (some .int) 2 := ⟨⟨m_346, m_347, m_348, m_103, m_349⟩, rfl, nK_RX0.1, nK_RX0.2, pd_2⟩
theorem m_352 : Cond.methodLink RX11 135 yX0_countBy ∈ BW := iB_BW18 _ (List.mem_of_getElem? (i := 18) rfl)
theorem si_X11_135 : SV RX11 RX0 135 yX0_countBy cX0_countBy 5 (some .int) 2 := ⟨⟨m_352, m_353, m_354, m_103, m_355⟩, rfl, nK_RX0.1, nK_RX0.2, pd_2⟩
theorem gX11_personOf_4 : (decode cX11_personOf 110 = .ok (.aload_n 0, 1)) ∧ (decode cX11_personOf 111 = .ok (.getfield 15, 3)) ∧ (decode cX11_personOf 114 = .ok (.iload_n 1, 1)) ∧ (decode cX11_personOf 115 = .ok (.aload_n 0, 1)) ∧ (decode cX11_personOf 116 = .ok (.getfield 15, 3)) ∧ (decode cX11_personOf 119 = .ok (.invokevirtual 97, 3)) ∧ (decode cX11_personOf 122 = .ok (.invokevirtual 138, 3)) ∧ (decode cX11_personOf 125 = .ok (.ireturn, 1)) ∧ (decode cX11_personOf 126 = .ok (.iconst (-1), 1)) ∧ (decode cX11_personOf 127 = .ok (.ireturn, 1)) := by decide +kernel
theorem m_359 : Cond.code yX0_countSayingsBy cX0_countSayingsBy 5 (some .int) ∈ BW := iB_BW20 _ (List.mem_of_getElem? (i := 3) rfl)
theorem m_356 : Cond.methodLink RX11 138 yX0_countSayingsBy ∈ BW := iB_BW20 _ (List.mem_of_getElem? (i := 0) rfl)
theorem m_357 : Cond.instanceMethod yX0_countSayingsBy ∈ BW := iB_BW20 _ (List.mem_of_getElem? (i := 1) rfl)
theorem m_358 : Cond.selects RX0 yX0_countSayingsBy yX0_countSayingsBy ∈ BW := iB_BW20 _ (List.mem_of_getElem? (i := 2) rfl)
theorem si_X11_138 : SV RX11 RX0 138 yX0_countSayingsBy cX0_countSayingsBy 5 (some .int) 2 := ⟨⟨m_356, m_357, m_358, m_103, m_359⟩, rfl, nK_RX0.1, nK_RX0.2, pd_2⟩
theorem sw_0_4 {x : Int32} : ¬ x = 0 → ¬ x = 1 → ¬ x = 2 → ¬ x = 3 → ¬ x = 4 →  (x.toInt < 0 ∨ 4 < x.toInt) := by
  intros
  simp only [← Int32.toInt_inj] at *
  have hk : ∀ k : Int, x.toInt = k → x.toInt = k := fun _ h => h
  have k0 : (0 : Int32).toInt = 0 := by decide
  have k1 : (1 : Int32).toInt = 1 := by decide
  have k2 : (2 : Int32).toInt = 2 := by decide
  have k3 : (3 : Int32).toInt = 3 := by decide
  have k4 : (4 : Int32).toInt = 4 := by decide
  omega
theorem gX11_paper_0 : (decode cX11_paper 0 = .ok (.aload_n 0, 1)) ∧ (decode cX11_paper 1 = .ok (.getfield 15, 3)) ∧ (decode cX11_paper 4 = .ok (.getfield 107, 3)) ∧ (decode cX11_paper 7 = .ok (.iload_n 1, 1)) ∧ (decode cX11_paper 8 = .ok (.invokevirtual 124, 3)) ∧ (decode cX11_paper 11 = .ok (.ifCond .eq 17, 3)) ∧ (decode cX11_paper 14 = .ok (.aload_n 0, 1)) ∧ (decode cX11_paper 15 = .ok (.getfield 15, 3)) ∧ (decode cX11_paper 18 = .ok (.getfield 107, 3)) ∧ (decode cX11_paper 21 = .ok (.iload_n 2, 1)) := by decide +kernel
theorem gX11_paper_1 : (decode cX11_paper 22 = .ok (.invokevirtual 141, 3)) ∧ (decode cX11_paper 25 = .ok (.ifCond .ne 5, 3)) ∧ (decode cX11_paper 28 = .ok (.iconst (-1), 1)) ∧ (decode cX11_paper 29 = .ok (.ireturn, 1)) ∧ (decode cX11_paper 30 = .ok (.iload_n 3, 1)) ∧ (decode cX11_paper 31 = .ok (.iconst 0, 1)) ∧ (decode cX11_paper 32 = .ok (.sipush 255, 3)) ∧ (decode cX11_paper 35 = .ok (.invokestatic 83, 3)) ∧ (decode cX11_paper 38 = .ok (.ifCond .eq 13, 3)) ∧ (decode cX11_paper 41 = .ok (.iload 4, 2)) := by decide +kernel
theorem m_371 : Cond.code yX8_hasAll cX8_hasAll 2 (some .boolean) ∈ BW := iB_BW20 _ (List.mem_of_getElem? (i := 15) rfl)
theorem m_368 : Cond.methodLink RX11 141 yX8_hasAll ∈ BW := iB_BW20 _ (List.mem_of_getElem? (i := 12) rfl)
theorem m_369 : Cond.instanceMethod yX8_hasAll ∈ BW := iB_BW20 _ (List.mem_of_getElem? (i := 13) rfl)
theorem m_370 : Cond.selects RX8 yX8_hasAll yX8_hasAll ∈ BW := iB_BW20 _ (List.mem_of_getElem? (i := 14) rfl)
theorem si_X11_141 : SV RX11 RX8 141 yX8_hasAll cX8_hasAll 2 (some .boolean) 1 := ⟨⟨m_368, m_369, m_370, m_104, m_371⟩, rfl, nK_RX8.1, nK_RX8.2, pd_5⟩
theorem gX11_paper_2 : (decode cX11_paper 43 = .ok (.iconst 0, 1)) ∧ (decode cX11_paper 44 = .ok (.iconst 3, 1)) ∧ (decode cX11_paper 45 = .ok (.invokestatic 83, 3)) ∧ (decode cX11_paper 48 = .ok (.ifCond .ne 5, 3)) ∧ (decode cX11_paper 51 = .ok (.iconst (-1), 1)) ∧ (decode cX11_paper 52 = .ok (.ireturn, 1)) ∧ (decode cX11_paper 53 = .ok (.aload_n 0, 1)) ∧ (decode cX11_paper 54 = .ok (.getfield 15, 3)) ∧ (decode cX11_paper 57 = .ok (.getfield 144, 3)) ∧ (decode cX11_paper 60 = .ok (.invokevirtual 111, 3)) := by decide +kernel
theorem nm_6 : Cond.fieldLinkNest RX11 144 RX0 "papers" "LInquiryBench$Table;" RX11 ∈ NestW := List.mem_of_getElem? (i := 6) rfl
theorem gf_X11_144 (hC : CX p s m meth c y0 b0 mL0 rt0 args) (hy0 : y0.cls = RX11) (hK : KK G s) (hP : va_P G.1 vwCl ws H) (q0 : Nat) {fs : List Value} {v : Value} (he : ws[q0]? = some (a, .inr (0, fs))) (hv : fs[1]? = some v) (hdg : decode b0 pc = .ok (.getfield 144, 3)) (kk : W p l e R s m args below meth c H locs cells slots Q (F0 m (pc + 3) ls (v :: rest))) : W p l e R s m args below meth c H locs cells slots Q (F0 m pc ls (.ref a :: rest)) := by
  obtain ⟨hx, hb, hr, hml, hB, hown, hlocks, hnm⟩ := hC
  rw [hy0] at hown
  exact va_getN (ci := 0) (C := RX0) (T := TX0) (N := 14) hx hb hB in_X0 hown hK.1 hP q0 he rfl 1 (by decide) (va_Nw.use rfl (hK.2.1 _ nm_6)) (fun _ h => h) hv hdg kk
theorem gX11_paper_3 : (decode cX11_paper 63 = .ok (.ifCond .eq 6, 3)) ∧ (decode cX11_paper 66 = .ok (.bipush (-2), 2)) ∧ (decode cX11_paper 68 = .ok (.ireturn, 1)) ∧ (decode cX11_paper 69 = .ok (.aload_n 0, 1)) ∧ (decode cX11_paper 70 = .ok (.getfield 15, 3)) ∧ (decode cX11_paper 73 = .ok (.getfield 144, 3)) ∧ (decode cX11_paper 76 = .ok (.invokevirtual 117, 3)) ∧ (decode cX11_paper 79 = .ok (.istore 5, 2)) ∧ (decode cX11_paper 81 = .ok (.aload_n 0, 1)) ∧ (decode cX11_paper 82 = .ok (.getfield 15, 3)) := by decide +kernel
theorem gX11_paper_4 : (decode cX11_paper 85 = .ok (.getfield 144, 3)) ∧ (decode cX11_paper 88 = .ok (.iload 5, 2)) ∧ (decode cX11_paper 90 = .ok (.iconst 0, 1)) ∧ (decode cX11_paper 91 = .ok (.iload_n 1, 1)) ∧ (decode cX11_paper 92 = .ok (.invokevirtual 120, 3)) ∧ (decode cX11_paper 95 = .ok (.aload_n 0, 1)) ∧ (decode cX11_paper 96 = .ok (.getfield 15, 3)) ∧ (decode cX11_paper 99 = .ok (.getfield 144, 3)) ∧ (decode cX11_paper 102 = .ok (.iload 5, 2)) ∧ (decode cX11_paper 104 = .ok (.iconst 1, 1)) := by decide +kernel
theorem gX11_paper_5 : (decode cX11_paper 105 = .ok (.iload_n 2, 1)) ∧ (decode cX11_paper 106 = .ok (.invokevirtual 120, 3)) ∧ (decode cX11_paper 109 = .ok (.aload_n 0, 1)) ∧ (decode cX11_paper 110 = .ok (.getfield 15, 3)) ∧ (decode cX11_paper 113 = .ok (.getfield 144, 3)) ∧ (decode cX11_paper 116 = .ok (.iload 5, 2)) ∧ (decode cX11_paper 118 = .ok (.iconst 2, 1)) ∧ (decode cX11_paper 119 = .ok (.iload_n 3, 1)) ∧ (decode cX11_paper 120 = .ok (.invokevirtual 120, 3)) ∧ (decode cX11_paper 123 = .ok (.aload_n 0, 1)) := by decide +kernel
theorem gX11_paper_6 : (decode cX11_paper 124 = .ok (.getfield 15, 3)) ∧ (decode cX11_paper 127 = .ok (.getfield 144, 3)) ∧ (decode cX11_paper 130 = .ok (.iload 5, 2)) ∧ (decode cX11_paper 132 = .ok (.iconst 3, 1)) ∧ (decode cX11_paper 133 = .ok (.iload 4, 2)) ∧ (decode cX11_paper 135 = .ok (.invokevirtual 120, 3)) ∧ (decode cX11_paper 138 = .ok (.aload_n 0, 1)) ∧ (decode cX11_paper 139 = .ok (.getfield 15, 3)) ∧ (decode cX11_paper 142 = .ok (.getfield 144, 3)) ∧ (decode cX11_paper 145 = .ok (.iload 5, 2)) := by decide +kernel
theorem gX11_paper_7 : (decode cX11_paper 147 = .ok (.iconst 4, 1)) ∧ (decode cX11_paper 148 = .ok (.aload_n 0, 1)) ∧ (decode cX11_paper 149 = .ok (.getfield 15, 3)) ∧ (decode cX11_paper 152 = .ok (.getfield 87, 3)) ∧ (decode cX11_paper 155 = .ok (.invokevirtual 120, 3)) ∧ (decode cX11_paper 158 = .ok (.aload_n 0, 1)) ∧ (decode cX11_paper 159 = .ok (.getfield 15, 3)) ∧ (decode cX11_paper 162 = .ok (.getfield 144, 3)) ∧ (decode cX11_paper 165 = .ok (.iload 5, 2)) ∧ (decode cX11_paper 167 = .ok (.iconst 5, 1)) := by decide +kernel
theorem gX11_paper_8 : (decode cX11_paper 168 = .ok (.iconst (-1), 1)) ∧ (decode cX11_paper 169 = .ok (.invokevirtual 120, 3)) ∧ (decode cX11_paper 172 = .ok (.iload 5, 2)) ∧ (decode cX11_paper 174 = .ok (.ireturn, 1)) := by decide +kernel
theorem gX11_lose_0 : (decode cX11_lose 0 = .ok (.aload_n 0, 1)) ∧ (decode cX11_lose 1 = .ok (.getfield 15, 3)) ∧ (decode cX11_lose 4 = .ok (.getfield 144, 3)) ∧ (decode cX11_lose 7 = .ok (.iload_n 1, 1)) ∧ (decode cX11_lose 8 = .ok (.invokevirtual 124, 3)) ∧ (decode cX11_lose 11 = .ok (.ifCond .ne 5, 3)) ∧ (decode cX11_lose 14 = .ok (.iconst (-1), 1)) ∧ (decode cX11_lose 15 = .ok (.ireturn, 1)) ∧ (decode cX11_lose 16 = .ok (.aload_n 0, 1)) ∧ (decode cX11_lose 17 = .ok (.getfield 15, 3)) := by decide +kernel
theorem gX11_lose_1 : (decode cX11_lose 20 = .ok (.getfield 144, 3)) ∧ (decode cX11_lose 23 = .ok (.iload_n 1, 1)) ∧ (decode cX11_lose 24 = .ok (.iconst 5, 1)) ∧ (decode cX11_lose 25 = .ok (.invokevirtual 128, 3)) ∧ (decode cX11_lose 28 = .ok (.ifCond .lt 6, 3)) ∧ (decode cX11_lose 31 = .ok (.bipush (-4), 2)) ∧ (decode cX11_lose 33 = .ok (.ireturn, 1)) ∧ (decode cX11_lose 34 = .ok (.aload_n 0, 1)) ∧ (decode cX11_lose 35 = .ok (.getfield 15, 3)) ∧ (decode cX11_lose 38 = .ok (.getfield 144, 3)) := by decide +kernel
theorem gX11_lose_2 : (decode cX11_lose 41 = .ok (.iload_n 1, 1)) ∧ (decode cX11_lose 42 = .ok (.iconst 5, 1)) ∧ (decode cX11_lose 43 = .ok (.aload_n 0, 1)) ∧ (decode cX11_lose 44 = .ok (.getfield 15, 3)) ∧ (decode cX11_lose 47 = .ok (.getfield 87, 3)) ∧ (decode cX11_lose 50 = .ok (.invokevirtual 120, 3)) ∧ (decode cX11_lose 53 = .ok (.iconst 1, 1)) ∧ (decode cX11_lose 54 = .ok (.ireturn, 1)) := by decide +kernel
theorem gX11_paperOf_0 : (decode cX11_paperOf 0 = .ok (.aload_n 0, 1)) ∧ (decode cX11_paperOf 1 = .ok (.getfield 15, 3)) ∧ (decode cX11_paperOf 4 = .ok (.getfield 144, 3)) ∧ (decode cX11_paperOf 7 = .ok (.iload_n 1, 1)) ∧ (decode cX11_paperOf 8 = .ok (.invokevirtual 124, 3)) ∧ (decode cX11_paperOf 11 = .ok (.ifCond .ne 5, 3)) ∧ (decode cX11_paperOf 14 = .ok (.iconst (-1), 1)) ∧ (decode cX11_paperOf 15 = .ok (.ireturn, 1)) ∧ (decode cX11_paperOf 16 = .ok (.iload_n 2, 1)) ∧ (decode cX11_paperOf 17 = .ok (.tableswitch 137 0 6 #[43, 56, 69, 82, 95, 108, 117], 43)) := by decide +kernel
theorem gX11_paperOf_1 : (decode cX11_paperOf 60 = .ok (.aload_n 0, 1)) ∧ (decode cX11_paperOf 61 = .ok (.getfield 15, 3)) ∧ (decode cX11_paperOf 64 = .ok (.getfield 144, 3)) ∧ (decode cX11_paperOf 67 = .ok (.iload_n 1, 1)) ∧ (decode cX11_paperOf 68 = .ok (.iconst 0, 1)) ∧ (decode cX11_paperOf 69 = .ok (.invokevirtual 128, 3)) ∧ (decode cX11_paperOf 72 = .ok (.ireturn, 1)) ∧ (decode cX11_paperOf 73 = .ok (.aload_n 0, 1)) ∧ (decode cX11_paperOf 74 = .ok (.getfield 15, 3)) ∧ (decode cX11_paperOf 77 = .ok (.getfield 144, 3)) := by decide +kernel
theorem gX11_paperOf_2 : (decode cX11_paperOf 80 = .ok (.iload_n 1, 1)) ∧ (decode cX11_paperOf 81 = .ok (.iconst 1, 1)) ∧ (decode cX11_paperOf 82 = .ok (.invokevirtual 128, 3)) ∧ (decode cX11_paperOf 85 = .ok (.ireturn, 1)) ∧ (decode cX11_paperOf 86 = .ok (.aload_n 0, 1)) ∧ (decode cX11_paperOf 87 = .ok (.getfield 15, 3)) ∧ (decode cX11_paperOf 90 = .ok (.getfield 144, 3)) ∧ (decode cX11_paperOf 93 = .ok (.iload_n 1, 1)) ∧ (decode cX11_paperOf 94 = .ok (.iconst 2, 1)) ∧ (decode cX11_paperOf 95 = .ok (.invokevirtual 128, 3)) := by decide +kernel
theorem gX11_paperOf_3 : (decode cX11_paperOf 98 = .ok (.ireturn, 1)) ∧ (decode cX11_paperOf 99 = .ok (.aload_n 0, 1)) ∧ (decode cX11_paperOf 100 = .ok (.getfield 15, 3)) ∧ (decode cX11_paperOf 103 = .ok (.getfield 144, 3)) ∧ (decode cX11_paperOf 106 = .ok (.iload_n 1, 1)) ∧ (decode cX11_paperOf 107 = .ok (.iconst 3, 1)) ∧ (decode cX11_paperOf 108 = .ok (.invokevirtual 128, 3)) ∧ (decode cX11_paperOf 111 = .ok (.ireturn, 1)) ∧ (decode cX11_paperOf 112 = .ok (.aload_n 0, 1)) ∧ (decode cX11_paperOf 113 = .ok (.getfield 15, 3)) := by decide +kernel
theorem gX11_paperOf_4 : (decode cX11_paperOf 116 = .ok (.getfield 144, 3)) ∧ (decode cX11_paperOf 119 = .ok (.iload_n 1, 1)) ∧ (decode cX11_paperOf 120 = .ok (.iconst 4, 1)) ∧ (decode cX11_paperOf 121 = .ok (.invokevirtual 128, 3)) ∧ (decode cX11_paperOf 124 = .ok (.ireturn, 1)) ∧ (decode cX11_paperOf 125 = .ok (.aload_n 0, 1)) ∧ (decode cX11_paperOf 126 = .ok (.getfield 15, 3)) ∧ (decode cX11_paperOf 129 = .ok (.iload_n 1, 1)) ∧ (decode cX11_paperOf 130 = .ok (.invokevirtual 147, 3)) ∧ (decode cX11_paperOf 133 = .ok (.ireturn, 1)) := by decide +kernel
theorem m_383 : Cond.methodLink RX11 147 yX0_countStamps ∈ BW := iB_BW21 _ (List.mem_of_getElem? (i := 7) rfl)
theorem si_X11_147 : SV RX11 RX0 147 yX0_countStamps cX0_countStamps 4 (some .int) 1 := ⟨⟨m_383, m_384, m_385, m_103, m_386⟩, rfl, nK_RX0.1, nK_RX0.2, pd_7⟩
theorem gX11_paperOf_5 : (decode cX11_paperOf 134 = .ok (.aload_n 0, 1)) ∧ (decode cX11_paperOf 135 = .ok (.getfield 15, 3)) ∧ (decode cX11_paperOf 138 = .ok (.invokevirtual 97, 3)) ∧ (decode cX11_paperOf 141 = .ok (.iload_n 1, 1)) ∧ (decode cX11_paperOf 142 = .ok (.invokestatic 150, 3)) ∧ (decode cX11_paperOf 145 = .ok (.ifCond .eq 7, 3)) ∧ (decode cX11_paperOf 148 = .ok (.iconst 1, 1)) ∧ (decode cX11_paperOf 149 = .ok (.goto 4, 3)) ∧ (decode cX11_paperOf 152 = .ok (.iconst 0, 1)) ∧ (decode cX11_paperOf 153 = .ok (.ireturn, 1)) := by decide +kernel
theorem m_387 : Cond.methodLink RX11 150 yX11_hasBit ∈ BW := iB_BW21 _ (List.mem_of_getElem? (i := 11) rfl)
theorem si_X11_150 : SS RX11 150 yX11_hasBit cX11_hasBit 2 (some .boolean) 2 := ⟨⟨m_387, m_350, m_102, m_351⟩, ⟨nK_RX11.1, nK_RX11.2, pd_3⟩⟩
theorem sw_0_6 {x : Int32} : ¬ x = 0 → ¬ x = 1 → ¬ x = 2 → ¬ x = 3 → ¬ x = 4 → ¬ x = 5 → ¬ x = 6 →  (x.toInt < 0 ∨ 6 < x.toInt) := by
  intros
  simp only [← Int32.toInt_inj] at *
  have hk : ∀ k : Int, x.toInt = k → x.toInt = k := fun _ h => h
  have k0 : (0 : Int32).toInt = 0 := by decide
  have k1 : (1 : Int32).toInt = 1 := by decide
  have k2 : (2 : Int32).toInt = 2 := by decide
  have k3 : (3 : Int32).toInt = 3 := by decide
  have k4 : (4 : Int32).toInt = 4 := by decide
  have k5 : (5 : Int32).toInt = 5 := by decide
  have k6 : (6 : Int32).toInt = 6 := by decide
  omega
theorem gX11_paperOf_6 : (decode cX11_paperOf 154 = .ok (.iconst (-1), 1)) ∧ (decode cX11_paperOf 155 = .ok (.ireturn, 1)) := by decide +kernel
end WR
theorem ifc_nand {p q : Prop} {a b : Int32} (h : ¬ (p ∧ q)) : ifc p (ifc q a b) b = b := by
  by_cases c : p
  · rw [ifc_t c, ifc_f (fun h9 => h ⟨c, h9⟩)]
  · rw [ifc_f c]
/-- n stamps behind the first k, from a sheet -/
def APS (f : Nat → Int32) (k : Nat) (pa : Int32) (g : Nat → Int32) (b c : Nat) : Nat → Nat → Int32
  | 0 => f
  | n + 1 => rowu (APS f k pa g b c n) ((k + n) * 3) [pa, g (b + (c + 2 * n)), g (b + (c + 2 * n + 1))]
/-- the numbers on a sheet are stamps -/
def ALS (g : Nat → Int32) (b c n : Nat) : Prop := ∀ k, k < n → Wi (g (b + (c + 2 * k))) 0 5 ∧ Wi (g (b + (c + 2 * k + 1))) 0 999
theorem ALS.zero {g : Nat → Int32} {b c : Nat} : ALS g b c 0 := fun k h => absurd h (Nat.not_lt_zero k)
theorem ALS.next {g : Nat → Int32} {b c n : Nat} (h : ALS g b c n) (h2 : Wi (g (b + (c + 2 * n))) 0 5 ∧ Wi (g (b + (c + 2 * n + 1))) 0 999) : ALS g b c (n + 1) := by
  intro k hk
  by_cases e : k = n
  · subst e; exact h2
  · exact h k (by omega)
/-- stamps beyond a sheet -/
def OUTS (x z n : Int32) : Prop := x < 0 ∨ z.toInt < x.toInt + 2 * n.toInt
theorem OUTS.w {x z : Int32} {n : Nat} (hn : n < 2 ^ 30) (h : ¬ Wi x 0 z) : OUTS x z (nI n) := by
  by_cases c : x < 0
  · exact Or.inl c
  · refine Or.inr ?_
    have h2 : z < x := Classical.byContradiction fun h9 => h ⟨c, h9⟩
    rw [Int32.lt_iff_toInt_lt] at h2
    rw [nI_toInt (n := n) (by omega)]
    omega
theorem OUTS.iff {x z n : Nat} (hx : x < 2 ^ 30) (hz : z < 2 ^ 30) (hn : n < 2 ^ 29) : OUTS (nI x) (nI z) (nI n) ↔ z < x + 2 * n := by
  unfold OUTS
  rw [Int32.lt_iff_toInt_lt, nI_toInt (n := x) (by omega), nI_toInt (n := z) (by omega), nI_toInt (n := n) (by omega)]
  have e0 : (0 : Int32).toInt = 0 := by decide
  omega
theorem nI_subN {a b : Nat} (h : b ≤ a) : nI a - nI b = nI (a - b) := pk_sub h
def SOK (f : Nat → Int32) : Prop := ∀ t, t < 4 → Wi (f t) (-1) 4
/-- what stamps answers -/
noncomputable def STA (x1 x2 x3 x4 : Int32) (kp kst : Nat) (so si it : Nat → Int32) : Int32 := ifc (Hs x1 kp) (ifc (Wi x2 0 3) (ifc (Wi x4 0 9) (ifc (so x2.toNatClampNeg < 0) (-11) (ifc (so x2.toNatClampNeg = 1) (ifc (OUTS x3 (si x2.toNatClampNeg) x4) (-12) (ifc (ALS it (x2.toNatClampNeg * 40) x3.toNatClampNeg x4.toNatClampNeg) (ifc (24 < kst + x4.toNatClampNeg) (-2) (nI (kst + x4.toNatClampNeg))) (-4))) (-13))) (-1)) (-1)) (-1)
/-- how many stamps there are behind it -/
noncomputable def STK (a : Int32) (kst : Nat) : Int32 := ifc (a < 0) (nI kst) a
section WR
variable {p : Program} {l : Launch} {e : Env} {R : Room} {s : State} {m : MethodId} {args : Array Value} {below : List Frame} {meth : Method} {c : Code} {H : Heap} {locs : List Loc} {cells slots : Nat} {Q : State → Prop}
variable {pc : Nat} {ls : Array Slot} {rest : List Value} {G : GG} {ws : va_W} {A : Nat → Prop} {y0 : MethodName} {b0 : ByteArray} {mL0 : Nat} {rt0 : Option FieldType} {a : Nat} {H0 : Heap}
theorem gX11_stamp_0 : (decode cX11_stamp 0 = .ok (.aload_n 0, 1)) ∧ (decode cX11_stamp 1 = .ok (.getfield 15, 3)) ∧ (decode cX11_stamp 4 = .ok (.getfield 144, 3)) ∧ (decode cX11_stamp 7 = .ok (.iload_n 1, 1)) ∧ (decode cX11_stamp 8 = .ok (.invokevirtual 124, 3)) ∧ (decode cX11_stamp 11 = .ok (.ifCond .eq 11, 3)) ∧ (decode cX11_stamp 14 = .ok (.iload_n 2, 1)) ∧ (decode cX11_stamp 15 = .ok (.iload_n 3, 1)) ∧ (decode cX11_stamp 16 = .ok (.invokestatic 154, 3)) ∧ (decode cX11_stamp 19 = .ok (.ifCond .ne 5, 3)) := by decide +kernel
theorem m_394 : Cond.code yX11_isStamp cX11_isStamp 2 (some .boolean) ∈ BW := iB_BW21 _ (List.mem_of_getElem? (i := 18) rfl)
theorem m_392 : Cond.methodLink RX11 154 yX11_isStamp ∈ BW := iB_BW21 _ (List.mem_of_getElem? (i := 16) rfl)
theorem m_393 : Cond.static yX11_isStamp ∈ BW := iB_BW21 _ (List.mem_of_getElem? (i := 17) rfl)
theorem si_X11_154 : SS RX11 154 yX11_isStamp cX11_isStamp 2 (some .boolean) 2 := ⟨⟨m_392, m_393, m_102, m_394⟩, ⟨nK_RX11.1, nK_RX11.2, pd_3⟩⟩
theorem gX11_stamp_1 : (decode cX11_stamp 22 = .ok (.iconst (-1), 1)) ∧ (decode cX11_stamp 23 = .ok (.ireturn, 1)) ∧ (decode cX11_stamp 24 = .ok (.aload_n 0, 1)) ∧ (decode cX11_stamp 25 = .ok (.getfield 15, 3)) ∧ (decode cX11_stamp 28 = .ok (.getfield 157, 3)) ∧ (decode cX11_stamp 31 = .ok (.invokevirtual 111, 3)) ∧ (decode cX11_stamp 34 = .ok (.ifCond .eq 6, 3)) ∧ (decode cX11_stamp 37 = .ok (.bipush (-2), 2)) ∧ (decode cX11_stamp 39 = .ok (.ireturn, 1)) ∧ (decode cX11_stamp 40 = .ok (.aload_n 0, 1)) := by decide +kernel
theorem nm_11 : Cond.fieldLinkNest RX11 157 RX0 "stamps" "LInquiryBench$Table;" RX11 ∈ NestW := List.mem_of_getElem? (i := 11) rfl
theorem gf_X11_157 (hC : CX p s m meth c y0 b0 mL0 rt0 args) (hy0 : y0.cls = RX11) (hK : KK G s) (hP : va_P G.1 vwCl ws H) (q0 : Nat) {fs : List Value} {v : Value} (he : ws[q0]? = some (a, .inr (0, fs))) (hv : fs[2]? = some v) (hdg : decode b0 pc = .ok (.getfield 157, 3)) (kk : W p l e R s m args below meth c H locs cells slots Q (F0 m (pc + 3) ls (v :: rest))) : W p l e R s m args below meth c H locs cells slots Q (F0 m pc ls (.ref a :: rest)) := by
  obtain ⟨hx, hb, hr, hml, hB, hown, hlocks, hnm⟩ := hC
  rw [hy0] at hown
  exact va_getN (ci := 0) (C := RX0) (T := TX0) (N := 14) hx hb hB in_X0 hown hK.1 hP q0 he rfl 2 (by decide) (va_Nw.use rfl (hK.2.1 _ nm_11)) (fun _ h => h) hv hdg kk
theorem gX11_stamp_2 : (decode cX11_stamp 41 = .ok (.getfield 15, 3)) ∧ (decode cX11_stamp 44 = .ok (.iload_n 1, 1)) ∧ (decode cX11_stamp 45 = .ok (.iload_n 2, 1)) ∧ (decode cX11_stamp 46 = .ok (.iload_n 3, 1)) ∧ (decode cX11_stamp 47 = .ok (.invokevirtual 160, 3)) ∧ (decode cX11_stamp 50 = .ok (.ireturn, 1)) := by decide +kernel
theorem m_398 : Cond.code yX0_addStamp cX0_addStamp 5 (some .int) ∈ BW := iB_BW22 _ (List.mem_of_getElem? (i := 2) rfl)
theorem pd_19 : (parseMethodDescriptor "(III)I").map (fun d => d.parameters.length) = some 3 := by decide +kernel
theorem m_395 : Cond.methodLink RX11 160 yX0_addStamp ∈ BW := iB_BW21 _ (List.mem_of_getElem? (i := 19) rfl)
theorem m_396 : Cond.instanceMethod yX0_addStamp ∈ BW := iB_BW22 _ (List.mem_of_getElem? (i := 0) rfl)
theorem m_397 : Cond.selects RX0 yX0_addStamp yX0_addStamp ∈ BW := iB_BW22 _ (List.mem_of_getElem? (i := 1) rfl)
theorem si_X11_160 : SV RX11 RX0 160 yX0_addStamp cX0_addStamp 5 (some .int) 3 := ⟨⟨m_395, m_396, m_397, m_103, m_398⟩, rfl, nK_RX0.1, nK_RX0.2, pd_19⟩
theorem gX11_again_0 : (decode cX11_again 0 = .ok (.aload_n 0, 1)) ∧ (decode cX11_again 1 = .ok (.getfield 24, 3)) ∧ (decode cX11_again 4 = .ok (.ifCond .ne 6, 3)) ∧ (decode cX11_again 7 = .ok (.bipush (-3), 2)) ∧ (decode cX11_again 9 = .ok (.ireturn, 1)) ∧ (decode cX11_again 10 = .ok (.aload_n 0, 1)) ∧ (decode cX11_again 11 = .ok (.getfield 15, 3)) ∧ (decode cX11_again 14 = .ok (.aload_n 0, 1)) ∧ (decode cX11_again 15 = .ok (.getfield 21, 3)) ∧ (decode cX11_again 18 = .ok (.invokevirtual 361, 3)) := by decide +kernel
theorem m_279 : Cond.fieldLink RX11 24 "InquiryBench" "isKept" "Z" ∈ BW := iB_BW15 _ (List.mem_of_getElem? (i := 5) rfl)
theorem gf_X11_24 (hC : CX p s m meth c y0 b0 mL0 rt0 args) (hy0 : y0.cls = RX11) (hK : KK G s) (hP : va_P G.1 vwCl ws H) (q0 : Nat) {fs : List Value} {v : Value} (he : ws[q0]? = some (a, .inr (11, fs))) (hv : fs[2]? = some v) (hdg : decode b0 pc = .ok (.getfield 24, 3)) (kk : W p l e R s m args below meth c H locs cells slots Q (F0 m (pc + 3) ls (v :: rest))) : W p l e R s m args below meth c H locs cells slots Q (F0 m pc ls (.ref a :: rest)) := by
  obtain ⟨hx, hb, hr, hml, hB, hown, hlocks, hnm⟩ := hC
  rw [hy0] at hown
  exact va_get (ci := 11) (C := RX11) (T := TX11) (N := 11) hx hb hB in_X11 hown hK.1 hP q0 he rfl 2 (by decide) (hB _ m_279) (fun _ h => h) hv hdg kk
end WR
/-- the sayings' persons, hours and weights are there -/
def SPO (f : Nat → Int32) (ks kp : Nat) : Prop := ∀ s, s < ks → Hs (f (s * 8 + 1)) kp ∧ (∃ h, h ≤ 999 ∧ f (s * 8 + 3) = nI h) ∧ ∃ w, w ≤ 9 ∧ f (s * 8 + 4) = nI w
theorem SPO.nil {f : Nat → Int32} {kp : Nat} : SPO f 0 kp := fun s h => absurd h (Nat.not_lt_zero s)
theorem SPO.mono {f : Nat → Int32} {ks kp kp2 : Nat} (h : SPO f ks kp) (hk : kp ≤ kp2) (h2 : kp2 < 2 ^ 31) : SPO f ks kp2 := fun s hs => ⟨Hs_mono (h s hs).1 hk h2, (h s hs).2⟩
theorem SPO.cp {f g : Nat → Int32} {ks kp : Nat} (h : SPO f ks kp) (hk : ks ≤ 16) (e : ∀ j, j < 128 → g j = f j) : SPO g ks kp := fun s hs => by
  rw [e _ (by omega), e _ (by omega), e _ (by omega)]
  exact h s hs
theorem rw8_1 {f : Nat → Int32} {k : Nat} {a0 a1 a2 a3 a4 a5 a6 a7 : Int32} : rowu f (k * 8) [a0, a1, a2, a3, a4, a5, a6, a7] (k * 8 + 1) = a1 := by
  show upd (upd (upd (upd (upd (upd (upd (upd f (k * 8 + 0) a0) (k * 8 + 1) a1) (k * 8 + 2) a2) (k * 8 + 3) a3) (k * 8 + 4) a4) (k * 8 + 5) a5) (k * 8 + 6) a6) (k * 8 + 7) a7 (k * 8 + 1) = a1
  rw [up_ne (by omega), up_ne (by omega), up_ne (by omega), up_ne (by omega), up_ne (by omega), up_ne (by omega), up_eq (by omega)]
theorem rw8_3 {f : Nat → Int32} {k : Nat} {a0 a1 a2 a3 a4 a5 a6 a7 : Int32} : rowu f (k * 8) [a0, a1, a2, a3, a4, a5, a6, a7] (k * 8 + 3) = a3 := by
  show upd (upd (upd (upd (upd (upd (upd (upd f (k * 8 + 0) a0) (k * 8 + 1) a1) (k * 8 + 2) a2) (k * 8 + 3) a3) (k * 8 + 4) a4) (k * 8 + 5) a5) (k * 8 + 6) a6) (k * 8 + 7) a7 (k * 8 + 3) = a3
  rw [up_ne (by omega), up_ne (by omega), up_ne (by omega), up_ne (by omega), up_eq (by omega)]
theorem rw8_4 {f : Nat → Int32} {k : Nat} {a0 a1 a2 a3 a4 a5 a6 a7 : Int32} : rowu f (k * 8) [a0, a1, a2, a3, a4, a5, a6, a7] (k * 8 + 4) = a4 := by
  show upd (upd (upd (upd (upd (upd (upd (upd f (k * 8 + 0) a0) (k * 8 + 1) a1) (k * 8 + 2) a2) (k * 8 + 3) a3) (k * 8 + 4) a4) (k * 8 + 5) a5) (k * 8 + 6) a6) (k * 8 + 7) a7 (k * 8 + 4) = a4
  rw [up_ne (by omega), up_ne (by omega), up_ne (by omega), up_eq (by omega)]
theorem rw8_o {f : Nat → Int32} {k i : Nat} {a0 a1 a2 a3 a4 a5 a6 a7 : Int32} (h : i < k * 8) : rowu f (k * 8) [a0, a1, a2, a3, a4, a5, a6, a7] i = f i := by
  show upd (upd (upd (upd (upd (upd (upd (upd f (k * 8 + 0) a0) (k * 8 + 1) a1) (k * 8 + 2) a2) (k * 8 + 3) a3) (k * 8 + 4) a4) (k * 8 + 5) a5) (k * 8 + 6) a6) (k * 8 + 7) a7 i = f i
  rw [up_ne (by omega), up_ne (by omega), up_ne (by omega), up_ne (by omega), up_ne (by omega), up_ne (by omega), up_ne (by omega), up_ne (by omega)]
theorem SPO.row {f : Nat → Int32} {k kp : Nat} {a0 a1 a2 a3 a4 a5 a6 a7 : Int32} (h : SPO f k kp) (h1 : Hs a1 kp) (h3 : ∃ h, h ≤ 999 ∧ a3 = nI h) (h4 : ∃ w, w ≤ 9 ∧ a4 = nI w) : SPO (rowu f (k * 8) [a0, a1, a2, a3, a4, a5, a6, a7]) (k + 1) kp := by
  intro s hs
  by_cases e : s = k
  · rw [e, rw8_1, rw8_3, rw8_4]
    exact ⟨h1, h3, h4⟩
  · rw [rw8_o (by omega), rw8_o (by omega), rw8_o (by omega)]
    exact h s (by omega)
theorem HOW.nat {x : Int32} (h : HOW x) : ∃ n, n ≤ 9999 ∧ x = nI n := by
  have h1 := Wi_iff.mp h.1
  have e1 : (1 : Int32).toInt = 1 := by decide
  have e9 : (9999 : Int32).toInt = 9999 := by decide
  rw [e1, e9] at h1
  have h0 : ¬ x < 0 := by
    rw [Int32.lt_iff_toInt_lt]
    have e0 : (0 : Int32).toInt = 0 := by decide
    omega
  obtain ⟨j, hj, rfl⟩ := nI_of h0
  rw [nI_toInt hj] at h1
  exact ⟨j, by omega, rfl⟩
theorem HOW.hour {x a : Int32} (h : HOW x) (e : a = x / 10) : ∃ h, h ≤ 999 ∧ a = nI h := by
  obtain ⟨n, hn, rfl⟩ := h.nat
  exact ⟨n / 10, by omega, e.trans (how_div (by omega))⟩
theorem HOW.wgt {x a : Int32} (h : HOW x) (e : a = x - x / 10 * 10) : ∃ w, w ≤ 9 ∧ a = nI w := by
  obtain ⟨n, hn, rfl⟩ := h.nat
  exact ⟨n % 10, by omega, e.trans (how_rem (by omega))⟩
section WR
variable {p : Program} {l : Launch} {e : Env} {R : Room} {s : State} {m : MethodId} {args : Array Value} {below : List Frame} {meth : Method} {c : Code} {H : Heap} {locs : List Loc} {cells slots : Nat} {Q : State → Prop}
variable {pc : Nat} {ls : Array Slot} {rest : List Value} {G : GG} {ws : va_W} {A : Nat → Prop} {y0 : MethodName} {b0 : ByteArray} {mL0 : Nat} {rt0 : Option FieldType} {a : Nat} {H0 : Heap}
theorem gX11_saying_0 : (decode cX11_saying 0 = .ok (.aload_n 0, 1)) ∧ (decode cX11_saying 1 = .ok (.getfield 15, 3)) ∧ (decode cX11_saying 4 = .ok (.getfield 107, 3)) ∧ (decode cX11_saying 7 = .ok (.iload_n 1, 1)) ∧ (decode cX11_saying 8 = .ok (.invokevirtual 124, 3)) ∧ (decode cX11_saying 11 = .ok (.ifCond .eq 31, 3)) ∧ (decode cX11_saying 14 = .ok (.aload_n 0, 1)) ∧ (decode cX11_saying 15 = .ok (.getfield 15, 3)) ∧ (decode cX11_saying 18 = .ok (.getfield 107, 3)) ∧ (decode cX11_saying 21 = .ok (.iload_n 2, 1)) := by decide +kernel
theorem gX11_saying_1 : (decode cX11_saying 22 = .ok (.invokevirtual 124, 3)) ∧ (decode cX11_saying 25 = .ok (.ifCond .eq 17, 3)) ∧ (decode cX11_saying 28 = .ok (.aload_n 0, 1)) ∧ (decode cX11_saying 29 = .ok (.getfield 15, 3)) ∧ (decode cX11_saying 32 = .ok (.getfield 144, 3)) ∧ (decode cX11_saying 35 = .ok (.iload_n 3, 1)) ∧ (decode cX11_saying 36 = .ok (.invokevirtual 124, 3)) ∧ (decode cX11_saying 39 = .ok (.ifCond .ne 5, 3)) ∧ (decode cX11_saying 42 = .ok (.iconst (-1), 1)) ∧ (decode cX11_saying 43 = .ok (.ireturn, 1)) := by decide +kernel
theorem gX11_saying_2 : (decode cX11_saying 44 = .ok (.iload 4, 2)) ∧ (decode cX11_saying 46 = .ok (.ifCond .lt 26, 3)) ∧ (decode cX11_saying 49 = .ok (.iload 4, 2)) ∧ (decode cX11_saying 51 = .ok (.bipush 10, 2)) ∧ (decode cX11_saying 53 = .ok (.idiv, 1)) ∧ (decode cX11_saying 54 = .ok (.iconst 0, 1)) ∧ (decode cX11_saying 55 = .ok (.sipush 999, 3)) ∧ (decode cX11_saying 58 = .ok (.invokestatic 83, 3)) ∧ (decode cX11_saying 61 = .ok (.ifCond .eq 11, 3)) ∧ (decode cX11_saying 64 = .ok (.iload 4, 2)) := by decide +kernel
theorem gX11_saying_3 : (decode cX11_saying 66 = .ok (.bipush 10, 2)) ∧ (decode cX11_saying 68 = .ok (.irem, 1)) ∧ (decode cX11_saying 69 = .ok (.ifCond .ne 5, 3)) ∧ (decode cX11_saying 72 = .ok (.iconst (-1), 1)) ∧ (decode cX11_saying 73 = .ok (.ireturn, 1)) ∧ (decode cX11_saying 74 = .ok (.iload 6, 2)) ∧ (decode cX11_saying 76 = .ok (.iconst (-1), 1)) ∧ (decode cX11_saying 77 = .ok (.if_icmp .eq 20, 3)) ∧ (decode cX11_saying 80 = .ok (.aload_n 0, 1)) ∧ (decode cX11_saying 81 = .ok (.getfield 15, 3)) := by decide +kernel
theorem gX11_saying_4 : (decode cX11_saying 84 = .ok (.getfield 256, 3)) ∧ (decode cX11_saying 87 = .ok (.iload 6, 2)) ∧ (decode cX11_saying 89 = .ok (.invokevirtual 124, 3)) ∧ (decode cX11_saying 92 = .ok (.ifCond .ne 5, 3)) ∧ (decode cX11_saying 95 = .ok (.iconst (-1), 1)) ∧ (decode cX11_saying 96 = .ok (.ireturn, 1)) ∧ (decode cX11_saying 97 = .ok (.aload_n 0, 1)) ∧ (decode cX11_saying 98 = .ok (.getfield 15, 3)) ∧ (decode cX11_saying 101 = .ok (.getfield 256, 3)) ∧ (decode cX11_saying 104 = .ok (.invokevirtual 111, 3)) := by decide +kernel
theorem nm_23 : Cond.fieldLinkNest RX11 256 RX0 "sayings" "LInquiryBench$Table;" RX11 ∈ NestW := List.mem_of_getElem? (i := 23) rfl
theorem gf_X11_256 (hC : CX p s m meth c y0 b0 mL0 rt0 args) (hy0 : y0.cls = RX11) (hK : KK G s) (hP : va_P G.1 vwCl ws H) (q0 : Nat) {fs : List Value} {v : Value} (he : ws[q0]? = some (a, .inr (0, fs))) (hv : fs[6]? = some v) (hdg : decode b0 pc = .ok (.getfield 256, 3)) (kk : W p l e R s m args below meth c H locs cells slots Q (F0 m (pc + 3) ls (v :: rest))) : W p l e R s m args below meth c H locs cells slots Q (F0 m pc ls (.ref a :: rest)) := by
  obtain ⟨hx, hb, hr, hml, hB, hown, hlocks, hnm⟩ := hC
  rw [hy0] at hown
  exact va_getN (ci := 0) (C := RX0) (T := TX0) (N := 14) hx hb hB in_X0 hown hK.1 hP q0 he rfl 6 (by decide) (va_Nw.use rfl (hK.2.1 _ nm_23)) (fun _ h => h) hv hdg kk
theorem gX11_saying_5 : (decode cX11_saying 107 = .ok (.ifCond .eq 6, 3)) ∧ (decode cX11_saying 110 = .ok (.bipush (-2), 2)) ∧ (decode cX11_saying 112 = .ok (.ireturn, 1)) ∧ (decode cX11_saying 113 = .ok (.aload_n 0, 1)) ∧ (decode cX11_saying 114 = .ok (.getfield 15, 3)) ∧ (decode cX11_saying 117 = .ok (.getfield 256, 3)) ∧ (decode cX11_saying 120 = .ok (.invokevirtual 117, 3)) ∧ (decode cX11_saying 123 = .ok (.istore 7, 2)) ∧ (decode cX11_saying 125 = .ok (.aload_n 0, 1)) ∧ (decode cX11_saying 126 = .ok (.getfield 15, 3)) := by decide +kernel
theorem gX11_saying_6 : (decode cX11_saying 129 = .ok (.getfield 256, 3)) ∧ (decode cX11_saying 132 = .ok (.iload 7, 2)) ∧ (decode cX11_saying 134 = .ok (.iconst 0, 1)) ∧ (decode cX11_saying 135 = .ok (.iload_n 1, 1)) ∧ (decode cX11_saying 136 = .ok (.invokevirtual 120, 3)) ∧ (decode cX11_saying 139 = .ok (.aload_n 0, 1)) ∧ (decode cX11_saying 140 = .ok (.getfield 15, 3)) ∧ (decode cX11_saying 143 = .ok (.getfield 256, 3)) ∧ (decode cX11_saying 146 = .ok (.iload 7, 2)) ∧ (decode cX11_saying 148 = .ok (.iconst 1, 1)) := by decide +kernel
theorem gX11_saying_7 : (decode cX11_saying 149 = .ok (.iload_n 2, 1)) ∧ (decode cX11_saying 150 = .ok (.invokevirtual 120, 3)) ∧ (decode cX11_saying 153 = .ok (.aload_n 0, 1)) ∧ (decode cX11_saying 154 = .ok (.getfield 15, 3)) ∧ (decode cX11_saying 157 = .ok (.getfield 256, 3)) ∧ (decode cX11_saying 160 = .ok (.iload 7, 2)) ∧ (decode cX11_saying 162 = .ok (.iconst 2, 1)) ∧ (decode cX11_saying 163 = .ok (.iload_n 3, 1)) ∧ (decode cX11_saying 164 = .ok (.invokevirtual 120, 3)) ∧ (decode cX11_saying 167 = .ok (.aload_n 0, 1)) := by decide +kernel
theorem gX11_saying_8 : (decode cX11_saying 168 = .ok (.getfield 15, 3)) ∧ (decode cX11_saying 171 = .ok (.getfield 256, 3)) ∧ (decode cX11_saying 174 = .ok (.iload 7, 2)) ∧ (decode cX11_saying 176 = .ok (.iconst 3, 1)) ∧ (decode cX11_saying 177 = .ok (.iload 4, 2)) ∧ (decode cX11_saying 179 = .ok (.bipush 10, 2)) ∧ (decode cX11_saying 181 = .ok (.idiv, 1)) ∧ (decode cX11_saying 182 = .ok (.invokevirtual 120, 3)) ∧ (decode cX11_saying 185 = .ok (.aload_n 0, 1)) ∧ (decode cX11_saying 186 = .ok (.getfield 15, 3)) := by decide +kernel
theorem gX11_saying_9 : (decode cX11_saying 189 = .ok (.getfield 256, 3)) ∧ (decode cX11_saying 192 = .ok (.iload 7, 2)) ∧ (decode cX11_saying 194 = .ok (.iconst 4, 1)) ∧ (decode cX11_saying 195 = .ok (.iload 4, 2)) ∧ (decode cX11_saying 197 = .ok (.bipush 10, 2)) ∧ (decode cX11_saying 199 = .ok (.irem, 1)) ∧ (decode cX11_saying 200 = .ok (.invokevirtual 120, 3)) ∧ (decode cX11_saying 203 = .ok (.aload_n 0, 1)) ∧ (decode cX11_saying 204 = .ok (.getfield 15, 3)) ∧ (decode cX11_saying 207 = .ok (.getfield 256, 3)) := by decide +kernel
theorem gX11_saying_10 : (decode cX11_saying 210 = .ok (.iload 7, 2)) ∧ (decode cX11_saying 212 = .ok (.iconst 5, 1)) ∧ (decode cX11_saying 213 = .ok (.iload 5, 2)) ∧ (decode cX11_saying 215 = .ok (.ifCond .eq 7, 3)) ∧ (decode cX11_saying 218 = .ok (.iconst 1, 1)) ∧ (decode cX11_saying 219 = .ok (.goto 4, 3)) ∧ (decode cX11_saying 222 = .ok (.iconst 0, 1)) ∧ (decode cX11_saying 223 = .ok (.invokevirtual 120, 3)) ∧ (decode cX11_saying 226 = .ok (.aload_n 0, 1)) ∧ (decode cX11_saying 227 = .ok (.getfield 15, 3)) := by decide +kernel
theorem gX11_saying_11 : (decode cX11_saying 230 = .ok (.getfield 256, 3)) ∧ (decode cX11_saying 233 = .ok (.iload 7, 2)) ∧ (decode cX11_saying 235 = .ok (.bipush 6, 2)) ∧ (decode cX11_saying 237 = .ok (.iload 6, 2)) ∧ (decode cX11_saying 239 = .ok (.invokevirtual 120, 3)) ∧ (decode cX11_saying 242 = .ok (.aload_n 0, 1)) ∧ (decode cX11_saying 243 = .ok (.getfield 15, 3)) ∧ (decode cX11_saying 246 = .ok (.getfield 256, 3)) ∧ (decode cX11_saying 249 = .ok (.iload 7, 2)) ∧ (decode cX11_saying 251 = .ok (.bipush 7, 2)) := by decide +kernel
theorem gX11_saying_12 : (decode cX11_saying 253 = .ok (.aload_n 0, 1)) ∧ (decode cX11_saying 254 = .ok (.getfield 15, 3)) ∧ (decode cX11_saying 257 = .ok (.getfield 87, 3)) ∧ (decode cX11_saying 260 = .ok (.invokevirtual 120, 3)) ∧ (decode cX11_saying 263 = .ok (.iload 7, 2)) ∧ (decode cX11_saying 265 = .ok (.ireturn, 1)) := by decide +kernel
theorem gX11_finding_0 : (decode cX11_finding 0 = .ok (.aload_n 0, 1)) ∧ (decode cX11_finding 1 = .ok (.getfield 15, 3)) ∧ (decode cX11_finding 4 = .ok (.getfield 107, 3)) ∧ (decode cX11_finding 7 = .ok (.iload_n 1, 1)) ∧ (decode cX11_finding 8 = .ok (.invokevirtual 124, 3)) ∧ (decode cX11_finding 11 = .ok (.ifCond .eq 29, 3)) ∧ (decode cX11_finding 14 = .ok (.iload_n 2, 1)) ∧ (decode cX11_finding 15 = .ok (.invokestatic 213, 3)) ∧ (decode cX11_finding 18 = .ok (.ifCond .eq 22, 3)) ∧ (decode cX11_finding 21 = .ok (.iload_n 3, 1)) := by decide +kernel
theorem m_545 : Cond.methodLink RX11 213 yX11_isThing ∈ BW := iB_BW29 _ (List.mem_of_getElem? (i := 9) rfl)
theorem si_X11_213 : SS RX11 213 yX11_isThing cX11_isThing 1 (some .boolean) 1 := ⟨⟨m_545, m_546, m_102, m_547⟩, ⟨nK_RX11.1, nK_RX11.2, pd_5⟩⟩
theorem gX11_finding_1 : (decode cX11_finding 22 = .ok (.iconst 0, 1)) ∧ (decode cX11_finding 23 = .ok (.sipush 999, 3)) ∧ (decode cX11_finding 26 = .ok (.invokestatic 83, 3)) ∧ (decode cX11_finding 29 = .ok (.ifCond .eq 11, 3)) ∧ (decode cX11_finding 32 = .ok (.iload 4, 2)) ∧ (decode cX11_finding 34 = .ok (.invokestatic 216, 3)) ∧ (decode cX11_finding 37 = .ok (.ifCond .ne 5, 3)) ∧ (decode cX11_finding 40 = .ok (.iconst (-1), 1)) ∧ (decode cX11_finding 41 = .ok (.ireturn, 1)) ∧ (decode cX11_finding 42 = .ok (.aload_n 0, 1)) := by decide +kernel
theorem m_550 : Cond.code yX11_isWay cX11_isWay 1 (some .boolean) ∈ BW := iB_BW29 _ (List.mem_of_getElem? (i := 14) rfl)
theorem m_548 : Cond.methodLink RX11 216 yX11_isWay ∈ BW := iB_BW29 _ (List.mem_of_getElem? (i := 12) rfl)
theorem m_549 : Cond.static yX11_isWay ∈ BW := iB_BW29 _ (List.mem_of_getElem? (i := 13) rfl)
theorem si_X11_216 : SS RX11 216 yX11_isWay cX11_isWay 1 (some .boolean) 1 := ⟨⟨m_548, m_549, m_102, m_550⟩, ⟨nK_RX11.1, nK_RX11.2, pd_5⟩⟩
theorem gX11_finding_2 : (decode cX11_finding 43 = .ok (.getfield 15, 3)) ∧ (decode cX11_finding 46 = .ok (.getfield 271, 3)) ∧ (decode cX11_finding 49 = .ok (.invokevirtual 111, 3)) ∧ (decode cX11_finding 52 = .ok (.ifCond .eq 6, 3)) ∧ (decode cX11_finding 55 = .ok (.bipush (-2), 2)) ∧ (decode cX11_finding 57 = .ok (.ireturn, 1)) ∧ (decode cX11_finding 58 = .ok (.aload_n 0, 1)) ∧ (decode cX11_finding 59 = .ok (.getfield 15, 3)) ∧ (decode cX11_finding 62 = .ok (.getfield 271, 3)) ∧ (decode cX11_finding 65 = .ok (.invokevirtual 117, 3)) := by decide +kernel
theorem nm_26 : Cond.fieldLinkNest RX11 271 RX0 "findings" "LInquiryBench$Table;" RX11 ∈ NestW := List.mem_of_getElem? (i := 26) rfl
theorem gf_X11_271 (hC : CX p s m meth c y0 b0 mL0 rt0 args) (hy0 : y0.cls = RX11) (hK : KK G s) (hP : va_P G.1 vwCl ws H) (q0 : Nat) {fs : List Value} {v : Value} (he : ws[q0]? = some (a, .inr (0, fs))) (hv : fs[7]? = some v) (hdg : decode b0 pc = .ok (.getfield 271, 3)) (kk : W p l e R s m args below meth c H locs cells slots Q (F0 m (pc + 3) ls (v :: rest))) : W p l e R s m args below meth c H locs cells slots Q (F0 m pc ls (.ref a :: rest)) := by
  obtain ⟨hx, hb, hr, hml, hB, hown, hlocks, hnm⟩ := hC
  rw [hy0] at hown
  exact va_getN (ci := 0) (C := RX0) (T := TX0) (N := 14) hx hb hB in_X0 hown hK.1 hP q0 he rfl 7 (by decide) (va_Nw.use rfl (hK.2.1 _ nm_26)) (fun _ h => h) hv hdg kk
theorem gX11_finding_3 : (decode cX11_finding 68 = .ok (.istore 5, 2)) ∧ (decode cX11_finding 70 = .ok (.aload_n 0, 1)) ∧ (decode cX11_finding 71 = .ok (.getfield 15, 3)) ∧ (decode cX11_finding 74 = .ok (.getfield 271, 3)) ∧ (decode cX11_finding 77 = .ok (.iload 5, 2)) ∧ (decode cX11_finding 79 = .ok (.iconst 0, 1)) ∧ (decode cX11_finding 80 = .ok (.iload_n 1, 1)) ∧ (decode cX11_finding 81 = .ok (.invokevirtual 120, 3)) ∧ (decode cX11_finding 84 = .ok (.aload_n 0, 1)) ∧ (decode cX11_finding 85 = .ok (.getfield 15, 3)) := by decide +kernel
theorem gX11_finding_4 : (decode cX11_finding 88 = .ok (.getfield 271, 3)) ∧ (decode cX11_finding 91 = .ok (.iload 5, 2)) ∧ (decode cX11_finding 93 = .ok (.iconst 1, 1)) ∧ (decode cX11_finding 94 = .ok (.iload_n 2, 1)) ∧ (decode cX11_finding 95 = .ok (.invokevirtual 120, 3)) ∧ (decode cX11_finding 98 = .ok (.aload_n 0, 1)) ∧ (decode cX11_finding 99 = .ok (.getfield 15, 3)) ∧ (decode cX11_finding 102 = .ok (.getfield 271, 3)) ∧ (decode cX11_finding 105 = .ok (.iload 5, 2)) ∧ (decode cX11_finding 107 = .ok (.iconst 2, 1)) := by decide +kernel
theorem gX11_finding_5 : (decode cX11_finding 108 = .ok (.iload_n 3, 1)) ∧ (decode cX11_finding 109 = .ok (.invokevirtual 120, 3)) ∧ (decode cX11_finding 112 = .ok (.aload_n 0, 1)) ∧ (decode cX11_finding 113 = .ok (.getfield 15, 3)) ∧ (decode cX11_finding 116 = .ok (.getfield 271, 3)) ∧ (decode cX11_finding 119 = .ok (.iload 5, 2)) ∧ (decode cX11_finding 121 = .ok (.iconst 3, 1)) ∧ (decode cX11_finding 122 = .ok (.iload 4, 2)) ∧ (decode cX11_finding 124 = .ok (.invokevirtual 120, 3)) ∧ (decode cX11_finding 127 = .ok (.iload 5, 2)) := by decide +kernel
theorem gX11_finding_6 : (decode cX11_finding 129 = .ok (.ireturn, 1)) := by decide +kernel
theorem gX11_warn_0 : (decode cX11_warn 0 = .ok (.aload_n 0, 1)) ∧ (decode cX11_warn 1 = .ok (.getfield 15, 3)) ∧ (decode cX11_warn 4 = .ok (.getfield 107, 3)) ∧ (decode cX11_warn 7 = .ok (.iload_n 1, 1)) ∧ (decode cX11_warn 8 = .ok (.invokevirtual 124, 3)) ∧ (decode cX11_warn 11 = .ok (.ifCond .eq 17, 3)) ∧ (decode cX11_warn 14 = .ok (.aload_n 0, 1)) ∧ (decode cX11_warn 15 = .ok (.getfield 15, 3)) ∧ (decode cX11_warn 18 = .ok (.getfield 144, 3)) ∧ (decode cX11_warn 21 = .ok (.iload_n 2, 1)) := by decide +kernel
theorem gX11_warn_1 : (decode cX11_warn 22 = .ok (.invokevirtual 124, 3)) ∧ (decode cX11_warn 25 = .ok (.ifCond .ne 5, 3)) ∧ (decode cX11_warn 28 = .ok (.iconst (-1), 1)) ∧ (decode cX11_warn 29 = .ok (.ireturn, 1)) ∧ (decode cX11_warn 30 = .ok (.aload_n 0, 1)) ∧ (decode cX11_warn 31 = .ok (.getfield 15, 3)) ∧ (decode cX11_warn 34 = .ok (.getfield 283, 3)) ∧ (decode cX11_warn 37 = .ok (.invokevirtual 111, 3)) ∧ (decode cX11_warn 40 = .ok (.ifCond .eq 6, 3)) ∧ (decode cX11_warn 43 = .ok (.bipush (-2), 2)) := by decide +kernel
theorem nm_27 : Cond.fieldLinkNest RX11 283 RX0 "warnings" "LInquiryBench$Table;" RX11 ∈ NestW := List.mem_of_getElem? (i := 27) rfl
theorem gf_X11_283 (hC : CX p s m meth c y0 b0 mL0 rt0 args) (hy0 : y0.cls = RX11) (hK : KK G s) (hP : va_P G.1 vwCl ws H) (q0 : Nat) {fs : List Value} {v : Value} (he : ws[q0]? = some (a, .inr (0, fs))) (hv : fs[8]? = some v) (hdg : decode b0 pc = .ok (.getfield 283, 3)) (kk : W p l e R s m args below meth c H locs cells slots Q (F0 m (pc + 3) ls (v :: rest))) : W p l e R s m args below meth c H locs cells slots Q (F0 m pc ls (.ref a :: rest)) := by
  obtain ⟨hx, hb, hr, hml, hB, hown, hlocks, hnm⟩ := hC
  rw [hy0] at hown
  exact va_getN (ci := 0) (C := RX0) (T := TX0) (N := 14) hx hb hB in_X0 hown hK.1 hP q0 he rfl 8 (by decide) (va_Nw.use rfl (hK.2.1 _ nm_27)) (fun _ h => h) hv hdg kk
theorem gX11_warn_2 : (decode cX11_warn 45 = .ok (.ireturn, 1)) ∧ (decode cX11_warn 46 = .ok (.aload_n 0, 1)) ∧ (decode cX11_warn 47 = .ok (.getfield 15, 3)) ∧ (decode cX11_warn 50 = .ok (.getfield 283, 3)) ∧ (decode cX11_warn 53 = .ok (.invokevirtual 117, 3)) ∧ (decode cX11_warn 56 = .ok (.istore_n 3, 1)) ∧ (decode cX11_warn 57 = .ok (.aload_n 0, 1)) ∧ (decode cX11_warn 58 = .ok (.getfield 15, 3)) ∧ (decode cX11_warn 61 = .ok (.getfield 283, 3)) ∧ (decode cX11_warn 64 = .ok (.iload_n 3, 1)) := by decide +kernel
theorem gX11_warn_3 : (decode cX11_warn 65 = .ok (.iconst 0, 1)) ∧ (decode cX11_warn 66 = .ok (.iload_n 1, 1)) ∧ (decode cX11_warn 67 = .ok (.invokevirtual 120, 3)) ∧ (decode cX11_warn 70 = .ok (.aload_n 0, 1)) ∧ (decode cX11_warn 71 = .ok (.getfield 15, 3)) ∧ (decode cX11_warn 74 = .ok (.getfield 283, 3)) ∧ (decode cX11_warn 77 = .ok (.iload_n 3, 1)) ∧ (decode cX11_warn 78 = .ok (.iconst 1, 1)) ∧ (decode cX11_warn 79 = .ok (.iload_n 2, 1)) ∧ (decode cX11_warn 80 = .ok (.invokevirtual 120, 3)) := by decide +kernel
theorem gX11_warn_4 : (decode cX11_warn 83 = .ok (.aload_n 0, 1)) ∧ (decode cX11_warn 84 = .ok (.getfield 15, 3)) ∧ (decode cX11_warn 87 = .ok (.getfield 283, 3)) ∧ (decode cX11_warn 90 = .ok (.iload_n 3, 1)) ∧ (decode cX11_warn 91 = .ok (.iconst 2, 1)) ∧ (decode cX11_warn 92 = .ok (.aload_n 0, 1)) ∧ (decode cX11_warn 93 = .ok (.getfield 15, 3)) ∧ (decode cX11_warn 96 = .ok (.getfield 87, 3)) ∧ (decode cX11_warn 99 = .ok (.invokevirtual 120, 3)) ∧ (decode cX11_warn 102 = .ok (.iload_n 3, 1)) := by decide +kernel
theorem gX11_warn_5 : (decode cX11_warn 103 = .ok (.ireturn, 1)) := by decide +kernel
theorem gX11_line_0 : (decode cX11_line 0 = .ok (.aload_n 0, 1)) ∧ (decode cX11_line 1 = .ok (.getfield 15, 3)) ∧ (decode cX11_line 4 = .ok (.getfield 233, 3)) ∧ (decode cX11_line 7 = .ok (.iload_n 1, 1)) ∧ (decode cX11_line 8 = .ok (.invokevirtual 124, 3)) ∧ (decode cX11_line 11 = .ok (.ifCond .eq 25, 3)) ∧ (decode cX11_line 14 = .ok (.iload_n 2, 1)) ∧ (decode cX11_line 15 = .ok (.iconst 0, 1)) ∧ (decode cX11_line 16 = .ok (.aload_n 0, 1)) ∧ (decode cX11_line 17 = .ok (.getfield 15, 3)) := by decide +kernel
theorem nm_14 : Cond.fieldLinkNest RX11 233 RX0 "versions" "LInquiryBench$Table;" RX11 ∈ NestW := List.mem_of_getElem? (i := 14) rfl
theorem gf_X11_233 (hC : CX p s m meth c y0 b0 mL0 rt0 args) (hy0 : y0.cls = RX11) (hK : KK G s) (hP : va_P G.1 vwCl ws H) (q0 : Nat) {fs : List Value} {v : Value} (he : ws[q0]? = some (a, .inr (0, fs))) (hv : fs[3]? = some v) (hdg : decode b0 pc = .ok (.getfield 233, 3)) (kk : W p l e R s m args below meth c H locs cells slots Q (F0 m (pc + 3) ls (v :: rest))) : W p l e R s m args below meth c H locs cells slots Q (F0 m pc ls (.ref a :: rest)) := by
  obtain ⟨hx, hb, hr, hml, hB, hown, hlocks, hnm⟩ := hC
  rw [hy0] at hown
  exact va_getN (ci := 0) (C := RX0) (T := TX0) (N := 14) hx hb hB in_X0 hown hK.1 hP q0 he rfl 3 (by decide) (va_Nw.use rfl (hK.2.1 _ nm_14)) (fun _ h => h) hv hdg kk
theorem gX11_line_1 : (decode cX11_line 20 = .ok (.getfield 233, 3)) ∧ (decode cX11_line 23 = .ok (.iload_n 1, 1)) ∧ (decode cX11_line 24 = .ok (.iconst 2, 1)) ∧ (decode cX11_line 25 = .ok (.invokevirtual 128, 3)) ∧ (decode cX11_line 28 = .ok (.iconst 1, 1)) ∧ (decode cX11_line 29 = .ok (.isub, 1)) ∧ (decode cX11_line 30 = .ok (.invokestatic 83, 3)) ∧ (decode cX11_line 33 = .ok (.ifCond .ne 6, 3)) ∧ (decode cX11_line 36 = .ok (.bipush (-9), 2)) ∧ (decode cX11_line 38 = .ok (.ireturn, 1)) := by decide +kernel
theorem gX11_line_2 : (decode cX11_line 39 = .ok (.aload_n 0, 1)) ∧ (decode cX11_line 40 = .ok (.getfield 15, 3)) ∧ (decode cX11_line 43 = .ok (.getfield 233, 3)) ∧ (decode cX11_line 46 = .ok (.iload_n 1, 1)) ∧ (decode cX11_line 47 = .ok (.iconst 1, 1)) ∧ (decode cX11_line 48 = .ok (.invokevirtual 128, 3)) ∧ (decode cX11_line 51 = .ok (.iload_n 2, 1)) ∧ (decode cX11_line 52 = .ok (.iadd, 1)) ∧ (decode cX11_line 53 = .ok (.istore 4, 2)) ∧ (decode cX11_line 55 = .ok (.iload_n 3, 1)) := by decide +kernel
theorem gX11_line_3 : (decode cX11_line 56 = .ok (.tableswitch 106 0 4 #[36, 50, 64, 78, 92], 36)) ∧ (decode cX11_line 92 = .ok (.aload_n 0, 1)) ∧ (decode cX11_line 93 = .ok (.getfield 15, 3)) ∧ (decode cX11_line 96 = .ok (.getfield 240, 3)) ∧ (decode cX11_line 99 = .ok (.iload 4, 2)) ∧ (decode cX11_line 101 = .ok (.iconst 0, 1)) ∧ (decode cX11_line 102 = .ok (.invokevirtual 128, 3)) ∧ (decode cX11_line 105 = .ok (.ireturn, 1)) ∧ (decode cX11_line 106 = .ok (.aload_n 0, 1)) ∧ (decode cX11_line 107 = .ok (.getfield 15, 3)) := by decide +kernel
theorem nm_17 : Cond.fieldLinkNest RX11 240 RX0 "lines" "LInquiryBench$Table;" RX11 ∈ NestW := List.mem_of_getElem? (i := 17) rfl
theorem gf_X11_240 (hC : CX p s m meth c y0 b0 mL0 rt0 args) (hy0 : y0.cls = RX11) (hK : KK G s) (hP : va_P G.1 vwCl ws H) (q0 : Nat) {fs : List Value} {v : Value} (he : ws[q0]? = some (a, .inr (0, fs))) (hv : fs[4]? = some v) (hdg : decode b0 pc = .ok (.getfield 240, 3)) (kk : W p l e R s m args below meth c H locs cells slots Q (F0 m (pc + 3) ls (v :: rest))) : W p l e R s m args below meth c H locs cells slots Q (F0 m pc ls (.ref a :: rest)) := by
  obtain ⟨hx, hb, hr, hml, hB, hown, hlocks, hnm⟩ := hC
  rw [hy0] at hown
  exact va_getN (ci := 0) (C := RX0) (T := TX0) (N := 14) hx hb hB in_X0 hown hK.1 hP q0 he rfl 4 (by decide) (va_Nw.use rfl (hK.2.1 _ nm_17)) (fun _ h => h) hv hdg kk
theorem gX11_line_4 : (decode cX11_line 110 = .ok (.getfield 240, 3)) ∧ (decode cX11_line 113 = .ok (.iload 4, 2)) ∧ (decode cX11_line 115 = .ok (.iconst 1, 1)) ∧ (decode cX11_line 116 = .ok (.invokevirtual 128, 3)) ∧ (decode cX11_line 119 = .ok (.ireturn, 1)) ∧ (decode cX11_line 120 = .ok (.aload_n 0, 1)) ∧ (decode cX11_line 121 = .ok (.getfield 15, 3)) ∧ (decode cX11_line 124 = .ok (.getfield 240, 3)) ∧ (decode cX11_line 127 = .ok (.iload 4, 2)) ∧ (decode cX11_line 129 = .ok (.iconst 2, 1)) := by decide +kernel
theorem gX11_line_5 : (decode cX11_line 130 = .ok (.invokevirtual 128, 3)) ∧ (decode cX11_line 133 = .ok (.ireturn, 1)) ∧ (decode cX11_line 134 = .ok (.aload_n 0, 1)) ∧ (decode cX11_line 135 = .ok (.getfield 15, 3)) ∧ (decode cX11_line 138 = .ok (.getfield 240, 3)) ∧ (decode cX11_line 141 = .ok (.iload 4, 2)) ∧ (decode cX11_line 143 = .ok (.iconst 3, 1)) ∧ (decode cX11_line 144 = .ok (.invokevirtual 128, 3)) ∧ (decode cX11_line 147 = .ok (.ireturn, 1)) ∧ (decode cX11_line 148 = .ok (.aload_n 0, 1)) := by decide +kernel
theorem gX11_line_6 : (decode cX11_line 149 = .ok (.getfield 15, 3)) ∧ (decode cX11_line 152 = .ok (.getfield 240, 3)) ∧ (decode cX11_line 155 = .ok (.iload 4, 2)) ∧ (decode cX11_line 157 = .ok (.iconst 4, 1)) ∧ (decode cX11_line 158 = .ok (.invokevirtual 128, 3)) ∧ (decode cX11_line 161 = .ok (.ireturn, 1)) ∧ (decode cX11_line 162 = .ok (.bipush (-9), 2)) ∧ (decode cX11_line 164 = .ok (.ireturn, 1)) := by decide +kernel
end WR
theorem rm_5_3_6 {mc ms : Nat} : 3 + 1 ≤ (RM 5 mc ms).frames ∧ 8 + (6 + 11) + 40 * 3 ≤ (RM 5 mc ms).locals := ⟨by show 3 + 1 ≤ 5; decide, by show 8 + (6 + 11) + 40 * 3 ≤ 40 * 5; decide⟩
theorem sm_0_1_3 {a0 a1 a2 a3 : Nat × va_E} {l : va_W} : ([0, 1, 3] : List Nat).map (fun i => (a0 :: a1 :: a2 :: a3 :: l : va_W)[i]?) = ([a0, a1, a3] : va_W).map some := rfl
theorem nd_0_1_3 : va_nd [0, 1, 3] = true := by decide
theorem dj_2__0_1_3 : ∀ i ∈ ([0, 1, 3] : List Nat), i ∉ ([2] : List Nat) := by decide
theorem rm_4_1_4 {mc ms : Nat} : 1 + 1 ≤ (RM 4 mc ms).frames ∧ 8 + (4 + 11) + 40 * 1 ≤ (RM 4 mc ms).locals := ⟨by show 1 + 1 ≤ 4; decide, by show 8 + (4 + 11) + 40 * 1 ≤ 40 * 4; decide⟩
theorem sm_3_2 {a0 a1 a2 a3 : Nat × va_E} {l : va_W} : ([3, 2] : List Nat).map (fun i => (a0 :: a1 :: a2 :: a3 :: l : va_W)[i]?) = ([a3, a2] : va_W).map some := rfl
theorem fm_3_2 {a0 a1 a2 a3 : Nat × va_E} {l : va_W} : ([3, 2] : List Nat).filterMap (fun i => (a0 :: a1 :: a2 :: a3 :: l : va_W)[i]?) = ([a3, a2] : va_W) := rfl
theorem nd_3_2 : va_nd [3, 2] = true := by decide
theorem dj_3_2__0_1 : ∀ i ∈ ([0, 1] : List Nat), i ∉ ([3, 2] : List Nat) := by decide
theorem rm_6_3_6 {mc ms : Nat} : 3 + 1 ≤ (RM 6 mc ms).frames ∧ 8 + (6 + 11) + 40 * 3 ≤ (RM 6 mc ms).locals := ⟨by show 3 + 1 ≤ 6; decide, by show 8 + (6 + 11) + 40 * 3 ≤ 40 * 6; decide⟩
theorem sm_1_4_5 {a0 a1 a2 a3 a4 a5 : Nat × va_E} {l : va_W} : ([1, 4, 5] : List Nat).map (fun i => (a0 :: a1 :: a2 :: a3 :: a4 :: a5 :: l : va_W)[i]?) = ([a1, a4, a5] : va_W).map some := rfl
theorem fm_1_4_5 {a0 a1 a2 a3 a4 a5 : Nat × va_E} {l : va_W} : ([1, 4, 5] : List Nat).filterMap (fun i => (a0 :: a1 :: a2 :: a3 :: a4 :: a5 :: l : va_W)[i]?) = ([a1, a4, a5] : va_W) := rfl
theorem nd_1_4_5 : va_nd [1, 4, 5] = true := by decide
theorem rm_6_3_5 {mc ms : Nat} : 3 + 1 ≤ (RM 6 mc ms).frames ∧ 8 + (5 + 11) + 40 * 3 ≤ (RM 6 mc ms).locals := ⟨by show 3 + 1 ≤ 6; decide, by show 8 + (5 + 11) + 40 * 3 ≤ 40 * 6; decide⟩
theorem sm_1_6_7_4_5 {a0 a1 a2 a3 a4 a5 a6 a7 : Nat × va_E} {l : va_W} : ([1, 6, 7, 4, 5] : List Nat).map (fun i => (a0 :: a1 :: a2 :: a3 :: a4 :: a5 :: a6 :: a7 :: l : va_W)[i]?) = ([a1, a6, a7, a4, a5] : va_W).map some := rfl
theorem fm_1_6_7_4_5 {a0 a1 a2 a3 a4 a5 a6 a7 : Nat × va_E} {l : va_W} : ([1, 6, 7, 4, 5] : List Nat).filterMap (fun i => (a0 :: a1 :: a2 :: a3 :: a4 :: a5 :: a6 :: a7 :: l : va_W)[i]?) = ([a1, a6, a7, a4, a5] : va_W) := rfl
theorem nd_1_6_7_4_5 : va_nd [1, 6, 7, 4, 5] = true := by decide
theorem sm_0_1_3_4_5 {a0 a1 a2 a3 a4 a5 : Nat × va_E} {l : va_W} : ([0, 1, 3, 4, 5] : List Nat).map (fun i => (a0 :: a1 :: a2 :: a3 :: a4 :: a5 :: l : va_W)[i]?) = ([a0, a1, a3, a4, a5] : va_W).map some := rfl
theorem nd_0_1_3_4_5 : va_nd [0, 1, 3, 4, 5] = true := by decide
theorem dj_2__0_1_3_4_5 : ∀ i ∈ ([0, 1, 3, 4, 5] : List Nat), i ∉ ([2] : List Nat) := by decide
theorem sm_5_2 {a0 a1 a2 a3 a4 a5 : Nat × va_E} {l : va_W} : ([5, 2] : List Nat).map (fun i => (a0 :: a1 :: a2 :: a3 :: a4 :: a5 :: l : va_W)[i]?) = ([a5, a2] : va_W).map some := rfl
theorem fm_5_2 {a0 a1 a2 a3 a4 a5 : Nat × va_E} {l : va_W} : ([5, 2] : List Nat).filterMap (fun i => (a0 :: a1 :: a2 :: a3 :: a4 :: a5 :: l : va_W)[i]?) = ([a5, a2] : va_W) := rfl
theorem nd_5_2 : va_nd [5, 2] = true := by decide
theorem sm_0_1_3_4 {a0 a1 a2 a3 a4 : Nat × va_E} {l : va_W} : ([0, 1, 3, 4] : List Nat).map (fun i => (a0 :: a1 :: a2 :: a3 :: a4 :: l : va_W)[i]?) = ([a0, a1, a3, a4] : va_W).map some := rfl
theorem nd_0_1_3_4 : va_nd [0, 1, 3, 4] = true := by decide
theorem dj_5_2__0_1_3_4 : ∀ i ∈ ([0, 1, 3, 4] : List Nat), i ∉ ([5, 2] : List Nat) := by decide
theorem dj_4_5__0_1_2_3 : ∀ i ∈ ([0, 1, 2, 3] : List Nat), i ∉ ([4, 5] : List Nat) := by decide
theorem rm_5_3_4 {mc ms : Nat} : 3 + 1 ≤ (RM 5 mc ms).frames ∧ 8 + (4 + 11) + 40 * 3 ≤ (RM 5 mc ms).locals := ⟨by show 3 + 1 ≤ 5; decide, by show 8 + (4 + 11) + 40 * 3 ≤ 40 * 5; decide⟩
theorem rm_5_2_2 {mc ms : Nat} : 2 + 1 ≤ (RM 5 mc ms).frames ∧ 8 + (2 + 11) + 40 * 2 ≤ (RM 5 mc ms).locals := ⟨by show 2 + 1 ≤ 5; decide, by show 8 + (2 + 11) + 40 * 2 ≤ 40 * 5; decide⟩
theorem rm_5_3_5 {mc ms : Nat} : 3 + 1 ≤ (RM 5 mc ms).frames ∧ 8 + (5 + 11) + 40 * 3 ≤ (RM 5 mc ms).locals := ⟨by show 3 + 1 ≤ 5; decide, by show 8 + (5 + 11) + 40 * 3 ≤ 40 * 5; decide⟩
theorem dj_1_2_3__0_4 : ∀ i ∈ ([0, 4] : List Nat), i ∉ ([1, 2, 3] : List Nat) := by decide
theorem dj_2__0_1_3_4 : ∀ i ∈ ([0, 1, 3, 4] : List Nat), i ∉ ([2] : List Nat) := by decide
theorem sm_4_2 {a0 a1 a2 a3 a4 : Nat × va_E} {l : va_W} : ([4, 2] : List Nat).map (fun i => (a0 :: a1 :: a2 :: a3 :: a4 :: l : va_W)[i]?) = ([a4, a2] : va_W).map some := rfl
theorem fm_4_2 {a0 a1 a2 a3 a4 : Nat × va_E} {l : va_W} : ([4, 2] : List Nat).filterMap (fun i => (a0 :: a1 :: a2 :: a3 :: a4 :: l : va_W)[i]?) = ([a4, a2] : va_W) := rfl
theorem nd_4_2 : va_nd [4, 2] = true := by decide
theorem dj_4_2__0_1_3 : ∀ i ∈ ([0, 1, 3] : List Nat), i ∉ ([4, 2] : List Nat) := by decide
theorem dj_3_4__0_1_2 : ∀ i ∈ ([0, 1, 2] : List Nat), i ∉ ([3, 4] : List Nat) := by decide
def K_c_T_hasAll (l : Launch) (G : GG) (h0 : Nat) (bits : Int32) (R : Nat) (W : Nat) (ca : Nat) (k : Nat) : Prop := MP l G yX8_hasAll cX8_hasAll 2 (some .boolean) 1 [.ref h0, .int bits] [(h0, oX8 (nI R) (nI W) ca (nI k))] (fun r : Int32 => (r = 1 ∧ HA k bits) ∨ (r = 0 ∧ ¬ HA k bits))
set_option maxHeartbeats 4000000 in
set_option maxRecDepth 100000 in
theorem c_T_hasAll (l : Launch) (G : GG) (h0 : Nat) (bits : Int32) (R : Nat) (W : Nat) (ca : Nat) (k : Nat) (hk12 : k ≤ 12) : K_c_T_hasAll l G h0 bits R W ca k := by
  refine MP.start (by decide +kernel) (Nat.le_of_ble_eq_true rfl) ?_
  intro p e s m below meth c ls hC hK hP hD hl
  refine absQ (fun Q0 hQ0 => ?_)
  have hl : lv_has ls 2 [(0, .ref h0), (1, .int bits)] := hl
  refine Kan8 hC (fun hx hb hr hml hB hown hlocks hnm => ?_)
  refine lv_iload_n hx hb gX8_hasAll_0.1 rfl (lv_at1 hl) ?_
  refine lv_if_lt (tgt := 22) hx hb gX8_hasAll_0.2.1 (by decide) (fun c_1_1572 => ?_) (fun c_1_1572 => ?_)
  · refine lv_iconst (v := 0) hx hb gX8_hasAll_1.2.1 (by decide) ?_
    refine toQ hQ0 ?_
    exact RP (v := 0) hC (Or.inr ⟨rfl, fun h9 => h9.1 c_1_1572⟩) (by decide +kernel) gX8_hasAll_1.2.2
  · refine lv_iload_n hx hb gX8_hasAll_0.2.2.1 rfl (lv_at1 hl) ?_
    refine lv_aload_n hx hb gX8_hasAll_0.2.2.2.1 rfl (lv_at0 hl) ?_
    refine gf_X8_28 hC rfl hK hP 0 rfl rfl gX8_hasAll_0.2.2.2.2.1 ?_
    refine lv_bipush (v := 31) hx hb gX8_hasAll_0.2.2.2.2.2.1 (by decide) ?_
    refine va_mmin hx hb (hml.trans hl.1.symm) hown (hB _ m_372) (hB _ m_373) (hB _ m_105) (hB _ m_374) (Nat.le_of_ble_eq_true rfl) (Nat.le_of_ble_eq_true rfl) (by first | exact Nat.le_of_ble_eq_true rfl | exact Nat.zero_le _)  (by first | exact Nat.le_of_ble_eq_true rfl | exact Nat.zero_le _) gX8_hasAll_0.2.2.2.2.2.2.1 ?_
    refine eqi (x1 := nI k) (if_neg (nI_nlt (a := 31) (b := k) (by omega) (by decide))) ?_
    refine lv_ishr hx hb gX8_hasAll_0.2.2.2.2.2.2.2.1 ?_
    refine lv_if_ne (tgt := 22) hx hb gX8_hasAll_0.2.2.2.2.2.2.2.2.1 (by decide) (fun c_15_1573 => ?_) (fun c_15_1573 => ?_)
    · refine lv_iconst (v := 0) hx hb gX8_hasAll_1.2.1 (by decide) ?_
      refine toQ hQ0 ?_
      exact RP (v := 0) hC (Or.inr ⟨rfl, fun h9 => c_15_1573 ((HA.iff (by omega) c_1_1572).mpr h9.2)⟩) (by decide +kernel) gX8_hasAll_1.2.2
    · refine lv_iconst (v := 1) hx hb gX8_hasAll_0.2.2.2.2.2.2.2.2.2 (by decide) ?_
      refine lv_goto (tgt := 23) hx hb gX8_hasAll_1.1 (by decide) ?_
      refine toQ hQ0 ?_
      exact RP (v := 1) hC (Or.inl ⟨rfl, c_1_1572, (HA.iff (by omega) c_1_1572).mp c_15_1573⟩) (by decide +kernel) gX8_hasAll_1.2.2
def K_p_days (l : Launch) (G : GG) (h0 : Nat) (n : Int32) (bb : Nat) (kk : Nat) (ikp : Int32) (sg : Nat) (do9 : Nat) (ru9 : Nat) (ta9 : Nat) (tp9 : Nat) (ro9 : Nat) (ho9 : Nat) (de9 : Nat) (bpersons : Nat) (bpapers : Nat) (bstamps : Nat) (bversions : Nat) (blines : Nat) (bsteps : Nat) (bsayings : Nat) (bfindings : Nat) (bwarnings : Nat) (bquestions : Nat) (td : Int32) (vd : Int32) (vl : Int32) (gp : Int32) : Prop := MI l G yX11_days cX11_days 2 (some .int) 3 0 0 [.ref h0, .int n] [(h0, oX11 bb kk ikp sg do9 ru9 ta9 tp9 ro9 ho9 de9), (bb, oX0 bpersons bpapers bstamps bversions blines bsteps bsayings bfindings bwarnings bquestions td vd vl gp)] (fun (r : Int32) (u : Int32) => (r = ifc (Wi n 1 99) (ifc (td + n ≤ 499) (td + n) (-4)) (-1)) ∧ (ifc (Wi n 1 99) (ifc (td + n ≤ 499) (td + n) td) td = u)) (fun u : Int32 => [(h0, oX11 bb kk ikp sg do9 ru9 ta9 tp9 ro9 ho9 de9), (bb, oX0 bpersons bpapers bstamps bversions blines bsteps bsayings bfindings bwarnings bquestions u vd vl gp)])
set_option maxHeartbeats 4000000 in
set_option maxRecDepth 100000 in
theorem p_days (l : Launch) (G : GG) (h0 : Nat) (n : Int32) (bb : Nat) (kk : Nat) (ikp : Int32) (sg : Nat) (do9 : Nat) (ru9 : Nat) (ta9 : Nat) (tp9 : Nat) (ro9 : Nat) (ho9 : Nat) (de9 : Nat) (bpersons : Nat) (bpapers : Nat) (bstamps : Nat) (bversions : Nat) (blines : Nat) (bsteps : Nat) (bsayings : Nat) (bfindings : Nat) (bwarnings : Nat) (bquestions : Nat) (td : Int32) (vd : Int32) (vl : Int32) (gp : Int32) : K_p_days l G h0 n bb kk ikp sg do9 ru9 ta9 tp9 ro9 ho9 de9 bpersons bpapers bstamps bversions blines bsteps bsayings bfindings bwarnings bquestions td vd vl gp := by
  refine MI.start (by decide +kernel) (Nat.le_of_ble_eq_true rfl) ?_
  intro p e s m below meth c A ls hC hK hP hD hS hA hl
  refine absQ (fun Q0 hQ0 => ?_)
  have hl : lv_has ls 2 [(0, .ref h0), (1, .int n)] := hl
  refine Kan8 hC (fun hx hb hr hml hB hown hlocks hnm => ?_)
  refine lv_iload_n hx hb gX11_days_0.1 rfl (lv_at1 hl) ?_
  refine lv_iconst (v := 1) hx hb gX11_days_0.2.1 (by decide) ?_
  refine lv_bipush (v := 99) hx hb gX11_days_0.2.2.1 (by decide) ?_
  refine pS hC hK hl (c_within l G n 1 99) si_X11_83 rfl rfl (Nat.le_of_ble_eq_true rfl) rm_3_1_3 ⟨by first | exact Nat.le_of_ble_eq_true rfl | exact Nat.zero_le _, by first | exact Nat.le_of_ble_eq_true rfl | exact Nat.zero_le _⟩ gX11_days_0.2.2.2.1 (Kors (Keqa fun a1575 => ?_) (Keqa fun a1575 => ?_))
  · refine lv_if_ne (tgt := 12) hx hb gX11_days_0.2.2.2.2.1 (by decide) (fun _ => ?_) (fun c9 => absurd c9 (by decide))
    refine lv_aload_n hx hb gX11_days_0.2.2.2.2.2.2.2.1 rfl (lv_at0 hl) ?_
    refine gf_X11_15 hC rfl hK hP 0 rfl rfl gX11_days_0.2.2.2.2.2.2.2.2.1 ?_
    refine gf_X11_87 hC rfl hK hP 1 rfl rfl gX11_days_0.2.2.2.2.2.2.2.2.2 ?_
    refine lv_iload_n hx hb gX11_days_1.1 rfl (lv_at1 hl) ?_
    refine lv_iadd hx hb gX11_days_1.2.1 ?_
    refine lv_sipush (v := 499) hx hb gX11_days_1.2.2.1 (by decide) ?_
    refine lv_icmp_le (tgt := 30) hx hb gX11_days_1.2.2.2.1 (by decide) (fun c_24_1576 => ?_) (fun c_24_1576 => ?_)
    · refine lv_aload_n hx hb gX11_days_1.2.2.2.2.2.2.1 rfl (lv_at0 hl) ?_
      refine gf_X11_15 hC rfl hK hP 0 rfl rfl gX11_days_1.2.2.2.2.2.2.2.1 ?_
      refine lv_dup hx hb gX11_days_1.2.2.2.2.2.2.2.2.1 rfl ?_
      refine gf_X11_87 hC rfl hK hP 1 rfl rfl gX11_days_1.2.2.2.2.2.2.2.2.2 ?_
      refine lv_iload_n hx hb gX11_days_2.1 rfl (lv_at1 hl) ?_
      refine lv_iadd hx hb gX11_days_2.2.1 ?_
      refine pf_X11_87 hC rfl hK hP hD hS 1 (ws' := [(h0, oX11 bb kk ikp sg do9 ru9 ta9 tp9 ro9 ho9 de9), (bb, oX0 bpersons bpapers bstamps bversions blines bsteps bsayings bfindings bwarnings bquestions (td + n) vd vl gp)]) rfl (Nat.le_of_ble_eq_true rfl) rfl rfl rfl gX11_days_2.2.2.1 (fun H locs hP hD hS => ?_)
      refine lv_aload_n hx hb gX11_days_2.2.2.2.1 rfl (lv_at0 hl) ?_
      refine gf_X11_15 hC rfl hK hP 0 rfl rfl gX11_days_2.2.2.2.2.1 ?_
      refine gf_X11_87 hC rfl hK hP 1 rfl rfl gX11_days_2.2.2.2.2.2.1 ?_
      refine toQ hQ0 ?_
      exact RI (v := td + n) hC hP hD hS [0, 1] (td + n) rfl rfl (by decide) (⟨(by first | rfl | (simp only [ifc_t a1575, ifc_t c_24_1576]; done) | (simp only [ifc_t a1575, ifc_t c_24_1576]; rfl)), (by simp only [ifc_t a1575, ifc_t c_24_1576])⟩) rfl gX11_days_2.2.2.2.2.2.2
    · refine lv_bipush (v := (-4)) hx hb gX11_days_1.2.2.2.2.1 (by decide) ?_
      refine toQ hQ0 ?_
      exact RI (v := (-4)) hC hP hD hS [0, 1] td rfl rfl (by decide) (⟨(by first | rfl | (simp only [ifc_t a1575, ifc_f c_24_1576]; done) | (simp only [ifc_t a1575, ifc_f c_24_1576]; rfl)), (by simp only [ifc_t a1575, ifc_f c_24_1576])⟩) rfl gX11_days_1.2.2.2.2.2.1
  · refine lv_if_ne (tgt := 12) hx hb gX11_days_0.2.2.2.2.1 (by decide) (fun c9 => absurd (by decide) c9) (fun _ => ?_)
    refine lv_iconst (v := (-1)) hx hb gX11_days_0.2.2.2.2.2.1 (by decide) ?_
    refine toQ hQ0 ?_
    exact RI (v := (-1)) hC hP hD hS [0, 1] td rfl rfl (by decide) (⟨(by first | rfl | (simp only [ifc_f a1575]; done) | (simp only [ifc_f a1575]; rfl)), (by simp only [ifc_f a1575])⟩) rfl gX11_days_0.2.2.2.2.2.2.1
def K_c_viewedDayX (l : Launch) (G : GG) (h0 : Nat) (bpersons : Nat) (bpapers : Nat) (bstamps : Nat) (bversions : Nat) (blines : Nat) (bsteps : Nat) (bsayings : Nat) (bfindings : Nat) (bwarnings : Nat) (bquestions : Nat) (td : Int32) (vd : Int32) (vl : Int32) (gp : Int32) : Prop := MP l G yX0_viewedDay cX0_viewedDay 1 (some .int) 1 [.ref h0] [(h0, oX0 bpersons bpapers bstamps bversions blines bsteps bsayings bfindings bwarnings bquestions td vd vl gp)] (fun r : Int32 => r = (DAYV td vd))
set_option maxHeartbeats 4000000 in
set_option maxRecDepth 100000 in
theorem c_viewedDayX (l : Launch) (G : GG) (h0 : Nat) (bpersons : Nat) (bpapers : Nat) (bstamps : Nat) (bversions : Nat) (blines : Nat) (bsteps : Nat) (bsayings : Nat) (bfindings : Nat) (bwarnings : Nat) (bquestions : Nat) (td : Int32) (vd : Int32) (vl : Int32) (gp : Int32) : K_c_viewedDayX l G h0 bpersons bpapers bstamps bversions blines bsteps bsayings bfindings bwarnings bquestions td vd vl gp := by
  refine MP.start (by decide +kernel) (Nat.le_of_ble_eq_true rfl) ?_
  intro p e s m below meth c ls hC hK hP hD hl
  refine absQ (fun Q0 hQ0 => ?_)
  have hl : lv_has ls 1 [(0, .ref h0)] := hl
  refine Kan8 hC (fun hx hb hr hml hB hown hlocks hnm => ?_)
  refine lv_aload_n hx hb gX0_viewedDay_0.1 rfl (lv_at0 hl) ?_
  refine gf_X0_51 hC rfl hK hP 0 rfl rfl gX0_viewedDay_0.2.1 ?_
  refine lv_if_ge (tgt := 14) hx hb gX0_viewedDay_0.2.2.1 (by decide) (fun c_4_1577 => ?_) (fun c_4_1577 => ?_)
  · refine lv_aload_n hx hb gX0_viewedDay_0.2.2.2.2.2.2.1 rfl (lv_at0 hl) ?_
    refine gf_X0_51 hC rfl hK hP 0 rfl rfl gX0_viewedDay_0.2.2.2.2.2.2.2.1 ?_
    refine toQ hQ0 ?_
    exact RP (v := vd) hC ((ifc_f (Int32.not_lt.mpr c_4_1577)).symm) rfl gX0_viewedDay_0.2.2.2.2.2.2.2.2
  · refine lv_aload_n hx hb gX0_viewedDay_0.2.2.2.1 rfl (lv_at0 hl) ?_
    refine gf_X0_47 hC rfl hK hP 0 rfl rfl gX0_viewedDay_0.2.2.2.2.1 ?_
    refine lv_goto (tgt := 18) hx hb gX0_viewedDay_0.2.2.2.2.2.1 (by decide) ?_
    refine toQ hQ0 ?_
    exact RP (v := td) hC ((ifc_t (Int32.not_le.mp c_4_1577)).symm) rfl gX0_viewedDay_0.2.2.2.2.2.2.2.2
def K_c_inViewX (l : Launch) (G : GG) (h0 : Nat) (bpersons : Nat) (bpapers : Nat) (bstamps : Nat) (bversions : Nat) (blines : Nat) (bsteps : Nat) (bsayings : Nat) (bfindings : Nat) (bwarnings : Nat) (bquestions : Nat) (td : Int32) (vd : Int32) (vl : Int32) (gp : Int32) (bpapersc : Nat) (kbpapers : Nat) (fbpapers : Nat → Int32) : Prop := MP l G yX0_inView cX0_inView 6 (some .int) 3 [.ref h0] [(h0, oX0 bpersons bpapers bstamps bversions blines bsteps bsayings bfindings bwarnings bquestions td vd vl gp), (bpapers, oX8 12 6 bpapersc (nI kbpapers)), (bpapersc, iA G 72 fbpapers)] (fun r : Int32 => r = (IVW fbpapers td vd vl kbpapers))
set_option maxHeartbeats 4000000 in
set_option maxRecDepth 100000 in
theorem c_inViewX (l : Launch) (G : GG) (h0 : Nat) (bpersons : Nat) (bpapers : Nat) (bstamps : Nat) (bversions : Nat) (blines : Nat) (bsteps : Nat) (bsayings : Nat) (bfindings : Nat) (bwarnings : Nat) (bquestions : Nat) (td : Int32) (vd : Int32) (vl : Int32) (gp : Int32) (bpapersc : Nat) (kbpapers : Nat) (fbpapers : Nat → Int32) (hkbpapers : kbpapers ≤ 12) : K_c_inViewX l G h0 bpersons bpapers bstamps bversions blines bsteps bsayings bfindings bwarnings bquestions td vd vl gp bpapersc kbpapers fbpapers := by
  refine MP.start (by decide +kernel) (Nat.le_of_ble_eq_true rfl) ?_
  intro p e s m below meth c ls hC hK hP hD hl
  refine absQ (fun Q0 hQ0 => ?_)
  have hl : lv_has ls 6 [(0, .ref h0)] := hl
  refine Kan8 hC (fun hx hb hr hml hB hown hlocks hnm => ?_)
  refine lv_iconst (v := 0) hx hb gX0_inView_0.1 (by decide) ?_
  refine lv_istore_n (lv' := [(1, .int 0), (0, .ref h0)]) hx hb gX0_inView_0.2.1 rfl hl (by decide) rfl (fun ls hl => ?_)
  refine lv_aload_n hx hb gX0_inView_0.2.2.1 rfl (lv_at1 hl) ?_
  refine pV hC hK hl hP hD (c_viewedDayX l G h0 bpersons bpapers bstamps bversions blines bsteps bsayings bfindings bwarnings bquestions td vd vl gp) si_X0_64 [0] sm_0 fm_0 nd_0 rfl rfl rfl rfl rfl (Nat.le_of_ble_eq_true rfl) rm_3_1_1 ⟨by first | exact Nat.le_of_ble_eq_true rfl | exact Nat.zero_le _, by first | exact Nat.le_of_ble_eq_true rfl | exact Nat.zero_le _⟩ gX0_inView_0.2.2.2.1 (Keqr ?_)
  refine lv_istore_n (lv' := [(2, .int (DAYV td vd)), (1, .int 0), (0, .ref h0)]) hx hb gX0_inView_0.2.2.2.2.1 rfl hl (by decide) rfl (fun ls hl => ?_)
  refine lv_iconst (v := 0) hx hb gX0_inView_0.2.2.2.2.2.1 (by decide) ?_
  refine lv_istore_n (lv' := [(3, .int 0), (2, .int (DAYV td vd)), (1, .int 0), (0, .ref h0)]) hx hb gX0_inView_0.2.2.2.2.2.2.1 rfl hl (by decide) rfl (fun ls hl => ?_)
  have keyP : ∀ (nP kP : Nat) (bi : Int32) (ls : Array Slot), kP + nP = kbpapers → (bi = IVW fbpapers td vd vl kP) → lv_has ls 6 [(3, .int (nI kP)), (2, .int (DAYV td vd)), (1, .int bi), (0, .ref h0)] → W p l e (RM 3 0 0) s m ([.ref h0] : List Value).toArray below meth c s.heap [] 0 0 Q0 (F0 m 9 ls []) := by
    intro nP
    induction nP with
    | zero =>
      intro kP bi ls hkP hbi hl
      obtain rfl : kbpapers = kP := by omega
      have hl : lv_has ls 6 [(3, .int (nI kbpapers)), (2, .int (DAYV td vd)), (1, .int bi), (0, .ref h0)] := hl
      refine lv_iload_n hx hb gX0_inView_0.2.2.2.2.2.2.2.1 rfl (lv_at0 hl) ?_
      refine lv_aload_n hx hb gX0_inView_0.2.2.2.2.2.2.2.2.1 rfl (lv_at3 hl) ?_
      refine gf_X0_20 hC rfl hK hP 0 rfl rfl gX0_inView_0.2.2.2.2.2.2.2.2.2 ?_
      refine pV hC hK hl hP hD (c_T_count l G bpapers 12 6 bpapersc kbpapers) si_X0_68 [1] sm_1 fm_1 nd_1 rfl rfl rfl rfl rfl (Nat.le_of_ble_eq_true rfl) rm_3_1_1 ⟨by first | exact Nat.le_of_ble_eq_true rfl | exact Nat.zero_le _, by first | exact Nat.le_of_ble_eq_true rfl | exact Nat.zero_le _⟩ gX0_inView_1.1 (Keqr ?_)
      refine lv_icmp_ge (tgt := 95) hx hb gX0_inView_1.2.1 (by decide) (fun _ => ?_) (fun c9 => absurd (Int32.le_refl _) c9)
      refine lv_iload_n hx hb gX0_inView_5.2.2.1 rfl (lv_at2 hl) ?_
      refine toQ hQ0 ?_
      exact RP (v := bi) hC (hbi) rfl gX0_inView_5.2.2.2
    | succ nP ihP =>
      intro kP bi ls hkP hbi hl
      refine lv_iload_n hx hb gX0_inView_0.2.2.2.2.2.2.2.1 rfl (lv_at0 hl) ?_
      refine lv_aload_n hx hb gX0_inView_0.2.2.2.2.2.2.2.2.1 rfl (lv_at3 hl) ?_
      refine gf_X0_20 hC rfl hK hP 0 rfl rfl gX0_inView_0.2.2.2.2.2.2.2.2.2 ?_
      refine pV hC hK hl hP hD (c_T_count l G bpapers 12 6 bpapersc kbpapers) si_X0_68 [1] sm_1 fm_1 nd_1 rfl rfl rfl rfl rfl (Nat.le_of_ble_eq_true rfl) rm_3_1_1 ⟨by first | exact Nat.le_of_ble_eq_true rfl | exact Nat.zero_le _, by first | exact Nat.le_of_ble_eq_true rfl | exact Nat.zero_le _⟩ gX0_inView_1.1 (Keqr ?_)
      refine lv_icmp_ge (tgt := 95) hx hb gX0_inView_1.2.1 (by decide) (fun c9 => absurd c9 (nI_ge (a := kP) (b := kbpapers) (by omega) (by omega))) (fun _ => ?_)
      refine lv_aload_n hx hb gX0_inView_1.2.2.1 rfl (lv_at3 hl) ?_
      refine gf_X0_20 hC rfl hK hP 0 rfl rfl gX0_inView_1.2.2.2.1 ?_
      refine lv_iload_n hx hb gX0_inView_1.2.2.2.2.1 rfl (lv_at0 hl) ?_
      refine lv_iconst (v := 5) hx hb gX0_inView_1.2.2.2.2.2.1 (by decide) ?_
      refine pV hC hK hl hP hD (c_T_at l G bpapers (nI kP) 5 12 6 bpapersc kbpapers fbpapers (hkbpapers) (by omega) (by omega)) si_X0_71 [1, 2] sm_1_2 fm_1_2 nd_1_2 rfl rfl rfl rfl rfl (Nat.le_of_ble_eq_true rfl) rm_3_1_3 ⟨by first | exact Nat.le_of_ble_eq_true rfl | exact Nat.zero_le _, by first | exact Nat.le_of_ble_eq_true rfl | exact Nat.zero_le _⟩ gX0_inView_1.2.2.2.2.2.2.1 (fun r1584 hr1584 => ?_)
      have q1586 : r1584 = fbpapers (kP * 6 + 5) := hr1584.trans (tatr (by omega) (by omega) (by decide) (by decide) rfl)
      refine lv_istore (lv' := [(4, .int r1584), (3, .int (nI kP)), (2, .int (DAYV td vd)), (1, .int bi), (0, .ref h0)]) hx hb gX0_inView_1.2.2.2.2.2.2.2.1 hl (by decide) rfl (fun ls hl => ?_)
      refine lv_iload hx hb gX0_inView_1.2.2.2.2.2.2.2.2.1 (lv_at0 hl) ?_
      refine lv_if_lt (tgt := 46) hx hb gX0_inView_1.2.2.2.2.2.2.2.2.2 (by decide) (fun c_33_1587 => ?_) (fun c_33_1587 => ?_)
      · refine lv_iconst (v := 0) hx hb gX0_inView_2.2.2.2.2.2.1 (by decide) ?_
        refine lv_istore (lv' := [(5, .int 0), (4, .int r1584), (3, .int (nI kP)), (2, .int (DAYV td vd)), (1, .int bi), (0, .ref h0)]) hx hb gX0_inView_2.2.2.2.2.2.2.1 hl (by decide) rfl (fun ls hl => ?_)
        refine lv_aload_n hx hb gX0_inView_2.2.2.2.2.2.2.2.1 rfl (lv_at5 hl) ?_
        refine gf_X0_20 hC rfl hK hP 0 rfl rfl gX0_inView_2.2.2.2.2.2.2.2.2.1 ?_
        refine lv_iload_n hx hb gX0_inView_2.2.2.2.2.2.2.2.2.2 rfl (lv_at2 hl) ?_
        refine lv_iconst (v := 4) hx hb gX0_inView_3.1 (by decide) ?_
        refine pV hC hK hl hP hD (c_T_at l G bpapers (nI kP) 4 12 6 bpapersc kbpapers fbpapers (hkbpapers) (by omega) (by omega)) si_X0_71 [1, 2] sm_1_2 fm_1_2 nd_1_2 rfl rfl rfl rfl rfl (Nat.le_of_ble_eq_true rfl) rm_3_1_3 ⟨by first | exact Nat.le_of_ble_eq_true rfl | exact Nat.zero_le _, by first | exact Nat.le_of_ble_eq_true rfl | exact Nat.zero_le _⟩ gX0_inView_3.2.1 (fun r1588 hr1588 => ?_)
        have q1590 : r1588 = fbpapers (kP * 6 + 4) := hr1588.trans (tatr (by omega) (by omega) (by decide) (by decide) rfl)
        refine lv_iload_n hx hb gX0_inView_3.2.2.1 rfl (lv_at3 hl) ?_
        refine lv_icmp_gt (tgt := 89) hx hb gX0_inView_3.2.2.2.1 (by decide) (fun c_59_1591 => ?_) (fun c_59_1591 => ?_)
        · refine lv_iinc (v := nI (kP + 1)) (lv' := [(3, .int (nI (kP + 1))), (5, .int 0), (4, .int r1584), (2, .int (DAYV td vd)), (1, .int bi), (0, .ref h0)]) hx hb gX0_inView_5.1 hl (k := 2) rfl (nI_1 _) (by decide) rfl (fun ls hl => ?_)
          refine lv_goto (tgt := 9) hx hb gX0_inView_5.2.1 (by decide) ?_
          have hst9 : bi = IVW fbpapers td vd vl (kP + 1) := hbi.trans (ifc_f (q := SEE fbpapers td vd vl kP) (fun h9 => Int32.not_le.mpr (q1590 ▸ c_59_1591) h9.1)).symm
          exact ihP (kP + 1) bi _ (by omega) (by first | assumption | exact Or.inl rfl | exact Or.inr rfl | exact rfl) (lv_sub hl [0, 3, 4, 5] rfl)
        · refine lv_aload_n hx hb gX0_inView_3.2.2.2.2.1 rfl (lv_at5 hl) ?_
          refine gf_X0_20 hC rfl hK hP 0 rfl rfl gX0_inView_3.2.2.2.2.2.1 ?_
          refine lv_iload_n hx hb gX0_inView_3.2.2.2.2.2.2.1 rfl (lv_at2 hl) ?_
          refine lv_iconst (v := 3) hx hb gX0_inView_3.2.2.2.2.2.2.2.1 (by decide) ?_
          refine pV hC hK hl hP hD (c_T_at l G bpapers (nI kP) 3 12 6 bpapersc kbpapers fbpapers (hkbpapers) (by omega) (by omega)) si_X0_71 [1, 2] sm_1_2 fm_1_2 nd_1_2 rfl rfl rfl rfl rfl (Nat.le_of_ble_eq_true rfl) rm_3_1_3 ⟨by first | exact Nat.le_of_ble_eq_true rfl | exact Nat.zero_le _, by first | exact Nat.le_of_ble_eq_true rfl | exact Nat.zero_le _⟩ gX0_inView_3.2.2.2.2.2.2.2.2.1 (fun r1592 hr1592 => ?_)
          have q1594 : r1592 = fbpapers (kP * 6 + 3) := hr1592.trans (tatr (by omega) (by omega) (by decide) (by decide) rfl)
          refine lv_aload_n hx hb gX0_inView_3.2.2.2.2.2.2.2.2.2 rfl (lv_at5 hl) ?_
          refine gf_X0_54 hC rfl hK hP 0 rfl rfl gX0_inView_4.1 ?_
          refine lv_icmp_gt (tgt := 89) hx hb gX0_inView_4.2.1 (by decide) (fun c_75_1595 => ?_) (fun c_75_1595 => ?_)
          · refine lv_iinc (v := nI (kP + 1)) (lv' := [(3, .int (nI (kP + 1))), (5, .int 0), (4, .int r1584), (2, .int (DAYV td vd)), (1, .int bi), (0, .ref h0)]) hx hb gX0_inView_5.1 hl (k := 2) rfl (nI_1 _) (by decide) rfl (fun ls hl => ?_)
            refine lv_goto (tgt := 9) hx hb gX0_inView_5.2.1 (by decide) ?_
            have hst9 : bi = IVW fbpapers td vd vl (kP + 1) := hbi.trans (ifc_f (q := SEE fbpapers td vd vl kP) (fun h9 => Int32.not_le.mpr (q1594 ▸ c_75_1595) h9.2.1)).symm
            exact ihP (kP + 1) bi _ (by omega) (by first | assumption | exact Or.inl rfl | exact Or.inr rfl | exact rfl) (lv_sub hl [0, 3, 4, 5] rfl)
          · refine lv_iload hx hb gX0_inView_4.2.2.1 (lv_at0 hl) ?_
            refine lv_if_ne (tgt := 89) hx hb gX0_inView_4.2.2.2.1 (by decide) (fun c9 => absurd (by decide) c9) (fun _ => ?_)
            refine lv_iload_n hx hb gX0_inView_4.2.2.2.2.1 rfl (lv_at4 hl) ?_
            refine lv_iconst (v := 1) hx hb gX0_inView_4.2.2.2.2.2.1 (by decide) ?_
            refine lv_iload_n hx hb gX0_inView_4.2.2.2.2.2.2.1 rfl (lv_at2 hl) ?_
            refine lv_ishl hx hb gX0_inView_4.2.2.2.2.2.2.2.1 ?_
            refine lv_ior hx hb gX0_inView_4.2.2.2.2.2.2.2.2.1 ?_
            refine lv_istore_n (lv' := [(1, .int (bi ||| (1 <<< ((nI kP) &&& 31)))), (5, .int 0), (4, .int r1584), (3, .int (nI kP)), (2, .int (DAYV td vd)), (0, .ref h0)]) hx hb gX0_inView_4.2.2.2.2.2.2.2.2.2 rfl hl (by decide) rfl (fun ls hl => ?_)
            refine lv_iinc (v := nI (kP + 1)) (lv' := [(3, .int (nI (kP + 1))), (1, .int (bi ||| (1 <<< ((nI kP) &&& 31)))), (5, .int 0), (4, .int r1584), (2, .int (DAYV td vd)), (0, .ref h0)]) hx hb gX0_inView_5.1 hl (k := 3) rfl (nI_1 _) (by decide) rfl (fun ls hl => ?_)
            refine lv_goto (tgt := 9) hx hb gX0_inView_5.2.1 (by decide) ?_
            have hst9 : bi ||| (1 <<< ((nI kP) &&& 31)) = IVW fbpapers td vd vl (kP + 1) := (congrArg (fun z9 => z9 ||| 1 <<< (nI kP &&& 31)) hbi).trans (ifc_t (q := SEE fbpapers td vd vl kP) ⟨Int32.not_lt.mp (q1590 ▸ c_59_1591), Int32.not_lt.mp (q1594 ▸ c_75_1595), (fun h9 => Int32.not_le.mpr (q1586 ▸ c_33_1587) h9.1)⟩).symm
            exact ihP (kP + 1) (bi ||| (1 <<< ((nI kP) &&& 31))) _ (by omega) (by first | assumption | exact Or.inl rfl | exact Or.inr rfl | exact rfl) (lv_sub hl [0, 4, 1, 5] rfl)
      · refine lv_iload hx hb gX0_inView_2.1 (lv_at0 hl) ?_
        refine lv_iload_n hx hb gX0_inView_2.2.1 rfl (lv_at2 hl) ?_
        refine lv_icmp_gt (tgt := 46) hx hb gX0_inView_2.2.2.1 (by decide) (fun c_39_1596 => ?_) (fun c_39_1596 => ?_)
        · refine lv_iconst (v := 0) hx hb gX0_inView_2.2.2.2.2.2.1 (by decide) ?_
          refine lv_istore (lv' := [(5, .int 0), (4, .int r1584), (3, .int (nI kP)), (2, .int (DAYV td vd)), (1, .int bi), (0, .ref h0)]) hx hb gX0_inView_2.2.2.2.2.2.2.1 hl (by decide) rfl (fun ls hl => ?_)
          refine lv_aload_n hx hb gX0_inView_2.2.2.2.2.2.2.2.1 rfl (lv_at5 hl) ?_
          refine gf_X0_20 hC rfl hK hP 0 rfl rfl gX0_inView_2.2.2.2.2.2.2.2.2.1 ?_
          refine lv_iload_n hx hb gX0_inView_2.2.2.2.2.2.2.2.2.2 rfl (lv_at2 hl) ?_
          refine lv_iconst (v := 4) hx hb gX0_inView_3.1 (by decide) ?_
          refine pV hC hK hl hP hD (c_T_at l G bpapers (nI kP) 4 12 6 bpapersc kbpapers fbpapers (hkbpapers) (by omega) (by omega)) si_X0_71 [1, 2] sm_1_2 fm_1_2 nd_1_2 rfl rfl rfl rfl rfl (Nat.le_of_ble_eq_true rfl) rm_3_1_3 ⟨by first | exact Nat.le_of_ble_eq_true rfl | exact Nat.zero_le _, by first | exact Nat.le_of_ble_eq_true rfl | exact Nat.zero_le _⟩ gX0_inView_3.2.1 (fun r1597 hr1597 => ?_)
          have q1599 : r1597 = fbpapers (kP * 6 + 4) := hr1597.trans (tatr (by omega) (by omega) (by decide) (by decide) rfl)
          refine lv_iload_n hx hb gX0_inView_3.2.2.1 rfl (lv_at3 hl) ?_
          refine lv_icmp_gt (tgt := 89) hx hb gX0_inView_3.2.2.2.1 (by decide) (fun c_59_1600 => ?_) (fun c_59_1600 => ?_)
          · refine lv_iinc (v := nI (kP + 1)) (lv' := [(3, .int (nI (kP + 1))), (5, .int 0), (4, .int r1584), (2, .int (DAYV td vd)), (1, .int bi), (0, .ref h0)]) hx hb gX0_inView_5.1 hl (k := 2) rfl (nI_1 _) (by decide) rfl (fun ls hl => ?_)
            refine lv_goto (tgt := 9) hx hb gX0_inView_5.2.1 (by decide) ?_
            have hst9 : bi = IVW fbpapers td vd vl (kP + 1) := hbi.trans (ifc_f (q := SEE fbpapers td vd vl kP) (fun h9 => Int32.not_le.mpr (q1599 ▸ c_59_1600) h9.1)).symm
            exact ihP (kP + 1) bi _ (by omega) (by first | assumption | exact Or.inl rfl | exact Or.inr rfl | exact rfl) (lv_sub hl [0, 3, 4, 5] rfl)
          · refine lv_aload_n hx hb gX0_inView_3.2.2.2.2.1 rfl (lv_at5 hl) ?_
            refine gf_X0_20 hC rfl hK hP 0 rfl rfl gX0_inView_3.2.2.2.2.2.1 ?_
            refine lv_iload_n hx hb gX0_inView_3.2.2.2.2.2.2.1 rfl (lv_at2 hl) ?_
            refine lv_iconst (v := 3) hx hb gX0_inView_3.2.2.2.2.2.2.2.1 (by decide) ?_
            refine pV hC hK hl hP hD (c_T_at l G bpapers (nI kP) 3 12 6 bpapersc kbpapers fbpapers (hkbpapers) (by omega) (by omega)) si_X0_71 [1, 2] sm_1_2 fm_1_2 nd_1_2 rfl rfl rfl rfl rfl (Nat.le_of_ble_eq_true rfl) rm_3_1_3 ⟨by first | exact Nat.le_of_ble_eq_true rfl | exact Nat.zero_le _, by first | exact Nat.le_of_ble_eq_true rfl | exact Nat.zero_le _⟩ gX0_inView_3.2.2.2.2.2.2.2.2.1 (fun r1601 hr1601 => ?_)
            have q1603 : r1601 = fbpapers (kP * 6 + 3) := hr1601.trans (tatr (by omega) (by omega) (by decide) (by decide) rfl)
            refine lv_aload_n hx hb gX0_inView_3.2.2.2.2.2.2.2.2.2 rfl (lv_at5 hl) ?_
            refine gf_X0_54 hC rfl hK hP 0 rfl rfl gX0_inView_4.1 ?_
            refine lv_icmp_gt (tgt := 89) hx hb gX0_inView_4.2.1 (by decide) (fun c_75_1604 => ?_) (fun c_75_1604 => ?_)
            · refine lv_iinc (v := nI (kP + 1)) (lv' := [(3, .int (nI (kP + 1))), (5, .int 0), (4, .int r1584), (2, .int (DAYV td vd)), (1, .int bi), (0, .ref h0)]) hx hb gX0_inView_5.1 hl (k := 2) rfl (nI_1 _) (by decide) rfl (fun ls hl => ?_)
              refine lv_goto (tgt := 9) hx hb gX0_inView_5.2.1 (by decide) ?_
              have hst9 : bi = IVW fbpapers td vd vl (kP + 1) := hbi.trans (ifc_f (q := SEE fbpapers td vd vl kP) (fun h9 => Int32.not_le.mpr (q1603 ▸ c_75_1604) h9.2.1)).symm
              exact ihP (kP + 1) bi _ (by omega) (by first | assumption | exact Or.inl rfl | exact Or.inr rfl | exact rfl) (lv_sub hl [0, 3, 4, 5] rfl)
            · refine lv_iload hx hb gX0_inView_4.2.2.1 (lv_at0 hl) ?_
              refine lv_if_ne (tgt := 89) hx hb gX0_inView_4.2.2.2.1 (by decide) (fun c9 => absurd (by decide) c9) (fun _ => ?_)
              refine lv_iload_n hx hb gX0_inView_4.2.2.2.2.1 rfl (lv_at4 hl) ?_
              refine lv_iconst (v := 1) hx hb gX0_inView_4.2.2.2.2.2.1 (by decide) ?_
              refine lv_iload_n hx hb gX0_inView_4.2.2.2.2.2.2.1 rfl (lv_at2 hl) ?_
              refine lv_ishl hx hb gX0_inView_4.2.2.2.2.2.2.2.1 ?_
              refine lv_ior hx hb gX0_inView_4.2.2.2.2.2.2.2.2.1 ?_
              refine lv_istore_n (lv' := [(1, .int (bi ||| (1 <<< ((nI kP) &&& 31)))), (5, .int 0), (4, .int r1584), (3, .int (nI kP)), (2, .int (DAYV td vd)), (0, .ref h0)]) hx hb gX0_inView_4.2.2.2.2.2.2.2.2.2 rfl hl (by decide) rfl (fun ls hl => ?_)
              refine lv_iinc (v := nI (kP + 1)) (lv' := [(3, .int (nI (kP + 1))), (1, .int (bi ||| (1 <<< ((nI kP) &&& 31)))), (5, .int 0), (4, .int r1584), (2, .int (DAYV td vd)), (0, .ref h0)]) hx hb gX0_inView_5.1 hl (k := 3) rfl (nI_1 _) (by decide) rfl (fun ls hl => ?_)
              refine lv_goto (tgt := 9) hx hb gX0_inView_5.2.1 (by decide) ?_
              have hst9 : bi ||| (1 <<< ((nI kP) &&& 31)) = IVW fbpapers td vd vl (kP + 1) := (congrArg (fun z9 => z9 ||| 1 <<< (nI kP &&& 31)) hbi).trans (ifc_t (q := SEE fbpapers td vd vl kP) ⟨Int32.not_lt.mp (q1599 ▸ c_59_1600), Int32.not_lt.mp (q1603 ▸ c_75_1604), (fun h9 => Int32.not_le.mpr (q1586 ▸ c_39_1596) h9.2)⟩).symm
              exact ihP (kP + 1) (bi ||| (1 <<< ((nI kP) &&& 31))) _ (by omega) (by first | assumption | exact Or.inl rfl | exact Or.inr rfl | exact rfl) (lv_sub hl [0, 4, 1, 5] rfl)
        · refine lv_iconst (v := 1) hx hb gX0_inView_2.2.2.2.1 (by decide) ?_
          refine lv_goto (tgt := 47) hx hb gX0_inView_2.2.2.2.2.1 (by decide) ?_
          refine lv_istore (lv' := [(5, .int 1), (4, .int r1584), (3, .int (nI kP)), (2, .int (DAYV td vd)), (1, .int bi), (0, .ref h0)]) hx hb gX0_inView_2.2.2.2.2.2.2.1 hl (by decide) rfl (fun ls hl => ?_)
          refine lv_aload_n hx hb gX0_inView_2.2.2.2.2.2.2.2.1 rfl (lv_at5 hl) ?_
          refine gf_X0_20 hC rfl hK hP 0 rfl rfl gX0_inView_2.2.2.2.2.2.2.2.2.1 ?_
          refine lv_iload_n hx hb gX0_inView_2.2.2.2.2.2.2.2.2.2 rfl (lv_at2 hl) ?_
          refine lv_iconst (v := 4) hx hb gX0_inView_3.1 (by decide) ?_
          refine pV hC hK hl hP hD (c_T_at l G bpapers (nI kP) 4 12 6 bpapersc kbpapers fbpapers (hkbpapers) (by omega) (by omega)) si_X0_71 [1, 2] sm_1_2 fm_1_2 nd_1_2 rfl rfl rfl rfl rfl (Nat.le_of_ble_eq_true rfl) rm_3_1_3 ⟨by first | exact Nat.le_of_ble_eq_true rfl | exact Nat.zero_le _, by first | exact Nat.le_of_ble_eq_true rfl | exact Nat.zero_le _⟩ gX0_inView_3.2.1 (fun r1605 hr1605 => ?_)
          have q1607 : r1605 = fbpapers (kP * 6 + 4) := hr1605.trans (tatr (by omega) (by omega) (by decide) (by decide) rfl)
          refine lv_iload_n hx hb gX0_inView_3.2.2.1 rfl (lv_at3 hl) ?_
          refine lv_icmp_gt (tgt := 89) hx hb gX0_inView_3.2.2.2.1 (by decide) (fun c_59_1608 => ?_) (fun c_59_1608 => ?_)
          · refine lv_iinc (v := nI (kP + 1)) (lv' := [(3, .int (nI (kP + 1))), (5, .int 1), (4, .int r1584), (2, .int (DAYV td vd)), (1, .int bi), (0, .ref h0)]) hx hb gX0_inView_5.1 hl (k := 2) rfl (nI_1 _) (by decide) rfl (fun ls hl => ?_)
            refine lv_goto (tgt := 9) hx hb gX0_inView_5.2.1 (by decide) ?_
            have hst9 : bi = IVW fbpapers td vd vl (kP + 1) := hbi.trans (ifc_f (q := SEE fbpapers td vd vl kP) (fun h9 => Int32.not_le.mpr (q1607 ▸ c_59_1608) h9.1)).symm
            exact ihP (kP + 1) bi _ (by omega) (by first | assumption | exact Or.inl rfl | exact Or.inr rfl | exact rfl) (lv_sub hl [0, 3, 4, 5] rfl)
          · refine lv_aload_n hx hb gX0_inView_3.2.2.2.2.1 rfl (lv_at5 hl) ?_
            refine gf_X0_20 hC rfl hK hP 0 rfl rfl gX0_inView_3.2.2.2.2.2.1 ?_
            refine lv_iload_n hx hb gX0_inView_3.2.2.2.2.2.2.1 rfl (lv_at2 hl) ?_
            refine lv_iconst (v := 3) hx hb gX0_inView_3.2.2.2.2.2.2.2.1 (by decide) ?_
            refine pV hC hK hl hP hD (c_T_at l G bpapers (nI kP) 3 12 6 bpapersc kbpapers fbpapers (hkbpapers) (by omega) (by omega)) si_X0_71 [1, 2] sm_1_2 fm_1_2 nd_1_2 rfl rfl rfl rfl rfl (Nat.le_of_ble_eq_true rfl) rm_3_1_3 ⟨by first | exact Nat.le_of_ble_eq_true rfl | exact Nat.zero_le _, by first | exact Nat.le_of_ble_eq_true rfl | exact Nat.zero_le _⟩ gX0_inView_3.2.2.2.2.2.2.2.2.1 (fun r1609 hr1609 => ?_)
            have q1611 : r1609 = fbpapers (kP * 6 + 3) := hr1609.trans (tatr (by omega) (by omega) (by decide) (by decide) rfl)
            refine lv_aload_n hx hb gX0_inView_3.2.2.2.2.2.2.2.2.2 rfl (lv_at5 hl) ?_
            refine gf_X0_54 hC rfl hK hP 0 rfl rfl gX0_inView_4.1 ?_
            refine lv_icmp_gt (tgt := 89) hx hb gX0_inView_4.2.1 (by decide) (fun c_75_1612 => ?_) (fun c_75_1612 => ?_)
            · refine lv_iinc (v := nI (kP + 1)) (lv' := [(3, .int (nI (kP + 1))), (5, .int 1), (4, .int r1584), (2, .int (DAYV td vd)), (1, .int bi), (0, .ref h0)]) hx hb gX0_inView_5.1 hl (k := 2) rfl (nI_1 _) (by decide) rfl (fun ls hl => ?_)
              refine lv_goto (tgt := 9) hx hb gX0_inView_5.2.1 (by decide) ?_
              have hst9 : bi = IVW fbpapers td vd vl (kP + 1) := hbi.trans (ifc_f (q := SEE fbpapers td vd vl kP) (fun h9 => Int32.not_le.mpr (q1611 ▸ c_75_1612) h9.2.1)).symm
              exact ihP (kP + 1) bi _ (by omega) (by first | assumption | exact Or.inl rfl | exact Or.inr rfl | exact rfl) (lv_sub hl [0, 3, 4, 5] rfl)
            · refine lv_iload hx hb gX0_inView_4.2.2.1 (lv_at0 hl) ?_
              refine lv_if_ne (tgt := 89) hx hb gX0_inView_4.2.2.2.1 (by decide) (fun _ => ?_) (fun c9 => absurd c9 (by decide))
              refine lv_iinc (v := nI (kP + 1)) (lv' := [(3, .int (nI (kP + 1))), (5, .int 1), (4, .int r1584), (2, .int (DAYV td vd)), (1, .int bi), (0, .ref h0)]) hx hb gX0_inView_5.1 hl (k := 2) rfl (nI_1 _) (by decide) rfl (fun ls hl => ?_)
              refine lv_goto (tgt := 9) hx hb gX0_inView_5.2.1 (by decide) ?_
              have hst9 : bi = IVW fbpapers td vd vl (kP + 1) := hbi.trans (ifc_f (q := SEE fbpapers td vd vl kP) (fun h9 => h9.2.2 ⟨Int32.not_lt.mp (q1586 ▸ c_33_1587), Int32.not_lt.mp (q1586 ▸ c_39_1596)⟩)).symm
              exact ihP (kP + 1) bi _ (by omega) (by first | assumption | exact Or.inl rfl | exact Or.inr rfl | exact rfl) (lv_sub hl [0, 3, 4, 5] rfl)
  exact keyP kbpapers 0 0 _ (by omega) (by first | assumption | exact Or.inl rfl | exact Or.inr rfl | exact rfl) (lv_sub hl [0, 1, 2, 3] rfl)
def K_c_bitCountX (l : Launch) (G : GG) (iv : Int32) : Prop := MP l G yJ6_bitCount_0f7a4 cJ6_bitCount_0f7a4 1 (some .int) 1 [.int iv] [] (fun r : Int32 => r = (BCN iv))
set_option maxHeartbeats 4000000 in
set_option maxRecDepth 100000 in
theorem c_bitCountX (l : Launch) (G : GG) (iv : Int32) : K_c_bitCountX l G iv := by
  refine MP.start (by decide +kernel) (Nat.le_of_ble_eq_true rfl) ?_
  intro p e s m below meth c ls hC hK hP hD hl
  refine absQ (fun Q0 hQ0 => ?_)
  have hl : lv_has ls 1 [(0, .int iv)] := hl
  refine Kan8 hC (fun hx hb hr hml hB hown hlocks hnm => ?_)
  refine lv_iload_n hx hb gJ6_bitCount_0f7a4_0.1 rfl (lv_at0 hl) ?_
  refine lv_iload_n hx hb gJ6_bitCount_0f7a4_0.2.1 rfl (lv_at0 hl) ?_
  refine lv_iconst (v := 1) hx hb gJ6_bitCount_0f7a4_0.2.2.1 (by decide) ?_
  refine lv_iushr hx hb gJ6_bitCount_0f7a4_0.2.2.2.1 rfl ?_
  refine lv_topi (fun x1613 ex1613 => ?_)
  refine lv_ldcw hx hb hown (hB _ m_318) gJ6_bitCount_0f7a4_0.2.2.2.2.1 ?_
  refine lv_iand hx hb gJ6_bitCount_0f7a4_0.2.2.2.2.2.1 ?_
  refine lv_isub hx hb gJ6_bitCount_0f7a4_0.2.2.2.2.2.2.1 ?_
  refine lv_istore_n (lv' := [(0, .int (iv - (x1613 &&& 1431655765)))]) hx hb gJ6_bitCount_0f7a4_0.2.2.2.2.2.2.2.1 rfl hl (by decide) rfl (fun ls hl => ?_)
  refine lv_iload_n hx hb gJ6_bitCount_0f7a4_0.2.2.2.2.2.2.2.2.1 rfl (lv_at0 hl) ?_
  refine lv_ldcw hx hb hown (hB _ m_319) gJ6_bitCount_0f7a4_0.2.2.2.2.2.2.2.2.2 ?_
  refine lv_iand hx hb gJ6_bitCount_0f7a4_1.1 ?_
  refine lv_iload_n hx hb gJ6_bitCount_0f7a4_1.2.1 rfl (lv_at0 hl) ?_
  refine lv_iconst (v := 2) hx hb gJ6_bitCount_0f7a4_1.2.2.1 (by decide) ?_
  refine lv_iushr hx hb gJ6_bitCount_0f7a4_1.2.2.2.1 rfl ?_
  refine lv_topi (fun x1614 ex1614 => ?_)
  refine lv_ldcw hx hb hown (hB _ m_319) gJ6_bitCount_0f7a4_1.2.2.2.2.1 ?_
  refine lv_iand hx hb gJ6_bitCount_0f7a4_1.2.2.2.2.2.1 ?_
  refine lv_iadd hx hb gJ6_bitCount_0f7a4_1.2.2.2.2.2.2.1 ?_
  refine lv_istore_n (lv' := [(0, .int (((iv - (x1613 &&& 1431655765)) &&& 858993459) + (x1614 &&& 858993459)))]) hx hb gJ6_bitCount_0f7a4_1.2.2.2.2.2.2.2.1 rfl hl (by decide) rfl (fun ls hl => ?_)
  refine lv_iload_n hx hb gJ6_bitCount_0f7a4_1.2.2.2.2.2.2.2.2.1 rfl (lv_at0 hl) ?_
  refine lv_iload_n hx hb gJ6_bitCount_0f7a4_1.2.2.2.2.2.2.2.2.2 rfl (lv_at0 hl) ?_
  refine lv_iconst (v := 4) hx hb gJ6_bitCount_0f7a4_2.1 (by decide) ?_
  refine lv_iushr hx hb gJ6_bitCount_0f7a4_2.2.1 rfl ?_
  refine lv_topi (fun x1615 ex1615 => ?_)
  refine lv_iadd hx hb gJ6_bitCount_0f7a4_2.2.2.1 ?_
  refine lv_ldcw hx hb hown (hB _ m_320) gJ6_bitCount_0f7a4_2.2.2.2.1 ?_
  refine lv_iand hx hb gJ6_bitCount_0f7a4_2.2.2.2.2.1 ?_
  refine lv_istore_n (lv' := [(0, .int (((((iv - (x1613 &&& 1431655765)) &&& 858993459) + (x1614 &&& 858993459)) + x1615) &&& 252645135))]) hx hb gJ6_bitCount_0f7a4_2.2.2.2.2.2.1 rfl hl (by decide) rfl (fun ls hl => ?_)
  refine lv_iload_n hx hb gJ6_bitCount_0f7a4_2.2.2.2.2.2.2.1 rfl (lv_at0 hl) ?_
  refine lv_iload_n hx hb gJ6_bitCount_0f7a4_2.2.2.2.2.2.2.2.1 rfl (lv_at0 hl) ?_
  refine lv_bipush (v := 8) hx hb gJ6_bitCount_0f7a4_2.2.2.2.2.2.2.2.2.1 (by decide) ?_
  refine lv_iushr hx hb gJ6_bitCount_0f7a4_2.2.2.2.2.2.2.2.2.2 rfl ?_
  refine lv_topi (fun x1616 ex1616 => ?_)
  refine lv_iadd hx hb gJ6_bitCount_0f7a4_3.1 ?_
  refine lv_istore_n (lv' := [(0, .int ((((((iv - (x1613 &&& 1431655765)) &&& 858993459) + (x1614 &&& 858993459)) + x1615) &&& 252645135) + x1616))]) hx hb gJ6_bitCount_0f7a4_3.2.1 rfl hl (by decide) rfl (fun ls hl => ?_)
  refine lv_iload_n hx hb gJ6_bitCount_0f7a4_3.2.2.1 rfl (lv_at0 hl) ?_
  refine lv_iload_n hx hb gJ6_bitCount_0f7a4_3.2.2.2.1 rfl (lv_at0 hl) ?_
  refine lv_bipush (v := 16) hx hb gJ6_bitCount_0f7a4_3.2.2.2.2.1 (by decide) ?_
  refine lv_iushr hx hb gJ6_bitCount_0f7a4_3.2.2.2.2.2.1 rfl ?_
  refine lv_topi (fun x1617 ex1617 => ?_)
  refine lv_iadd hx hb gJ6_bitCount_0f7a4_3.2.2.2.2.2.2.1 ?_
  refine lv_istore_n (lv' := [(0, .int (((((((iv - (x1613 &&& 1431655765)) &&& 858993459) + (x1614 &&& 858993459)) + x1615) &&& 252645135) + x1616) + x1617))]) hx hb gJ6_bitCount_0f7a4_3.2.2.2.2.2.2.2.1 rfl hl (by decide) rfl (fun ls hl => ?_)
  refine lv_iload_n hx hb gJ6_bitCount_0f7a4_3.2.2.2.2.2.2.2.2.1 rfl (lv_at0 hl) ?_
  refine lv_bipush (v := 63) hx hb gJ6_bitCount_0f7a4_3.2.2.2.2.2.2.2.2.2 (by decide) ?_
  refine lv_iand hx hb gJ6_bitCount_0f7a4_4.1 ?_
  refine toQ hQ0 ?_
  exact RP (v := (((((((iv - (x1613 &&& 1431655765)) &&& 858993459) + (x1614 &&& 858993459)) + x1615) &&& 252645135) + x1616) + x1617) &&& 63) hC ((by subst_vars; rfl)) rfl gJ6_bitCount_0f7a4_4.2
def K_p_view (l : Launch) (G : GG) (h0 : Nat) (dy : Int32) (lv : Int32) (bb : Nat) (kk : Nat) (ikp : Int32) (sg : Nat) (do9 : Nat) (ru9 : Nat) (ta9 : Nat) (tp9 : Nat) (ro9 : Nat) (ho9 : Nat) (de9 : Nat) (bpersons : Nat) (bpapers : Nat) (bstamps : Nat) (bversions : Nat) (blines : Nat) (bsteps : Nat) (bsayings : Nat) (bfindings : Nat) (bwarnings : Nat) (bquestions : Nat) (td : Int32) (vd : Int32) (vl : Int32) (gp : Int32) (bpapersc : Nat) (kbpapers : Nat) (fbpapers : Nat → Int32) : Prop := MI l G yX11_view cX11_view 3 (some .int) 5 0 0 [.ref h0, .int dy, .int lv] [(h0, oX11 bb kk ikp sg do9 ru9 ta9 tp9 ro9 ho9 de9), (bb, oX0 bpersons bpapers bstamps bversions blines bsteps bsayings bfindings bwarnings bquestions td vd vl gp), (bpapers, oX8 12 6 bpapersc (nI kbpapers)), (bpapersc, iA G 72 fbpapers)] (fun (r : Int32) (u : Int32 × Int32) => (r = ifc (Wi dy (-1) 499) (ifc (Wi lv 0 3) (BCN (IVW fbpapers td dy lv kbpapers)) (-1)) (-1)) ∧ (ifc (Wi dy (-1) 499) (ifc (Wi lv 0 3) dy vd) vd = u.1 ∧ ifc (Wi dy (-1) 499) (ifc (Wi lv 0 3) lv vl) vl = u.2)) (fun u : Int32 × Int32 => [(h0, oX11 bb kk ikp sg do9 ru9 ta9 tp9 ro9 ho9 de9), (bb, oX0 bpersons bpapers bstamps bversions blines bsteps bsayings bfindings bwarnings bquestions td u.1 u.2 gp), (bpapers, oX8 12 6 bpapersc (nI kbpapers)), (bpapersc, iA G 72 fbpapers)])
set_option maxHeartbeats 4000000 in
set_option maxRecDepth 100000 in
theorem p_view (l : Launch) (G : GG) (h0 : Nat) (dy : Int32) (lv : Int32) (bb : Nat) (kk : Nat) (ikp : Int32) (sg : Nat) (do9 : Nat) (ru9 : Nat) (ta9 : Nat) (tp9 : Nat) (ro9 : Nat) (ho9 : Nat) (de9 : Nat) (bpersons : Nat) (bpapers : Nat) (bstamps : Nat) (bversions : Nat) (blines : Nat) (bsteps : Nat) (bsayings : Nat) (bfindings : Nat) (bwarnings : Nat) (bquestions : Nat) (td : Int32) (vd : Int32) (vl : Int32) (gp : Int32) (bpapersc : Nat) (kbpapers : Nat) (fbpapers : Nat → Int32) (hkbpapers : kbpapers ≤ 12) : K_p_view l G h0 dy lv bb kk ikp sg do9 ru9 ta9 tp9 ro9 ho9 de9 bpersons bpapers bstamps bversions blines bsteps bsayings bfindings bwarnings bquestions td vd vl gp bpapersc kbpapers fbpapers := by
  refine MI.start (by decide +kernel) (Nat.le_of_ble_eq_true rfl) ?_
  intro p e s m below meth c A ls hC hK hP hD hS hA hl
  refine absQ (fun Q0 hQ0 => ?_)
  have hl : lv_has ls 3 [(0, .ref h0), (1, .int dy), (2, .int lv)] := hl
  refine Kan8 hC (fun hx hb hr hml hB hown hlocks hnm => ?_)
  refine lv_iload_n hx hb gX11_view_0.1 rfl (lv_at1 hl) ?_
  refine lv_iconst (v := (-1)) hx hb gX11_view_0.2.1 (by decide) ?_
  refine lv_sipush (v := 499) hx hb gX11_view_0.2.2.1 (by decide) ?_
  refine pS hC hK hl (c_within l G dy (-1) 499) si_X11_83 rfl rfl (Nat.le_of_ble_eq_true rfl) rm_5_1_3 ⟨by first | exact Nat.le_of_ble_eq_true rfl | exact Nat.zero_le _, by first | exact Nat.le_of_ble_eq_true rfl | exact Nat.zero_le _⟩ gX11_view_0.2.2.2.1 (Kors (Keqa fun a1619 => ?_) (Keqa fun a1619 => ?_))
  · refine lv_if_eq (tgt := 20) hx hb gX11_view_0.2.2.2.2.1 (by decide) (fun c9 => absurd c9 (by decide)) (fun _ => ?_)
    refine lv_iload_n hx hb gX11_view_0.2.2.2.2.2.1 rfl (lv_at2 hl) ?_
    refine lv_iconst (v := 0) hx hb gX11_view_0.2.2.2.2.2.2.1 (by decide) ?_
    refine lv_iconst (v := 3) hx hb gX11_view_0.2.2.2.2.2.2.2.1 (by decide) ?_
    refine pS hC hK hl (c_within l G lv 0 3) si_X11_83 rfl rfl (Nat.le_of_ble_eq_true rfl) rm_5_1_3 ⟨by first | exact Nat.le_of_ble_eq_true rfl | exact Nat.zero_le _, by first | exact Nat.le_of_ble_eq_true rfl | exact Nat.zero_le _⟩ gX11_view_0.2.2.2.2.2.2.2.2.1 (Kors (Keqa fun a1621 => ?_) (Keqa fun a1621 => ?_))
    · refine lv_if_ne (tgt := 22) hx hb gX11_view_0.2.2.2.2.2.2.2.2.2 (by decide) (fun _ => ?_) (fun c9 => absurd c9 (by decide))
      refine lv_aload_n hx hb gX11_view_1.2.2.1 rfl (lv_at0 hl) ?_
      refine gf_X11_15 hC rfl hK hP 0 rfl rfl gX11_view_1.2.2.2.1 ?_
      refine lv_iload_n hx hb gX11_view_1.2.2.2.2.1 rfl (lv_at1 hl) ?_
      refine pf_X11_91 hC rfl hK hP hD hS 1 (ws' := [(h0, oX11 bb kk ikp sg do9 ru9 ta9 tp9 ro9 ho9 de9), (bb, oX0 bpersons bpapers bstamps bversions blines bsteps bsayings bfindings bwarnings bquestions td dy vl gp), (bpapers, oX8 12 6 bpapersc (nI kbpapers)), (bpapersc, iA G 72 fbpapers)]) rfl (Nat.le_of_ble_eq_true rfl) rfl rfl rfl gX11_view_1.2.2.2.2.2.1 (fun H locs hP hD hS => ?_)
      refine lv_aload_n hx hb gX11_view_1.2.2.2.2.2.2.1 rfl (lv_at0 hl) ?_
      refine gf_X11_15 hC rfl hK hP 0 rfl rfl gX11_view_1.2.2.2.2.2.2.2.1 ?_
      refine lv_iload_n hx hb gX11_view_1.2.2.2.2.2.2.2.2.1 rfl (lv_at2 hl) ?_
      refine pf_X11_94 hC rfl hK hP hD hS 1 (ws' := [(h0, oX11 bb kk ikp sg do9 ru9 ta9 tp9 ro9 ho9 de9), (bb, oX0 bpersons bpapers bstamps bversions blines bsteps bsayings bfindings bwarnings bquestions td dy lv gp), (bpapers, oX8 12 6 bpapersc (nI kbpapers)), (bpapersc, iA G 72 fbpapers)]) rfl (Nat.le_of_ble_eq_true rfl) rfl rfl rfl gX11_view_1.2.2.2.2.2.2.2.2.2 (fun H locs hP hD hS => ?_)
      refine lv_aload_n hx hb gX11_view_2.1 rfl (lv_at0 hl) ?_
      refine gf_X11_15 hC rfl hK hP 0 rfl rfl gX11_view_2.2.1 ?_
      refine pV hC hK hl hP hD (c_inViewX l G bb bpersons bpapers bstamps bversions blines bsteps bsayings bfindings bwarnings bquestions td dy lv gp bpapersc kbpapers fbpapers (hkbpapers)) si_X11_97 [1, 2, 3] sm_1_2_3 fm_1_2_3 nd_1_2_3 rfl rfl rfl rfl rfl (Nat.le_of_ble_eq_true rfl) rm_5_3_6 ⟨by first | exact Nat.le_of_ble_eq_true rfl | exact Nat.zero_le _, by first | exact Nat.le_of_ble_eq_true rfl | exact Nat.zero_le _⟩ gX11_view_2.2.2.1 (Keqr ?_)
      refine pS hC hK hl (c_bitCountX l G (IVW fbpapers td dy lv kbpapers)) si_X11_101 rfl rfl (Nat.le_of_ble_eq_true rfl) rm_5_1_1 ⟨by first | exact Nat.le_of_ble_eq_true rfl | exact Nat.zero_le _, by first | exact Nat.le_of_ble_eq_true rfl | exact Nat.zero_le _⟩ gX11_view_2.2.2.2.1 (Keqr ?_)
      refine toQ hQ0 ?_
      exact RI (v := (BCN (IVW fbpapers td dy lv kbpapers))) hC hP hD hS [0, 1, 2, 3] (dy, lv) rfl rfl (by decide) (⟨(by first | rfl | (simp only [ifc_t hkbpapers, ifc_t a1619, ifc_t a1621]; done) | (simp only [ifc_t hkbpapers, ifc_t a1619, ifc_t a1621]; rfl) | (dsimp only; simp only [ifc_t hkbpapers, ifc_t a1619, ifc_t a1621]; done)), ⟨(by simp only [ifc_t hkbpapers, ifc_t a1619, ifc_t a1621]), (by simp only [ifc_t hkbpapers, ifc_t a1619, ifc_t a1621])⟩⟩) rfl gX11_view_2.2.2.2.2
    · refine lv_if_ne (tgt := 22) hx hb gX11_view_0.2.2.2.2.2.2.2.2.2 (by decide) (fun c9 => absurd (by decide) c9) (fun _ => ?_)
      refine lv_iconst (v := (-1)) hx hb gX11_view_1.1 (by decide) ?_
      refine toQ hQ0 ?_
      exact RI (v := (-1)) hC hP hD hS [0, 1, 2, 3] (vd, vl) rfl rfl (by decide) (⟨(by first | rfl | (simp only [ifc_t hkbpapers, ifc_t a1619, ifc_f a1621]; done) | (simp only [ifc_t hkbpapers, ifc_t a1619, ifc_f a1621]; rfl) | (dsimp only; simp only [ifc_t hkbpapers, ifc_t a1619, ifc_f a1621]; done)), ⟨(by simp only [ifc_t hkbpapers, ifc_t a1619, ifc_f a1621]), (by simp only [ifc_t hkbpapers, ifc_t a1619, ifc_f a1621])⟩⟩) rfl gX11_view_1.2.1
  · refine lv_if_eq (tgt := 20) hx hb gX11_view_0.2.2.2.2.1 (by decide) (fun _ => ?_) (fun c9 => absurd (by decide) c9)
    refine lv_iconst (v := (-1)) hx hb gX11_view_1.1 (by decide) ?_
    refine toQ hQ0 ?_
    exact RI (v := (-1)) hC hP hD hS [0, 1, 2, 3] (vd, vl) rfl rfl (by decide) (⟨(by first | rfl | (simp only [ifc_t hkbpapers, ifc_f a1619]; done) | (simp only [ifc_t hkbpapers, ifc_f a1619]; rfl) | (dsimp only; simp only [ifc_t hkbpapers, ifc_f a1619]; done)), ⟨(by simp only [ifc_t hkbpapers, ifc_f a1619]), (by simp only [ifc_t hkbpapers, ifc_f a1619])⟩⟩) rfl gX11_view_1.2.1
def K_c_countStampsX (l : Launch) (G : GG) (h0 : Nat) (pa : Int32) (bpersons : Nat) (bpapers : Nat) (bstamps : Nat) (bversions : Nat) (blines : Nat) (bsteps : Nat) (bsayings : Nat) (bfindings : Nat) (bwarnings : Nat) (bquestions : Nat) (td : Int32) (vd : Int32) (vl : Int32) (gp : Int32) (bstampsc : Nat) (kbstamps : Nat) (fbstamps : Nat → Int32) : Prop := MP l G yX0_countStamps cX0_countStamps 4 (some .int) 3 [.ref h0, .int pa] [(h0, oX0 bpersons bpapers bstamps bversions blines bsteps bsayings bfindings bwarnings bquestions td vd vl gp), (bstamps, oX8 24 3 bstampsc (nI kbstamps)), (bstampsc, iA G 72 fbstamps)] (fun r : Int32 => r = (CNT (fun s9 => fbstamps (s9 * 3 + 0) = pa) kbstamps))
set_option maxHeartbeats 4000000 in
set_option maxRecDepth 100000 in
theorem c_countStampsX (l : Launch) (G : GG) (h0 : Nat) (pa : Int32) (bpersons : Nat) (bpapers : Nat) (bstamps : Nat) (bversions : Nat) (blines : Nat) (bsteps : Nat) (bsayings : Nat) (bfindings : Nat) (bwarnings : Nat) (bquestions : Nat) (td : Int32) (vd : Int32) (vl : Int32) (gp : Int32) (bstampsc : Nat) (kbstamps : Nat) (fbstamps : Nat → Int32) (hkbstamps : kbstamps ≤ 24) : K_c_countStampsX l G h0 pa bpersons bpapers bstamps bversions blines bsteps bsayings bfindings bwarnings bquestions td vd vl gp bstampsc kbstamps fbstamps := by
  refine MP.start (by decide +kernel) (Nat.le_of_ble_eq_true rfl) ?_
  intro p e s m below meth c ls hC hK hP hD hl
  refine absQ (fun Q0 hQ0 => ?_)
  have hl : lv_has ls 4 [(0, .ref h0), (1, .int pa)] := hl
  refine Kan8 hC (fun hx hb hr hml hB hown hlocks hnm => ?_)
  refine lv_iconst (v := 0) hx hb gX0_countStamps_0.1 (by decide) ?_
  refine lv_istore_n (lv' := [(2, .int 0), (0, .ref h0), (1, .int pa)]) hx hb gX0_countStamps_0.2.1 rfl hl (by decide) rfl (fun ls hl => ?_)
  refine lv_iconst (v := 0) hx hb gX0_countStamps_0.2.2.1 (by decide) ?_
  refine lv_istore_n (lv' := [(3, .int 0), (2, .int 0), (0, .ref h0), (1, .int pa)]) hx hb gX0_countStamps_0.2.2.2.1 rfl hl (by decide) rfl (fun ls hl => ?_)
  have keyP : ∀ (nP kP : Nat) (cn : Int32) (ls : Array Slot), kP + nP = kbstamps → (cn = CNT (fun s9 => fbstamps (s9 * 3 + 0) = pa) kP) → lv_has ls 4 [(3, .int (nI kP)), (2, .int cn), (0, .ref h0), (1, .int pa)] → W p l e (RM 3 0 0) s m ([.ref h0, .int pa] : List Value).toArray below meth c s.heap [] 0 0 Q0 (F0 m 4 ls []) := by
    intro nP
    induction nP with
    | zero =>
      intro kP cn ls hkP hcn hl
      obtain rfl : kbstamps = kP := by omega
      have hl : lv_has ls 4 [(3, .int (nI kbstamps)), (2, .int cn), (0, .ref h0), (1, .int pa)] := hl
      refine lv_iload_n hx hb gX0_countStamps_0.2.2.2.2.1 rfl (lv_at0 hl) ?_
      refine lv_aload_n hx hb gX0_countStamps_0.2.2.2.2.2.1 rfl (lv_at2 hl) ?_
      refine gf_X0_23 hC rfl hK hP 0 rfl rfl gX0_countStamps_0.2.2.2.2.2.2.1 ?_
      refine pV hC hK hl hP hD (c_T_count l G bstamps 24 3 bstampsc kbstamps) si_X0_68 [1] sm_1 fm_1 nd_1 rfl rfl rfl rfl rfl (Nat.le_of_ble_eq_true rfl) rm_3_1_1 ⟨by first | exact Nat.le_of_ble_eq_true rfl | exact Nat.zero_le _, by first | exact Nat.le_of_ble_eq_true rfl | exact Nat.zero_le _⟩ gX0_countStamps_0.2.2.2.2.2.2.2.1 (Keqr ?_)
      refine lv_icmp_ge (tgt := 37) hx hb gX0_countStamps_0.2.2.2.2.2.2.2.2.1 (by decide) (fun _ => ?_) (fun c9 => absurd (Int32.le_refl _) c9)
      refine lv_iload_n hx hb gX0_countStamps_1.2.2.2.2.2.2.2.2.2 rfl (lv_at1 hl) ?_
      refine toQ hQ0 ?_
      exact RP (v := cn) hC (hcn) rfl gX0_countStamps_2
    | succ nP ihP =>
      intro kP cn ls hkP hcn hl
      refine lv_iload_n hx hb gX0_countStamps_0.2.2.2.2.1 rfl (lv_at0 hl) ?_
      refine lv_aload_n hx hb gX0_countStamps_0.2.2.2.2.2.1 rfl (lv_at2 hl) ?_
      refine gf_X0_23 hC rfl hK hP 0 rfl rfl gX0_countStamps_0.2.2.2.2.2.2.1 ?_
      refine pV hC hK hl hP hD (c_T_count l G bstamps 24 3 bstampsc kbstamps) si_X0_68 [1] sm_1 fm_1 nd_1 rfl rfl rfl rfl rfl (Nat.le_of_ble_eq_true rfl) rm_3_1_1 ⟨by first | exact Nat.le_of_ble_eq_true rfl | exact Nat.zero_le _, by first | exact Nat.le_of_ble_eq_true rfl | exact Nat.zero_le _⟩ gX0_countStamps_0.2.2.2.2.2.2.2.1 (Keqr ?_)
      refine lv_icmp_ge (tgt := 37) hx hb gX0_countStamps_0.2.2.2.2.2.2.2.2.1 (by decide) (fun c9 => absurd c9 (nI_ge (a := kP) (b := kbstamps) (by omega) (by omega))) (fun _ => ?_)
      refine lv_aload_n hx hb gX0_countStamps_0.2.2.2.2.2.2.2.2.2 rfl (lv_at2 hl) ?_
      refine gf_X0_23 hC rfl hK hP 0 rfl rfl gX0_countStamps_1.1 ?_
      refine lv_iload_n hx hb gX0_countStamps_1.2.1 rfl (lv_at0 hl) ?_
      refine lv_iconst (v := 0) hx hb gX0_countStamps_1.2.2.1 (by decide) ?_
      refine pV hC hK hl hP hD (c_T_at l G bstamps (nI kP) 0 24 3 bstampsc kbstamps fbstamps (hkbstamps) (by omega) (by omega)) si_X0_71 [1, 2] sm_1_2 fm_1_2 nd_1_2 rfl rfl rfl rfl rfl (Nat.le_of_ble_eq_true rfl) rm_3_1_3 ⟨by first | exact Nat.le_of_ble_eq_true rfl | exact Nat.zero_le _, by first | exact Nat.le_of_ble_eq_true rfl | exact Nat.zero_le _⟩ gX0_countStamps_1.2.2.2.1 (fun r1630 hr1630 => ?_)
      have q1632 : r1630 = fbstamps (kP * 3 + 0) := hr1630.trans (tatr (by omega) (by omega) (by decide) (by decide) rfl)
      refine lv_iload_n hx hb gX0_countStamps_1.2.2.2.2.1 rfl (lv_at3 hl) ?_
      refine lv_icmp_ne (tgt := 31) hx hb gX0_countStamps_1.2.2.2.2.2.1 (by decide) (fun c_25_1633 => ?_) (fun c_25_1633 => ?_)
      · refine lv_iinc (v := nI (kP + 1)) (lv' := [(3, .int (nI (kP + 1))), (2, .int cn), (0, .ref h0), (1, .int pa)]) hx hb gX0_countStamps_1.2.2.2.2.2.2.2.1 hl (k := 0) rfl (nI_1 _) (by decide) rfl (fun ls hl => ?_)
        refine lv_goto (tgt := 4) hx hb gX0_countStamps_1.2.2.2.2.2.2.2.2.1 (by decide) ?_
        have hst9 : cn = CNT (fun s9 => fbstamps (s9 * 3 + 0) = pa) (kP + 1) := CNT.n hcn (fun h9 => c_25_1633 (q1632.trans h9))
        exact ihP (kP + 1) cn _ (by omega) (by first | assumption | exact Or.inl rfl | exact Or.inr rfl | exact rfl) (lv_sub hl [0, 1, 2, 3] rfl)
      · refine lv_iinc (v := cn + 1) (lv' := [(2, .int (cn + 1)), (3, .int (nI kP)), (0, .ref h0), (1, .int pa)]) hx hb gX0_countStamps_1.2.2.2.2.2.2.1 hl (k := 1) rfl (rfl) (by decide) rfl (fun ls hl => ?_)
        refine lv_iinc (v := nI (kP + 1)) (lv' := [(3, .int (nI (kP + 1))), (2, .int (cn + 1)), (0, .ref h0), (1, .int pa)]) hx hb gX0_countStamps_1.2.2.2.2.2.2.2.1 hl (k := 1) rfl (nI_1 _) (by decide) rfl (fun ls hl => ?_)
        refine lv_goto (tgt := 4) hx hb gX0_countStamps_1.2.2.2.2.2.2.2.2.1 (by decide) ?_
        have hst9 : cn + 1 = CNT (fun s9 => fbstamps (s9 * 3 + 0) = pa) (kP + 1) := CNT.y hcn (q1632.symm.trans c_25_1633)
        exact ihP (kP + 1) (cn + 1) _ (by omega) (by first | assumption | exact Or.inl rfl | exact Or.inr rfl | exact rfl) (lv_sub hl [0, 1, 2, 3] rfl)
  exact keyP kbstamps 0 0 _ (by omega) (by first | assumption | exact Or.inl rfl | exact Or.inr rfl | exact rfl) (lv_sub hl [0, 1, 2, 3] rfl)
def K_c_countToX (l : Launch) (G : GG) (h0 : Nat) (pe : Int32) (bpersons : Nat) (bpapers : Nat) (bstamps : Nat) (bversions : Nat) (blines : Nat) (bsteps : Nat) (bsayings : Nat) (bfindings : Nat) (bwarnings : Nat) (bquestions : Nat) (td : Int32) (vd : Int32) (vl : Int32) (gp : Int32) (bpapersc : Nat) (kbpapers : Nat) (fbpapers : Nat → Int32) : Prop := MP l G yX0_countTo cX0_countTo 5 (some .int) 3 [.ref h0, .int pe, .int (IVW fbpapers td vd vl kbpapers)] [(h0, oX0 bpersons bpapers bstamps bversions blines bsteps bsayings bfindings bwarnings bquestions td vd vl gp), (bpapers, oX8 12 6 bpapersc (nI kbpapers)), (bpapersc, iA G 72 fbpapers)] (fun r : Int32 => r = (CNT (fun p9 => SEE fbpapers td vd vl p9 ∧ HB (fbpapers (p9 * 6 + 1)) pe) kbpapers))
set_option maxHeartbeats 4000000 in
set_option maxRecDepth 100000 in
theorem c_countToX (l : Launch) (G : GG) (h0 : Nat) (pe : Int32) (bpersons : Nat) (bpapers : Nat) (bstamps : Nat) (bversions : Nat) (blines : Nat) (bsteps : Nat) (bsayings : Nat) (bfindings : Nat) (bwarnings : Nat) (bquestions : Nat) (td : Int32) (vd : Int32) (vl : Int32) (gp : Int32) (bpapersc : Nat) (kbpapers : Nat) (fbpapers : Nat → Int32) (hkbpapers : kbpapers ≤ 12) : K_c_countToX l G h0 pe bpersons bpapers bstamps bversions blines bsteps bsayings bfindings bwarnings bquestions td vd vl gp bpapersc kbpapers fbpapers := by
  refine MP.start (by decide +kernel) (Nat.le_of_ble_eq_true rfl) ?_
  intro p e s m below meth c ls hC hK hP hD hl
  refine absQ (fun Q0 hQ0 => ?_)
  have hl : lv_has ls 5 [(0, .ref h0), (1, .int pe), (2, .int (IVW fbpapers td vd vl kbpapers))] := hl
  refine Kan8 hC (fun hx hb hr hml hB hown hlocks hnm => ?_)
  refine lv_iconst (v := 0) hx hb gX0_countTo_0.1 (by decide) ?_
  refine lv_istore_n (lv' := [(3, .int 0), (0, .ref h0), (1, .int pe), (2, .int (IVW fbpapers td vd vl kbpapers))]) hx hb gX0_countTo_0.2.1 rfl hl (by decide) rfl (fun ls hl => ?_)
  refine lv_iconst (v := 0) hx hb gX0_countTo_0.2.2.1 (by decide) ?_
  refine lv_istore (lv' := [(4, .int 0), (3, .int 0), (0, .ref h0), (1, .int pe), (2, .int (IVW fbpapers td vd vl kbpapers))]) hx hb gX0_countTo_0.2.2.2.1 hl (by decide) rfl (fun ls hl => ?_)
  have keyP : ∀ (nP kP : Nat) (cn : Int32) (ls : Array Slot), kP + nP = kbpapers → (cn = CNT (fun p9 => SEE fbpapers td vd vl p9 ∧ HB (fbpapers (p9 * 6 + 1)) pe) kP) → lv_has ls 5 [(4, .int (nI kP)), (3, .int cn), (0, .ref h0), (1, .int pe), (2, .int (IVW fbpapers td vd vl kbpapers))] → W p l e (RM 3 0 0) s m ([.ref h0, .int pe, .int (IVW fbpapers td vd vl kbpapers)] : List Value).toArray below meth c s.heap [] 0 0 Q0 (F0 m 5 ls []) := by
    intro nP
    induction nP with
    | zero =>
      intro kP cn ls hkP hcn hl
      obtain rfl : kbpapers = kP := by omega
      have hl : lv_has ls 5 [(4, .int (nI kbpapers)), (3, .int cn), (0, .ref h0), (1, .int pe), (2, .int (IVW fbpapers td vd vl kbpapers))] := hl
      refine lv_iload hx hb gX0_countTo_0.2.2.2.2.1 (lv_at0 hl) ?_
      refine lv_aload_n hx hb gX0_countTo_0.2.2.2.2.2.1 rfl (lv_at2 hl) ?_
      refine gf_X0_20 hC rfl hK hP 0 rfl rfl gX0_countTo_0.2.2.2.2.2.2.1 ?_
      refine pV hC hK hl hP hD (c_T_count l G bpapers 12 6 bpapersc kbpapers) si_X0_68 [1] sm_1 fm_1 nd_1 rfl rfl rfl rfl rfl (Nat.le_of_ble_eq_true rfl) rm_3_1_1 ⟨by first | exact Nat.le_of_ble_eq_true rfl | exact Nat.zero_le _, by first | exact Nat.le_of_ble_eq_true rfl | exact Nat.zero_le _⟩ gX0_countTo_0.2.2.2.2.2.2.2.1 (Keqr ?_)
      refine lv_icmp_ge (tgt := 52) hx hb gX0_countTo_0.2.2.2.2.2.2.2.2.1 (by decide) (fun _ => ?_) (fun c9 => absurd (Int32.le_refl _) c9)
      refine lv_iload_n hx hb gX0_countTo_2.2.2.2.2.1 rfl (lv_at1 hl) ?_
      refine toQ hQ0 ?_
      exact RP (v := cn) hC (hcn) rfl gX0_countTo_2.2.2.2.2.2
    | succ nP ihP =>
      intro kP cn ls hkP hcn hl
      refine lv_iload hx hb gX0_countTo_0.2.2.2.2.1 (lv_at0 hl) ?_
      refine lv_aload_n hx hb gX0_countTo_0.2.2.2.2.2.1 rfl (lv_at2 hl) ?_
      refine gf_X0_20 hC rfl hK hP 0 rfl rfl gX0_countTo_0.2.2.2.2.2.2.1 ?_
      refine pV hC hK hl hP hD (c_T_count l G bpapers 12 6 bpapersc kbpapers) si_X0_68 [1] sm_1 fm_1 nd_1 rfl rfl rfl rfl rfl (Nat.le_of_ble_eq_true rfl) rm_3_1_1 ⟨by first | exact Nat.le_of_ble_eq_true rfl | exact Nat.zero_le _, by first | exact Nat.le_of_ble_eq_true rfl | exact Nat.zero_le _⟩ gX0_countTo_0.2.2.2.2.2.2.2.1 (Keqr ?_)
      refine lv_icmp_ge (tgt := 52) hx hb gX0_countTo_0.2.2.2.2.2.2.2.2.1 (by decide) (fun c9 => absurd c9 (nI_ge (a := kP) (b := kbpapers) (by omega) (by omega))) (fun _ => ?_)
      refine lv_iload_n hx hb gX0_countTo_0.2.2.2.2.2.2.2.2.2 rfl (lv_at4 hl) ?_
      refine lv_iload hx hb gX0_countTo_1.1 (lv_at0 hl) ?_
      refine pSN hC hK hl (c_hasBit l G (IVW fbpapers td vd vl kbpapers) (nI kP)) si_X0_75 rfl rfl (Nat.le_of_ble_eq_true rfl) rm_3_1_2 ⟨by first | exact Nat.le_of_ble_eq_true rfl | exact Nat.zero_le _, by first | exact Nat.le_of_ble_eq_true rfl | exact Nat.zero_le _⟩ gX0_countTo_1.2.1 (Kors (Keqa fun a1639 => ?_) (Keqa fun a1639 => ?_))
      · refine lv_if_eq (tgt := 46) hx hb gX0_countTo_1.2.2.1 (by decide) (fun c9 => absurd c9 (by decide)) (fun _ => ?_)
        refine lv_aload_n hx hb gX0_countTo_1.2.2.2.1 rfl (lv_at2 hl) ?_
        refine gf_X0_20 hC rfl hK hP 0 rfl rfl gX0_countTo_1.2.2.2.2.1 ?_
        refine lv_iload hx hb gX0_countTo_1.2.2.2.2.2.1 (lv_at0 hl) ?_
        refine lv_iconst (v := 1) hx hb gX0_countTo_1.2.2.2.2.2.2.1 (by decide) ?_
        refine pV hC hK hl hP hD (c_T_at l G bpapers (nI kP) 1 12 6 bpapersc kbpapers fbpapers (hkbpapers) (by omega) (by omega)) si_X0_71 [1, 2] sm_1_2 fm_1_2 nd_1_2 rfl rfl rfl rfl rfl (Nat.le_of_ble_eq_true rfl) rm_3_1_3 ⟨by first | exact Nat.le_of_ble_eq_true rfl | exact Nat.zero_le _, by first | exact Nat.le_of_ble_eq_true rfl | exact Nat.zero_le _⟩ gX0_countTo_1.2.2.2.2.2.2.2.1 (fun r1640 hr1640 => ?_)
        have q1642 : r1640 = fbpapers (kP * 6 + 1) := hr1640.trans (tatr (by omega) (by omega) (by decide) (by decide) rfl)
        refine lv_iload_n hx hb gX0_countTo_1.2.2.2.2.2.2.2.2.1 rfl (lv_at3 hl) ?_
        refine pSN hC hK hl (c_hasBit l G r1640 pe) si_X0_75 rfl rfl (Nat.le_of_ble_eq_true rfl) rm_3_1_2 ⟨by first | exact Nat.le_of_ble_eq_true rfl | exact Nat.zero_le _, by first | exact Nat.le_of_ble_eq_true rfl | exact Nat.zero_le _⟩ gX0_countTo_1.2.2.2.2.2.2.2.2.2 (Kors (Keqa fun a1644 => ?_) (Keqa fun a1644 => ?_))
        · refine lv_if_eq (tgt := 46) hx hb gX0_countTo_2.1 (by decide) (fun c9 => absurd c9 (by decide)) (fun _ => ?_)
          refine lv_iinc (v := cn + 1) (lv' := [(3, .int (cn + 1)), (4, .int (nI kP)), (0, .ref h0), (1, .int pe), (2, .int (IVW fbpapers td vd vl kbpapers))]) hx hb gX0_countTo_2.2.1 hl (k := 1) rfl (rfl) (by decide) rfl (fun ls hl => ?_)
          refine lv_iinc (v := nI (kP + 1)) (lv' := [(4, .int (nI (kP + 1))), (3, .int (cn + 1)), (0, .ref h0), (1, .int pe), (2, .int (IVW fbpapers td vd vl kbpapers))]) hx hb gX0_countTo_2.2.2.1 hl (k := 1) rfl (nI_1 _) (by decide) rfl (fun ls hl => ?_)
          refine lv_goto (tgt := 5) hx hb gX0_countTo_2.2.2.2.1 (by decide) ?_
          have hst9 : cn + 1 = CNT (fun p9 => SEE fbpapers td vd vl p9 ∧ HB (fbpapers (p9 * 6 + 1)) pe) (kP + 1) := CNT.y hcn ⟨(IVW.hb (by omega) (by omega)).mp a1639, by rw [← q1642]; exact a1644⟩
          exact ihP (kP + 1) (cn + 1) _ (by omega) (by first | assumption | exact Or.inl rfl | exact Or.inr rfl | exact rfl) (lv_sub hl [0, 1, 2, 3, 4] rfl)
        · refine lv_if_eq (tgt := 46) hx hb gX0_countTo_2.1 (by decide) (fun _ => ?_) (fun c9 => absurd (by decide) c9)
          refine lv_iinc (v := nI (kP + 1)) (lv' := [(4, .int (nI (kP + 1))), (3, .int cn), (0, .ref h0), (1, .int pe), (2, .int (IVW fbpapers td vd vl kbpapers))]) hx hb gX0_countTo_2.2.2.1 hl (k := 0) rfl (nI_1 _) (by decide) rfl (fun ls hl => ?_)
          refine lv_goto (tgt := 5) hx hb gX0_countTo_2.2.2.2.1 (by decide) ?_
          have hst9 : cn = CNT (fun p9 => SEE fbpapers td vd vl p9 ∧ HB (fbpapers (p9 * 6 + 1)) pe) (kP + 1) := CNT.n hcn (fun h9 => a1644 (by rw [q1642]; exact h9.2))
          exact ihP (kP + 1) cn _ (by omega) (by first | assumption | exact Or.inl rfl | exact Or.inr rfl | exact rfl) (lv_sub hl [0, 1, 2, 3, 4] rfl)
      · refine lv_if_eq (tgt := 46) hx hb gX0_countTo_1.2.2.1 (by decide) (fun _ => ?_) (fun c9 => absurd (by decide) c9)
        refine lv_iinc (v := nI (kP + 1)) (lv' := [(4, .int (nI (kP + 1))), (3, .int cn), (0, .ref h0), (1, .int pe), (2, .int (IVW fbpapers td vd vl kbpapers))]) hx hb gX0_countTo_2.2.2.1 hl (k := 0) rfl (nI_1 _) (by decide) rfl (fun ls hl => ?_)
        refine lv_goto (tgt := 5) hx hb gX0_countTo_2.2.2.2.1 (by decide) ?_
        have hst9 : cn = CNT (fun p9 => SEE fbpapers td vd vl p9 ∧ HB (fbpapers (p9 * 6 + 1)) pe) (kP + 1) := CNT.n hcn (fun h9 => a1639 ((IVW.hb (by omega) (by omega)).mpr h9.1))
        exact ihP (kP + 1) cn _ (by omega) (by first | assumption | exact Or.inl rfl | exact Or.inr rfl | exact rfl) (lv_sub hl [0, 1, 2, 3, 4] rfl)
  exact keyP kbpapers 0 0 _ (by omega) (by first | assumption | exact Or.inl rfl | exact Or.inr rfl | exact rfl) (lv_sub hl [0, 1, 2, 3, 4] rfl)
def K_c_countByX (l : Launch) (G : GG) (h0 : Nat) (pe : Int32) (bpersons : Nat) (bpapers : Nat) (bstamps : Nat) (bversions : Nat) (blines : Nat) (bsteps : Nat) (bsayings : Nat) (bfindings : Nat) (bwarnings : Nat) (bquestions : Nat) (td : Int32) (vd : Int32) (vl : Int32) (gp : Int32) (bpapersc : Nat) (kbpapers : Nat) (fbpapers : Nat → Int32) : Prop := MP l G yX0_countBy cX0_countBy 5 (some .int) 3 [.ref h0, .int pe, .int (IVW fbpapers td vd vl kbpapers)] [(h0, oX0 bpersons bpapers bstamps bversions blines bsteps bsayings bfindings bwarnings bquestions td vd vl gp), (bpapers, oX8 12 6 bpapersc (nI kbpapers)), (bpapersc, iA G 72 fbpapers)] (fun r : Int32 => r = (CNT (fun p9 => SEE fbpapers td vd vl p9 ∧ fbpapers (p9 * 6 + 0) = pe) kbpapers))
set_option maxHeartbeats 4000000 in
set_option maxRecDepth 100000 in
theorem c_countByX (l : Launch) (G : GG) (h0 : Nat) (pe : Int32) (bpersons : Nat) (bpapers : Nat) (bstamps : Nat) (bversions : Nat) (blines : Nat) (bsteps : Nat) (bsayings : Nat) (bfindings : Nat) (bwarnings : Nat) (bquestions : Nat) (td : Int32) (vd : Int32) (vl : Int32) (gp : Int32) (bpapersc : Nat) (kbpapers : Nat) (fbpapers : Nat → Int32) (hkbpapers : kbpapers ≤ 12) : K_c_countByX l G h0 pe bpersons bpapers bstamps bversions blines bsteps bsayings bfindings bwarnings bquestions td vd vl gp bpapersc kbpapers fbpapers := by
  refine MP.start (by decide +kernel) (Nat.le_of_ble_eq_true rfl) ?_
  intro p e s m below meth c ls hC hK hP hD hl
  refine absQ (fun Q0 hQ0 => ?_)
  have hl : lv_has ls 5 [(0, .ref h0), (1, .int pe), (2, .int (IVW fbpapers td vd vl kbpapers))] := hl
  refine Kan8 hC (fun hx hb hr hml hB hown hlocks hnm => ?_)
  refine lv_iconst (v := 0) hx hb gX0_countBy_0.1 (by decide) ?_
  refine lv_istore_n (lv' := [(3, .int 0), (0, .ref h0), (1, .int pe), (2, .int (IVW fbpapers td vd vl kbpapers))]) hx hb gX0_countBy_0.2.1 rfl hl (by decide) rfl (fun ls hl => ?_)
  refine lv_iconst (v := 0) hx hb gX0_countBy_0.2.2.1 (by decide) ?_
  refine lv_istore (lv' := [(4, .int 0), (3, .int 0), (0, .ref h0), (1, .int pe), (2, .int (IVW fbpapers td vd vl kbpapers))]) hx hb gX0_countBy_0.2.2.2.1 hl (by decide) rfl (fun ls hl => ?_)
  have keyP : ∀ (nP kP : Nat) (cn : Int32) (ls : Array Slot), kP + nP = kbpapers → (cn = CNT (fun p9 => SEE fbpapers td vd vl p9 ∧ fbpapers (p9 * 6 + 0) = pe) kP) → lv_has ls 5 [(4, .int (nI kP)), (3, .int cn), (0, .ref h0), (1, .int pe), (2, .int (IVW fbpapers td vd vl kbpapers))] → W p l e (RM 3 0 0) s m ([.ref h0, .int pe, .int (IVW fbpapers td vd vl kbpapers)] : List Value).toArray below meth c s.heap [] 0 0 Q0 (F0 m 5 ls []) := by
    intro nP
    induction nP with
    | zero =>
      intro kP cn ls hkP hcn hl
      obtain rfl : kbpapers = kP := by omega
      have hl : lv_has ls 5 [(4, .int (nI kbpapers)), (3, .int cn), (0, .ref h0), (1, .int pe), (2, .int (IVW fbpapers td vd vl kbpapers))] := hl
      refine lv_iload hx hb gX0_countBy_0.2.2.2.2.1 (lv_at0 hl) ?_
      refine lv_aload_n hx hb gX0_countBy_0.2.2.2.2.2.1 rfl (lv_at2 hl) ?_
      refine gf_X0_20 hC rfl hK hP 0 rfl rfl gX0_countBy_0.2.2.2.2.2.2.1 ?_
      refine pV hC hK hl hP hD (c_T_count l G bpapers 12 6 bpapersc kbpapers) si_X0_68 [1] sm_1 fm_1 nd_1 rfl rfl rfl rfl rfl (Nat.le_of_ble_eq_true rfl) rm_3_1_1 ⟨by first | exact Nat.le_of_ble_eq_true rfl | exact Nat.zero_le _, by first | exact Nat.le_of_ble_eq_true rfl | exact Nat.zero_le _⟩ gX0_countBy_0.2.2.2.2.2.2.2.1 (Keqr ?_)
      refine lv_icmp_ge (tgt := 49) hx hb gX0_countBy_0.2.2.2.2.2.2.2.2.1 (by decide) (fun _ => ?_) (fun c9 => absurd (Int32.le_refl _) c9)
      refine lv_iload_n hx hb gX0_countBy_2.2.2.2.1 rfl (lv_at1 hl) ?_
      refine toQ hQ0 ?_
      exact RP (v := cn) hC (hcn) rfl gX0_countBy_2.2.2.2.2
    | succ nP ihP =>
      intro kP cn ls hkP hcn hl
      refine lv_iload hx hb gX0_countBy_0.2.2.2.2.1 (lv_at0 hl) ?_
      refine lv_aload_n hx hb gX0_countBy_0.2.2.2.2.2.1 rfl (lv_at2 hl) ?_
      refine gf_X0_20 hC rfl hK hP 0 rfl rfl gX0_countBy_0.2.2.2.2.2.2.1 ?_
      refine pV hC hK hl hP hD (c_T_count l G bpapers 12 6 bpapersc kbpapers) si_X0_68 [1] sm_1 fm_1 nd_1 rfl rfl rfl rfl rfl (Nat.le_of_ble_eq_true rfl) rm_3_1_1 ⟨by first | exact Nat.le_of_ble_eq_true rfl | exact Nat.zero_le _, by first | exact Nat.le_of_ble_eq_true rfl | exact Nat.zero_le _⟩ gX0_countBy_0.2.2.2.2.2.2.2.1 (Keqr ?_)
      refine lv_icmp_ge (tgt := 49) hx hb gX0_countBy_0.2.2.2.2.2.2.2.2.1 (by decide) (fun c9 => absurd c9 (nI_ge (a := kP) (b := kbpapers) (by omega) (by omega))) (fun _ => ?_)
      refine lv_iload_n hx hb gX0_countBy_0.2.2.2.2.2.2.2.2.2 rfl (lv_at4 hl) ?_
      refine lv_iload hx hb gX0_countBy_1.1 (lv_at0 hl) ?_
      refine pSN hC hK hl (c_hasBit l G (IVW fbpapers td vd vl kbpapers) (nI kP)) si_X0_75 rfl rfl (Nat.le_of_ble_eq_true rfl) rm_3_1_2 ⟨by first | exact Nat.le_of_ble_eq_true rfl | exact Nat.zero_le _, by first | exact Nat.le_of_ble_eq_true rfl | exact Nat.zero_le _⟩ gX0_countBy_1.2.1 (Kors (Keqa fun a1650 => ?_) (Keqa fun a1650 => ?_))
      · refine lv_if_eq (tgt := 43) hx hb gX0_countBy_1.2.2.1 (by decide) (fun c9 => absurd c9 (by decide)) (fun _ => ?_)
        refine lv_aload_n hx hb gX0_countBy_1.2.2.2.1 rfl (lv_at2 hl) ?_
        refine gf_X0_20 hC rfl hK hP 0 rfl rfl gX0_countBy_1.2.2.2.2.1 ?_
        refine lv_iload hx hb gX0_countBy_1.2.2.2.2.2.1 (lv_at0 hl) ?_
        refine lv_iconst (v := 0) hx hb gX0_countBy_1.2.2.2.2.2.2.1 (by decide) ?_
        refine pV hC hK hl hP hD (c_T_at l G bpapers (nI kP) 0 12 6 bpapersc kbpapers fbpapers (hkbpapers) (by omega) (by omega)) si_X0_71 [1, 2] sm_1_2 fm_1_2 nd_1_2 rfl rfl rfl rfl rfl (Nat.le_of_ble_eq_true rfl) rm_3_1_3 ⟨by first | exact Nat.le_of_ble_eq_true rfl | exact Nat.zero_le _, by first | exact Nat.le_of_ble_eq_true rfl | exact Nat.zero_le _⟩ gX0_countBy_1.2.2.2.2.2.2.2.1 (fun r1651 hr1651 => ?_)
        have q1653 : r1651 = fbpapers (kP * 6 + 0) := hr1651.trans (tatr (by omega) (by omega) (by decide) (by decide) rfl)
        refine lv_iload_n hx hb gX0_countBy_1.2.2.2.2.2.2.2.2.1 rfl (lv_at3 hl) ?_
        refine lv_icmp_ne (tgt := 43) hx hb gX0_countBy_1.2.2.2.2.2.2.2.2.2 (by decide) (fun c_37_1654 => ?_) (fun c_37_1654 => ?_)
        · refine lv_iinc (v := nI (kP + 1)) (lv' := [(4, .int (nI (kP + 1))), (3, .int cn), (0, .ref h0), (1, .int pe), (2, .int (IVW fbpapers td vd vl kbpapers))]) hx hb gX0_countBy_2.2.1 hl (k := 0) rfl (nI_1 _) (by decide) rfl (fun ls hl => ?_)
          refine lv_goto (tgt := 5) hx hb gX0_countBy_2.2.2.1 (by decide) ?_
          have hst9 : cn = CNT (fun p9 => SEE fbpapers td vd vl p9 ∧ fbpapers (p9 * 6 + 0) = pe) (kP + 1) := CNT.n hcn (fun h9 => c_37_1654 (q1653.trans h9.2))
          exact ihP (kP + 1) cn _ (by omega) (by first | assumption | exact Or.inl rfl | exact Or.inr rfl | exact rfl) (lv_sub hl [0, 1, 2, 3, 4] rfl)
        · refine lv_iinc (v := cn + 1) (lv' := [(3, .int (cn + 1)), (4, .int (nI kP)), (0, .ref h0), (1, .int pe), (2, .int (IVW fbpapers td vd vl kbpapers))]) hx hb gX0_countBy_2.1 hl (k := 1) rfl (rfl) (by decide) rfl (fun ls hl => ?_)
          refine lv_iinc (v := nI (kP + 1)) (lv' := [(4, .int (nI (kP + 1))), (3, .int (cn + 1)), (0, .ref h0), (1, .int pe), (2, .int (IVW fbpapers td vd vl kbpapers))]) hx hb gX0_countBy_2.2.1 hl (k := 1) rfl (nI_1 _) (by decide) rfl (fun ls hl => ?_)
          refine lv_goto (tgt := 5) hx hb gX0_countBy_2.2.2.1 (by decide) ?_
          have hst9 : cn + 1 = CNT (fun p9 => SEE fbpapers td vd vl p9 ∧ fbpapers (p9 * 6 + 0) = pe) (kP + 1) := CNT.y hcn ⟨(IVW.hb (by omega) (by omega)).mp a1650, q1653.symm.trans c_37_1654⟩
          exact ihP (kP + 1) (cn + 1) _ (by omega) (by first | assumption | exact Or.inl rfl | exact Or.inr rfl | exact rfl) (lv_sub hl [0, 1, 2, 3, 4] rfl)
      · refine lv_if_eq (tgt := 43) hx hb gX0_countBy_1.2.2.1 (by decide) (fun _ => ?_) (fun c9 => absurd (by decide) c9)
        refine lv_iinc (v := nI (kP + 1)) (lv' := [(4, .int (nI (kP + 1))), (3, .int cn), (0, .ref h0), (1, .int pe), (2, .int (IVW fbpapers td vd vl kbpapers))]) hx hb gX0_countBy_2.2.1 hl (k := 0) rfl (nI_1 _) (by decide) rfl (fun ls hl => ?_)
        refine lv_goto (tgt := 5) hx hb gX0_countBy_2.2.2.1 (by decide) ?_
        have hst9 : cn = CNT (fun p9 => SEE fbpapers td vd vl p9 ∧ fbpapers (p9 * 6 + 0) = pe) (kP + 1) := CNT.n hcn (fun h9 => a1650 ((IVW.hb (by omega) (by omega)).mpr h9.1))
        exact ihP (kP + 1) cn _ (by omega) (by first | assumption | exact Or.inl rfl | exact Or.inr rfl | exact rfl) (lv_sub hl [0, 1, 2, 3, 4] rfl)
  exact keyP kbpapers 0 0 _ (by omega) (by first | assumption | exact Or.inl rfl | exact Or.inr rfl | exact rfl) (lv_sub hl [0, 1, 2, 3, 4] rfl)
def K_c_countsX (l : Launch) (G : GG) (h0 : Nat) (js : Nat) (bpersons : Nat) (bpapers : Nat) (bstamps : Nat) (bversions : Nat) (blines : Nat) (bsteps : Nat) (bsayings : Nat) (bfindings : Nat) (bwarnings : Nat) (bquestions : Nat) (td : Int32) (vd : Int32) (vl : Int32) (gp : Int32) (bsayingsc : Nat) (kbsayings : Nat) (fbsayings : Nat → Int32) (bpapersc : Nat) (kbpapers : Nat) (fbpapers : Nat → Int32) : Prop := MP l G yX0_counts cX0_counts 3 (some .boolean) 3 [.ref h0, .int (nI js), .int (IVW fbpapers td vd vl kbpapers)] [(h0, oX0 bpersons bpapers bstamps bversions blines bsteps bsayings bfindings bwarnings bquestions td vd vl gp), (bsayings, oX8 16 8 bsayingsc (nI kbsayings)), (bsayingsc, iA G 128 fbsayings), (bpapers, oX8 12 6 bpapersc (nI kbpapers)), (bpapersc, iA G 72 fbpapers)] (fun r : Int32 => (r = 1 ∧ CSQ fbsayings fbpapers td vd vl js) ∨ (r = 0 ∧ ¬ CSQ fbsayings fbpapers td vd vl js))
set_option maxHeartbeats 4000000 in
set_option maxRecDepth 100000 in
theorem c_countsX (l : Launch) (G : GG) (h0 : Nat) (js : Nat) (bpersons : Nat) (bpapers : Nat) (bstamps : Nat) (bversions : Nat) (blines : Nat) (bsteps : Nat) (bsayings : Nat) (bfindings : Nat) (bwarnings : Nat) (bquestions : Nat) (td : Int32) (vd : Int32) (vl : Int32) (gp : Int32) (bsayingsc : Nat) (kbsayings : Nat) (fbsayings : Nat → Int32) (bpapersc : Nat) (kbpapers : Nat) (fbpapers : Nat → Int32) (hkbsayings : kbsayings ≤ 16) (hkbpapers : kbpapers ≤ 12) (hSP : SPI fbsayings kbsayings kbpapers) (hjs : js < kbsayings) : K_c_countsX l G h0 js bpersons bpapers bstamps bversions blines bsteps bsayings bfindings bwarnings bquestions td vd vl gp bsayingsc kbsayings fbsayings bpapersc kbpapers fbpapers := by
  refine MP.start (by decide +kernel) (Nat.le_of_ble_eq_true rfl) ?_
  intro p e s m below meth c ls hC hK hP hD hl
  refine absQ (fun Q0 hQ0 => ?_)
  have hl : lv_has ls 3 [(0, .ref h0), (1, .int (nI js)), (2, .int (IVW fbpapers td vd vl kbpapers))] := hl
  refine Kan8 hC (fun hx hb hr hml hB hown hlocks hnm => ?_)
  refine lv_aload_n hx hb gX0_counts_0.1 rfl (lv_at0 hl) ?_
  refine gf_X0_35 hC rfl hK hP 0 rfl rfl gX0_counts_0.2.1 ?_
  refine lv_iload_n hx hb gX0_counts_0.2.2.1 rfl (lv_at1 hl) ?_
  refine lv_bipush (v := 7) hx hb gX0_counts_0.2.2.2.1 (by decide) ?_
  refine pV hC hK hl hP hD (c_T_at l G bsayings (nI js) 7 16 8 bsayingsc kbsayings fbsayings (hkbsayings) (by omega) (by omega)) si_X0_71 [1, 2] sm_1_2 fm_1_2 nd_1_2 rfl rfl rfl rfl rfl (Nat.le_of_ble_eq_true rfl) rm_3_1_3 ⟨by first | exact Nat.le_of_ble_eq_true rfl | exact Nat.zero_le _, by first | exact Nat.le_of_ble_eq_true rfl | exact Nat.zero_le _⟩ gX0_counts_0.2.2.2.2.1 (fun r1655 hr1655 => ?_)
  have q1657 : r1655 = fbsayings (js * 8 + 7) := hr1655.trans (tatr (by omega) (by omega) (by decide) (by decide) rfl)
  refine lv_aload_n hx hb gX0_counts_0.2.2.2.2.2.1 rfl (lv_at0 hl) ?_
  refine pV hC hK hl hP hD (c_viewedDayX l G h0 bpersons bpapers bstamps bversions blines bsteps bsayings bfindings bwarnings bquestions td vd vl gp) si_X0_64 [0] sm_0 fm_0 nd_0 rfl rfl rfl rfl rfl (Nat.le_of_ble_eq_true rfl) rm_3_1_1 ⟨by first | exact Nat.le_of_ble_eq_true rfl | exact Nat.zero_le _, by first | exact Nat.le_of_ble_eq_true rfl | exact Nat.zero_le _⟩ gX0_counts_0.2.2.2.2.2.2.1 (Keqr ?_)
  refine lv_icmp_gt (tgt := 50) hx hb gX0_counts_0.2.2.2.2.2.2.2.1 (by decide) (fun c_14_1660 => ?_) (fun c_14_1660 => ?_)
  · refine lv_iconst (v := 0) hx hb gX0_counts_2.2.2.2.2.1 (by decide) ?_
    refine toQ hQ0 ?_
    exact RP (v := 0) hC (Or.inr ⟨rfl, fun h9 => Int32.not_le.mpr c_14_1660 (by rw [q1657]; exact h9.1)⟩) (by decide +kernel) gX0_counts_2.2.2.2.2.2
  · refine lv_aload_n hx hb gX0_counts_0.2.2.2.2.2.2.2.2.1 rfl (lv_at0 hl) ?_
    refine gf_X0_35 hC rfl hK hP 0 rfl rfl gX0_counts_0.2.2.2.2.2.2.2.2.2 ?_
    refine lv_iload_n hx hb gX0_counts_1.1 rfl (lv_at1 hl) ?_
    refine lv_bipush (v := 6) hx hb gX0_counts_1.2.1 (by decide) ?_
    refine pV hC hK hl hP hD (c_T_at l G bsayings (nI js) 6 16 8 bsayingsc kbsayings fbsayings (hkbsayings) (by omega) (by omega)) si_X0_71 [1, 2] sm_1_2 fm_1_2 nd_1_2 rfl rfl rfl rfl rfl (Nat.le_of_ble_eq_true rfl) rm_3_1_3 ⟨by first | exact Nat.le_of_ble_eq_true rfl | exact Nat.zero_le _, by first | exact Nat.le_of_ble_eq_true rfl | exact Nat.zero_le _⟩ gX0_counts_1.2.2.1 (fun r1661 hr1661 => ?_)
    have q1663 : r1661 = fbsayings (js * 8 + 6) := hr1661.trans (tatr (by omega) (by omega) (by decide) (by decide) rfl)
    refine lv_if_ge (tgt := 50) hx hb gX0_counts_1.2.2.2.1 (by decide) (fun c_27_1664 => ?_) (fun c_27_1664 => ?_)
    · refine lv_iconst (v := 0) hx hb gX0_counts_2.2.2.2.2.1 (by decide) ?_
      refine toQ hQ0 ?_
      exact RP (v := 0) hC (Or.inr ⟨rfl, fun h9 => Int32.not_lt.mpr c_27_1664 (by rw [q1663]; exact h9.2.1)⟩) (by decide +kernel) gX0_counts_2.2.2.2.2.2
    · refine lv_iload_n hx hb gX0_counts_1.2.2.2.2.1 rfl (lv_at2 hl) ?_
      refine lv_aload_n hx hb gX0_counts_1.2.2.2.2.2.1 rfl (lv_at0 hl) ?_
      refine gf_X0_35 hC rfl hK hP 0 rfl rfl gX0_counts_1.2.2.2.2.2.2.1 ?_
      refine lv_iload_n hx hb gX0_counts_1.2.2.2.2.2.2.2.1 rfl (lv_at1 hl) ?_
      refine lv_iconst (v := 2) hx hb gX0_counts_1.2.2.2.2.2.2.2.2.1 (by decide) ?_
      refine pV hC hK hl hP hD (c_T_at l G bsayings (nI js) 2 16 8 bsayingsc kbsayings fbsayings (hkbsayings) (by omega) (by omega)) si_X0_71 [1, 2] sm_1_2 fm_1_2 nd_1_2 rfl rfl rfl rfl rfl (Nat.le_of_ble_eq_true rfl) rm_3_1_3 ⟨by first | exact Nat.le_of_ble_eq_true rfl | exact Nat.zero_le _, by first | exact Nat.le_of_ble_eq_true rfl | exact Nat.zero_le _⟩ gX0_counts_1.2.2.2.2.2.2.2.2.2 (fun r1665 hr1665 => ?_)
      obtain ⟨jx, hjx, ejx⟩ := Hs_nat (by omega) (hSP js (by omega))
      refine eqi (x1 := nI jx) ((hr1665.trans (tatr (by omega) (by omega) (by decide) (by decide) rfl)).trans ejx) ?_
      refine pSN hC hK hl (c_hasBit l G (IVW fbpapers td vd vl kbpapers) (nI jx)) si_X0_75 rfl rfl (Nat.le_of_ble_eq_true rfl) rm_3_1_2 ⟨by first | exact Nat.le_of_ble_eq_true rfl | exact Nat.zero_le _, by first | exact Nat.le_of_ble_eq_true rfl | exact Nat.zero_le _⟩ gX0_counts_2.1 (Kors (Keqa fun a1668 => ?_) (Keqa fun a1668 => ?_))
      · refine lv_if_eq (tgt := 50) hx hb gX0_counts_2.2.1 (by decide) (fun c9 => absurd c9 (by decide)) (fun _ => ?_)
        refine lv_iconst (v := 1) hx hb gX0_counts_2.2.2.1 (by decide) ?_
        refine lv_goto (tgt := 51) hx hb gX0_counts_2.2.2.2.1 (by decide) ?_
        refine toQ hQ0 ?_
        exact RP (v := 1) hC (Or.inl ⟨rfl, by rw [← q1657]; exact Int32.not_lt.mp c_14_1660, by rw [← q1663]; exact Int32.not_le.mp c_27_1664, by rw [ejx, nI_clamp (n := jx) (by omega)]; exact (IVW.hb (by omega) (by omega)).mp a1668⟩) (by decide +kernel) gX0_counts_2.2.2.2.2.2
      · refine lv_if_eq (tgt := 50) hx hb gX0_counts_2.2.1 (by decide) (fun _ => ?_) (fun c9 => absurd (by decide) c9)
        refine lv_iconst (v := 0) hx hb gX0_counts_2.2.2.2.2.1 (by decide) ?_
        refine toQ hQ0 ?_
        exact RP (v := 0) hC (Or.inr ⟨rfl, fun h9 => a1668 ((IVW.hb (by omega) (by omega)).mpr (by have h8 := h9.2.2; rw [ejx, nI_clamp (n := jx) (by omega)] at h8; exact h8))⟩) (by decide +kernel) gX0_counts_2.2.2.2.2.2
def K_c_countSayingsByX (l : Launch) (G : GG) (h0 : Nat) (pe : Int32) (bpersons : Nat) (bpapers : Nat) (bstamps : Nat) (bversions : Nat) (blines : Nat) (bsteps : Nat) (bsayings : Nat) (bfindings : Nat) (bwarnings : Nat) (bquestions : Nat) (td : Int32) (vd : Int32) (vl : Int32) (gp : Int32) (bsayingsc : Nat) (kbsayings : Nat) (fbsayings : Nat → Int32) (bpapersc : Nat) (kbpapers : Nat) (fbpapers : Nat → Int32) : Prop := MP l G yX0_countSayingsBy cX0_countSayingsBy 5 (some .int) 4 [.ref h0, .int pe, .int (IVW fbpapers td vd vl kbpapers)] [(h0, oX0 bpersons bpapers bstamps bversions blines bsteps bsayings bfindings bwarnings bquestions td vd vl gp), (bsayings, oX8 16 8 bsayingsc (nI kbsayings)), (bsayingsc, iA G 128 fbsayings), (bpapers, oX8 12 6 bpapersc (nI kbpapers)), (bpapersc, iA G 72 fbpapers)] (fun r : Int32 => r = (CNT (fun s9 => fbsayings (s9 * 8 + 0) = pe ∧ CSQ fbsayings fbpapers td vd vl s9) kbsayings))
set_option maxHeartbeats 4000000 in
set_option maxRecDepth 100000 in
theorem c_countSayingsByX (l : Launch) (G : GG) (h0 : Nat) (pe : Int32) (bpersons : Nat) (bpapers : Nat) (bstamps : Nat) (bversions : Nat) (blines : Nat) (bsteps : Nat) (bsayings : Nat) (bfindings : Nat) (bwarnings : Nat) (bquestions : Nat) (td : Int32) (vd : Int32) (vl : Int32) (gp : Int32) (bsayingsc : Nat) (kbsayings : Nat) (fbsayings : Nat → Int32) (bpapersc : Nat) (kbpapers : Nat) (fbpapers : Nat → Int32) (hkbsayings : kbsayings ≤ 16) (hkbpapers : kbpapers ≤ 12) (hSP : SPI fbsayings kbsayings kbpapers) : K_c_countSayingsByX l G h0 pe bpersons bpapers bstamps bversions blines bsteps bsayings bfindings bwarnings bquestions td vd vl gp bsayingsc kbsayings fbsayings bpapersc kbpapers fbpapers := by
  refine MP.start (by decide +kernel) (Nat.le_of_ble_eq_true rfl) ?_
  intro p e s m below meth c ls hC hK hP hD hl
  refine absQ (fun Q0 hQ0 => ?_)
  have hl : lv_has ls 5 [(0, .ref h0), (1, .int pe), (2, .int (IVW fbpapers td vd vl kbpapers))] := hl
  refine Kan8 hC (fun hx hb hr hml hB hown hlocks hnm => ?_)
  refine lv_iconst (v := 0) hx hb gX0_countSayingsBy_0.1 (by decide) ?_
  refine lv_istore_n (lv' := [(3, .int 0), (0, .ref h0), (1, .int pe), (2, .int (IVW fbpapers td vd vl kbpapers))]) hx hb gX0_countSayingsBy_0.2.1 rfl hl (by decide) rfl (fun ls hl => ?_)
  refine lv_iconst (v := 0) hx hb gX0_countSayingsBy_0.2.2.1 (by decide) ?_
  refine lv_istore (lv' := [(4, .int 0), (3, .int 0), (0, .ref h0), (1, .int pe), (2, .int (IVW fbpapers td vd vl kbpapers))]) hx hb gX0_countSayingsBy_0.2.2.2.1 hl (by decide) rfl (fun ls hl => ?_)
  have keyP : ∀ (nP kP : Nat) (cn : Int32) (ls : Array Slot), kP + nP = kbsayings → (cn = CNT (fun s9 => fbsayings (s9 * 8 + 0) = pe ∧ CSQ fbsayings fbpapers td vd vl s9) kP) → lv_has ls 5 [(4, .int (nI kP)), (3, .int cn), (0, .ref h0), (1, .int pe), (2, .int (IVW fbpapers td vd vl kbpapers))] → W p l e (RM 4 0 0) s m ([.ref h0, .int pe, .int (IVW fbpapers td vd vl kbpapers)] : List Value).toArray below meth c s.heap [] 0 0 Q0 (F0 m 5 ls []) := by
    intro nP
    induction nP with
    | zero =>
      intro kP cn ls hkP hcn hl
      obtain rfl : kbsayings = kP := by omega
      have hl : lv_has ls 5 [(4, .int (nI kbsayings)), (3, .int cn), (0, .ref h0), (1, .int pe), (2, .int (IVW fbpapers td vd vl kbpapers))] := hl
      refine lv_iload hx hb gX0_countSayingsBy_0.2.2.2.2.1 (lv_at0 hl) ?_
      refine lv_aload_n hx hb gX0_countSayingsBy_0.2.2.2.2.2.1 rfl (lv_at2 hl) ?_
      refine gf_X0_35 hC rfl hK hP 0 rfl rfl gX0_countSayingsBy_0.2.2.2.2.2.2.1 ?_
      refine pV hC hK hl hP hD (c_T_count l G bsayings 16 8 bsayingsc kbsayings) si_X0_68 [1] sm_1 fm_1 nd_1 rfl rfl rfl rfl rfl (Nat.le_of_ble_eq_true rfl) rm_4_1_1 ⟨by first | exact Nat.le_of_ble_eq_true rfl | exact Nat.zero_le _, by first | exact Nat.le_of_ble_eq_true rfl | exact Nat.zero_le _⟩ gX0_countSayingsBy_0.2.2.2.2.2.2.2.1 (Keqr ?_)
      refine lv_icmp_ge (tgt := 50) hx hb gX0_countSayingsBy_0.2.2.2.2.2.2.2.2.1 (by decide) (fun _ => ?_) (fun c9 => absurd (Int32.le_refl _) c9)
      refine lv_iload_n hx hb gX0_countSayingsBy_2.2.2.2.2.1 rfl (lv_at1 hl) ?_
      refine toQ hQ0 ?_
      exact RP (v := cn) hC (hcn) rfl gX0_countSayingsBy_2.2.2.2.2.2
    | succ nP ihP =>
      intro kP cn ls hkP hcn hl
      refine lv_iload hx hb gX0_countSayingsBy_0.2.2.2.2.1 (lv_at0 hl) ?_
      refine lv_aload_n hx hb gX0_countSayingsBy_0.2.2.2.2.2.1 rfl (lv_at2 hl) ?_
      refine gf_X0_35 hC rfl hK hP 0 rfl rfl gX0_countSayingsBy_0.2.2.2.2.2.2.1 ?_
      refine pV hC hK hl hP hD (c_T_count l G bsayings 16 8 bsayingsc kbsayings) si_X0_68 [1] sm_1 fm_1 nd_1 rfl rfl rfl rfl rfl (Nat.le_of_ble_eq_true rfl) rm_4_1_1 ⟨by first | exact Nat.le_of_ble_eq_true rfl | exact Nat.zero_le _, by first | exact Nat.le_of_ble_eq_true rfl | exact Nat.zero_le _⟩ gX0_countSayingsBy_0.2.2.2.2.2.2.2.1 (Keqr ?_)
      refine lv_icmp_ge (tgt := 50) hx hb gX0_countSayingsBy_0.2.2.2.2.2.2.2.2.1 (by decide) (fun c9 => absurd c9 (nI_ge (a := kP) (b := kbsayings) (by omega) (by omega))) (fun _ => ?_)
      refine lv_aload_n hx hb gX0_countSayingsBy_0.2.2.2.2.2.2.2.2.2 rfl (lv_at2 hl) ?_
      refine gf_X0_35 hC rfl hK hP 0 rfl rfl gX0_countSayingsBy_1.1 ?_
      refine lv_iload hx hb gX0_countSayingsBy_1.2.1 (lv_at0 hl) ?_
      refine lv_iconst (v := 0) hx hb gX0_countSayingsBy_1.2.2.1 (by decide) ?_
      refine pV hC hK hl hP hD (c_T_at l G bsayings (nI kP) 0 16 8 bsayingsc kbsayings fbsayings (hkbsayings) (by omega) (by omega)) si_X0_71 [1, 2] sm_1_2 fm_1_2 nd_1_2 rfl rfl rfl rfl rfl (Nat.le_of_ble_eq_true rfl) rm_4_1_3 ⟨by first | exact Nat.le_of_ble_eq_true rfl | exact Nat.zero_le _, by first | exact Nat.le_of_ble_eq_true rfl | exact Nat.zero_le _⟩ gX0_countSayingsBy_1.2.2.2.1 (fun r1673 hr1673 => ?_)
      have q1675 : r1673 = fbsayings (kP * 8 + 0) := hr1673.trans (tatr (by omega) (by omega) (by decide) (by decide) rfl)
      refine lv_iload_n hx hb gX0_countSayingsBy_1.2.2.2.2.1 rfl (lv_at3 hl) ?_
      refine lv_icmp_ne (tgt := 44) hx hb gX0_countSayingsBy_1.2.2.2.2.2.1 (by decide) (fun c_28_1676 => ?_) (fun c_28_1676 => ?_)
      · refine lv_iinc (v := nI (kP + 1)) (lv' := [(4, .int (nI (kP + 1))), (3, .int cn), (0, .ref h0), (1, .int pe), (2, .int (IVW fbpapers td vd vl kbpapers))]) hx hb gX0_countSayingsBy_2.2.2.1 hl (k := 0) rfl (nI_1 _) (by decide) rfl (fun ls hl => ?_)
        refine lv_goto (tgt := 5) hx hb gX0_countSayingsBy_2.2.2.2.1 (by decide) ?_
        have hst9 : cn = CNT (fun s9 => fbsayings (s9 * 8 + 0) = pe ∧ CSQ fbsayings fbpapers td vd vl s9) (kP + 1) := CNT.n hcn (fun h9 => c_28_1676 (q1675.trans h9.1))
        exact ihP (kP + 1) cn _ (by omega) (by first | assumption | exact Or.inl rfl | exact Or.inr rfl | exact rfl) (lv_sub hl [0, 1, 2, 3, 4] rfl)
      · refine lv_aload_n hx hb gX0_countSayingsBy_1.2.2.2.2.2.2.1 rfl (lv_at2 hl) ?_
        refine lv_iload hx hb gX0_countSayingsBy_1.2.2.2.2.2.2.2.1 (lv_at0 hl) ?_
        refine lv_iload_n hx hb gX0_countSayingsBy_1.2.2.2.2.2.2.2.2.1 rfl (lv_at4 hl) ?_
        refine pV hC hK hl hP hD (c_countsX l G h0 kP bpersons bpapers bstamps bversions blines bsteps bsayings bfindings bwarnings bquestions td vd vl gp bsayingsc kbsayings fbsayings bpapersc kbpapers fbpapers (hkbsayings) (hkbpapers) (hSP) (by omega)) si_X0_86 [0, 1, 2, 3, 4] sm_0_1_2_3_4 fm_0_1_2_3_4 nd_0_1_2_3_4 rfl rfl rfl rfl rfl (Nat.le_of_ble_eq_true rfl) rm_4_3_3 ⟨by first | exact Nat.le_of_ble_eq_true rfl | exact Nat.zero_le _, by first | exact Nat.le_of_ble_eq_true rfl | exact Nat.zero_le _⟩ gX0_countSayingsBy_1.2.2.2.2.2.2.2.2.2 (Kors (Keqa fun a1678 => ?_) (Keqa fun a1678 => ?_))
        · refine lv_if_eq (tgt := 44) hx hb gX0_countSayingsBy_2.1 (by decide) (fun c9 => absurd c9 (by decide)) (fun _ => ?_)
          refine lv_iinc (v := cn + 1) (lv' := [(3, .int (cn + 1)), (4, .int (nI kP)), (0, .ref h0), (1, .int pe), (2, .int (IVW fbpapers td vd vl kbpapers))]) hx hb gX0_countSayingsBy_2.2.1 hl (k := 1) rfl (rfl) (by decide) rfl (fun ls hl => ?_)
          refine lv_iinc (v := nI (kP + 1)) (lv' := [(4, .int (nI (kP + 1))), (3, .int (cn + 1)), (0, .ref h0), (1, .int pe), (2, .int (IVW fbpapers td vd vl kbpapers))]) hx hb gX0_countSayingsBy_2.2.2.1 hl (k := 1) rfl (nI_1 _) (by decide) rfl (fun ls hl => ?_)
          refine lv_goto (tgt := 5) hx hb gX0_countSayingsBy_2.2.2.2.1 (by decide) ?_
          have hst9 : cn + 1 = CNT (fun s9 => fbsayings (s9 * 8 + 0) = pe ∧ CSQ fbsayings fbpapers td vd vl s9) (kP + 1) := CNT.y hcn ⟨q1675.symm.trans c_28_1676, a1678⟩
          exact ihP (kP + 1) (cn + 1) _ (by omega) (by first | assumption | exact Or.inl rfl | exact Or.inr rfl | exact rfl) (lv_sub hl [0, 1, 2, 3, 4] rfl)
        · refine lv_if_eq (tgt := 44) hx hb gX0_countSayingsBy_2.1 (by decide) (fun _ => ?_) (fun c9 => absurd (by decide) c9)
          refine lv_iinc (v := nI (kP + 1)) (lv' := [(4, .int (nI (kP + 1))), (3, .int cn), (0, .ref h0), (1, .int pe), (2, .int (IVW fbpapers td vd vl kbpapers))]) hx hb gX0_countSayingsBy_2.2.2.1 hl (k := 0) rfl (nI_1 _) (by decide) rfl (fun ls hl => ?_)
          refine lv_goto (tgt := 5) hx hb gX0_countSayingsBy_2.2.2.2.1 (by decide) ?_
          have hst9 : cn = CNT (fun s9 => fbsayings (s9 * 8 + 0) = pe ∧ CSQ fbsayings fbpapers td vd vl s9) (kP + 1) := CNT.n hcn (fun h9 => a1678 h9.2)
          exact ihP (kP + 1) cn _ (by omega) (by first | assumption | exact Or.inl rfl | exact Or.inr rfl | exact rfl) (lv_sub hl [0, 1, 2, 3, 4] rfl)
  exact keyP kbsayings 0 0 _ (by omega) (by first | assumption | exact Or.inl rfl | exact Or.inr rfl | exact rfl) (lv_sub hl [0, 1, 2, 3, 4] rfl)
def K_p_person (l : Launch) (G : GG) (h0 : Nat) (x1 : Int32) (x2 : Int32) (bb : Nat) (kk : Nat) (ikp : Int32) (sg : Nat) (do9 : Nat) (ru9 : Nat) (ta9 : Nat) (tp9 : Nat) (ro9 : Nat) (ho9 : Nat) (de9 : Nat) (bpersons : Nat) (bpapers : Nat) (bstamps : Nat) (bversions : Nat) (blines : Nat) (bsteps : Nat) (bsayings : Nat) (bfindings : Nat) (bwarnings : Nat) (bquestions : Nat) (td : Int32) (vd : Int32) (vl : Int32) (gp : Int32) (bpersonsc : Nat) (kbpersons : Nat) (fbpersons : Nat → Int32) : Prop := MI l G yX11_person cX11_person 4 (some .int) 4 0 0 [.ref h0, .int x1, .int x2] [(h0, oX11 bb kk ikp sg do9 ru9 ta9 tp9 ro9 ho9 de9), (bb, oX0 bpersons bpapers bstamps bversions blines bsteps bsayings bfindings bwarnings bquestions td vd vl gp), (bpersons, oX8 10 2 bpersonsc (nI kbpersons)), (bpersonsc, iA G 20 fbpersons)] (fun (r : Int32) (u : Nat × (Nat → Int32)) => (r = ifc (Wi x1 0 9) (ifc (Wi x2 0 48) (ifc (10 ≤ kbpersons) (-2) (nI kbpersons)) (-1)) (-1)) ∧ (u.1 ≤ 10 ∧ kbpersons ≤ u.1 ∧ nI u.1 = ifc (Wi x1 0 9) (ifc (Wi x2 0 48) (ifc (10 ≤ kbpersons) (nI kbpersons) (nI (kbpersons + 1))) (nI kbpersons)) (nI kbpersons) ∧ ∀ i : Nat, u.2 i = ifc (Wi x1 0 9) (ifc (Wi x2 0 48) (ifc (10 ≤ kbpersons) (fbpersons i) (rowu fbpersons (kbpersons * 2) [x1, x2] i)) (fbpersons i)) (fbpersons i))) (fun u : Nat × (Nat → Int32) => [(h0, oX11 bb kk ikp sg do9 ru9 ta9 tp9 ro9 ho9 de9), (bb, oX0 bpersons bpapers bstamps bversions blines bsteps bsayings bfindings bwarnings bquestions td vd vl gp), (bpersons, oX8 10 2 bpersonsc (nI u.1)), (bpersonsc, iA G 20 u.2)])
set_option maxHeartbeats 4000000 in
set_option maxRecDepth 100000 in
theorem p_person (l : Launch) (G : GG) (h0 : Nat) (x1 : Int32) (x2 : Int32) (bb : Nat) (kk : Nat) (ikp : Int32) (sg : Nat) (do9 : Nat) (ru9 : Nat) (ta9 : Nat) (tp9 : Nat) (ro9 : Nat) (ho9 : Nat) (de9 : Nat) (bpersons : Nat) (bpapers : Nat) (bstamps : Nat) (bversions : Nat) (blines : Nat) (bsteps : Nat) (bsayings : Nat) (bfindings : Nat) (bwarnings : Nat) (bquestions : Nat) (td : Int32) (vd : Int32) (vl : Int32) (gp : Int32) (bpersonsc : Nat) (kbpersons : Nat) (fbpersons : Nat → Int32) (hkbpersons : kbpersons ≤ 10) : K_p_person l G h0 x1 x2 bb kk ikp sg do9 ru9 ta9 tp9 ro9 ho9 de9 bpersons bpapers bstamps bversions blines bsteps bsayings bfindings bwarnings bquestions td vd vl gp bpersonsc kbpersons fbpersons := by
  refine MI.start (by decide +kernel) (Nat.le_of_ble_eq_true rfl) ?_
  intro p e s m below meth c A ls hC hK hP hD hS hA hl
  refine absQ (fun Q0 hQ0 => ?_)
  have hl : lv_has ls 4 [(0, .ref h0), (1, .int x1), (2, .int x2)] := hl
  refine Kan8 hC (fun hx hb hr hml hB hown hlocks hnm => ?_)
  refine lv_iload_n hx hb gX11_person_0.1 rfl (lv_at1 hl) ?_
  refine lv_iconst (v := 0) hx hb gX11_person_0.2.1 (by decide) ?_
  refine lv_bipush (v := 9) hx hb gX11_person_0.2.2.1 (by decide) ?_
  refine pS hC hK hl (c_within l G x1 0 9) si_X11_83 rfl rfl (Nat.le_of_ble_eq_true rfl) rm_4_1_3 ⟨by first | exact Nat.le_of_ble_eq_true rfl | exact Nat.zero_le _, by first | exact Nat.le_of_ble_eq_true rfl | exact Nat.zero_le _⟩ gX11_person_0.2.2.2.1 (Kors (Keqa fun a1680 => ?_) (Keqa fun a1680 => ?_))
  · refine lv_if_eq (tgt := 20) hx hb gX11_person_0.2.2.2.2.1 (by decide) (fun c9 => absurd c9 (by decide)) (fun _ => ?_)
    refine lv_iload_n hx hb gX11_person_0.2.2.2.2.2.1 rfl (lv_at2 hl) ?_
    refine lv_iconst (v := 0) hx hb gX11_person_0.2.2.2.2.2.2.1 (by decide) ?_
    refine lv_bipush (v := 48) hx hb gX11_person_0.2.2.2.2.2.2.2.1 (by decide) ?_
    refine pS hC hK hl (c_within l G x2 0 48) si_X11_83 rfl rfl (Nat.le_of_ble_eq_true rfl) rm_4_1_3 ⟨by first | exact Nat.le_of_ble_eq_true rfl | exact Nat.zero_le _, by first | exact Nat.le_of_ble_eq_true rfl | exact Nat.zero_le _⟩ gX11_person_0.2.2.2.2.2.2.2.2.1 (Kors (Keqa fun a1682 => ?_) (Keqa fun a1682 => ?_))
    · refine lv_if_ne (tgt := 22) hx hb gX11_person_0.2.2.2.2.2.2.2.2.2 (by decide) (fun _ => ?_) (fun c9 => absurd c9 (by decide))
      refine lv_aload_n hx hb gX11_person_1.2.2.1 rfl (lv_at0 hl) ?_
      refine gf_X11_15 hC rfl hK hP 0 rfl rfl gX11_person_1.2.2.2.1 ?_
      refine gf_X11_107 hC rfl hK hP 1 rfl rfl gX11_person_1.2.2.2.2.1 ?_
      refine pV hC hK hl hP hD (c_T_isFull l G bpersons 10 2 bpersonsc kbpersons (hkbpersons) (by omega)) si_X11_111 [2] sm_2 fm_2 nd_2 rfl rfl rfl rfl rfl (Nat.le_of_ble_eq_true rfl) rm_4_1_1 ⟨by first | exact Nat.le_of_ble_eq_true rfl | exact Nat.zero_le _, by first | exact Nat.le_of_ble_eq_true rfl | exact Nat.zero_le _⟩ gX11_person_1.2.2.2.2.2.1 (Kors (Keqa fun a1684 => ?_) (Keqa fun a1684 => ?_))
      · refine lv_if_eq (tgt := 38) hx hb gX11_person_1.2.2.2.2.2.2.1 (by decide) (fun c9 => absurd c9 (by decide)) (fun _ => ?_)
        refine lv_bipush (v := (-2)) hx hb gX11_person_1.2.2.2.2.2.2.2.1 (by decide) ?_
        refine toQ hQ0 ?_
        exact RI (v := (-2)) hC hP hD hS [0, 1, 2, 3] (kbpersons, fbpersons) rfl rfl (by decide) (⟨(by first | rfl | (simp only [ifc_t hkbpersons, ifc_t a1680, ifc_t a1682, ifc_t a1684]; done) | (simp only [ifc_t hkbpersons, ifc_t a1680, ifc_t a1682, ifc_t a1684]; rfl) | (dsimp only; simp only [ifc_t hkbpersons, ifc_t a1680, ifc_t a1682, ifc_t a1684]; done)), ⟨by omega, by omega, (by first | rfl | (simp only [ifc_t hkbpersons, ifc_t a1680, ifc_t a1682, ifc_t a1684]; done) | (simp only [ifc_t hkbpersons, ifc_t a1680, ifc_t a1682, ifc_t a1684]; rfl) | (dsimp only; simp only [ifc_t hkbpersons, ifc_t a1680, ifc_t a1682, ifc_t a1684]; done)), (fun i => by first | rfl | (simp only [ifc_t hkbpersons, ifc_t a1680, ifc_t a1682, ifc_t a1684]; done))⟩⟩) rfl gX11_person_1.2.2.2.2.2.2.2.2.1
      · refine lv_if_eq (tgt := 38) hx hb gX11_person_1.2.2.2.2.2.2.1 (by decide) (fun _ => ?_) (fun c9 => absurd (by decide) c9)
        refine lv_aload_n hx hb gX11_person_1.2.2.2.2.2.2.2.2.2 rfl (lv_at0 hl) ?_
        refine gf_X11_15 hC rfl hK hP 0 rfl rfl gX11_person_2.1 ?_
        refine gf_X11_107 hC rfl hK hP 1 rfl rfl gX11_person_2.2.1 ?_
        refine iV (wr := [(h0, oX11 bb kk ikp sg do9 ru9 ta9 tp9 ro9 ho9 de9), (bb, oX0 bpersons bpapers bstamps bversions blines bsteps bsayings bfindings bwarnings bquestions td vd vl gp), (bpersonsc, iA G 20 fbpersons)]) hC hK hl hP hD hS hA (c_T_append l G bpersons 10 2 bpersonsc kbpersons (a1684) (by omega)) si_X11_117 [2] [0, 1, 3] sm_2 fm_2 nd_2 sm_0_1_3 nd_0_1_3 dj_2__0_1_3 rfl rfl rfl rfl rfl (Nat.le_of_ble_eq_true rfl) rm_4_1_1 ⟨Nat.le_of_ble_eq_true rfl, Nat.le_of_ble_eq_true rfl⟩ gX11_person_2.2.2.1 (fun r1685 u1686 H locs hr1685 hP hD hS => ?_)
        refine Kpdr (ws := [(h0, oX11 bb kk ikp sg do9 ru9 ta9 tp9 ro9 ho9 de9), (bb, oX0 bpersons bpapers bstamps bversions blines bsteps bsayings bfindings bwarnings bquestions td vd vl gp), (bpersonsc, iA G 20 fbpersons), (bpersons, oX8 10 2 bpersonsc (nI (kbpersons + 1)))]) hP hD (fun hP hD => ?_)
        obtain rfl := hr1685
        refine lv_istore_n (lv' := [(3, .int (nI kbpersons)), (0, .ref h0), (1, .int x1), (2, .int x2)]) hx hb gX11_person_2.2.2.2.1 rfl hl (by decide) rfl (fun ls hl => ?_)
        refine lv_aload_n hx hb gX11_person_2.2.2.2.2.1 rfl (lv_at1 hl) ?_
        refine gf_X11_15 hC rfl hK hP 0 rfl rfl gX11_person_2.2.2.2.2.2.1 ?_
        refine gf_X11_107 hC rfl hK hP 1 rfl rfl gX11_person_2.2.2.2.2.2.2.1 ?_
        refine lv_iload_n hx hb gX11_person_2.2.2.2.2.2.2.2.1 rfl (lv_at0 hl) ?_
        refine lv_iconst (v := 0) hx hb gX11_person_2.2.2.2.2.2.2.2.2.1 (by decide) ?_
        refine lv_iload_n hx hb gX11_person_2.2.2.2.2.2.2.2.2.2 rfl (lv_at2 hl) ?_
        refine vV (wr := [(h0, oX11 bb kk ikp sg do9 ru9 ta9 tp9 ro9 ho9 de9), (bb, oX0 bpersons bpapers bstamps bversions blines bsteps bsayings bfindings bwarnings bquestions td vd vl gp)]) hC hK hl hP hD hS hA (c_T_set l G bpersons (nI kbpersons) 0 x1 10 2 bpersonsc (kbpersons + 1) fbpersons (by omega) (by omega) (by omega)) si_X11_120 [3, 2] [0, 1] sm_3_2 fm_3_2 nd_3_2 sm_0_1 nd_0_1 dj_3_2__0_1 rfl rfl rfl rfl rfl (Nat.le_of_ble_eq_true rfl) rm_4_1_4 ⟨Nat.le_of_ble_eq_true rfl, Nat.le_of_ble_eq_true rfl⟩ gX11_person_3.1 (fun f11690 H locs hr1688 hP hD hS => ?_)
        try dsimp only at hr1688
        refine Kpdr (ws := [(h0, oX11 bb kk ikp sg do9 ru9 ta9 tp9 ro9 ho9 de9), (bb, oX0 bpersons bpapers bstamps bversions blines bsteps bsayings bfindings bwarnings bquestions td vd vl gp), (bpersons, oX8 10 2 bpersonsc (nI (kbpersons + 1))), (bpersonsc, iA G 20 f11690)]) hP hD (fun hP hD => ?_)
        have w1691 := hr1688
        refine lv_aload_n hx hb gX11_person_3.2.1 rfl (lv_at1 hl) ?_
        refine gf_X11_15 hC rfl hK hP 0 rfl rfl gX11_person_3.2.2.1 ?_
        refine gf_X11_107 hC rfl hK hP 1 rfl rfl gX11_person_3.2.2.2.1 ?_
        refine lv_iload_n hx hb gX11_person_3.2.2.2.2.1 rfl (lv_at0 hl) ?_
        refine lv_iconst (v := 1) hx hb gX11_person_3.2.2.2.2.2.1 (by decide) ?_
        refine lv_iload_n hx hb gX11_person_3.2.2.2.2.2.2.1 rfl (lv_at3 hl) ?_
        refine vV (wr := [(h0, oX11 bb kk ikp sg do9 ru9 ta9 tp9 ro9 ho9 de9), (bb, oX0 bpersons bpapers bstamps bversions blines bsteps bsayings bfindings bwarnings bquestions td vd vl gp)]) hC hK hl hP hD hS hA (c_T_set l G bpersons (nI kbpersons) 1 x2 10 2 bpersonsc (kbpersons + 1) f11690 (by omega) (by omega) (by omega)) si_X11_120 [2, 3] [0, 1] sm_2_3 fm_2_3 nd_2_3 sm_0_1 nd_0_1 dj_2_3__0_1 rfl rfl rfl rfl rfl (Nat.le_of_ble_eq_true rfl) rm_4_1_4 ⟨Nat.le_of_ble_eq_true rfl, Nat.le_of_ble_eq_true rfl⟩ gX11_person_3.2.2.2.2.2.2.2.1 (fun f11694 H locs hr1692 hP hD hS => ?_)
        try dsimp only at hr1692
        refine Kpdr (ws := [(h0, oX11 bb kk ikp sg do9 ru9 ta9 tp9 ro9 ho9 de9), (bb, oX0 bpersons bpapers bstamps bversions blines bsteps bsayings bfindings bwarnings bquestions td vd vl gp), (bpersons, oX8 10 2 bpersonsc (nI (kbpersons + 1))), (bpersonsc, iA G 20 f11694)]) hP hD (fun hP hD => ?_)
        have w1695 := hr1692
        refine lv_iload_n hx hb gX11_person_3.2.2.2.2.2.2.2.2.1 rfl (lv_at0 hl) ?_
        have tt1696 : f11690 = upd fbpersons (kbpersons * 2 + 0) x1 := w1691.symm.trans (ts1 (by decide) (by decide) (by omega) rfl)
        have tt1697 : f11694 = upd f11690 (kbpersons * 2 + 1) x2 := w1695.symm.trans (ts1 (by decide) (by decide) (by omega) rfl)
        have tu1698 : f11694 = rowu fbpersons (kbpersons * 2) [x1, x2] := by rw [tt1697, tt1696]; rfl
        refine toQ hQ0 ?_
        exact RI (v := nI kbpersons) hC hP hD hS [0, 1, 2, 3] ((kbpersons + 1), f11694) rfl rfl (by decide) (⟨(by first | rfl | (simp only [ifc_t hkbpersons, ifc_t a1680, ifc_t a1682, ifc_t a1684, ifc_f (Nat.not_le.mpr a1684)]; done) | (simp only [ifc_t hkbpersons, ifc_t a1680, ifc_t a1682, ifc_t a1684, ifc_f (Nat.not_le.mpr a1684)]; rfl) | (dsimp only; simp only [ifc_t hkbpersons, ifc_t a1680, ifc_t a1682, ifc_t a1684, ifc_f (Nat.not_le.mpr a1684)]; done)), ⟨by omega, by omega, (by first | rfl | (simp only [ifc_t hkbpersons, ifc_t a1680, ifc_t a1682, ifc_t a1684, ifc_f (Nat.not_le.mpr a1684)]; done) | (simp only [ifc_t hkbpersons, ifc_t a1680, ifc_t a1682, ifc_t a1684, ifc_f (Nat.not_le.mpr a1684)]; rfl) | (dsimp only; simp only [ifc_t hkbpersons, ifc_t a1680, ifc_t a1682, ifc_t a1684, ifc_f (Nat.not_le.mpr a1684)]; done)), (fun i => by simp only [ifc_t hkbpersons, ifc_t a1680, ifc_t a1682, ifc_t a1684, ifc_f (Nat.not_le.mpr a1684)]; rw [tu1698])⟩⟩) rfl gX11_person_3.2.2.2.2.2.2.2.2.2
    · refine lv_if_ne (tgt := 22) hx hb gX11_person_0.2.2.2.2.2.2.2.2.2 (by decide) (fun c9 => absurd (by decide) c9) (fun _ => ?_)
      refine lv_iconst (v := (-1)) hx hb gX11_person_1.1 (by decide) ?_
      refine toQ hQ0 ?_
      exact RI (v := (-1)) hC hP hD hS [0, 1, 2, 3] (kbpersons, fbpersons) rfl rfl (by decide) (⟨(by first | rfl | (simp only [ifc_t hkbpersons, ifc_t a1680, ifc_f a1682]; done) | (simp only [ifc_t hkbpersons, ifc_t a1680, ifc_f a1682]; rfl) | (dsimp only; simp only [ifc_t hkbpersons, ifc_t a1680, ifc_f a1682]; done)), ⟨by omega, by omega, (by first | rfl | (simp only [ifc_t hkbpersons, ifc_t a1680, ifc_f a1682]; done) | (simp only [ifc_t hkbpersons, ifc_t a1680, ifc_f a1682]; rfl) | (dsimp only; simp only [ifc_t hkbpersons, ifc_t a1680, ifc_f a1682]; done)), (fun i => by first | rfl | (simp only [ifc_t hkbpersons, ifc_t a1680, ifc_f a1682]; done))⟩⟩) rfl gX11_person_1.2.1
  · refine lv_if_eq (tgt := 20) hx hb gX11_person_0.2.2.2.2.1 (by decide) (fun _ => ?_) (fun c9 => absurd (by decide) c9)
    refine lv_iconst (v := (-1)) hx hb gX11_person_1.1 (by decide) ?_
    refine toQ hQ0 ?_
    exact RI (v := (-1)) hC hP hD hS [0, 1, 2, 3] (kbpersons, fbpersons) rfl rfl (by decide) (⟨(by first | rfl | (simp only [ifc_t hkbpersons, ifc_f a1680]; done) | (simp only [ifc_t hkbpersons, ifc_f a1680]; rfl) | (dsimp only; simp only [ifc_t hkbpersons, ifc_f a1680]; done)), ⟨by omega, by omega, (by first | rfl | (simp only [ifc_t hkbpersons, ifc_f a1680]; done) | (simp only [ifc_t hkbpersons, ifc_f a1680]; rfl) | (dsimp only; simp only [ifc_t hkbpersons, ifc_f a1680]; done)), (fun i => by first | rfl | (simp only [ifc_t hkbpersons, ifc_f a1680]; done))⟩⟩) rfl gX11_person_1.2.1
def K_p_question (l : Launch) (G : GG) (h0 : Nat) (x1 : Int32) (x2 : Int32) (bb : Nat) (kk : Nat) (ikp : Int32) (sg : Nat) (do9 : Nat) (ru9 : Nat) (ta9 : Nat) (tp9 : Nat) (ro9 : Nat) (ho9 : Nat) (de9 : Nat) (bpersons : Nat) (bpapers : Nat) (bstamps : Nat) (bversions : Nat) (blines : Nat) (bsteps : Nat) (bsayings : Nat) (bfindings : Nat) (bwarnings : Nat) (bquestions : Nat) (td : Int32) (vd : Int32) (vl : Int32) (gp : Int32) (bquestionsc : Nat) (kbquestions : Nat) (fbquestions : Nat → Int32) : Prop := MI l G yX11_question cX11_question 4 (some .int) 4 0 0 [.ref h0, .int x1, .int x2] [(h0, oX11 bb kk ikp sg do9 ru9 ta9 tp9 ro9 ho9 de9), (bb, oX0 bpersons bpapers bstamps bversions blines bsteps bsayings bfindings bwarnings bquestions td vd vl gp), (bquestions, oX8 7 2 bquestionsc (nI kbquestions)), (bquestionsc, iA G 14 fbquestions)] (fun (r : Int32) (u : Nat × (Nat → Int32)) => (r = ifc (Wi x1 1 9) (ifc (Wi x2 0 255) (ifc (7 ≤ kbquestions) (-2) (nI kbquestions)) (-1)) (-1)) ∧ (u.1 ≤ 7 ∧ kbquestions ≤ u.1 ∧ nI u.1 = ifc (Wi x1 1 9) (ifc (Wi x2 0 255) (ifc (7 ≤ kbquestions) (nI kbquestions) (nI (kbquestions + 1))) (nI kbquestions)) (nI kbquestions) ∧ ∀ i : Nat, u.2 i = ifc (Wi x1 1 9) (ifc (Wi x2 0 255) (ifc (7 ≤ kbquestions) (fbquestions i) (rowu fbquestions (kbquestions * 2) [x1, x2] i)) (fbquestions i)) (fbquestions i))) (fun u : Nat × (Nat → Int32) => [(h0, oX11 bb kk ikp sg do9 ru9 ta9 tp9 ro9 ho9 de9), (bb, oX0 bpersons bpapers bstamps bversions blines bsteps bsayings bfindings bwarnings bquestions td vd vl gp), (bquestions, oX8 7 2 bquestionsc (nI u.1)), (bquestionsc, iA G 14 u.2)])
set_option maxHeartbeats 4000000 in
set_option maxRecDepth 100000 in
theorem p_question (l : Launch) (G : GG) (h0 : Nat) (x1 : Int32) (x2 : Int32) (bb : Nat) (kk : Nat) (ikp : Int32) (sg : Nat) (do9 : Nat) (ru9 : Nat) (ta9 : Nat) (tp9 : Nat) (ro9 : Nat) (ho9 : Nat) (de9 : Nat) (bpersons : Nat) (bpapers : Nat) (bstamps : Nat) (bversions : Nat) (blines : Nat) (bsteps : Nat) (bsayings : Nat) (bfindings : Nat) (bwarnings : Nat) (bquestions : Nat) (td : Int32) (vd : Int32) (vl : Int32) (gp : Int32) (bquestionsc : Nat) (kbquestions : Nat) (fbquestions : Nat → Int32) (hkbquestions : kbquestions ≤ 7) : K_p_question l G h0 x1 x2 bb kk ikp sg do9 ru9 ta9 tp9 ro9 ho9 de9 bpersons bpapers bstamps bversions blines bsteps bsayings bfindings bwarnings bquestions td vd vl gp bquestionsc kbquestions fbquestions := by
  refine MI.start (by decide +kernel) (Nat.le_of_ble_eq_true rfl) ?_
  intro p e s m below meth c A ls hC hK hP hD hS hA hl
  refine absQ (fun Q0 hQ0 => ?_)
  have hl : lv_has ls 4 [(0, .ref h0), (1, .int x1), (2, .int x2)] := hl
  refine Kan8 hC (fun hx hb hr hml hB hown hlocks hnm => ?_)
  refine lv_iload_n hx hb gX11_question_0.1 rfl (lv_at1 hl) ?_
  refine lv_iconst (v := 1) hx hb gX11_question_0.2.1 (by decide) ?_
  refine lv_bipush (v := 9) hx hb gX11_question_0.2.2.1 (by decide) ?_
  refine pS hC hK hl (c_within l G x1 1 9) si_X11_83 rfl rfl (Nat.le_of_ble_eq_true rfl) rm_4_1_3 ⟨by first | exact Nat.le_of_ble_eq_true rfl | exact Nat.zero_le _, by first | exact Nat.le_of_ble_eq_true rfl | exact Nat.zero_le _⟩ gX11_question_0.2.2.2.1 (Kors (Keqa fun a1700 => ?_) (Keqa fun a1700 => ?_))
  · refine lv_if_eq (tgt := 21) hx hb gX11_question_0.2.2.2.2.1 (by decide) (fun c9 => absurd c9 (by decide)) (fun _ => ?_)
    refine lv_iload_n hx hb gX11_question_0.2.2.2.2.2.1 rfl (lv_at2 hl) ?_
    refine lv_iconst (v := 0) hx hb gX11_question_0.2.2.2.2.2.2.1 (by decide) ?_
    refine lv_sipush (v := 255) hx hb gX11_question_0.2.2.2.2.2.2.2.1 (by decide) ?_
    refine pS hC hK hl (c_within l G x2 0 255) si_X11_83 rfl rfl (Nat.le_of_ble_eq_true rfl) rm_4_1_3 ⟨by first | exact Nat.le_of_ble_eq_true rfl | exact Nat.zero_le _, by first | exact Nat.le_of_ble_eq_true rfl | exact Nat.zero_le _⟩ gX11_question_0.2.2.2.2.2.2.2.2.1 (Kors (Keqa fun a1702 => ?_) (Keqa fun a1702 => ?_))
    · refine lv_if_ne (tgt := 23) hx hb gX11_question_0.2.2.2.2.2.2.2.2.2 (by decide) (fun _ => ?_) (fun c9 => absurd c9 (by decide))
      refine lv_aload_n hx hb gX11_question_1.2.2.1 rfl (lv_at0 hl) ?_
      refine gf_X11_15 hC rfl hK hP 0 rfl rfl gX11_question_1.2.2.2.1 ?_
      refine gf_X11_286 hC rfl hK hP 1 rfl rfl gX11_question_1.2.2.2.2.1 ?_
      refine pV hC hK hl hP hD (c_T_isFull l G bquestions 7 2 bquestionsc kbquestions (hkbquestions) (by omega)) si_X11_111 [2] sm_2 fm_2 nd_2 rfl rfl rfl rfl rfl (Nat.le_of_ble_eq_true rfl) rm_4_1_1 ⟨by first | exact Nat.le_of_ble_eq_true rfl | exact Nat.zero_le _, by first | exact Nat.le_of_ble_eq_true rfl | exact Nat.zero_le _⟩ gX11_question_1.2.2.2.2.2.1 (Kors (Keqa fun a1704 => ?_) (Keqa fun a1704 => ?_))
      · refine lv_if_eq (tgt := 39) hx hb gX11_question_1.2.2.2.2.2.2.1 (by decide) (fun c9 => absurd c9 (by decide)) (fun _ => ?_)
        refine lv_bipush (v := (-2)) hx hb gX11_question_1.2.2.2.2.2.2.2.1 (by decide) ?_
        refine toQ hQ0 ?_
        exact RI (v := (-2)) hC hP hD hS [0, 1, 2, 3] (kbquestions, fbquestions) rfl rfl (by decide) (⟨(by first | rfl | (simp only [ifc_t hkbquestions, ifc_t a1700, ifc_t a1702, ifc_t a1704]; done) | (simp only [ifc_t hkbquestions, ifc_t a1700, ifc_t a1702, ifc_t a1704]; rfl) | (dsimp only; simp only [ifc_t hkbquestions, ifc_t a1700, ifc_t a1702, ifc_t a1704]; done)), ⟨by omega, by omega, (by first | rfl | (simp only [ifc_t hkbquestions, ifc_t a1700, ifc_t a1702, ifc_t a1704]; done) | (simp only [ifc_t hkbquestions, ifc_t a1700, ifc_t a1702, ifc_t a1704]; rfl) | (dsimp only; simp only [ifc_t hkbquestions, ifc_t a1700, ifc_t a1702, ifc_t a1704]; done)), (fun i => by first | rfl | (simp only [ifc_t hkbquestions, ifc_t a1700, ifc_t a1702, ifc_t a1704]; done))⟩⟩) rfl gX11_question_1.2.2.2.2.2.2.2.2.1
      · refine lv_if_eq (tgt := 39) hx hb gX11_question_1.2.2.2.2.2.2.1 (by decide) (fun _ => ?_) (fun c9 => absurd (by decide) c9)
        refine lv_aload_n hx hb gX11_question_1.2.2.2.2.2.2.2.2.2 rfl (lv_at0 hl) ?_
        refine gf_X11_15 hC rfl hK hP 0 rfl rfl gX11_question_2.1 ?_
        refine gf_X11_286 hC rfl hK hP 1 rfl rfl gX11_question_2.2.1 ?_
        refine iV (wr := [(h0, oX11 bb kk ikp sg do9 ru9 ta9 tp9 ro9 ho9 de9), (bb, oX0 bpersons bpapers bstamps bversions blines bsteps bsayings bfindings bwarnings bquestions td vd vl gp), (bquestionsc, iA G 14 fbquestions)]) hC hK hl hP hD hS hA (c_T_append l G bquestions 7 2 bquestionsc kbquestions (a1704) (by omega)) si_X11_117 [2] [0, 1, 3] sm_2 fm_2 nd_2 sm_0_1_3 nd_0_1_3 dj_2__0_1_3 rfl rfl rfl rfl rfl (Nat.le_of_ble_eq_true rfl) rm_4_1_1 ⟨Nat.le_of_ble_eq_true rfl, Nat.le_of_ble_eq_true rfl⟩ gX11_question_2.2.2.1 (fun r1705 u1706 H locs hr1705 hP hD hS => ?_)
        refine Kpdr (ws := [(h0, oX11 bb kk ikp sg do9 ru9 ta9 tp9 ro9 ho9 de9), (bb, oX0 bpersons bpapers bstamps bversions blines bsteps bsayings bfindings bwarnings bquestions td vd vl gp), (bquestionsc, iA G 14 fbquestions), (bquestions, oX8 7 2 bquestionsc (nI (kbquestions + 1)))]) hP hD (fun hP hD => ?_)
        obtain rfl := hr1705
        refine lv_istore_n (lv' := [(3, .int (nI kbquestions)), (0, .ref h0), (1, .int x1), (2, .int x2)]) hx hb gX11_question_2.2.2.2.1 rfl hl (by decide) rfl (fun ls hl => ?_)
        refine lv_aload_n hx hb gX11_question_2.2.2.2.2.1 rfl (lv_at1 hl) ?_
        refine gf_X11_15 hC rfl hK hP 0 rfl rfl gX11_question_2.2.2.2.2.2.1 ?_
        refine gf_X11_286 hC rfl hK hP 1 rfl rfl gX11_question_2.2.2.2.2.2.2.1 ?_
        refine lv_iload_n hx hb gX11_question_2.2.2.2.2.2.2.2.1 rfl (lv_at0 hl) ?_
        refine lv_iconst (v := 0) hx hb gX11_question_2.2.2.2.2.2.2.2.2.1 (by decide) ?_
        refine lv_iload_n hx hb gX11_question_2.2.2.2.2.2.2.2.2.2 rfl (lv_at2 hl) ?_
        refine vV (wr := [(h0, oX11 bb kk ikp sg do9 ru9 ta9 tp9 ro9 ho9 de9), (bb, oX0 bpersons bpapers bstamps bversions blines bsteps bsayings bfindings bwarnings bquestions td vd vl gp)]) hC hK hl hP hD hS hA (c_T_set l G bquestions (nI kbquestions) 0 x1 7 2 bquestionsc (kbquestions + 1) fbquestions (by omega) (by omega) (by omega)) si_X11_120 [3, 2] [0, 1] sm_3_2 fm_3_2 nd_3_2 sm_0_1 nd_0_1 dj_3_2__0_1 rfl rfl rfl rfl rfl (Nat.le_of_ble_eq_true rfl) rm_4_1_4 ⟨Nat.le_of_ble_eq_true rfl, Nat.le_of_ble_eq_true rfl⟩ gX11_question_3.1 (fun f11710 H locs hr1708 hP hD hS => ?_)
        try dsimp only at hr1708
        refine Kpdr (ws := [(h0, oX11 bb kk ikp sg do9 ru9 ta9 tp9 ro9 ho9 de9), (bb, oX0 bpersons bpapers bstamps bversions blines bsteps bsayings bfindings bwarnings bquestions td vd vl gp), (bquestions, oX8 7 2 bquestionsc (nI (kbquestions + 1))), (bquestionsc, iA G 14 f11710)]) hP hD (fun hP hD => ?_)
        have w1711 := hr1708
        refine lv_aload_n hx hb gX11_question_3.2.1 rfl (lv_at1 hl) ?_
        refine gf_X11_15 hC rfl hK hP 0 rfl rfl gX11_question_3.2.2.1 ?_
        refine gf_X11_286 hC rfl hK hP 1 rfl rfl gX11_question_3.2.2.2.1 ?_
        refine lv_iload_n hx hb gX11_question_3.2.2.2.2.1 rfl (lv_at0 hl) ?_
        refine lv_iconst (v := 1) hx hb gX11_question_3.2.2.2.2.2.1 (by decide) ?_
        refine lv_iload_n hx hb gX11_question_3.2.2.2.2.2.2.1 rfl (lv_at3 hl) ?_
        refine vV (wr := [(h0, oX11 bb kk ikp sg do9 ru9 ta9 tp9 ro9 ho9 de9), (bb, oX0 bpersons bpapers bstamps bversions blines bsteps bsayings bfindings bwarnings bquestions td vd vl gp)]) hC hK hl hP hD hS hA (c_T_set l G bquestions (nI kbquestions) 1 x2 7 2 bquestionsc (kbquestions + 1) f11710 (by omega) (by omega) (by omega)) si_X11_120 [2, 3] [0, 1] sm_2_3 fm_2_3 nd_2_3 sm_0_1 nd_0_1 dj_2_3__0_1 rfl rfl rfl rfl rfl (Nat.le_of_ble_eq_true rfl) rm_4_1_4 ⟨Nat.le_of_ble_eq_true rfl, Nat.le_of_ble_eq_true rfl⟩ gX11_question_3.2.2.2.2.2.2.2.1 (fun f11714 H locs hr1712 hP hD hS => ?_)
        try dsimp only at hr1712
        refine Kpdr (ws := [(h0, oX11 bb kk ikp sg do9 ru9 ta9 tp9 ro9 ho9 de9), (bb, oX0 bpersons bpapers bstamps bversions blines bsteps bsayings bfindings bwarnings bquestions td vd vl gp), (bquestions, oX8 7 2 bquestionsc (nI (kbquestions + 1))), (bquestionsc, iA G 14 f11714)]) hP hD (fun hP hD => ?_)
        have w1715 := hr1712
        refine lv_iload_n hx hb gX11_question_3.2.2.2.2.2.2.2.2.1 rfl (lv_at0 hl) ?_
        have tt1716 : f11710 = upd fbquestions (kbquestions * 2 + 0) x1 := w1711.symm.trans (ts1 (by decide) (by decide) (by omega) rfl)
        have tt1717 : f11714 = upd f11710 (kbquestions * 2 + 1) x2 := w1715.symm.trans (ts1 (by decide) (by decide) (by omega) rfl)
        have tu1718 : f11714 = rowu fbquestions (kbquestions * 2) [x1, x2] := by rw [tt1717, tt1716]; rfl
        refine toQ hQ0 ?_
        exact RI (v := nI kbquestions) hC hP hD hS [0, 1, 2, 3] ((kbquestions + 1), f11714) rfl rfl (by decide) (⟨(by first | rfl | (simp only [ifc_t hkbquestions, ifc_t a1700, ifc_t a1702, ifc_t a1704, ifc_f (Nat.not_le.mpr a1704)]; done) | (simp only [ifc_t hkbquestions, ifc_t a1700, ifc_t a1702, ifc_t a1704, ifc_f (Nat.not_le.mpr a1704)]; rfl) | (dsimp only; simp only [ifc_t hkbquestions, ifc_t a1700, ifc_t a1702, ifc_t a1704, ifc_f (Nat.not_le.mpr a1704)]; done)), ⟨by omega, by omega, (by first | rfl | (simp only [ifc_t hkbquestions, ifc_t a1700, ifc_t a1702, ifc_t a1704, ifc_f (Nat.not_le.mpr a1704)]; done) | (simp only [ifc_t hkbquestions, ifc_t a1700, ifc_t a1702, ifc_t a1704, ifc_f (Nat.not_le.mpr a1704)]; rfl) | (dsimp only; simp only [ifc_t hkbquestions, ifc_t a1700, ifc_t a1702, ifc_t a1704, ifc_f (Nat.not_le.mpr a1704)]; done)), (fun i => by simp only [ifc_t hkbquestions, ifc_t a1700, ifc_t a1702, ifc_t a1704, ifc_f (Nat.not_le.mpr a1704)]; rw [tu1718])⟩⟩) rfl gX11_question_3.2.2.2.2.2.2.2.2.2
    · refine lv_if_ne (tgt := 23) hx hb gX11_question_0.2.2.2.2.2.2.2.2.2 (by decide) (fun c9 => absurd (by decide) c9) (fun _ => ?_)
      refine lv_iconst (v := (-1)) hx hb gX11_question_1.1 (by decide) ?_
      refine toQ hQ0 ?_
      exact RI (v := (-1)) hC hP hD hS [0, 1, 2, 3] (kbquestions, fbquestions) rfl rfl (by decide) (⟨(by first | rfl | (simp only [ifc_t hkbquestions, ifc_t a1700, ifc_f a1702]; done) | (simp only [ifc_t hkbquestions, ifc_t a1700, ifc_f a1702]; rfl) | (dsimp only; simp only [ifc_t hkbquestions, ifc_t a1700, ifc_f a1702]; done)), ⟨by omega, by omega, (by first | rfl | (simp only [ifc_t hkbquestions, ifc_t a1700, ifc_f a1702]; done) | (simp only [ifc_t hkbquestions, ifc_t a1700, ifc_f a1702]; rfl) | (dsimp only; simp only [ifc_t hkbquestions, ifc_t a1700, ifc_f a1702]; done)), (fun i => by first | rfl | (simp only [ifc_t hkbquestions, ifc_t a1700, ifc_f a1702]; done))⟩⟩) rfl gX11_question_1.2.1
  · refine lv_if_eq (tgt := 21) hx hb gX11_question_0.2.2.2.2.1 (by decide) (fun _ => ?_) (fun c9 => absurd (by decide) c9)
    refine lv_iconst (v := (-1)) hx hb gX11_question_1.1 (by decide) ?_
    refine toQ hQ0 ?_
    exact RI (v := (-1)) hC hP hD hS [0, 1, 2, 3] (kbquestions, fbquestions) rfl rfl (by decide) (⟨(by first | rfl | (simp only [ifc_t hkbquestions, ifc_f a1700]; done) | (simp only [ifc_t hkbquestions, ifc_f a1700]; rfl) | (dsimp only; simp only [ifc_t hkbquestions, ifc_f a1700]; done)), ⟨by omega, by omega, (by first | rfl | (simp only [ifc_t hkbquestions, ifc_f a1700]; done) | (simp only [ifc_t hkbquestions, ifc_f a1700]; rfl) | (dsimp only; simp only [ifc_t hkbquestions, ifc_f a1700]; done)), (fun i => by first | rfl | (simp only [ifc_t hkbquestions, ifc_f a1700]; done))⟩⟩) rfl gX11_question_1.2.1
def K_p_gap (l : Launch) (G : GG) (h0 : Nat) (n : Int32) (bb : Nat) (kk : Nat) (ikp : Int32) (sg : Nat) (do9 : Nat) (ru9 : Nat) (ta9 : Nat) (tp9 : Nat) (ro9 : Nat) (ho9 : Nat) (de9 : Nat) (bpersons : Nat) (bpapers : Nat) (bstamps : Nat) (bversions : Nat) (blines : Nat) (bsteps : Nat) (bsayings : Nat) (bfindings : Nat) (bwarnings : Nat) (bquestions : Nat) (td : Int32) (vd : Int32) (vl : Int32) (gp : Int32) : Prop := MI l G yX11_gap cX11_gap 3 (some .int) 3 0 0 [.ref h0, .int n] [(h0, oX11 bb kk ikp sg do9 ru9 ta9 tp9 ro9 ho9 de9), (bb, oX0 bpersons bpapers bstamps bversions blines bsteps bsayings bfindings bwarnings bquestions td vd vl gp)] (fun (r : Int32) (u : Int32) => (r = ifc (Wi n 0 99) gp (-1)) ∧ (ifc (Wi n 0 99) n gp = u)) (fun u : Int32 => [(h0, oX11 bb kk ikp sg do9 ru9 ta9 tp9 ro9 ho9 de9), (bb, oX0 bpersons bpapers bstamps bversions blines bsteps bsayings bfindings bwarnings bquestions td vd vl u)])
set_option maxHeartbeats 4000000 in
set_option maxRecDepth 100000 in
theorem p_gap (l : Launch) (G : GG) (h0 : Nat) (n : Int32) (bb : Nat) (kk : Nat) (ikp : Int32) (sg : Nat) (do9 : Nat) (ru9 : Nat) (ta9 : Nat) (tp9 : Nat) (ro9 : Nat) (ho9 : Nat) (de9 : Nat) (bpersons : Nat) (bpapers : Nat) (bstamps : Nat) (bversions : Nat) (blines : Nat) (bsteps : Nat) (bsayings : Nat) (bfindings : Nat) (bwarnings : Nat) (bquestions : Nat) (td : Int32) (vd : Int32) (vl : Int32) (gp : Int32) : K_p_gap l G h0 n bb kk ikp sg do9 ru9 ta9 tp9 ro9 ho9 de9 bpersons bpapers bstamps bversions blines bsteps bsayings bfindings bwarnings bquestions td vd vl gp := by
  refine MI.start (by decide +kernel) (Nat.le_of_ble_eq_true rfl) ?_
  intro p e s m below meth c A ls hC hK hP hD hS hA hl
  refine absQ (fun Q0 hQ0 => ?_)
  have hl : lv_has ls 3 [(0, .ref h0), (1, .int n)] := hl
  refine Kan8 hC (fun hx hb hr hml hB hown hlocks hnm => ?_)
  refine lv_iload_n hx hb gX11_gap_0.1 rfl (lv_at1 hl) ?_
  refine lv_iconst (v := 0) hx hb gX11_gap_0.2.1 (by decide) ?_
  refine lv_bipush (v := 99) hx hb gX11_gap_0.2.2.1 (by decide) ?_
  refine pS hC hK hl (c_within l G n 0 99) si_X11_83 rfl rfl (Nat.le_of_ble_eq_true rfl) rm_3_1_3 ⟨by first | exact Nat.le_of_ble_eq_true rfl | exact Nat.zero_le _, by first | exact Nat.le_of_ble_eq_true rfl | exact Nat.zero_le _⟩ gX11_gap_0.2.2.2.1 (Kors (Keqa fun a1720 => ?_) (Keqa fun a1720 => ?_))
  · refine lv_if_ne (tgt := 12) hx hb gX11_gap_0.2.2.2.2.1 (by decide) (fun _ => ?_) (fun c9 => absurd c9 (by decide))
    refine lv_aload_n hx hb gX11_gap_0.2.2.2.2.2.2.2.1 rfl (lv_at0 hl) ?_
    refine gf_X11_15 hC rfl hK hP 0 rfl rfl gX11_gap_0.2.2.2.2.2.2.2.2.1 ?_
    refine gf_X11_177 hC rfl hK hP 1 rfl rfl gX11_gap_0.2.2.2.2.2.2.2.2.2 ?_
    refine lv_istore_n (lv' := [(2, .int gp), (0, .ref h0), (1, .int n)]) hx hb gX11_gap_1.1 rfl hl (by decide) rfl (fun ls hl => ?_)
    refine lv_aload_n hx hb gX11_gap_1.2.1 rfl (lv_at1 hl) ?_
    refine gf_X11_15 hC rfl hK hP 0 rfl rfl gX11_gap_1.2.2.1 ?_
    refine lv_iload_n hx hb gX11_gap_1.2.2.2.1 rfl (lv_at2 hl) ?_
    refine pf_X11_177 hC rfl hK hP hD hS 1 (ws' := [(h0, oX11 bb kk ikp sg do9 ru9 ta9 tp9 ro9 ho9 de9), (bb, oX0 bpersons bpapers bstamps bversions blines bsteps bsayings bfindings bwarnings bquestions td vd vl n)]) rfl (Nat.le_of_ble_eq_true rfl) rfl rfl rfl gX11_gap_1.2.2.2.2.1 (fun H locs hP hD hS => ?_)
    refine lv_iload_n hx hb gX11_gap_1.2.2.2.2.2.1 rfl (lv_at0 hl) ?_
    refine toQ hQ0 ?_
    exact RI (v := gp) hC hP hD hS [0, 1] n rfl rfl (by decide) (⟨(by first | rfl | (simp only [ifc_t a1720]; done) | (simp only [ifc_t a1720]; rfl)), (by simp only [ifc_t a1720])⟩) rfl gX11_gap_1.2.2.2.2.2.2
  · refine lv_if_ne (tgt := 12) hx hb gX11_gap_0.2.2.2.2.1 (by decide) (fun c9 => absurd (by decide) c9) (fun _ => ?_)
    refine lv_iconst (v := (-1)) hx hb gX11_gap_0.2.2.2.2.2.1 (by decide) ?_
    refine toQ hQ0 ?_
    exact RI (v := (-1)) hC hP hD hS [0, 1] gp rfl rfl (by decide) (⟨(by first | rfl | (simp only [ifc_f a1720]; done) | (simp only [ifc_f a1720]; rfl)), (by simp only [ifc_f a1720])⟩) rfl gX11_gap_0.2.2.2.2.2.2.1
def K_p_personOf (l : Launch) (G : GG) (h0 : Nat) (x1 : Int32) (x2 : Int32) (bb : Nat) (kk : Nat) (ikp : Int32) (sg : Nat) (do9 : Nat) (ru9 : Nat) (ta9 : Nat) (tp9 : Nat) (ro9 : Nat) (ho9 : Nat) (de9 : Nat) (bpersons : Nat) (bpapers : Nat) (bstamps : Nat) (bversions : Nat) (blines : Nat) (bsteps : Nat) (bsayings : Nat) (bfindings : Nat) (bwarnings : Nat) (bquestions : Nat) (td : Int32) (vd : Int32) (vl : Int32) (gp : Int32) (bpersonsc : Nat) (kbpersons : Nat) (fbpersons : Nat → Int32) (bpapersc : Nat) (kbpapers : Nat) (fbpapers : Nat → Int32) (bsayingsc : Nat) (kbsayings : Nat) (fbsayings : Nat → Int32) : Prop := MP l G yX11_personOf cX11_personOf 3 (some .int) 6 [.ref h0, .int x1, .int x2] [(h0, oX11 bb kk ikp sg do9 ru9 ta9 tp9 ro9 ho9 de9), (bb, oX0 bpersons bpapers bstamps bversions blines bsteps bsayings bfindings bwarnings bquestions td vd vl gp), (bpersons, oX8 10 2 bpersonsc (nI kbpersons)), (bpersonsc, iA G 20 fbpersons), (bpapers, oX8 12 6 bpapersc (nI kbpapers)), (bpapersc, iA G 72 fbpapers), (bsayings, oX8 16 8 bsayingsc (nI kbsayings)), (bsayingsc, iA G 128 fbsayings)] (fun r : Int32 => r = ifc (Hs x1 kbpersons) (ifc (x2 = 0) (fbpersons (x1.toNatClampNeg * 2 + 0)) (ifc (x2 = 1) (fbpersons (x1.toNatClampNeg * 2 + 1)) (ifc (x2 = 2) (CNT (fun p9 => SEE fbpapers td vd vl p9 ∧ HB (fbpapers (p9 * 6 + 1)) x1) kbpapers) (ifc (x2 = 3) (CNT (fun p9 => SEE fbpapers td vd vl p9 ∧ fbpapers (p9 * 6 + 0) = x1) kbpapers) (ifc (x2 = 4) (CNT (fun s9 => fbsayings (s9 * 8 + 0) = x1 ∧ CSQ fbsayings fbpapers td vd vl s9) kbsayings) ((-1))))))) (-1))
set_option maxHeartbeats 4000000 in
set_option maxRecDepth 100000 in
theorem p_personOf (l : Launch) (G : GG) (h0 : Nat) (x1 : Int32) (x2 : Int32) (bb : Nat) (kk : Nat) (ikp : Int32) (sg : Nat) (do9 : Nat) (ru9 : Nat) (ta9 : Nat) (tp9 : Nat) (ro9 : Nat) (ho9 : Nat) (de9 : Nat) (bpersons : Nat) (bpapers : Nat) (bstamps : Nat) (bversions : Nat) (blines : Nat) (bsteps : Nat) (bsayings : Nat) (bfindings : Nat) (bwarnings : Nat) (bquestions : Nat) (td : Int32) (vd : Int32) (vl : Int32) (gp : Int32) (bpersonsc : Nat) (kbpersons : Nat) (fbpersons : Nat → Int32) (bpapersc : Nat) (kbpapers : Nat) (fbpapers : Nat → Int32) (bsayingsc : Nat) (kbsayings : Nat) (fbsayings : Nat → Int32) (hkbpersons : kbpersons ≤ 10) (hkbpapers : kbpapers ≤ 12) (hkbsayings : kbsayings ≤ 16) (hSP : SPI fbsayings kbsayings kbpapers) : K_p_personOf l G h0 x1 x2 bb kk ikp sg do9 ru9 ta9 tp9 ro9 ho9 de9 bpersons bpapers bstamps bversions blines bsteps bsayings bfindings bwarnings bquestions td vd vl gp bpersonsc kbpersons fbpersons bpapersc kbpapers fbpapers bsayingsc kbsayings fbsayings := by
  refine MP.start (by decide +kernel) (Nat.le_of_ble_eq_true rfl) ?_
  intro p e s m below meth c ls hC hK hP hD hl
  refine absQ (fun Q0 hQ0 => ?_)
  have hl : lv_has ls 3 [(0, .ref h0), (1, .int x1), (2, .int x2)] := hl
  refine Kan8 hC (fun hx hb hr hml hB hown hlocks hnm => ?_)
  refine lv_aload_n hx hb gX11_personOf_0.1 rfl (lv_at0 hl) ?_
  refine gf_X11_15 hC rfl hK hP 0 rfl rfl gX11_personOf_0.2.1 ?_
  refine gf_X11_107 hC rfl hK hP 1 rfl rfl gX11_personOf_0.2.2.1 ?_
  refine lv_iload_n hx hb gX11_personOf_0.2.2.2.1 rfl (lv_at1 hl) ?_
  refine pV hC hK hl hP hD (c_T_has l G bpersons x1 10 2 bpersonsc kbpersons) si_X11_124 [2] sm_2 fm_2 nd_2 rfl rfl rfl rfl rfl (Nat.le_of_ble_eq_true rfl) rm_6_1_2 ⟨by first | exact Nat.le_of_ble_eq_true rfl | exact Nat.zero_le _, by first | exact Nat.le_of_ble_eq_true rfl | exact Nat.zero_le _⟩ gX11_personOf_0.2.2.2.2.1 (Kors (Keqa fun a1722 => ?_) (Keqa fun a1722 => ?_))
  · refine lv_if_ne (tgt := 16) hx hb gX11_personOf_0.2.2.2.2.2.1 (by decide) (fun _ => ?_) (fun c9 => absurd c9 (by decide))
    obtain ⟨je, hje, rfl⟩ := Hs_nat (by omega) a1722
    refine lv_iload_n hx hb gX11_personOf_0.2.2.2.2.2.2.2.2.1 rfl (lv_at2 hl) ?_
    by_cases c_17_1723 : x2 = 0
    · refine lv_tableIn (tgt := 52) hx hb gX11_personOf_0.2.2.2.2.2.2.2.2.2 (by rw [c_17_1723]; decide) (by rw [c_17_1723]; decide) (by rw [c_17_1723]; rfl) (by decide) ?_
      refine lv_aload_n hx hb gX11_personOf_1.1 rfl (lv_at0 hl) ?_
      refine gf_X11_15 hC rfl hK hP 0 rfl rfl gX11_personOf_1.2.1 ?_
      refine gf_X11_107 hC rfl hK hP 1 rfl rfl gX11_personOf_1.2.2.1 ?_
      refine lv_iload_n hx hb gX11_personOf_1.2.2.2.1 rfl (lv_at1 hl) ?_
      refine lv_iconst (v := 0) hx hb gX11_personOf_1.2.2.2.2.1 (by decide) ?_
      refine pV hC hK hl hP hD (c_T_at l G bpersons (nI je) 0 10 2 bpersonsc kbpersons fbpersons (hkbpersons) (by omega) (by omega)) si_X11_128 [2, 3] sm_2_3 fm_2_3 nd_2_3 rfl rfl rfl rfl rfl (Nat.le_of_ble_eq_true rfl) rm_6_1_3 ⟨by first | exact Nat.le_of_ble_eq_true rfl | exact Nat.zero_le _, by first | exact Nat.le_of_ble_eq_true rfl | exact Nat.zero_le _⟩ gX11_personOf_1.2.2.2.2.2.1 (fun r1724 hr1724 => ?_)
      refine toQ hQ0 ?_
      exact RP (v := r1724) hC ((by rw [show r1724 = fbpersons (je * 2 + 0) from hr1724.trans (tatr (by omega) (by omega) (by decide) (by decide) rfl)]; simp only [nI_clamp (n := je) (by omega), ifc_t hkbpersons, ifc_t hkbpapers, ifc_t hkbsayings, ifc_t hSP, ifc_t a1722, ifc_t c_17_1723])) rfl gX11_personOf_1.2.2.2.2.2.2.1
    by_cases c_17_1726 : x2 = 1
    · refine lv_tableIn (tgt := 65) hx hb gX11_personOf_0.2.2.2.2.2.2.2.2.2 (by rw [c_17_1726]; decide) (by rw [c_17_1726]; decide) (by rw [c_17_1726]; rfl) (by decide) ?_
      refine lv_aload_n hx hb gX11_personOf_1.2.2.2.2.2.2.2.1 rfl (lv_at0 hl) ?_
      refine gf_X11_15 hC rfl hK hP 0 rfl rfl gX11_personOf_1.2.2.2.2.2.2.2.2.1 ?_
      refine gf_X11_107 hC rfl hK hP 1 rfl rfl gX11_personOf_1.2.2.2.2.2.2.2.2.2 ?_
      refine lv_iload_n hx hb gX11_personOf_2.1 rfl (lv_at1 hl) ?_
      refine lv_iconst (v := 1) hx hb gX11_personOf_2.2.1 (by decide) ?_
      refine pV hC hK hl hP hD (c_T_at l G bpersons (nI je) 1 10 2 bpersonsc kbpersons fbpersons (hkbpersons) (by omega) (by omega)) si_X11_128 [2, 3] sm_2_3 fm_2_3 nd_2_3 rfl rfl rfl rfl rfl (Nat.le_of_ble_eq_true rfl) rm_6_1_3 ⟨by first | exact Nat.le_of_ble_eq_true rfl | exact Nat.zero_le _, by first | exact Nat.le_of_ble_eq_true rfl | exact Nat.zero_le _⟩ gX11_personOf_2.2.2.1 (fun r1727 hr1727 => ?_)
      refine toQ hQ0 ?_
      exact RP (v := r1727) hC ((by rw [show r1727 = fbpersons (je * 2 + 1) from hr1727.trans (tatr (by omega) (by omega) (by decide) (by decide) rfl)]; simp only [nI_clamp (n := je) (by omega), ifc_t hkbpersons, ifc_t hkbpapers, ifc_t hkbsayings, ifc_t hSP, ifc_t a1722, ifc_f c_17_1723, ifc_t c_17_1726])) rfl gX11_personOf_2.2.2.2.1
    by_cases c_17_1729 : x2 = 2
    · refine lv_tableIn (tgt := 78) hx hb gX11_personOf_0.2.2.2.2.2.2.2.2.2 (by rw [c_17_1729]; decide) (by rw [c_17_1729]; decide) (by rw [c_17_1729]; rfl) (by decide) ?_
      refine lv_aload_n hx hb gX11_personOf_2.2.2.2.2.1 rfl (lv_at0 hl) ?_
      refine gf_X11_15 hC rfl hK hP 0 rfl rfl gX11_personOf_2.2.2.2.2.2.1 ?_
      refine lv_iload_n hx hb gX11_personOf_2.2.2.2.2.2.2.1 rfl (lv_at1 hl) ?_
      refine lv_aload_n hx hb gX11_personOf_2.2.2.2.2.2.2.2.1 rfl (lv_at0 hl) ?_
      refine gf_X11_15 hC rfl hK hP 0 rfl rfl gX11_personOf_2.2.2.2.2.2.2.2.2.1 ?_
      refine pV hC hK hl hP hD (c_inViewX l G bb bpersons bpapers bstamps bversions blines bsteps bsayings bfindings bwarnings bquestions td vd vl gp bpapersc kbpapers fbpapers (hkbpapers)) si_X11_97 [1, 4, 5] sm_1_4_5 fm_1_4_5 nd_1_4_5 rfl rfl rfl rfl rfl (Nat.le_of_ble_eq_true rfl) rm_6_3_6 ⟨by first | exact Nat.le_of_ble_eq_true rfl | exact Nat.zero_le _, by first | exact Nat.le_of_ble_eq_true rfl | exact Nat.zero_le _⟩ gX11_personOf_2.2.2.2.2.2.2.2.2.2 (Keqr ?_)
      refine pV hC hK hl hP hD (c_countToX l G bb (nI je) bpersons bpapers bstamps bversions blines bsteps bsayings bfindings bwarnings bquestions td vd vl gp bpapersc kbpapers fbpapers (hkbpapers)) si_X11_132 [1, 4, 5] sm_1_4_5 fm_1_4_5 nd_1_4_5 rfl rfl rfl rfl rfl (Nat.le_of_ble_eq_true rfl) rm_6_3_5 ⟨by first | exact Nat.le_of_ble_eq_true rfl | exact Nat.zero_le _, by first | exact Nat.le_of_ble_eq_true rfl | exact Nat.zero_le _⟩ gX11_personOf_3.1 (Keqr ?_)
      refine toQ hQ0 ?_
      exact RP (v := (CNT (fun p9 => SEE fbpapers td vd vl p9 ∧ HB (fbpapers (p9 * 6 + 1)) (nI je)) kbpapers)) hC ((by first | rfl | (simp only [nI_clamp (n := je) (by omega), ifc_t hkbpersons, ifc_t hkbpapers, ifc_t hkbsayings, ifc_t hSP, ifc_t a1722, ifc_f c_17_1723, ifc_f c_17_1726, ifc_t c_17_1729]; done) | (simp only [nI_clamp (n := je) (by omega), ifc_t hkbpersons, ifc_t hkbpapers, ifc_t hkbsayings, ifc_t hSP, ifc_t a1722, ifc_f c_17_1723, ifc_f c_17_1726, ifc_t c_17_1729]; rfl))) rfl gX11_personOf_3.2.1
    by_cases c_17_1734 : x2 = 3
    · refine lv_tableIn (tgt := 94) hx hb gX11_personOf_0.2.2.2.2.2.2.2.2.2 (by rw [c_17_1734]; decide) (by rw [c_17_1734]; decide) (by rw [c_17_1734]; rfl) (by decide) ?_
      refine lv_aload_n hx hb gX11_personOf_3.2.2.1 rfl (lv_at0 hl) ?_
      refine gf_X11_15 hC rfl hK hP 0 rfl rfl gX11_personOf_3.2.2.2.1 ?_
      refine lv_iload_n hx hb gX11_personOf_3.2.2.2.2.1 rfl (lv_at1 hl) ?_
      refine lv_aload_n hx hb gX11_personOf_3.2.2.2.2.2.1 rfl (lv_at0 hl) ?_
      refine gf_X11_15 hC rfl hK hP 0 rfl rfl gX11_personOf_3.2.2.2.2.2.2.1 ?_
      refine pV hC hK hl hP hD (c_inViewX l G bb bpersons bpapers bstamps bversions blines bsteps bsayings bfindings bwarnings bquestions td vd vl gp bpapersc kbpapers fbpapers (hkbpapers)) si_X11_97 [1, 4, 5] sm_1_4_5 fm_1_4_5 nd_1_4_5 rfl rfl rfl rfl rfl (Nat.le_of_ble_eq_true rfl) rm_6_3_6 ⟨by first | exact Nat.le_of_ble_eq_true rfl | exact Nat.zero_le _, by first | exact Nat.le_of_ble_eq_true rfl | exact Nat.zero_le _⟩ gX11_personOf_3.2.2.2.2.2.2.2.1 (Keqr ?_)
      refine pV hC hK hl hP hD (c_countByX l G bb (nI je) bpersons bpapers bstamps bversions blines bsteps bsayings bfindings bwarnings bquestions td vd vl gp bpapersc kbpapers fbpapers (hkbpapers)) si_X11_135 [1, 4, 5] sm_1_4_5 fm_1_4_5 nd_1_4_5 rfl rfl rfl rfl rfl (Nat.le_of_ble_eq_true rfl) rm_6_3_5 ⟨by first | exact Nat.le_of_ble_eq_true rfl | exact Nat.zero_le _, by first | exact Nat.le_of_ble_eq_true rfl | exact Nat.zero_le _⟩ gX11_personOf_3.2.2.2.2.2.2.2.2.1 (Keqr ?_)
      refine toQ hQ0 ?_
      exact RP (v := (CNT (fun p9 => SEE fbpapers td vd vl p9 ∧ fbpapers (p9 * 6 + 0) = (nI je)) kbpapers)) hC ((by first | rfl | (simp only [nI_clamp (n := je) (by omega), ifc_t hkbpersons, ifc_t hkbpapers, ifc_t hkbsayings, ifc_t hSP, ifc_t a1722, ifc_f c_17_1723, ifc_f c_17_1726, ifc_f c_17_1729, ifc_t c_17_1734]; done) | (simp only [nI_clamp (n := je) (by omega), ifc_t hkbpersons, ifc_t hkbpapers, ifc_t hkbsayings, ifc_t hSP, ifc_t a1722, ifc_f c_17_1723, ifc_f c_17_1726, ifc_f c_17_1729, ifc_t c_17_1734]; rfl))) rfl gX11_personOf_3.2.2.2.2.2.2.2.2.2
    by_cases c_17_1739 : x2 = 4
    · refine lv_tableIn (tgt := 110) hx hb gX11_personOf_0.2.2.2.2.2.2.2.2.2 (by rw [c_17_1739]; decide) (by rw [c_17_1739]; decide) (by rw [c_17_1739]; rfl) (by decide) ?_
      refine lv_aload_n hx hb gX11_personOf_4.1 rfl (lv_at0 hl) ?_
      refine gf_X11_15 hC rfl hK hP 0 rfl rfl gX11_personOf_4.2.1 ?_
      refine lv_iload_n hx hb gX11_personOf_4.2.2.1 rfl (lv_at1 hl) ?_
      refine lv_aload_n hx hb gX11_personOf_4.2.2.2.1 rfl (lv_at0 hl) ?_
      refine gf_X11_15 hC rfl hK hP 0 rfl rfl gX11_personOf_4.2.2.2.2.1 ?_
      refine pV hC hK hl hP hD (c_inViewX l G bb bpersons bpapers bstamps bversions blines bsteps bsayings bfindings bwarnings bquestions td vd vl gp bpapersc kbpapers fbpapers (hkbpapers)) si_X11_97 [1, 4, 5] sm_1_4_5 fm_1_4_5 nd_1_4_5 rfl rfl rfl rfl rfl (Nat.le_of_ble_eq_true rfl) rm_6_3_6 ⟨by first | exact Nat.le_of_ble_eq_true rfl | exact Nat.zero_le _, by first | exact Nat.le_of_ble_eq_true rfl | exact Nat.zero_le _⟩ gX11_personOf_4.2.2.2.2.2.1 (Keqr ?_)
      refine pV hC hK hl hP hD (c_countSayingsByX l G bb (nI je) bpersons bpapers bstamps bversions blines bsteps bsayings bfindings bwarnings bquestions td vd vl gp bsayingsc kbsayings fbsayings bpapersc kbpapers fbpapers (hkbsayings) (hkbpapers) (hSP)) si_X11_138 [1, 6, 7, 4, 5] sm_1_6_7_4_5 fm_1_6_7_4_5 nd_1_6_7_4_5 rfl rfl rfl rfl rfl (Nat.le_of_ble_eq_true rfl) rm_6_4_5 ⟨by first | exact Nat.le_of_ble_eq_true rfl | exact Nat.zero_le _, by first | exact Nat.le_of_ble_eq_true rfl | exact Nat.zero_le _⟩ gX11_personOf_4.2.2.2.2.2.2.1 (Keqr ?_)
      refine toQ hQ0 ?_
      exact RP (v := (CNT (fun s9 => fbsayings (s9 * 8 + 0) = (nI je) ∧ CSQ fbsayings fbpapers td vd vl s9) kbsayings)) hC ((by first | rfl | (simp only [nI_clamp (n := je) (by omega), ifc_t hkbpersons, ifc_t hkbpapers, ifc_t hkbsayings, ifc_t hSP, ifc_t a1722, ifc_f c_17_1723, ifc_f c_17_1726, ifc_f c_17_1729, ifc_f c_17_1734, ifc_t c_17_1739]; done) | (simp only [nI_clamp (n := je) (by omega), ifc_t hkbpersons, ifc_t hkbpapers, ifc_t hkbsayings, ifc_t hSP, ifc_t a1722, ifc_f c_17_1723, ifc_f c_17_1726, ifc_f c_17_1729, ifc_f c_17_1734, ifc_t c_17_1739]; rfl))) rfl gX11_personOf_4.2.2.2.2.2.2.2.1
    refine lv_tableOut (tgt := 126) hx hb gX11_personOf_0.2.2.2.2.2.2.2.2.2 (by have q9 := sw_0_4 (x := x2); simp only [c_17_1723, c_17_1726, c_17_1729, c_17_1734, c_17_1739, not_false_eq_true, true_implies] at q9; exact q9) (by decide) ?_
    refine lv_iconst (v := (-1)) hx hb gX11_personOf_4.2.2.2.2.2.2.2.2.1 (by decide) ?_
    refine toQ hQ0 ?_
    exact RP (v := (-1)) hC ((by first | rfl | (simp only [nI_clamp (n := je) (by omega), ifc_t hkbpersons, ifc_t hkbpapers, ifc_t hkbsayings, ifc_t hSP, ifc_t a1722, ifc_f c_17_1723, ifc_f c_17_1726, ifc_f c_17_1729, ifc_f c_17_1734, ifc_f c_17_1739]; done) | (simp only [nI_clamp (n := je) (by omega), ifc_t hkbpersons, ifc_t hkbpapers, ifc_t hkbsayings, ifc_t hSP, ifc_t a1722, ifc_f c_17_1723, ifc_f c_17_1726, ifc_f c_17_1729, ifc_f c_17_1734, ifc_f c_17_1739]; rfl))) rfl gX11_personOf_4.2.2.2.2.2.2.2.2.2
  · refine lv_if_ne (tgt := 16) hx hb gX11_personOf_0.2.2.2.2.2.1 (by decide) (fun c9 => absurd (by decide) c9) (fun _ => ?_)
    refine lv_iconst (v := (-1)) hx hb gX11_personOf_0.2.2.2.2.2.2.1 (by decide) ?_
    refine toQ hQ0 ?_
    exact RP (v := (-1)) hC ((by first | rfl | (simp only [ifc_t hkbpersons, ifc_t hkbpapers, ifc_t hkbsayings, ifc_t hSP, ifc_f a1722]; done) | (simp only [ifc_t hkbpersons, ifc_t hkbpapers, ifc_t hkbsayings, ifc_t hSP, ifc_f a1722]; rfl))) rfl gX11_personOf_0.2.2.2.2.2.2.2.1
def K_p_paper (l : Launch) (G : GG) (h0 : Nat) (x1 : Int32) (x2 : Int32) (x3 : Int32) (x4 : Int32) (bb : Nat) (kk : Nat) (ikp : Int32) (sg : Nat) (do9 : Nat) (ru9 : Nat) (ta9 : Nat) (tp9 : Nat) (ro9 : Nat) (ho9 : Nat) (de9 : Nat) (bpersons : Nat) (bpapers : Nat) (bstamps : Nat) (bversions : Nat) (blines : Nat) (bsteps : Nat) (bsayings : Nat) (bfindings : Nat) (bwarnings : Nat) (bquestions : Nat) (td : Int32) (vd : Int32) (vl : Int32) (gp : Int32) (bpapersc : Nat) (kbpapers : Nat) (fbpapers : Nat → Int32) (bpersonsc : Nat) (kbpersons : Nat) (fbpersons : Nat → Int32) : Prop := MI l G yX11_paper cX11_paper 6 (some .int) 4 0 0 [.ref h0, .int x1, .int x2, .int x3, .int x4] [(h0, oX11 bb kk ikp sg do9 ru9 ta9 tp9 ro9 ho9 de9), (bb, oX0 bpersons bpapers bstamps bversions blines bsteps bsayings bfindings bwarnings bquestions td vd vl gp), (bpapers, oX8 12 6 bpapersc (nI kbpapers)), (bpapersc, iA G 72 fbpapers), (bpersons, oX8 10 2 bpersonsc (nI kbpersons)), (bpersonsc, iA G 20 fbpersons)] (fun (r : Int32) (u : Nat × (Nat → Int32)) => (r = ifc (Hs x1 kbpersons) (ifc (HA kbpersons x2) (ifc (Wi x3 0 255) (ifc (Wi x4 0 3) (ifc (12 ≤ kbpapers) (-2) (nI kbpapers)) (-1)) (-1)) (-1)) (-1)) ∧ (u.1 ≤ 12 ∧ kbpapers ≤ u.1 ∧ nI u.1 = ifc (Hs x1 kbpersons) (ifc (HA kbpersons x2) (ifc (Wi x3 0 255) (ifc (Wi x4 0 3) (ifc (12 ≤ kbpapers) (nI kbpapers) (nI (kbpapers + 1))) (nI kbpapers)) (nI kbpapers)) (nI kbpapers)) (nI kbpapers) ∧ ∀ i : Nat, u.2 i = ifc (Hs x1 kbpersons) (ifc (HA kbpersons x2) (ifc (Wi x3 0 255) (ifc (Wi x4 0 3) (ifc (12 ≤ kbpapers) (fbpapers i) (rowu fbpapers (kbpapers * 6) [x1, x2, x3, x4, td, (-1)] i)) (fbpapers i)) (fbpapers i)) (fbpapers i)) (fbpapers i))) (fun u : Nat × (Nat → Int32) => [(h0, oX11 bb kk ikp sg do9 ru9 ta9 tp9 ro9 ho9 de9), (bb, oX0 bpersons bpapers bstamps bversions blines bsteps bsayings bfindings bwarnings bquestions td vd vl gp), (bpapers, oX8 12 6 bpapersc (nI u.1)), (bpapersc, iA G 72 u.2), (bpersons, oX8 10 2 bpersonsc (nI kbpersons)), (bpersonsc, iA G 20 fbpersons)])
set_option maxHeartbeats 4000000 in
set_option maxRecDepth 100000 in
theorem p_paper (l : Launch) (G : GG) (h0 : Nat) (x1 : Int32) (x2 : Int32) (x3 : Int32) (x4 : Int32) (bb : Nat) (kk : Nat) (ikp : Int32) (sg : Nat) (do9 : Nat) (ru9 : Nat) (ta9 : Nat) (tp9 : Nat) (ro9 : Nat) (ho9 : Nat) (de9 : Nat) (bpersons : Nat) (bpapers : Nat) (bstamps : Nat) (bversions : Nat) (blines : Nat) (bsteps : Nat) (bsayings : Nat) (bfindings : Nat) (bwarnings : Nat) (bquestions : Nat) (td : Int32) (vd : Int32) (vl : Int32) (gp : Int32) (bpapersc : Nat) (kbpapers : Nat) (fbpapers : Nat → Int32) (bpersonsc : Nat) (kbpersons : Nat) (fbpersons : Nat → Int32) (hkbpapers : kbpapers ≤ 12) (hkbpersons : kbpersons ≤ 10) : K_p_paper l G h0 x1 x2 x3 x4 bb kk ikp sg do9 ru9 ta9 tp9 ro9 ho9 de9 bpersons bpapers bstamps bversions blines bsteps bsayings bfindings bwarnings bquestions td vd vl gp bpapersc kbpapers fbpapers bpersonsc kbpersons fbpersons := by
  refine MI.start (by decide +kernel) (Nat.le_of_ble_eq_true rfl) ?_
  intro p e s m below meth c A ls hC hK hP hD hS hA hl
  refine absQ (fun Q0 hQ0 => ?_)
  have hl : lv_has ls 6 [(0, .ref h0), (1, .int x1), (2, .int x2), (3, .int x3), (4, .int x4)] := hl
  refine Kan8 hC (fun hx hb hr hml hB hown hlocks hnm => ?_)
  refine lv_aload_n hx hb gX11_paper_0.1 rfl (lv_at0 hl) ?_
  refine gf_X11_15 hC rfl hK hP 0 rfl rfl gX11_paper_0.2.1 ?_
  refine gf_X11_107 hC rfl hK hP 1 rfl rfl gX11_paper_0.2.2.1 ?_
  refine lv_iload_n hx hb gX11_paper_0.2.2.2.1 rfl (lv_at1 hl) ?_
  refine pV hC hK hl hP hD (c_T_has l G bpersons x1 10 2 bpersonsc kbpersons) si_X11_124 [4] sm_4 fm_4 nd_4 rfl rfl rfl rfl rfl (Nat.le_of_ble_eq_true rfl) rm_4_1_2 ⟨by first | exact Nat.le_of_ble_eq_true rfl | exact Nat.zero_le _, by first | exact Nat.le_of_ble_eq_true rfl | exact Nat.zero_le _⟩ gX11_paper_0.2.2.2.2.1 (Kors (Keqa fun a1745 => ?_) (Keqa fun a1745 => ?_))
  · refine lv_if_eq (tgt := 28) hx hb gX11_paper_0.2.2.2.2.2.1 (by decide) (fun c9 => absurd c9 (by decide)) (fun _ => ?_)
    refine lv_aload_n hx hb gX11_paper_0.2.2.2.2.2.2.1 rfl (lv_at0 hl) ?_
    refine gf_X11_15 hC rfl hK hP 0 rfl rfl gX11_paper_0.2.2.2.2.2.2.2.1 ?_
    refine gf_X11_107 hC rfl hK hP 1 rfl rfl gX11_paper_0.2.2.2.2.2.2.2.2.1 ?_
    refine lv_iload_n hx hb gX11_paper_0.2.2.2.2.2.2.2.2.2 rfl (lv_at2 hl) ?_
    refine pV hC hK hl hP hD (c_T_hasAll l G bpersons x2 10 2 bpersonsc kbpersons (by omega)) si_X11_141 [4] sm_4 fm_4 nd_4 rfl rfl rfl rfl rfl (Nat.le_of_ble_eq_true rfl) rm_4_1_2 ⟨by first | exact Nat.le_of_ble_eq_true rfl | exact Nat.zero_le _, by first | exact Nat.le_of_ble_eq_true rfl | exact Nat.zero_le _⟩ gX11_paper_1.1 (Kors (Keqa fun a1747 => ?_) (Keqa fun a1747 => ?_))
    · refine lv_if_ne (tgt := 30) hx hb gX11_paper_1.2.1 (by decide) (fun _ => ?_) (fun c9 => absurd c9 (by decide))
      refine lv_iload_n hx hb gX11_paper_1.2.2.2.2.1 rfl (lv_at3 hl) ?_
      refine lv_iconst (v := 0) hx hb gX11_paper_1.2.2.2.2.2.1 (by decide) ?_
      refine lv_sipush (v := 255) hx hb gX11_paper_1.2.2.2.2.2.2.1 (by decide) ?_
      refine pS hC hK hl (c_within l G x3 0 255) si_X11_83 rfl rfl (Nat.le_of_ble_eq_true rfl) rm_4_1_3 ⟨by first | exact Nat.le_of_ble_eq_true rfl | exact Nat.zero_le _, by first | exact Nat.le_of_ble_eq_true rfl | exact Nat.zero_le _⟩ gX11_paper_1.2.2.2.2.2.2.2.1 (Kors (Keqa fun a1749 => ?_) (Keqa fun a1749 => ?_))
      · refine lv_if_eq (tgt := 51) hx hb gX11_paper_1.2.2.2.2.2.2.2.2.1 (by decide) (fun c9 => absurd c9 (by decide)) (fun _ => ?_)
        refine lv_iload hx hb gX11_paper_1.2.2.2.2.2.2.2.2.2 (lv_at4 hl) ?_
        refine lv_iconst (v := 0) hx hb gX11_paper_2.1 (by decide) ?_
        refine lv_iconst (v := 3) hx hb gX11_paper_2.2.1 (by decide) ?_
        refine pS hC hK hl (c_within l G x4 0 3) si_X11_83 rfl rfl (Nat.le_of_ble_eq_true rfl) rm_4_1_3 ⟨by first | exact Nat.le_of_ble_eq_true rfl | exact Nat.zero_le _, by first | exact Nat.le_of_ble_eq_true rfl | exact Nat.zero_le _⟩ gX11_paper_2.2.2.1 (Kors (Keqa fun a1751 => ?_) (Keqa fun a1751 => ?_))
        · refine lv_if_ne (tgt := 53) hx hb gX11_paper_2.2.2.2.1 (by decide) (fun _ => ?_) (fun c9 => absurd c9 (by decide))
          refine lv_aload_n hx hb gX11_paper_2.2.2.2.2.2.2.1 rfl (lv_at0 hl) ?_
          refine gf_X11_15 hC rfl hK hP 0 rfl rfl gX11_paper_2.2.2.2.2.2.2.2.1 ?_
          refine gf_X11_144 hC rfl hK hP 1 rfl rfl gX11_paper_2.2.2.2.2.2.2.2.2.1 ?_
          refine pV hC hK hl hP hD (c_T_isFull l G bpapers 12 6 bpapersc kbpapers (hkbpapers) (by omega)) si_X11_111 [2] sm_2 fm_2 nd_2 rfl rfl rfl rfl rfl (Nat.le_of_ble_eq_true rfl) rm_4_1_1 ⟨by first | exact Nat.le_of_ble_eq_true rfl | exact Nat.zero_le _, by first | exact Nat.le_of_ble_eq_true rfl | exact Nat.zero_le _⟩ gX11_paper_2.2.2.2.2.2.2.2.2.2 (Kors (Keqa fun a1753 => ?_) (Keqa fun a1753 => ?_))
          · refine lv_if_eq (tgt := 69) hx hb gX11_paper_3.1 (by decide) (fun c9 => absurd c9 (by decide)) (fun _ => ?_)
            refine lv_bipush (v := (-2)) hx hb gX11_paper_3.2.1 (by decide) ?_
            refine toQ hQ0 ?_
            exact RI (v := (-2)) hC hP hD hS [0, 1, 2, 3, 4, 5] (kbpapers, fbpapers) rfl rfl (by decide) (⟨(by first | rfl | (simp only [ifc_t hkbpapers, ifc_t hkbpersons, ifc_t a1745, ifc_t a1747, ifc_t a1749, ifc_t a1751, ifc_t a1753]; done) | (simp only [ifc_t hkbpapers, ifc_t hkbpersons, ifc_t a1745, ifc_t a1747, ifc_t a1749, ifc_t a1751, ifc_t a1753]; rfl) | (dsimp only; simp only [ifc_t hkbpapers, ifc_t hkbpersons, ifc_t a1745, ifc_t a1747, ifc_t a1749, ifc_t a1751, ifc_t a1753]; done)), ⟨by omega, by omega, (by first | rfl | (simp only [ifc_t hkbpapers, ifc_t hkbpersons, ifc_t a1745, ifc_t a1747, ifc_t a1749, ifc_t a1751, ifc_t a1753]; done) | (simp only [ifc_t hkbpapers, ifc_t hkbpersons, ifc_t a1745, ifc_t a1747, ifc_t a1749, ifc_t a1751, ifc_t a1753]; rfl) | (dsimp only; simp only [ifc_t hkbpapers, ifc_t hkbpersons, ifc_t a1745, ifc_t a1747, ifc_t a1749, ifc_t a1751, ifc_t a1753]; done)), (fun i => by first | rfl | (simp only [ifc_t hkbpapers, ifc_t hkbpersons, ifc_t a1745, ifc_t a1747, ifc_t a1749, ifc_t a1751, ifc_t a1753]; done))⟩⟩) rfl gX11_paper_3.2.2.1
          · refine lv_if_eq (tgt := 69) hx hb gX11_paper_3.1 (by decide) (fun _ => ?_) (fun c9 => absurd (by decide) c9)
            refine lv_aload_n hx hb gX11_paper_3.2.2.2.1 rfl (lv_at0 hl) ?_
            refine gf_X11_15 hC rfl hK hP 0 rfl rfl gX11_paper_3.2.2.2.2.1 ?_
            refine gf_X11_144 hC rfl hK hP 1 rfl rfl gX11_paper_3.2.2.2.2.2.1 ?_
            refine iV (wr := [(h0, oX11 bb kk ikp sg do9 ru9 ta9 tp9 ro9 ho9 de9), (bb, oX0 bpersons bpapers bstamps bversions blines bsteps bsayings bfindings bwarnings bquestions td vd vl gp), (bpapersc, iA G 72 fbpapers), (bpersons, oX8 10 2 bpersonsc (nI kbpersons)), (bpersonsc, iA G 20 fbpersons)]) hC hK hl hP hD hS hA (c_T_append l G bpapers 12 6 bpapersc kbpapers (a1753) (by omega)) si_X11_117 [2] [0, 1, 3, 4, 5] sm_2 fm_2 nd_2 sm_0_1_3_4_5 nd_0_1_3_4_5 dj_2__0_1_3_4_5 rfl rfl rfl rfl rfl (Nat.le_of_ble_eq_true rfl) rm_4_1_1 ⟨Nat.le_of_ble_eq_true rfl, Nat.le_of_ble_eq_true rfl⟩ gX11_paper_3.2.2.2.2.2.2.1 (fun r1754 u1755 H locs hr1754 hP hD hS => ?_)
            refine Kpdr (ws := [(h0, oX11 bb kk ikp sg do9 ru9 ta9 tp9 ro9 ho9 de9), (bb, oX0 bpersons bpapers bstamps bversions blines bsteps bsayings bfindings bwarnings bquestions td vd vl gp), (bpapersc, iA G 72 fbpapers), (bpersons, oX8 10 2 bpersonsc (nI kbpersons)), (bpersonsc, iA G 20 fbpersons), (bpapers, oX8 12 6 bpapersc (nI (kbpapers + 1)))]) hP hD (fun hP hD => ?_)
            obtain rfl := hr1754
            refine lv_istore (lv' := [(5, .int (nI kbpapers)), (0, .ref h0), (1, .int x1), (2, .int x2), (3, .int x3), (4, .int x4)]) hx hb gX11_paper_3.2.2.2.2.2.2.2.1 hl (by decide) rfl (fun ls hl => ?_)
            refine lv_aload_n hx hb gX11_paper_3.2.2.2.2.2.2.2.2.1 rfl (lv_at1 hl) ?_
            refine gf_X11_15 hC rfl hK hP 0 rfl rfl gX11_paper_3.2.2.2.2.2.2.2.2.2 ?_
            refine gf_X11_144 hC rfl hK hP 1 rfl rfl gX11_paper_4.1 ?_
            refine lv_iload hx hb gX11_paper_4.2.1 (lv_at0 hl) ?_
            refine lv_iconst (v := 0) hx hb gX11_paper_4.2.2.1 (by decide) ?_
            refine lv_iload_n hx hb gX11_paper_4.2.2.2.1 rfl (lv_at2 hl) ?_
            refine vV (wr := [(h0, oX11 bb kk ikp sg do9 ru9 ta9 tp9 ro9 ho9 de9), (bb, oX0 bpersons bpapers bstamps bversions blines bsteps bsayings bfindings bwarnings bquestions td vd vl gp), (bpersons, oX8 10 2 bpersonsc (nI kbpersons)), (bpersonsc, iA G 20 fbpersons)]) hC hK hl hP hD hS hA (c_T_set l G bpapers (nI kbpapers) 0 x1 12 6 bpapersc (kbpapers + 1) fbpapers (by omega) (by omega) (by omega)) si_X11_120 [5, 2] [0, 1, 3, 4] sm_5_2 fm_5_2 nd_5_2 sm_0_1_3_4 nd_0_1_3_4 dj_5_2__0_1_3_4 rfl rfl rfl rfl rfl (Nat.le_of_ble_eq_true rfl) rm_4_1_4 ⟨Nat.le_of_ble_eq_true rfl, Nat.le_of_ble_eq_true rfl⟩ gX11_paper_4.2.2.2.2.1 (fun f11759 H locs hr1757 hP hD hS => ?_)
            try dsimp only at hr1757
            refine Kpdr (ws := [(h0, oX11 bb kk ikp sg do9 ru9 ta9 tp9 ro9 ho9 de9), (bb, oX0 bpersons bpapers bstamps bversions blines bsteps bsayings bfindings bwarnings bquestions td vd vl gp), (bpersons, oX8 10 2 bpersonsc (nI kbpersons)), (bpersonsc, iA G 20 fbpersons), (bpapers, oX8 12 6 bpapersc (nI (kbpapers + 1))), (bpapersc, iA G 72 f11759)]) hP hD (fun hP hD => ?_)
            have w1760 := hr1757
            refine lv_aload_n hx hb gX11_paper_4.2.2.2.2.2.1 rfl (lv_at1 hl) ?_
            refine gf_X11_15 hC rfl hK hP 0 rfl rfl gX11_paper_4.2.2.2.2.2.2.1 ?_
            refine gf_X11_144 hC rfl hK hP 1 rfl rfl gX11_paper_4.2.2.2.2.2.2.2.1 ?_
            refine lv_iload hx hb gX11_paper_4.2.2.2.2.2.2.2.2.1 (lv_at0 hl) ?_
            refine lv_iconst (v := 1) hx hb gX11_paper_4.2.2.2.2.2.2.2.2.2 (by decide) ?_
            refine lv_iload_n hx hb gX11_paper_5.1 rfl (lv_at3 hl) ?_
            refine vV (wr := [(h0, oX11 bb kk ikp sg do9 ru9 ta9 tp9 ro9 ho9 de9), (bb, oX0 bpersons bpapers bstamps bversions blines bsteps bsayings bfindings bwarnings bquestions td vd vl gp), (bpersons, oX8 10 2 bpersonsc (nI kbpersons)), (bpersonsc, iA G 20 fbpersons)]) hC hK hl hP hD hS hA (c_T_set l G bpapers (nI kbpapers) 1 x2 12 6 bpapersc (kbpapers + 1) f11759 (by omega) (by omega) (by omega)) si_X11_120 [4, 5] [0, 1, 2, 3] sm_4_5 fm_4_5 nd_4_5 sm_0_1_2_3 nd_0_1_2_3 dj_4_5__0_1_2_3 rfl rfl rfl rfl rfl (Nat.le_of_ble_eq_true rfl) rm_4_1_4 ⟨Nat.le_of_ble_eq_true rfl, Nat.le_of_ble_eq_true rfl⟩ gX11_paper_5.2.1 (fun f11763 H locs hr1761 hP hD hS => ?_)
            try dsimp only at hr1761
            refine Kpdr (ws := [(h0, oX11 bb kk ikp sg do9 ru9 ta9 tp9 ro9 ho9 de9), (bb, oX0 bpersons bpapers bstamps bversions blines bsteps bsayings bfindings bwarnings bquestions td vd vl gp), (bpersons, oX8 10 2 bpersonsc (nI kbpersons)), (bpersonsc, iA G 20 fbpersons), (bpapers, oX8 12 6 bpapersc (nI (kbpapers + 1))), (bpapersc, iA G 72 f11763)]) hP hD (fun hP hD => ?_)
            have w1764 := hr1761
            refine lv_aload_n hx hb gX11_paper_5.2.2.1 rfl (lv_at1 hl) ?_
            refine gf_X11_15 hC rfl hK hP 0 rfl rfl gX11_paper_5.2.2.2.1 ?_
            refine gf_X11_144 hC rfl hK hP 1 rfl rfl gX11_paper_5.2.2.2.2.1 ?_
            refine lv_iload hx hb gX11_paper_5.2.2.2.2.2.1 (lv_at0 hl) ?_
            refine lv_iconst (v := 2) hx hb gX11_paper_5.2.2.2.2.2.2.1 (by decide) ?_
            refine lv_iload_n hx hb gX11_paper_5.2.2.2.2.2.2.2.1 rfl (lv_at4 hl) ?_
            refine vV (wr := [(h0, oX11 bb kk ikp sg do9 ru9 ta9 tp9 ro9 ho9 de9), (bb, oX0 bpersons bpapers bstamps bversions blines bsteps bsayings bfindings bwarnings bquestions td vd vl gp), (bpersons, oX8 10 2 bpersonsc (nI kbpersons)), (bpersonsc, iA G 20 fbpersons)]) hC hK hl hP hD hS hA (c_T_set l G bpapers (nI kbpapers) 2 x3 12 6 bpapersc (kbpapers + 1) f11763 (by omega) (by omega) (by omega)) si_X11_120 [4, 5] [0, 1, 2, 3] sm_4_5 fm_4_5 nd_4_5 sm_0_1_2_3 nd_0_1_2_3 dj_4_5__0_1_2_3 rfl rfl rfl rfl rfl (Nat.le_of_ble_eq_true rfl) rm_4_1_4 ⟨Nat.le_of_ble_eq_true rfl, Nat.le_of_ble_eq_true rfl⟩ gX11_paper_5.2.2.2.2.2.2.2.2.1 (fun f11767 H locs hr1765 hP hD hS => ?_)
            try dsimp only at hr1765
            refine Kpdr (ws := [(h0, oX11 bb kk ikp sg do9 ru9 ta9 tp9 ro9 ho9 de9), (bb, oX0 bpersons bpapers bstamps bversions blines bsteps bsayings bfindings bwarnings bquestions td vd vl gp), (bpersons, oX8 10 2 bpersonsc (nI kbpersons)), (bpersonsc, iA G 20 fbpersons), (bpapers, oX8 12 6 bpapersc (nI (kbpapers + 1))), (bpapersc, iA G 72 f11767)]) hP hD (fun hP hD => ?_)
            have w1768 := hr1765
            refine lv_aload_n hx hb gX11_paper_5.2.2.2.2.2.2.2.2.2 rfl (lv_at1 hl) ?_
            refine gf_X11_15 hC rfl hK hP 0 rfl rfl gX11_paper_6.1 ?_
            refine gf_X11_144 hC rfl hK hP 1 rfl rfl gX11_paper_6.2.1 ?_
            refine lv_iload hx hb gX11_paper_6.2.2.1 (lv_at0 hl) ?_
            refine lv_iconst (v := 3) hx hb gX11_paper_6.2.2.2.1 (by decide) ?_
            refine lv_iload hx hb gX11_paper_6.2.2.2.2.1 (lv_at5 hl) ?_
            refine vV (wr := [(h0, oX11 bb kk ikp sg do9 ru9 ta9 tp9 ro9 ho9 de9), (bb, oX0 bpersons bpapers bstamps bversions blines bsteps bsayings bfindings bwarnings bquestions td vd vl gp), (bpersons, oX8 10 2 bpersonsc (nI kbpersons)), (bpersonsc, iA G 20 fbpersons)]) hC hK hl hP hD hS hA (c_T_set l G bpapers (nI kbpapers) 3 x4 12 6 bpapersc (kbpapers + 1) f11767 (by omega) (by omega) (by omega)) si_X11_120 [4, 5] [0, 1, 2, 3] sm_4_5 fm_4_5 nd_4_5 sm_0_1_2_3 nd_0_1_2_3 dj_4_5__0_1_2_3 rfl rfl rfl rfl rfl (Nat.le_of_ble_eq_true rfl) rm_4_1_4 ⟨Nat.le_of_ble_eq_true rfl, Nat.le_of_ble_eq_true rfl⟩ gX11_paper_6.2.2.2.2.2.1 (fun f11771 H locs hr1769 hP hD hS => ?_)
            try dsimp only at hr1769
            refine Kpdr (ws := [(h0, oX11 bb kk ikp sg do9 ru9 ta9 tp9 ro9 ho9 de9), (bb, oX0 bpersons bpapers bstamps bversions blines bsteps bsayings bfindings bwarnings bquestions td vd vl gp), (bpersons, oX8 10 2 bpersonsc (nI kbpersons)), (bpersonsc, iA G 20 fbpersons), (bpapers, oX8 12 6 bpapersc (nI (kbpapers + 1))), (bpapersc, iA G 72 f11771)]) hP hD (fun hP hD => ?_)
            have w1772 := hr1769
            refine lv_aload_n hx hb gX11_paper_6.2.2.2.2.2.2.1 rfl (lv_at1 hl) ?_
            refine gf_X11_15 hC rfl hK hP 0 rfl rfl gX11_paper_6.2.2.2.2.2.2.2.1 ?_
            refine gf_X11_144 hC rfl hK hP 1 rfl rfl gX11_paper_6.2.2.2.2.2.2.2.2.1 ?_
            refine lv_iload hx hb gX11_paper_6.2.2.2.2.2.2.2.2.2 (lv_at0 hl) ?_
            refine lv_iconst (v := 4) hx hb gX11_paper_7.1 (by decide) ?_
            refine lv_aload_n hx hb gX11_paper_7.2.1 rfl (lv_at1 hl) ?_
            refine gf_X11_15 hC rfl hK hP 0 rfl rfl gX11_paper_7.2.2.1 ?_
            refine gf_X11_87 hC rfl hK hP 1 rfl rfl gX11_paper_7.2.2.2.1 ?_
            refine vV (wr := [(h0, oX11 bb kk ikp sg do9 ru9 ta9 tp9 ro9 ho9 de9), (bb, oX0 bpersons bpapers bstamps bversions blines bsteps bsayings bfindings bwarnings bquestions td vd vl gp), (bpersons, oX8 10 2 bpersonsc (nI kbpersons)), (bpersonsc, iA G 20 fbpersons)]) hC hK hl hP hD hS hA (c_T_set l G bpapers (nI kbpapers) 4 td 12 6 bpapersc (kbpapers + 1) f11771 (by omega) (by omega) (by omega)) si_X11_120 [4, 5] [0, 1, 2, 3] sm_4_5 fm_4_5 nd_4_5 sm_0_1_2_3 nd_0_1_2_3 dj_4_5__0_1_2_3 rfl rfl rfl rfl rfl (Nat.le_of_ble_eq_true rfl) rm_4_1_4 ⟨Nat.le_of_ble_eq_true rfl, Nat.le_of_ble_eq_true rfl⟩ gX11_paper_7.2.2.2.2.1 (fun f11775 H locs hr1773 hP hD hS => ?_)
            try dsimp only at hr1773
            refine Kpdr (ws := [(h0, oX11 bb kk ikp sg do9 ru9 ta9 tp9 ro9 ho9 de9), (bb, oX0 bpersons bpapers bstamps bversions blines bsteps bsayings bfindings bwarnings bquestions td vd vl gp), (bpersons, oX8 10 2 bpersonsc (nI kbpersons)), (bpersonsc, iA G 20 fbpersons), (bpapers, oX8 12 6 bpapersc (nI (kbpapers + 1))), (bpapersc, iA G 72 f11775)]) hP hD (fun hP hD => ?_)
            have w1776 := hr1773
            refine lv_aload_n hx hb gX11_paper_7.2.2.2.2.2.1 rfl (lv_at1 hl) ?_
            refine gf_X11_15 hC rfl hK hP 0 rfl rfl gX11_paper_7.2.2.2.2.2.2.1 ?_
            refine gf_X11_144 hC rfl hK hP 1 rfl rfl gX11_paper_7.2.2.2.2.2.2.2.1 ?_
            refine lv_iload hx hb gX11_paper_7.2.2.2.2.2.2.2.2.1 (lv_at0 hl) ?_
            refine lv_iconst (v := 5) hx hb gX11_paper_7.2.2.2.2.2.2.2.2.2 (by decide) ?_
            refine lv_iconst (v := (-1)) hx hb gX11_paper_8.1 (by decide) ?_
            refine vV (wr := [(h0, oX11 bb kk ikp sg do9 ru9 ta9 tp9 ro9 ho9 de9), (bb, oX0 bpersons bpapers bstamps bversions blines bsteps bsayings bfindings bwarnings bquestions td vd vl gp), (bpersons, oX8 10 2 bpersonsc (nI kbpersons)), (bpersonsc, iA G 20 fbpersons)]) hC hK hl hP hD hS hA (c_T_set l G bpapers (nI kbpapers) 5 (-1) 12 6 bpapersc (kbpapers + 1) f11775 (by omega) (by omega) (by omega)) si_X11_120 [4, 5] [0, 1, 2, 3] sm_4_5 fm_4_5 nd_4_5 sm_0_1_2_3 nd_0_1_2_3 dj_4_5__0_1_2_3 rfl rfl rfl rfl rfl (Nat.le_of_ble_eq_true rfl) rm_4_1_4 ⟨Nat.le_of_ble_eq_true rfl, Nat.le_of_ble_eq_true rfl⟩ gX11_paper_8.2.1 (fun f11779 H locs hr1777 hP hD hS => ?_)
            try dsimp only at hr1777
            refine Kpdr (ws := [(h0, oX11 bb kk ikp sg do9 ru9 ta9 tp9 ro9 ho9 de9), (bb, oX0 bpersons bpapers bstamps bversions blines bsteps bsayings bfindings bwarnings bquestions td vd vl gp), (bpersons, oX8 10 2 bpersonsc (nI kbpersons)), (bpersonsc, iA G 20 fbpersons), (bpapers, oX8 12 6 bpapersc (nI (kbpapers + 1))), (bpapersc, iA G 72 f11779)]) hP hD (fun hP hD => ?_)
            have w1780 := hr1777
            refine lv_iload hx hb gX11_paper_8.2.2.1 (lv_at0 hl) ?_
            have tt1781 : f11759 = upd fbpapers (kbpapers * 6 + 0) x1 := w1760.symm.trans (ts1 (by decide) (by decide) (by omega) rfl)
            have tt1782 : f11763 = upd f11759 (kbpapers * 6 + 1) x2 := w1764.symm.trans (ts1 (by decide) (by decide) (by omega) rfl)
            have tt1783 : f11767 = upd f11763 (kbpapers * 6 + 2) x3 := w1768.symm.trans (ts1 (by decide) (by decide) (by omega) rfl)
            have tt1784 : f11771 = upd f11767 (kbpapers * 6 + 3) x4 := w1772.symm.trans (ts1 (by decide) (by decide) (by omega) rfl)
            have tt1785 : f11775 = upd f11771 (kbpapers * 6 + 4) td := w1776.symm.trans (ts1 (by decide) (by decide) (by omega) rfl)
            have tt1786 : f11779 = upd f11775 (kbpapers * 6 + 5) (-1) := w1780.symm.trans (ts1 (by decide) (by decide) (by omega) rfl)
            have tu1787 : f11779 = rowu fbpapers (kbpapers * 6) [x1, x2, x3, x4, td, (-1)] := by rw [tt1786, tt1785, tt1784, tt1783, tt1782, tt1781]; rfl
            refine toQ hQ0 ?_
            exact RI (v := nI kbpapers) hC hP hD hS [0, 1, 4, 5, 2, 3] ((kbpapers + 1), f11779) rfl rfl (by decide) (⟨(by first | rfl | (simp only [ifc_t hkbpapers, ifc_t hkbpersons, ifc_t a1745, ifc_t a1747, ifc_t a1749, ifc_t a1751, ifc_t a1753, ifc_f (Nat.not_le.mpr a1753)]; done) | (simp only [ifc_t hkbpapers, ifc_t hkbpersons, ifc_t a1745, ifc_t a1747, ifc_t a1749, ifc_t a1751, ifc_t a1753, ifc_f (Nat.not_le.mpr a1753)]; rfl) | (dsimp only; simp only [ifc_t hkbpapers, ifc_t hkbpersons, ifc_t a1745, ifc_t a1747, ifc_t a1749, ifc_t a1751, ifc_t a1753, ifc_f (Nat.not_le.mpr a1753)]; done)), ⟨by omega, by omega, (by first | rfl | (simp only [ifc_t hkbpapers, ifc_t hkbpersons, ifc_t a1745, ifc_t a1747, ifc_t a1749, ifc_t a1751, ifc_t a1753, ifc_f (Nat.not_le.mpr a1753)]; done) | (simp only [ifc_t hkbpapers, ifc_t hkbpersons, ifc_t a1745, ifc_t a1747, ifc_t a1749, ifc_t a1751, ifc_t a1753, ifc_f (Nat.not_le.mpr a1753)]; rfl) | (dsimp only; simp only [ifc_t hkbpapers, ifc_t hkbpersons, ifc_t a1745, ifc_t a1747, ifc_t a1749, ifc_t a1751, ifc_t a1753, ifc_f (Nat.not_le.mpr a1753)]; done)), (fun i => by simp only [ifc_t hkbpapers, ifc_t hkbpersons, ifc_t a1745, ifc_t a1747, ifc_t a1749, ifc_t a1751, ifc_t a1753, ifc_f (Nat.not_le.mpr a1753)]; rw [tu1787])⟩⟩) rfl gX11_paper_8.2.2.2
        · refine lv_if_ne (tgt := 53) hx hb gX11_paper_2.2.2.2.1 (by decide) (fun c9 => absurd (by decide) c9) (fun _ => ?_)
          refine lv_iconst (v := (-1)) hx hb gX11_paper_2.2.2.2.2.1 (by decide) ?_
          refine toQ hQ0 ?_
          exact RI (v := (-1)) hC hP hD hS [0, 1, 2, 3, 4, 5] (kbpapers, fbpapers) rfl rfl (by decide) (⟨(by first | rfl | (simp only [ifc_t hkbpapers, ifc_t hkbpersons, ifc_t a1745, ifc_t a1747, ifc_t a1749, ifc_f a1751]; done) | (simp only [ifc_t hkbpapers, ifc_t hkbpersons, ifc_t a1745, ifc_t a1747, ifc_t a1749, ifc_f a1751]; rfl) | (dsimp only; simp only [ifc_t hkbpapers, ifc_t hkbpersons, ifc_t a1745, ifc_t a1747, ifc_t a1749, ifc_f a1751]; done)), ⟨by omega, by omega, (by first | rfl | (simp only [ifc_t hkbpapers, ifc_t hkbpersons, ifc_t a1745, ifc_t a1747, ifc_t a1749, ifc_f a1751]; done) | (simp only [ifc_t hkbpapers, ifc_t hkbpersons, ifc_t a1745, ifc_t a1747, ifc_t a1749, ifc_f a1751]; rfl) | (dsimp only; simp only [ifc_t hkbpapers, ifc_t hkbpersons, ifc_t a1745, ifc_t a1747, ifc_t a1749, ifc_f a1751]; done)), (fun i => by first | rfl | (simp only [ifc_t hkbpapers, ifc_t hkbpersons, ifc_t a1745, ifc_t a1747, ifc_t a1749, ifc_f a1751]; done))⟩⟩) rfl gX11_paper_2.2.2.2.2.2.1
      · refine lv_if_eq (tgt := 51) hx hb gX11_paper_1.2.2.2.2.2.2.2.2.1 (by decide) (fun _ => ?_) (fun c9 => absurd (by decide) c9)
        refine lv_iconst (v := (-1)) hx hb gX11_paper_2.2.2.2.2.1 (by decide) ?_
        refine toQ hQ0 ?_
        exact RI (v := (-1)) hC hP hD hS [0, 1, 2, 3, 4, 5] (kbpapers, fbpapers) rfl rfl (by decide) (⟨(by first | rfl | (simp only [ifc_t hkbpapers, ifc_t hkbpersons, ifc_t a1745, ifc_t a1747, ifc_f a1749]; done) | (simp only [ifc_t hkbpapers, ifc_t hkbpersons, ifc_t a1745, ifc_t a1747, ifc_f a1749]; rfl) | (dsimp only; simp only [ifc_t hkbpapers, ifc_t hkbpersons, ifc_t a1745, ifc_t a1747, ifc_f a1749]; done)), ⟨by omega, by omega, (by first | rfl | (simp only [ifc_t hkbpapers, ifc_t hkbpersons, ifc_t a1745, ifc_t a1747, ifc_f a1749]; done) | (simp only [ifc_t hkbpapers, ifc_t hkbpersons, ifc_t a1745, ifc_t a1747, ifc_f a1749]; rfl) | (dsimp only; simp only [ifc_t hkbpapers, ifc_t hkbpersons, ifc_t a1745, ifc_t a1747, ifc_f a1749]; done)), (fun i => by first | rfl | (simp only [ifc_t hkbpapers, ifc_t hkbpersons, ifc_t a1745, ifc_t a1747, ifc_f a1749]; done))⟩⟩) rfl gX11_paper_2.2.2.2.2.2.1
    · refine lv_if_ne (tgt := 30) hx hb gX11_paper_1.2.1 (by decide) (fun c9 => absurd (by decide) c9) (fun _ => ?_)
      refine lv_iconst (v := (-1)) hx hb gX11_paper_1.2.2.1 (by decide) ?_
      refine toQ hQ0 ?_
      exact RI (v := (-1)) hC hP hD hS [0, 1, 2, 3, 4, 5] (kbpapers, fbpapers) rfl rfl (by decide) (⟨(by first | rfl | (simp only [ifc_t hkbpapers, ifc_t hkbpersons, ifc_t a1745, ifc_f a1747]; done) | (simp only [ifc_t hkbpapers, ifc_t hkbpersons, ifc_t a1745, ifc_f a1747]; rfl) | (dsimp only; simp only [ifc_t hkbpapers, ifc_t hkbpersons, ifc_t a1745, ifc_f a1747]; done)), ⟨by omega, by omega, (by first | rfl | (simp only [ifc_t hkbpapers, ifc_t hkbpersons, ifc_t a1745, ifc_f a1747]; done) | (simp only [ifc_t hkbpapers, ifc_t hkbpersons, ifc_t a1745, ifc_f a1747]; rfl) | (dsimp only; simp only [ifc_t hkbpapers, ifc_t hkbpersons, ifc_t a1745, ifc_f a1747]; done)), (fun i => by first | rfl | (simp only [ifc_t hkbpapers, ifc_t hkbpersons, ifc_t a1745, ifc_f a1747]; done))⟩⟩) rfl gX11_paper_1.2.2.2.1
  · refine lv_if_eq (tgt := 28) hx hb gX11_paper_0.2.2.2.2.2.1 (by decide) (fun _ => ?_) (fun c9 => absurd (by decide) c9)
    refine lv_iconst (v := (-1)) hx hb gX11_paper_1.2.2.1 (by decide) ?_
    refine toQ hQ0 ?_
    exact RI (v := (-1)) hC hP hD hS [0, 1, 2, 3, 4, 5] (kbpapers, fbpapers) rfl rfl (by decide) (⟨(by first | rfl | (simp only [ifc_t hkbpapers, ifc_t hkbpersons, ifc_f a1745]; done) | (simp only [ifc_t hkbpapers, ifc_t hkbpersons, ifc_f a1745]; rfl) | (dsimp only; simp only [ifc_t hkbpapers, ifc_t hkbpersons, ifc_f a1745]; done)), ⟨by omega, by omega, (by first | rfl | (simp only [ifc_t hkbpapers, ifc_t hkbpersons, ifc_f a1745]; done) | (simp only [ifc_t hkbpapers, ifc_t hkbpersons, ifc_f a1745]; rfl) | (dsimp only; simp only [ifc_t hkbpapers, ifc_t hkbpersons, ifc_f a1745]; done)), (fun i => by first | rfl | (simp only [ifc_t hkbpapers, ifc_t hkbpersons, ifc_f a1745]; done))⟩⟩) rfl gX11_paper_1.2.2.2.1
def K_p_lose (l : Launch) (G : GG) (h0 : Nat) (x1 : Int32) (bb : Nat) (kk : Nat) (ikp : Int32) (sg : Nat) (do9 : Nat) (ru9 : Nat) (ta9 : Nat) (tp9 : Nat) (ro9 : Nat) (ho9 : Nat) (de9 : Nat) (bpersons : Nat) (bpapers : Nat) (bstamps : Nat) (bversions : Nat) (blines : Nat) (bsteps : Nat) (bsayings : Nat) (bfindings : Nat) (bwarnings : Nat) (bquestions : Nat) (td : Int32) (vd : Int32) (vl : Int32) (gp : Int32) (bpapersc : Nat) (kbpapers : Nat) (fbpapers : Nat → Int32) : Prop := MI l G yX11_lose cX11_lose 2 (some .int) 4 0 0 [.ref h0, .int x1] [(h0, oX11 bb kk ikp sg do9 ru9 ta9 tp9 ro9 ho9 de9), (bb, oX0 bpersons bpapers bstamps bversions blines bsteps bsayings bfindings bwarnings bquestions td vd vl gp), (bpapers, oX8 12 6 bpapersc (nI kbpapers)), (bpapersc, iA G 72 fbpapers)] (fun (r : Int32) (u : (Nat → Int32)) => (r = ifc (Hs x1 kbpapers) (ifc (0 ≤ fbpapers (x1.toNatClampNeg * 6 + 5)) (-4) 1) (-1)) ∧ (∀ i : Nat, u i = ifc (Hs x1 kbpapers) (ifc (0 ≤ fbpapers (x1.toNatClampNeg * 6 + 5)) (fbpapers i) (upd fbpapers (x1.toNatClampNeg * 6 + 5) td i)) (fbpapers i))) (fun u : (Nat → Int32) => [(h0, oX11 bb kk ikp sg do9 ru9 ta9 tp9 ro9 ho9 de9), (bb, oX0 bpersons bpapers bstamps bversions blines bsteps bsayings bfindings bwarnings bquestions td vd vl gp), (bpapers, oX8 12 6 bpapersc (nI kbpapers)), (bpapersc, iA G 72 u)])
set_option maxHeartbeats 4000000 in
set_option maxRecDepth 100000 in
theorem p_lose (l : Launch) (G : GG) (h0 : Nat) (x1 : Int32) (bb : Nat) (kk : Nat) (ikp : Int32) (sg : Nat) (do9 : Nat) (ru9 : Nat) (ta9 : Nat) (tp9 : Nat) (ro9 : Nat) (ho9 : Nat) (de9 : Nat) (bpersons : Nat) (bpapers : Nat) (bstamps : Nat) (bversions : Nat) (blines : Nat) (bsteps : Nat) (bsayings : Nat) (bfindings : Nat) (bwarnings : Nat) (bquestions : Nat) (td : Int32) (vd : Int32) (vl : Int32) (gp : Int32) (bpapersc : Nat) (kbpapers : Nat) (fbpapers : Nat → Int32) (hkbpapers : kbpapers ≤ 12) : K_p_lose l G h0 x1 bb kk ikp sg do9 ru9 ta9 tp9 ro9 ho9 de9 bpersons bpapers bstamps bversions blines bsteps bsayings bfindings bwarnings bquestions td vd vl gp bpapersc kbpapers fbpapers := by
  refine MI.start (by decide +kernel) (Nat.le_of_ble_eq_true rfl) ?_
  intro p e s m below meth c A ls hC hK hP hD hS hA hl
  refine absQ (fun Q0 hQ0 => ?_)
  have hl : lv_has ls 2 [(0, .ref h0), (1, .int x1)] := hl
  refine Kan8 hC (fun hx hb hr hml hB hown hlocks hnm => ?_)
  refine lv_aload_n hx hb gX11_lose_0.1 rfl (lv_at0 hl) ?_
  refine gf_X11_15 hC rfl hK hP 0 rfl rfl gX11_lose_0.2.1 ?_
  refine gf_X11_144 hC rfl hK hP 1 rfl rfl gX11_lose_0.2.2.1 ?_
  refine lv_iload_n hx hb gX11_lose_0.2.2.2.1 rfl (lv_at1 hl) ?_
  refine pV hC hK hl hP hD (c_T_has l G bpapers x1 12 6 bpapersc kbpapers) si_X11_124 [2] sm_2 fm_2 nd_2 rfl rfl rfl rfl rfl (Nat.le_of_ble_eq_true rfl) rm_4_1_2 ⟨by first | exact Nat.le_of_ble_eq_true rfl | exact Nat.zero_le _, by first | exact Nat.le_of_ble_eq_true rfl | exact Nat.zero_le _⟩ gX11_lose_0.2.2.2.2.1 (Kors (Keqa fun a1789 => ?_) (Keqa fun a1789 => ?_))
  · refine lv_if_ne (tgt := 16) hx hb gX11_lose_0.2.2.2.2.2.1 (by decide) (fun _ => ?_) (fun c9 => absurd c9 (by decide))
    obtain ⟨jp, hjp, rfl⟩ := Hs_nat (by omega) a1789
    refine lv_aload_n hx hb gX11_lose_0.2.2.2.2.2.2.2.2.1 rfl (lv_at0 hl) ?_
    refine gf_X11_15 hC rfl hK hP 0 rfl rfl gX11_lose_0.2.2.2.2.2.2.2.2.2 ?_
    refine gf_X11_144 hC rfl hK hP 1 rfl rfl gX11_lose_1.1 ?_
    refine lv_iload_n hx hb gX11_lose_1.2.1 rfl (lv_at1 hl) ?_
    refine lv_iconst (v := 5) hx hb gX11_lose_1.2.2.1 (by decide) ?_
    refine pV hC hK hl hP hD (c_T_at l G bpapers (nI jp) 5 12 6 bpapersc kbpapers fbpapers (hkbpapers) (by omega) (by omega)) si_X11_128 [2, 3] sm_2_3 fm_2_3 nd_2_3 rfl rfl rfl rfl rfl (Nat.le_of_ble_eq_true rfl) rm_4_1_3 ⟨by first | exact Nat.le_of_ble_eq_true rfl | exact Nat.zero_le _, by first | exact Nat.le_of_ble_eq_true rfl | exact Nat.zero_le _⟩ gX11_lose_1.2.2.2.1 (fun r1790 hr1790 => ?_)
    have ha9 : r1790 = fbpapers (jp * 6 + 5) := hr1790.trans (tatr (by omega) (by omega) (by decide) (by decide) rfl)
    refine lv_if_lt (tgt := 34) hx hb gX11_lose_1.2.2.2.2.1 (by decide) (fun c_28_1792 => ?_) (fun c_28_1792 => ?_)
    · refine lv_aload_n hx hb gX11_lose_1.2.2.2.2.2.2.2.1 rfl (lv_at0 hl) ?_
      refine gf_X11_15 hC rfl hK hP 0 rfl rfl gX11_lose_1.2.2.2.2.2.2.2.2.1 ?_
      refine gf_X11_144 hC rfl hK hP 1 rfl rfl gX11_lose_1.2.2.2.2.2.2.2.2.2 ?_
      refine lv_iload_n hx hb gX11_lose_2.1 rfl (lv_at1 hl) ?_
      refine lv_iconst (v := 5) hx hb gX11_lose_2.2.1 (by decide) ?_
      refine lv_aload_n hx hb gX11_lose_2.2.2.1 rfl (lv_at0 hl) ?_
      refine gf_X11_15 hC rfl hK hP 0 rfl rfl gX11_lose_2.2.2.2.1 ?_
      refine gf_X11_87 hC rfl hK hP 1 rfl rfl gX11_lose_2.2.2.2.2.1 ?_
      refine vV (wr := [(h0, oX11 bb kk ikp sg do9 ru9 ta9 tp9 ro9 ho9 de9), (bb, oX0 bpersons bpapers bstamps bversions blines bsteps bsayings bfindings bwarnings bquestions td vd vl gp)]) hC hK hl hP hD hS hA (c_T_set l G bpapers (nI jp) 5 td 12 6 bpapersc kbpapers fbpapers (hkbpapers) (by omega) (by omega)) si_X11_120 [2, 3] [0, 1] sm_2_3 fm_2_3 nd_2_3 sm_0_1 nd_0_1 dj_2_3__0_1 rfl rfl rfl rfl rfl (Nat.le_of_ble_eq_true rfl) rm_4_1_4 ⟨Nat.le_of_ble_eq_true rfl, Nat.le_of_ble_eq_true rfl⟩ gX11_lose_2.2.2.2.2.2.1 (fun f11795 H locs hr1793 hP hD hS => ?_)
      try dsimp only at hr1793
      refine Kpdr (ws := [(h0, oX11 bb kk ikp sg do9 ru9 ta9 tp9 ro9 ho9 de9), (bb, oX0 bpersons bpapers bstamps bversions blines bsteps bsayings bfindings bwarnings bquestions td vd vl gp), (bpapers, oX8 12 6 bpapersc (nI kbpapers)), (bpapersc, iA G 72 f11795)]) hP hD (fun hP hD => ?_)
      have w1796 := hr1793
      refine lv_iconst (v := 1) hx hb gX11_lose_2.2.2.2.2.2.2.1 (by decide) ?_
      refine toQ hQ0 ?_
      exact RI (v := 1) hC hP hD hS [0, 1, 2, 3] f11795 rfl rfl (by decide) (⟨(by first | rfl | (simp only [nI_clamp (n := jp) (by omega), ifc_t hkbpapers, ifc_t a1789, ifc_f (q := 0 ≤ fbpapers (jp * 6 + 5)) (Int32.not_le.mpr (ha9 ▸ c_28_1792))]; done) | (simp only [nI_clamp (n := jp) (by omega), ifc_t hkbpapers, ifc_t a1789, ifc_f (q := 0 ≤ fbpapers (jp * 6 + 5)) (Int32.not_le.mpr (ha9 ▸ c_28_1792))]; rfl)), (fun i => by simp only [nI_clamp (n := jp) (by omega), ifc_t hkbpapers, ifc_t a1789, ifc_f (q := 0 ≤ fbpapers (jp * 6 + 5)) (Int32.not_le.mpr (ha9 ▸ c_28_1792))]; exact congrFun (w1796.symm.trans (tsj (by omega) (by omega) (by decide) (by decide) rfl)) i)⟩) rfl gX11_lose_2.2.2.2.2.2.2.2
    · refine lv_bipush (v := (-4)) hx hb gX11_lose_1.2.2.2.2.2.1 (by decide) ?_
      refine toQ hQ0 ?_
      exact RI (v := (-4)) hC hP hD hS [0, 1, 2, 3] fbpapers rfl rfl (by decide) (⟨(by first | rfl | (simp only [nI_clamp (n := jp) (by omega), ifc_t hkbpapers, ifc_t a1789, ifc_t (q := 0 ≤ fbpapers (jp * 6 + 5)) (Int32.not_lt.mp (fun h9 => c_28_1792 (ha9.symm ▸ h9)))]; done) | (simp only [nI_clamp (n := jp) (by omega), ifc_t hkbpapers, ifc_t a1789, ifc_t (q := 0 ≤ fbpapers (jp * 6 + 5)) (Int32.not_lt.mp (fun h9 => c_28_1792 (ha9.symm ▸ h9)))]; rfl)), (fun i => by first | rfl | (simp only [nI_clamp (n := jp) (by omega), ifc_t hkbpapers, ifc_t a1789, ifc_t (q := 0 ≤ fbpapers (jp * 6 + 5)) (Int32.not_lt.mp (fun h9 => c_28_1792 (ha9.symm ▸ h9)))]; done))⟩) rfl gX11_lose_1.2.2.2.2.2.2.1
  · refine lv_if_ne (tgt := 16) hx hb gX11_lose_0.2.2.2.2.2.1 (by decide) (fun c9 => absurd (by decide) c9) (fun _ => ?_)
    refine lv_iconst (v := (-1)) hx hb gX11_lose_0.2.2.2.2.2.2.1 (by decide) ?_
    refine toQ hQ0 ?_
    exact RI (v := (-1)) hC hP hD hS [0, 1, 2, 3] fbpapers rfl rfl (by decide) (⟨(by first | rfl | (simp only [ifc_t hkbpapers, ifc_f a1789]; done) | (simp only [ifc_t hkbpapers, ifc_f a1789]; rfl)), (fun i => by first | rfl | (simp only [ifc_t hkbpapers, ifc_f a1789]; done))⟩) rfl gX11_lose_0.2.2.2.2.2.2.2.1
def K_p_paperOf (l : Launch) (G : GG) (h0 : Nat) (x1 : Int32) (x2 : Int32) (bb : Nat) (kk : Nat) (ikp : Int32) (sg : Nat) (do9 : Nat) (ru9 : Nat) (ta9 : Nat) (tp9 : Nat) (ro9 : Nat) (ho9 : Nat) (de9 : Nat) (bpersons : Nat) (bpapers : Nat) (bstamps : Nat) (bversions : Nat) (blines : Nat) (bsteps : Nat) (bsayings : Nat) (bfindings : Nat) (bwarnings : Nat) (bquestions : Nat) (td : Int32) (vd : Int32) (vl : Int32) (gp : Int32) (bpapersc : Nat) (kbpapers : Nat) (fbpapers : Nat → Int32) (bstampsc : Nat) (kbstamps : Nat) (fbstamps : Nat → Int32) : Prop := MP l G yX11_paperOf cX11_paperOf 3 (some .int) 5 [.ref h0, .int x1, .int x2] [(h0, oX11 bb kk ikp sg do9 ru9 ta9 tp9 ro9 ho9 de9), (bb, oX0 bpersons bpapers bstamps bversions blines bsteps bsayings bfindings bwarnings bquestions td vd vl gp), (bpapers, oX8 12 6 bpapersc (nI kbpapers)), (bpapersc, iA G 72 fbpapers), (bstamps, oX8 24 3 bstampsc (nI kbstamps)), (bstampsc, iA G 72 fbstamps)] (fun r : Int32 => r = ifc (Hs x1 kbpapers) (ifc (x2 = 0) (fbpapers (x1.toNatClampNeg * 6 + 0)) (ifc (x2 = 1) (fbpapers (x1.toNatClampNeg * 6 + 1)) (ifc (x2 = 2) (fbpapers (x1.toNatClampNeg * 6 + 2)) (ifc (x2 = 3) (fbpapers (x1.toNatClampNeg * 6 + 3)) (ifc (x2 = 4) (fbpapers (x1.toNatClampNeg * 6 + 4)) (ifc (x2 = 5) (CNT (fun s9 => fbstamps (s9 * 3 + 0) = x1) kbstamps) (ifc (x2 = 6) (ifc (SEE fbpapers td vd vl x1.toNatClampNeg) 1 0) ((-1))))))))) (-1))
set_option maxHeartbeats 4000000 in
set_option maxRecDepth 100000 in
theorem p_paperOf (l : Launch) (G : GG) (h0 : Nat) (x1 : Int32) (x2 : Int32) (bb : Nat) (kk : Nat) (ikp : Int32) (sg : Nat) (do9 : Nat) (ru9 : Nat) (ta9 : Nat) (tp9 : Nat) (ro9 : Nat) (ho9 : Nat) (de9 : Nat) (bpersons : Nat) (bpapers : Nat) (bstamps : Nat) (bversions : Nat) (blines : Nat) (bsteps : Nat) (bsayings : Nat) (bfindings : Nat) (bwarnings : Nat) (bquestions : Nat) (td : Int32) (vd : Int32) (vl : Int32) (gp : Int32) (bpapersc : Nat) (kbpapers : Nat) (fbpapers : Nat → Int32) (bstampsc : Nat) (kbstamps : Nat) (fbstamps : Nat → Int32) (hkbpapers : kbpapers ≤ 12) (hkbstamps : kbstamps ≤ 24) : K_p_paperOf l G h0 x1 x2 bb kk ikp sg do9 ru9 ta9 tp9 ro9 ho9 de9 bpersons bpapers bstamps bversions blines bsteps bsayings bfindings bwarnings bquestions td vd vl gp bpapersc kbpapers fbpapers bstampsc kbstamps fbstamps := by
  refine MP.start (by decide +kernel) (Nat.le_of_ble_eq_true rfl) ?_
  intro p e s m below meth c ls hC hK hP hD hl
  refine absQ (fun Q0 hQ0 => ?_)
  have hl : lv_has ls 3 [(0, .ref h0), (1, .int x1), (2, .int x2)] := hl
  refine Kan8 hC (fun hx hb hr hml hB hown hlocks hnm => ?_)
  refine lv_aload_n hx hb gX11_paperOf_0.1 rfl (lv_at0 hl) ?_
  refine gf_X11_15 hC rfl hK hP 0 rfl rfl gX11_paperOf_0.2.1 ?_
  refine gf_X11_144 hC rfl hK hP 1 rfl rfl gX11_paperOf_0.2.2.1 ?_
  refine lv_iload_n hx hb gX11_paperOf_0.2.2.2.1 rfl (lv_at1 hl) ?_
  refine pV hC hK hl hP hD (c_T_has l G bpapers x1 12 6 bpapersc kbpapers) si_X11_124 [2] sm_2 fm_2 nd_2 rfl rfl rfl rfl rfl (Nat.le_of_ble_eq_true rfl) rm_5_1_2 ⟨by first | exact Nat.le_of_ble_eq_true rfl | exact Nat.zero_le _, by first | exact Nat.le_of_ble_eq_true rfl | exact Nat.zero_le _⟩ gX11_paperOf_0.2.2.2.2.1 (Kors (Keqa fun a1798 => ?_) (Keqa fun a1798 => ?_))
  · refine lv_if_ne (tgt := 16) hx hb gX11_paperOf_0.2.2.2.2.2.1 (by decide) (fun _ => ?_) (fun c9 => absurd c9 (by decide))
    obtain ⟨jp, hjp, rfl⟩ := Hs_nat (by omega) a1798
    refine lv_iload_n hx hb gX11_paperOf_0.2.2.2.2.2.2.2.2.1 rfl (lv_at2 hl) ?_
    by_cases c_17_1799 : x2 = 0
    · refine lv_tableIn (tgt := 60) hx hb gX11_paperOf_0.2.2.2.2.2.2.2.2.2 (by rw [c_17_1799]; decide) (by rw [c_17_1799]; decide) (by rw [c_17_1799]; rfl) (by decide) ?_
      refine lv_aload_n hx hb gX11_paperOf_1.1 rfl (lv_at0 hl) ?_
      refine gf_X11_15 hC rfl hK hP 0 rfl rfl gX11_paperOf_1.2.1 ?_
      refine gf_X11_144 hC rfl hK hP 1 rfl rfl gX11_paperOf_1.2.2.1 ?_
      refine lv_iload_n hx hb gX11_paperOf_1.2.2.2.1 rfl (lv_at1 hl) ?_
      refine lv_iconst (v := 0) hx hb gX11_paperOf_1.2.2.2.2.1 (by decide) ?_
      refine pV hC hK hl hP hD (c_T_at l G bpapers (nI jp) 0 12 6 bpapersc kbpapers fbpapers (hkbpapers) (by omega) (by omega)) si_X11_128 [2, 3] sm_2_3 fm_2_3 nd_2_3 rfl rfl rfl rfl rfl (Nat.le_of_ble_eq_true rfl) rm_5_1_3 ⟨by first | exact Nat.le_of_ble_eq_true rfl | exact Nat.zero_le _, by first | exact Nat.le_of_ble_eq_true rfl | exact Nat.zero_le _⟩ gX11_paperOf_1.2.2.2.2.2.1 (fun r1800 hr1800 => ?_)
      refine toQ hQ0 ?_
      exact RP (v := r1800) hC ((by rw [show r1800 = fbpapers (jp * 6 + 0) from hr1800.trans (tatr (by omega) (by omega) (by decide) (by decide) rfl)]; simp only [nI_clamp (n := jp) (by omega), ifc_t hkbpapers, ifc_t hkbstamps, ifc_t a1798, ifc_t c_17_1799])) rfl gX11_paperOf_1.2.2.2.2.2.2.1
    by_cases c_17_1802 : x2 = 1
    · refine lv_tableIn (tgt := 73) hx hb gX11_paperOf_0.2.2.2.2.2.2.2.2.2 (by rw [c_17_1802]; decide) (by rw [c_17_1802]; decide) (by rw [c_17_1802]; rfl) (by decide) ?_
      refine lv_aload_n hx hb gX11_paperOf_1.2.2.2.2.2.2.2.1 rfl (lv_at0 hl) ?_
      refine gf_X11_15 hC rfl hK hP 0 rfl rfl gX11_paperOf_1.2.2.2.2.2.2.2.2.1 ?_
      refine gf_X11_144 hC rfl hK hP 1 rfl rfl gX11_paperOf_1.2.2.2.2.2.2.2.2.2 ?_
      refine lv_iload_n hx hb gX11_paperOf_2.1 rfl (lv_at1 hl) ?_
      refine lv_iconst (v := 1) hx hb gX11_paperOf_2.2.1 (by decide) ?_
      refine pV hC hK hl hP hD (c_T_at l G bpapers (nI jp) 1 12 6 bpapersc kbpapers fbpapers (hkbpapers) (by omega) (by omega)) si_X11_128 [2, 3] sm_2_3 fm_2_3 nd_2_3 rfl rfl rfl rfl rfl (Nat.le_of_ble_eq_true rfl) rm_5_1_3 ⟨by first | exact Nat.le_of_ble_eq_true rfl | exact Nat.zero_le _, by first | exact Nat.le_of_ble_eq_true rfl | exact Nat.zero_le _⟩ gX11_paperOf_2.2.2.1 (fun r1803 hr1803 => ?_)
      refine toQ hQ0 ?_
      exact RP (v := r1803) hC ((by rw [show r1803 = fbpapers (jp * 6 + 1) from hr1803.trans (tatr (by omega) (by omega) (by decide) (by decide) rfl)]; simp only [nI_clamp (n := jp) (by omega), ifc_t hkbpapers, ifc_t hkbstamps, ifc_t a1798, ifc_f c_17_1799, ifc_t c_17_1802])) rfl gX11_paperOf_2.2.2.2.1
    by_cases c_17_1805 : x2 = 2
    · refine lv_tableIn (tgt := 86) hx hb gX11_paperOf_0.2.2.2.2.2.2.2.2.2 (by rw [c_17_1805]; decide) (by rw [c_17_1805]; decide) (by rw [c_17_1805]; rfl) (by decide) ?_
      refine lv_aload_n hx hb gX11_paperOf_2.2.2.2.2.1 rfl (lv_at0 hl) ?_
      refine gf_X11_15 hC rfl hK hP 0 rfl rfl gX11_paperOf_2.2.2.2.2.2.1 ?_
      refine gf_X11_144 hC rfl hK hP 1 rfl rfl gX11_paperOf_2.2.2.2.2.2.2.1 ?_
      refine lv_iload_n hx hb gX11_paperOf_2.2.2.2.2.2.2.2.1 rfl (lv_at1 hl) ?_
      refine lv_iconst (v := 2) hx hb gX11_paperOf_2.2.2.2.2.2.2.2.2.1 (by decide) ?_
      refine pV hC hK hl hP hD (c_T_at l G bpapers (nI jp) 2 12 6 bpapersc kbpapers fbpapers (hkbpapers) (by omega) (by omega)) si_X11_128 [2, 3] sm_2_3 fm_2_3 nd_2_3 rfl rfl rfl rfl rfl (Nat.le_of_ble_eq_true rfl) rm_5_1_3 ⟨by first | exact Nat.le_of_ble_eq_true rfl | exact Nat.zero_le _, by first | exact Nat.le_of_ble_eq_true rfl | exact Nat.zero_le _⟩ gX11_paperOf_2.2.2.2.2.2.2.2.2.2 (fun r1806 hr1806 => ?_)
      refine toQ hQ0 ?_
      exact RP (v := r1806) hC ((by rw [show r1806 = fbpapers (jp * 6 + 2) from hr1806.trans (tatr (by omega) (by omega) (by decide) (by decide) rfl)]; simp only [nI_clamp (n := jp) (by omega), ifc_t hkbpapers, ifc_t hkbstamps, ifc_t a1798, ifc_f c_17_1799, ifc_f c_17_1802, ifc_t c_17_1805])) rfl gX11_paperOf_3.1
    by_cases c_17_1808 : x2 = 3
    · refine lv_tableIn (tgt := 99) hx hb gX11_paperOf_0.2.2.2.2.2.2.2.2.2 (by rw [c_17_1808]; decide) (by rw [c_17_1808]; decide) (by rw [c_17_1808]; rfl) (by decide) ?_
      refine lv_aload_n hx hb gX11_paperOf_3.2.1 rfl (lv_at0 hl) ?_
      refine gf_X11_15 hC rfl hK hP 0 rfl rfl gX11_paperOf_3.2.2.1 ?_
      refine gf_X11_144 hC rfl hK hP 1 rfl rfl gX11_paperOf_3.2.2.2.1 ?_
      refine lv_iload_n hx hb gX11_paperOf_3.2.2.2.2.1 rfl (lv_at1 hl) ?_
      refine lv_iconst (v := 3) hx hb gX11_paperOf_3.2.2.2.2.2.1 (by decide) ?_
      refine pV hC hK hl hP hD (c_T_at l G bpapers (nI jp) 3 12 6 bpapersc kbpapers fbpapers (hkbpapers) (by omega) (by omega)) si_X11_128 [2, 3] sm_2_3 fm_2_3 nd_2_3 rfl rfl rfl rfl rfl (Nat.le_of_ble_eq_true rfl) rm_5_1_3 ⟨by first | exact Nat.le_of_ble_eq_true rfl | exact Nat.zero_le _, by first | exact Nat.le_of_ble_eq_true rfl | exact Nat.zero_le _⟩ gX11_paperOf_3.2.2.2.2.2.2.1 (fun r1809 hr1809 => ?_)
      refine toQ hQ0 ?_
      exact RP (v := r1809) hC ((by rw [show r1809 = fbpapers (jp * 6 + 3) from hr1809.trans (tatr (by omega) (by omega) (by decide) (by decide) rfl)]; simp only [nI_clamp (n := jp) (by omega), ifc_t hkbpapers, ifc_t hkbstamps, ifc_t a1798, ifc_f c_17_1799, ifc_f c_17_1802, ifc_f c_17_1805, ifc_t c_17_1808])) rfl gX11_paperOf_3.2.2.2.2.2.2.2.1
    by_cases c_17_1811 : x2 = 4
    · refine lv_tableIn (tgt := 112) hx hb gX11_paperOf_0.2.2.2.2.2.2.2.2.2 (by rw [c_17_1811]; decide) (by rw [c_17_1811]; decide) (by rw [c_17_1811]; rfl) (by decide) ?_
      refine lv_aload_n hx hb gX11_paperOf_3.2.2.2.2.2.2.2.2.1 rfl (lv_at0 hl) ?_
      refine gf_X11_15 hC rfl hK hP 0 rfl rfl gX11_paperOf_3.2.2.2.2.2.2.2.2.2 ?_
      refine gf_X11_144 hC rfl hK hP 1 rfl rfl gX11_paperOf_4.1 ?_
      refine lv_iload_n hx hb gX11_paperOf_4.2.1 rfl (lv_at1 hl) ?_
      refine lv_iconst (v := 4) hx hb gX11_paperOf_4.2.2.1 (by decide) ?_
      refine pV hC hK hl hP hD (c_T_at l G bpapers (nI jp) 4 12 6 bpapersc kbpapers fbpapers (hkbpapers) (by omega) (by omega)) si_X11_128 [2, 3] sm_2_3 fm_2_3 nd_2_3 rfl rfl rfl rfl rfl (Nat.le_of_ble_eq_true rfl) rm_5_1_3 ⟨by first | exact Nat.le_of_ble_eq_true rfl | exact Nat.zero_le _, by first | exact Nat.le_of_ble_eq_true rfl | exact Nat.zero_le _⟩ gX11_paperOf_4.2.2.2.1 (fun r1812 hr1812 => ?_)
      refine toQ hQ0 ?_
      exact RP (v := r1812) hC ((by rw [show r1812 = fbpapers (jp * 6 + 4) from hr1812.trans (tatr (by omega) (by omega) (by decide) (by decide) rfl)]; simp only [nI_clamp (n := jp) (by omega), ifc_t hkbpapers, ifc_t hkbstamps, ifc_t a1798, ifc_f c_17_1799, ifc_f c_17_1802, ifc_f c_17_1805, ifc_f c_17_1808, ifc_t c_17_1811])) rfl gX11_paperOf_4.2.2.2.2.1
    by_cases c_17_1814 : x2 = 5
    · refine lv_tableIn (tgt := 125) hx hb gX11_paperOf_0.2.2.2.2.2.2.2.2.2 (by rw [c_17_1814]; decide) (by rw [c_17_1814]; decide) (by rw [c_17_1814]; rfl) (by decide) ?_
      refine lv_aload_n hx hb gX11_paperOf_4.2.2.2.2.2.1 rfl (lv_at0 hl) ?_
      refine gf_X11_15 hC rfl hK hP 0 rfl rfl gX11_paperOf_4.2.2.2.2.2.2.1 ?_
      refine lv_iload_n hx hb gX11_paperOf_4.2.2.2.2.2.2.2.1 rfl (lv_at1 hl) ?_
      refine pV hC hK hl hP hD (c_countStampsX l G bb (nI jp) bpersons bpapers bstamps bversions blines bsteps bsayings bfindings bwarnings bquestions td vd vl gp bstampsc kbstamps fbstamps (hkbstamps)) si_X11_147 [1, 4, 5] sm_1_4_5 fm_1_4_5 nd_1_4_5 rfl rfl rfl rfl rfl (Nat.le_of_ble_eq_true rfl) rm_5_3_4 ⟨by first | exact Nat.le_of_ble_eq_true rfl | exact Nat.zero_le _, by first | exact Nat.le_of_ble_eq_true rfl | exact Nat.zero_le _⟩ gX11_paperOf_4.2.2.2.2.2.2.2.2.1 (Keqr ?_)
      refine toQ hQ0 ?_
      exact RP (v := (CNT (fun s9 => fbstamps (s9 * 3 + 0) = (nI jp)) kbstamps)) hC ((by first | rfl | (simp only [nI_clamp (n := jp) (by omega), ifc_t hkbpapers, ifc_t hkbstamps, ifc_t a1798, ifc_f c_17_1799, ifc_f c_17_1802, ifc_f c_17_1805, ifc_f c_17_1808, ifc_f c_17_1811, ifc_t c_17_1814]; done) | (simp only [nI_clamp (n := jp) (by omega), ifc_t hkbpapers, ifc_t hkbstamps, ifc_t a1798, ifc_f c_17_1799, ifc_f c_17_1802, ifc_f c_17_1805, ifc_f c_17_1808, ifc_f c_17_1811, ifc_t c_17_1814]; rfl))) rfl gX11_paperOf_4.2.2.2.2.2.2.2.2.2
    by_cases c_17_1817 : x2 = 6
    · refine lv_tableIn (tgt := 134) hx hb gX11_paperOf_0.2.2.2.2.2.2.2.2.2 (by rw [c_17_1817]; decide) (by rw [c_17_1817]; decide) (by rw [c_17_1817]; rfl) (by decide) ?_
      refine lv_aload_n hx hb gX11_paperOf_5.1 rfl (lv_at0 hl) ?_
      refine gf_X11_15 hC rfl hK hP 0 rfl rfl gX11_paperOf_5.2.1 ?_
      refine pV hC hK hl hP hD (c_inViewX l G bb bpersons bpapers bstamps bversions blines bsteps bsayings bfindings bwarnings bquestions td vd vl gp bpapersc kbpapers fbpapers (hkbpapers)) si_X11_97 [1, 2, 3] sm_1_2_3 fm_1_2_3 nd_1_2_3 rfl rfl rfl rfl rfl (Nat.le_of_ble_eq_true rfl) rm_5_3_6 ⟨by first | exact Nat.le_of_ble_eq_true rfl | exact Nat.zero_le _, by first | exact Nat.le_of_ble_eq_true rfl | exact Nat.zero_le _⟩ gX11_paperOf_5.2.2.1 (Keqr ?_)
      refine lv_iload_n hx hb gX11_paperOf_5.2.2.2.1 rfl (lv_at1 hl) ?_
      refine pS hC hK hl (c_hasBit l G (IVW fbpapers td vd vl kbpapers) (nI jp)) si_X11_150 rfl rfl (Nat.le_of_ble_eq_true rfl) rm_5_1_2 ⟨by first | exact Nat.le_of_ble_eq_true rfl | exact Nat.zero_le _, by first | exact Nat.le_of_ble_eq_true rfl | exact Nat.zero_le _⟩ gX11_paperOf_5.2.2.2.2.1 (Kors (Keqa fun a1821 => ?_) (Keqa fun a1821 => ?_))
      · refine lv_if_eq (tgt := 152) hx hb gX11_paperOf_5.2.2.2.2.2.1 (by decide) (fun c9 => absurd c9 (by decide)) (fun _ => ?_)
        refine lv_iconst (v := 1) hx hb gX11_paperOf_5.2.2.2.2.2.2.1 (by decide) ?_
        refine lv_goto (tgt := 153) hx hb gX11_paperOf_5.2.2.2.2.2.2.2.1 (by decide) ?_
        refine toQ hQ0 ?_
        exact RP (v := 1) hC ((by first | rfl | (simp only [nI_clamp (n := jp) (by omega), ifc_t hkbpapers, ifc_t hkbstamps, ifc_t a1798, ifc_f c_17_1799, ifc_f c_17_1802, ifc_f c_17_1805, ifc_f c_17_1808, ifc_f c_17_1811, ifc_f c_17_1814, ifc_t c_17_1817, ifc_t a1821, ifc_t (q := SEE fbpapers td vd vl jp) ((IVW.hb (by omega) (by omega)).mp a1821)]; done) | (simp only [nI_clamp (n := jp) (by omega), ifc_t hkbpapers, ifc_t hkbstamps, ifc_t a1798, ifc_f c_17_1799, ifc_f c_17_1802, ifc_f c_17_1805, ifc_f c_17_1808, ifc_f c_17_1811, ifc_f c_17_1814, ifc_t c_17_1817, ifc_t a1821, ifc_t (q := SEE fbpapers td vd vl jp) ((IVW.hb (by omega) (by omega)).mp a1821)]; rfl))) rfl gX11_paperOf_5.2.2.2.2.2.2.2.2.2
      · refine lv_if_eq (tgt := 152) hx hb gX11_paperOf_5.2.2.2.2.2.1 (by decide) (fun _ => ?_) (fun c9 => absurd (by decide) c9)
        refine lv_iconst (v := 0) hx hb gX11_paperOf_5.2.2.2.2.2.2.2.2.1 (by decide) ?_
        refine toQ hQ0 ?_
        exact RP (v := 0) hC ((by first | rfl | (simp only [nI_clamp (n := jp) (by omega), ifc_t hkbpapers, ifc_t hkbstamps, ifc_t a1798, ifc_f c_17_1799, ifc_f c_17_1802, ifc_f c_17_1805, ifc_f c_17_1808, ifc_f c_17_1811, ifc_f c_17_1814, ifc_t c_17_1817, ifc_f a1821, ifc_f (q := SEE fbpapers td vd vl jp) (fun h9 => a1821 ((IVW.hb (by omega) (by omega)).mpr h9))]; done) | (simp only [nI_clamp (n := jp) (by omega), ifc_t hkbpapers, ifc_t hkbstamps, ifc_t a1798, ifc_f c_17_1799, ifc_f c_17_1802, ifc_f c_17_1805, ifc_f c_17_1808, ifc_f c_17_1811, ifc_f c_17_1814, ifc_t c_17_1817, ifc_f a1821, ifc_f (q := SEE fbpapers td vd vl jp) (fun h9 => a1821 ((IVW.hb (by omega) (by omega)).mpr h9))]; rfl))) rfl gX11_paperOf_5.2.2.2.2.2.2.2.2.2
    refine lv_tableOut (tgt := 154) hx hb gX11_paperOf_0.2.2.2.2.2.2.2.2.2 (by have q9 := sw_0_6 (x := x2); simp only [c_17_1799, c_17_1802, c_17_1805, c_17_1808, c_17_1811, c_17_1814, c_17_1817, not_false_eq_true, true_implies] at q9; exact q9) (by decide) ?_
    refine lv_iconst (v := (-1)) hx hb gX11_paperOf_6.1 (by decide) ?_
    refine toQ hQ0 ?_
    exact RP (v := (-1)) hC ((by first | rfl | (simp only [nI_clamp (n := jp) (by omega), ifc_t hkbpapers, ifc_t hkbstamps, ifc_t a1798, ifc_f c_17_1799, ifc_f c_17_1802, ifc_f c_17_1805, ifc_f c_17_1808, ifc_f c_17_1811, ifc_f c_17_1814, ifc_f c_17_1817]; done) | (simp only [nI_clamp (n := jp) (by omega), ifc_t hkbpapers, ifc_t hkbstamps, ifc_t a1798, ifc_f c_17_1799, ifc_f c_17_1802, ifc_f c_17_1805, ifc_f c_17_1808, ifc_f c_17_1811, ifc_f c_17_1814, ifc_f c_17_1817]; rfl))) rfl gX11_paperOf_6.2
  · refine lv_if_ne (tgt := 16) hx hb gX11_paperOf_0.2.2.2.2.2.1 (by decide) (fun c9 => absurd (by decide) c9) (fun _ => ?_)
    refine lv_iconst (v := (-1)) hx hb gX11_paperOf_0.2.2.2.2.2.2.1 (by decide) ?_
    refine toQ hQ0 ?_
    exact RP (v := (-1)) hC ((by first | rfl | (simp only [ifc_t hkbpapers, ifc_t hkbstamps, ifc_f a1798]; done) | (simp only [ifc_t hkbpapers, ifc_t hkbstamps, ifc_f a1798]; rfl))) rfl gX11_paperOf_0.2.2.2.2.2.2.2.1
def K_c_addStampX (l : Launch) (G : GG) (h0 : Nat) (pa : Int32) (ck : Int32) (hh : Int32) (bpersons : Nat) (bpapers : Nat) (bstamps : Nat) (bversions : Nat) (blines : Nat) (bsteps : Nat) (bsayings : Nat) (bfindings : Nat) (bwarnings : Nat) (bquestions : Nat) (td : Int32) (vd : Int32) (vl : Int32) (gp : Int32) (bstampsc : Nat) (kbstamps : Nat) (fbstamps : Nat → Int32) : Prop := MI l G yX0_addStamp cX0_addStamp 5 (some .int) 3 0 0 [.ref h0, .int pa, .int ck, .int hh] [(h0, oX0 bpersons bpapers bstamps bversions blines bsteps bsayings bfindings bwarnings bquestions td vd vl gp), (bstamps, oX8 24 3 bstampsc (nI kbstamps)), (bstampsc, iA G 72 fbstamps)] (fun (r : Int32) (u : (Nat → Int32)) => (r = nI kbstamps) ∧ (∀ i : Nat, u i = rowu fbstamps (kbstamps * 3) [pa, ck, hh] i)) (fun u : (Nat → Int32) => [(h0, oX0 bpersons bpapers bstamps bversions blines bsteps bsayings bfindings bwarnings bquestions td vd vl gp), (bstamps, oX8 24 3 bstampsc (nI (kbstamps + 1))), (bstampsc, iA G 72 u)])
set_option maxHeartbeats 4000000 in
set_option maxRecDepth 100000 in
theorem c_addStampX (l : Launch) (G : GG) (h0 : Nat) (pa : Int32) (ck : Int32) (hh : Int32) (bpersons : Nat) (bpapers : Nat) (bstamps : Nat) (bversions : Nat) (blines : Nat) (bsteps : Nat) (bsayings : Nat) (bfindings : Nat) (bwarnings : Nat) (bquestions : Nat) (td : Int32) (vd : Int32) (vl : Int32) (gp : Int32) (bstampsc : Nat) (kbstamps : Nat) (fbstamps : Nat → Int32) (hks : kbstamps < 24) : K_c_addStampX l G h0 pa ck hh bpersons bpapers bstamps bversions blines bsteps bsayings bfindings bwarnings bquestions td vd vl gp bstampsc kbstamps fbstamps := by
  refine MI.start (by decide +kernel) (Nat.le_of_ble_eq_true rfl) ?_
  intro p e s m below meth c A ls hC hK hP hD hS hA hl
  refine absQ (fun Q0 hQ0 => ?_)
  have hl : lv_has ls 5 [(0, .ref h0), (1, .int pa), (2, .int ck), (3, .int hh)] := hl
  refine Kan8 hC (fun hx hb hr hml hB hown hlocks hnm => ?_)
  refine lv_aload_n hx hb gX0_addStamp_0.1 rfl (lv_at0 hl) ?_
  refine gf_X0_23 hC rfl hK hP 0 rfl rfl gX0_addStamp_0.2.1 ?_
  refine iV (wr := [(h0, oX0 bpersons bpapers bstamps bversions blines bsteps bsayings bfindings bwarnings bquestions td vd vl gp), (bstampsc, iA G 72 fbstamps)]) hC hK hl hP hD hS hA (c_T_append l G bstamps 24 3 bstampsc kbstamps (hks) (by omega)) si_X0_79 [1] [0, 2] sm_1 fm_1 nd_1 sm_0_2 nd_0_2 dj_1__0_2 rfl rfl rfl rfl rfl (Nat.le_of_ble_eq_true rfl) rm_3_1_1 ⟨Nat.le_of_ble_eq_true rfl, Nat.le_of_ble_eq_true rfl⟩ gX0_addStamp_0.2.2.1 (fun r1822 u1823 H locs hr1822 hP hD hS => ?_)
  refine Kpdr (ws := [(h0, oX0 bpersons bpapers bstamps bversions blines bsteps bsayings bfindings bwarnings bquestions td vd vl gp), (bstampsc, iA G 72 fbstamps), (bstamps, oX8 24 3 bstampsc (nI (kbstamps + 1)))]) hP hD (fun hP hD => ?_)
  obtain rfl := hr1822
  refine lv_istore (lv' := [(4, .int (nI kbstamps)), (0, .ref h0), (1, .int pa), (2, .int ck), (3, .int hh)]) hx hb gX0_addStamp_0.2.2.2.1 hl (by decide) rfl (fun ls hl => ?_)
  refine lv_aload_n hx hb gX0_addStamp_0.2.2.2.2.1 rfl (lv_at1 hl) ?_
  refine gf_X0_23 hC rfl hK hP 0 rfl rfl gX0_addStamp_0.2.2.2.2.2.1 ?_
  refine lv_iload hx hb gX0_addStamp_0.2.2.2.2.2.2.1 (lv_at0 hl) ?_
  refine lv_iconst (v := 0) hx hb gX0_addStamp_0.2.2.2.2.2.2.2.1 (by decide) ?_
  refine lv_iload_n hx hb gX0_addStamp_0.2.2.2.2.2.2.2.2.1 rfl (lv_at2 hl) ?_
  refine vV (wr := [(h0, oX0 bpersons bpapers bstamps bversions blines bsteps bsayings bfindings bwarnings bquestions td vd vl gp)]) hC hK hl hP hD hS hA (c_T_set l G bstamps (nI kbstamps) 0 pa 24 3 bstampsc (kbstamps + 1) fbstamps (by omega) (by omega) (by omega)) si_X0_82 [2, 1] [0] sm_2_1 fm_2_1 nd_2_1 sm_0 nd_0 dj_2_1__0 rfl rfl rfl rfl rfl (Nat.le_of_ble_eq_true rfl) rm_3_1_4 ⟨Nat.le_of_ble_eq_true rfl, Nat.le_of_ble_eq_true rfl⟩ gX0_addStamp_0.2.2.2.2.2.2.2.2.2 (fun f11827 H locs hr1825 hP hD hS => ?_)
  try dsimp only at hr1825
  refine Kpdr (ws := [(h0, oX0 bpersons bpapers bstamps bversions blines bsteps bsayings bfindings bwarnings bquestions td vd vl gp), (bstamps, oX8 24 3 bstampsc (nI (kbstamps + 1))), (bstampsc, iA G 72 f11827)]) hP hD (fun hP hD => ?_)
  have w1828 := hr1825
  refine lv_aload_n hx hb gX0_addStamp_1.1 rfl (lv_at1 hl) ?_
  refine gf_X0_23 hC rfl hK hP 0 rfl rfl gX0_addStamp_1.2.1 ?_
  refine lv_iload hx hb gX0_addStamp_1.2.2.1 (lv_at0 hl) ?_
  refine lv_iconst (v := 1) hx hb gX0_addStamp_1.2.2.2.1 (by decide) ?_
  refine lv_iload_n hx hb gX0_addStamp_1.2.2.2.2.1 rfl (lv_at3 hl) ?_
  refine vV (wr := [(h0, oX0 bpersons bpapers bstamps bversions blines bsteps bsayings bfindings bwarnings bquestions td vd vl gp)]) hC hK hl hP hD hS hA (c_T_set l G bstamps (nI kbstamps) 1 ck 24 3 bstampsc (kbstamps + 1) f11827 (by omega) (by omega) (by omega)) si_X0_82 [1, 2] [0] sm_1_2 fm_1_2 nd_1_2 sm_0 nd_0 dj_1_2__0 rfl rfl rfl rfl rfl (Nat.le_of_ble_eq_true rfl) rm_3_1_4 ⟨Nat.le_of_ble_eq_true rfl, Nat.le_of_ble_eq_true rfl⟩ gX0_addStamp_1.2.2.2.2.2.1 (fun f11831 H locs hr1829 hP hD hS => ?_)
  try dsimp only at hr1829
  refine Kpdr (ws := [(h0, oX0 bpersons bpapers bstamps bversions blines bsteps bsayings bfindings bwarnings bquestions td vd vl gp), (bstamps, oX8 24 3 bstampsc (nI (kbstamps + 1))), (bstampsc, iA G 72 f11831)]) hP hD (fun hP hD => ?_)
  have w1832 := hr1829
  refine lv_aload_n hx hb gX0_addStamp_1.2.2.2.2.2.2.1 rfl (lv_at1 hl) ?_
  refine gf_X0_23 hC rfl hK hP 0 rfl rfl gX0_addStamp_1.2.2.2.2.2.2.2.1 ?_
  refine lv_iload hx hb gX0_addStamp_1.2.2.2.2.2.2.2.2.1 (lv_at0 hl) ?_
  refine lv_iconst (v := 2) hx hb gX0_addStamp_1.2.2.2.2.2.2.2.2.2 (by decide) ?_
  refine lv_iload_n hx hb gX0_addStamp_2.1 rfl (lv_at4 hl) ?_
  refine vV (wr := [(h0, oX0 bpersons bpapers bstamps bversions blines bsteps bsayings bfindings bwarnings bquestions td vd vl gp)]) hC hK hl hP hD hS hA (c_T_set l G bstamps (nI kbstamps) 2 hh 24 3 bstampsc (kbstamps + 1) f11831 (by omega) (by omega) (by omega)) si_X0_82 [1, 2] [0] sm_1_2 fm_1_2 nd_1_2 sm_0 nd_0 dj_1_2__0 rfl rfl rfl rfl rfl (Nat.le_of_ble_eq_true rfl) rm_3_1_4 ⟨Nat.le_of_ble_eq_true rfl, Nat.le_of_ble_eq_true rfl⟩ gX0_addStamp_2.2.1 (fun f11835 H locs hr1833 hP hD hS => ?_)
  try dsimp only at hr1833
  refine Kpdr (ws := [(h0, oX0 bpersons bpapers bstamps bversions blines bsteps bsayings bfindings bwarnings bquestions td vd vl gp), (bstamps, oX8 24 3 bstampsc (nI (kbstamps + 1))), (bstampsc, iA G 72 f11835)]) hP hD (fun hP hD => ?_)
  have w1836 := hr1833
  refine lv_iload hx hb gX0_addStamp_2.2.2.1 (lv_at0 hl) ?_
  have tt1837 : f11827 = upd fbstamps (kbstamps * 3 + 0) pa := w1828.symm.trans (ts1 (by decide) (by decide) (by omega) rfl)
  have tt1838 : f11831 = upd f11827 (kbstamps * 3 + 1) ck := w1832.symm.trans (ts1 (by decide) (by decide) (by omega) rfl)
  have tt1839 : f11835 = upd f11831 (kbstamps * 3 + 2) hh := w1836.symm.trans (ts1 (by decide) (by decide) (by omega) rfl)
  have tu1840 : f11835 = rowu fbstamps (kbstamps * 3) [pa, ck, hh] := by rw [tt1839, tt1838, tt1837]; rfl
  refine toQ hQ0 ?_
  exact RI (v := nI kbstamps) hC hP hD hS [0, 1, 2] f11835 rfl rfl (by decide) (⟨rfl, (fun i => by rw [tu1840])⟩) rfl gX0_addStamp_2.2.2.2
def K_p_stamp (l : Launch) (G : GG) (h0 : Nat) (x1 : Int32) (x2 : Int32) (x3 : Int32) (bb : Nat) (kk : Nat) (ikp : Int32) (sg : Nat) (do9 : Nat) (ru9 : Nat) (ta9 : Nat) (tp9 : Nat) (ro9 : Nat) (ho9 : Nat) (de9 : Nat) (bpersons : Nat) (bpapers : Nat) (bstamps : Nat) (bversions : Nat) (blines : Nat) (bsteps : Nat) (bsayings : Nat) (bfindings : Nat) (bwarnings : Nat) (bquestions : Nat) (td : Int32) (vd : Int32) (vl : Int32) (gp : Int32) (bstampsc : Nat) (kbstamps : Nat) (fbstamps : Nat → Int32) (bpapersc : Nat) (kbpapers : Nat) : Prop := MI l G yX11_stamp cX11_stamp 4 (some .int) 5 0 0 [.ref h0, .int x1, .int x2, .int x3] [(h0, oX11 bb kk ikp sg do9 ru9 ta9 tp9 ro9 ho9 de9), (bb, oX0 bpersons bpapers bstamps bversions blines bsteps bsayings bfindings bwarnings bquestions td vd vl gp), (bstamps, oX8 24 3 bstampsc (nI kbstamps)), (bstampsc, iA G 72 fbstamps), (bpapers, oX8 12 6 bpapersc (nI kbpapers))] (fun (r : Int32) (u : Nat × (Nat → Int32)) => (r = ifc (Hs x1 kbpapers) (ifc (Wi x2 0 5) (ifc (Wi x3 0 999) (ifc (24 ≤ kbstamps) (-2) (nI kbstamps)) (-1)) (-1)) (-1)) ∧ (u.1 ≤ 24 ∧ nI u.1 = ifc (Hs x1 kbpapers) (ifc (Wi x2 0 5) (ifc (Wi x3 0 999) (ifc (24 ≤ kbstamps) (nI kbstamps) (nI (kbstamps + 1))) (nI kbstamps)) (nI kbstamps)) (nI kbstamps) ∧ ∀ i : Nat, u.2 i = ifc (Hs x1 kbpapers) (ifc (Wi x2 0 5) (ifc (Wi x3 0 999) (ifc (24 ≤ kbstamps) (fbstamps i) (rowu fbstamps (kbstamps * 3) [x1, x2, x3] i)) (fbstamps i)) (fbstamps i)) (fbstamps i))) (fun u : Nat × (Nat → Int32) => [(h0, oX11 bb kk ikp sg do9 ru9 ta9 tp9 ro9 ho9 de9), (bb, oX0 bpersons bpapers bstamps bversions blines bsteps bsayings bfindings bwarnings bquestions td vd vl gp), (bstamps, oX8 24 3 bstampsc (nI u.1)), (bstampsc, iA G 72 u.2), (bpapers, oX8 12 6 bpapersc (nI kbpapers))])
set_option maxHeartbeats 4000000 in
set_option maxRecDepth 100000 in
theorem p_stamp (l : Launch) (G : GG) (h0 : Nat) (x1 : Int32) (x2 : Int32) (x3 : Int32) (bb : Nat) (kk : Nat) (ikp : Int32) (sg : Nat) (do9 : Nat) (ru9 : Nat) (ta9 : Nat) (tp9 : Nat) (ro9 : Nat) (ho9 : Nat) (de9 : Nat) (bpersons : Nat) (bpapers : Nat) (bstamps : Nat) (bversions : Nat) (blines : Nat) (bsteps : Nat) (bsayings : Nat) (bfindings : Nat) (bwarnings : Nat) (bquestions : Nat) (td : Int32) (vd : Int32) (vl : Int32) (gp : Int32) (bstampsc : Nat) (kbstamps : Nat) (fbstamps : Nat → Int32) (bpapersc : Nat) (kbpapers : Nat) (hkbstamps : kbstamps ≤ 24) (hkbpapers : kbpapers ≤ 12) : K_p_stamp l G h0 x1 x2 x3 bb kk ikp sg do9 ru9 ta9 tp9 ro9 ho9 de9 bpersons bpapers bstamps bversions blines bsteps bsayings bfindings bwarnings bquestions td vd vl gp bstampsc kbstamps fbstamps bpapersc kbpapers := by
  refine MI.start (by decide +kernel) (Nat.le_of_ble_eq_true rfl) ?_
  intro p e s m below meth c A ls hC hK hP hD hS hA hl
  refine absQ (fun Q0 hQ0 => ?_)
  have hl : lv_has ls 4 [(0, .ref h0), (1, .int x1), (2, .int x2), (3, .int x3)] := hl
  refine Kan8 hC (fun hx hb hr hml hB hown hlocks hnm => ?_)
  refine lv_aload_n hx hb gX11_stamp_0.1 rfl (lv_at0 hl) ?_
  refine gf_X11_15 hC rfl hK hP 0 rfl rfl gX11_stamp_0.2.1 ?_
  refine gf_X11_144 hC rfl hK hP 1 rfl rfl gX11_stamp_0.2.2.1 ?_
  refine lv_iload_n hx hb gX11_stamp_0.2.2.2.1 rfl (lv_at1 hl) ?_
  refine pV hC hK hl hP hD (c_T_has l G bpapers x1 12 6 bpapersc kbpapers) si_X11_124 [4] sm_4 fm_4 nd_4 rfl rfl rfl rfl rfl (Nat.le_of_ble_eq_true rfl) rm_5_1_2 ⟨by first | exact Nat.le_of_ble_eq_true rfl | exact Nat.zero_le _, by first | exact Nat.le_of_ble_eq_true rfl | exact Nat.zero_le _⟩ gX11_stamp_0.2.2.2.2.1 (Kors (Keqa fun a1842 => ?_) (Keqa fun a1842 => ?_))
  · refine lv_if_eq (tgt := 22) hx hb gX11_stamp_0.2.2.2.2.2.1 (by decide) (fun c9 => absurd c9 (by decide)) (fun _ => ?_)
    refine lv_iload_n hx hb gX11_stamp_0.2.2.2.2.2.2.1 rfl (lv_at2 hl) ?_
    refine lv_iload_n hx hb gX11_stamp_0.2.2.2.2.2.2.2.1 rfl (lv_at3 hl) ?_
    refine pS hC hK hl (c_isStamp l G x2 x3) si_X11_154 rfl rfl (Nat.le_of_ble_eq_true rfl) rm_5_2_2 ⟨by first | exact Nat.le_of_ble_eq_true rfl | exact Nat.zero_le _, by first | exact Nat.le_of_ble_eq_true rfl | exact Nat.zero_le _⟩ gX11_stamp_0.2.2.2.2.2.2.2.2.1 (Kors (Keqa fun a1844 => ?_) (Keqa fun a1844 => ?_))
    · refine lv_if_ne (tgt := 24) hx hb gX11_stamp_0.2.2.2.2.2.2.2.2.2 (by decide) (fun _ => ?_) (fun c9 => absurd c9 (by decide))
      refine lv_aload_n hx hb gX11_stamp_1.2.2.1 rfl (lv_at0 hl) ?_
      refine gf_X11_15 hC rfl hK hP 0 rfl rfl gX11_stamp_1.2.2.2.1 ?_
      refine gf_X11_157 hC rfl hK hP 1 rfl rfl gX11_stamp_1.2.2.2.2.1 ?_
      refine pV hC hK hl hP hD (c_T_isFull l G bstamps 24 3 bstampsc kbstamps (hkbstamps) (by omega)) si_X11_111 [2] sm_2 fm_2 nd_2 rfl rfl rfl rfl rfl (Nat.le_of_ble_eq_true rfl) rm_5_1_1 ⟨by first | exact Nat.le_of_ble_eq_true rfl | exact Nat.zero_le _, by first | exact Nat.le_of_ble_eq_true rfl | exact Nat.zero_le _⟩ gX11_stamp_1.2.2.2.2.2.1 (Kors (Keqa fun a1846 => ?_) (Keqa fun a1846 => ?_))
      · refine lv_if_eq (tgt := 40) hx hb gX11_stamp_1.2.2.2.2.2.2.1 (by decide) (fun c9 => absurd c9 (by decide)) (fun _ => ?_)
        refine lv_bipush (v := (-2)) hx hb gX11_stamp_1.2.2.2.2.2.2.2.1 (by decide) ?_
        refine toQ hQ0 ?_
        exact RI (v := (-2)) hC hP hD hS [0, 1, 2, 3, 4] (kbstamps, fbstamps) rfl rfl (by decide) (⟨(by first | rfl | (simp only [ifc_t hkbstamps, ifc_t hkbpapers, ifc_t a1842, ifc_t a1844, ifc_t a1846, ifc_t (q := Wi x2 0 5) a1844.1, ifc_t (q := Wi x3 0 999) a1844.2]; done) | (simp only [ifc_t hkbstamps, ifc_t hkbpapers, ifc_t a1842, ifc_t a1844, ifc_t a1846, ifc_t (q := Wi x2 0 5) a1844.1, ifc_t (q := Wi x3 0 999) a1844.2]; rfl)), ⟨by omega, (by first | rfl | (simp only [ifc_t hkbstamps, ifc_t hkbpapers, ifc_t a1842, ifc_t a1844, ifc_t a1846, ifc_t (q := Wi x2 0 5) a1844.1, ifc_t (q := Wi x3 0 999) a1844.2]; done) | (simp only [ifc_t hkbstamps, ifc_t hkbpapers, ifc_t a1842, ifc_t a1844, ifc_t a1846, ifc_t (q := Wi x2 0 5) a1844.1, ifc_t (q := Wi x3 0 999) a1844.2]; rfl)), fun i => (by first | rfl | (simp only [ifc_t hkbstamps, ifc_t hkbpapers, ifc_t a1842, ifc_t a1844, ifc_t a1846, ifc_t (q := Wi x2 0 5) a1844.1, ifc_t (q := Wi x3 0 999) a1844.2]; done) | (simp only [ifc_t hkbstamps, ifc_t hkbpapers, ifc_t a1842, ifc_t a1844, ifc_t a1846, ifc_t (q := Wi x2 0 5) a1844.1, ifc_t (q := Wi x3 0 999) a1844.2]; rfl))⟩⟩) rfl gX11_stamp_1.2.2.2.2.2.2.2.2.1
      · refine lv_if_eq (tgt := 40) hx hb gX11_stamp_1.2.2.2.2.2.2.1 (by decide) (fun _ => ?_) (fun c9 => absurd (by decide) c9)
        refine lv_aload_n hx hb gX11_stamp_1.2.2.2.2.2.2.2.2.2 rfl (lv_at0 hl) ?_
        refine gf_X11_15 hC rfl hK hP 0 rfl rfl gX11_stamp_2.1 ?_
        refine lv_iload_n hx hb gX11_stamp_2.2.1 rfl (lv_at1 hl) ?_
        refine lv_iload_n hx hb gX11_stamp_2.2.2.1 rfl (lv_at2 hl) ?_
        refine lv_iload_n hx hb gX11_stamp_2.2.2.2.1 rfl (lv_at3 hl) ?_
        refine iV (wr := [(h0, oX11 bb kk ikp sg do9 ru9 ta9 tp9 ro9 ho9 de9), (bpapers, oX8 12 6 bpapersc (nI kbpapers))]) hC hK hl hP hD hS hA (c_addStampX l G bb x1 x2 x3 bpersons bpapers bstamps bversions blines bsteps bsayings bfindings bwarnings bquestions td vd vl gp bstampsc kbstamps fbstamps (a1846)) si_X11_160 [1, 2, 3] [0, 4] sm_1_2_3 fm_1_2_3 nd_1_2_3 sm_0_4 nd_0_4 dj_1_2_3__0_4 rfl rfl rfl rfl rfl (Nat.le_of_ble_eq_true rfl) rm_5_3_5 ⟨Nat.le_of_ble_eq_true rfl, Nat.le_of_ble_eq_true rfl⟩ gX11_stamp_2.2.2.2.2.1 (fun r1847 f91849 H locs hr1847 hP hD hS => ?_)
        try dsimp only at hr1847
        refine Kpdr (ws := [(h0, oX11 bb kk ikp sg do9 ru9 ta9 tp9 ro9 ho9 de9), (bpapers, oX8 12 6 bpapersc (nI kbpapers)), (bb, oX0 bpersons bpapers bstamps bversions blines bsteps bsayings bfindings bwarnings bquestions td vd vl gp), (bstamps, oX8 24 3 bstampsc (nI (kbstamps + 1))), (bstampsc, iA G 72 f91849)]) hP hD (fun hP hD => ?_)
        obtain ⟨hr1847, w1850⟩ := hr1847
        obtain rfl := hr1847
        refine toQ hQ0 ?_
        exact RI (v := nI kbstamps) hC hP hD hS [0, 2, 3, 4, 1] ((kbstamps + 1), f91849) rfl rfl (by decide) (⟨(by first | rfl | (simp only [ifc_t hkbstamps, ifc_t hkbpapers, ifc_t a1842, ifc_t a1844, ifc_t a1846, ifc_f (Nat.not_le.mpr a1846), ifc_t (q := Wi x2 0 5) a1844.1, ifc_t (q := Wi x3 0 999) a1844.2]; done) | (simp only [ifc_t hkbstamps, ifc_t hkbpapers, ifc_t a1842, ifc_t a1844, ifc_t a1846, ifc_f (Nat.not_le.mpr a1846), ifc_t (q := Wi x2 0 5) a1844.1, ifc_t (q := Wi x3 0 999) a1844.2]; rfl)), ⟨by omega, (by first | rfl | (simp only [ifc_t hkbstamps, ifc_t hkbpapers, ifc_t a1842, ifc_t a1844, ifc_t a1846, ifc_f (Nat.not_le.mpr a1846), ifc_t (q := Wi x2 0 5) a1844.1, ifc_t (q := Wi x3 0 999) a1844.2]; done) | (simp only [ifc_t hkbstamps, ifc_t hkbpapers, ifc_t a1842, ifc_t a1844, ifc_t a1846, ifc_f (Nat.not_le.mpr a1846), ifc_t (q := Wi x2 0 5) a1844.1, ifc_t (q := Wi x3 0 999) a1844.2]; rfl)), fun i => (w1850 i).trans (by first | rfl | (simp only [ifc_t hkbstamps, ifc_t hkbpapers, ifc_t a1842, ifc_t a1844, ifc_t a1846, ifc_f (Nat.not_le.mpr a1846), ifc_t (q := Wi x2 0 5) a1844.1, ifc_t (q := Wi x3 0 999) a1844.2]; done) | (simp only [ifc_t hkbstamps, ifc_t hkbpapers, ifc_t a1842, ifc_t a1844, ifc_t a1846, ifc_f (Nat.not_le.mpr a1846), ifc_t (q := Wi x2 0 5) a1844.1, ifc_t (q := Wi x3 0 999) a1844.2]; rfl))⟩⟩) rfl gX11_stamp_2.2.2.2.2.2
    · refine lv_if_ne (tgt := 24) hx hb gX11_stamp_0.2.2.2.2.2.2.2.2.2 (by decide) (fun c9 => absurd (by decide) c9) (fun _ => ?_)
      refine lv_iconst (v := (-1)) hx hb gX11_stamp_1.1 (by decide) ?_
      refine toQ hQ0 ?_
      exact RI (v := (-1)) hC hP hD hS [0, 1, 2, 3, 4] (kbstamps, fbstamps) rfl rfl (by decide) (⟨(by first | rfl | (simp only [ifc_t hkbstamps, ifc_t hkbpapers, ifc_t a1842, ifc_f a1844, ifc_nand a1844]; done) | (simp only [ifc_t hkbstamps, ifc_t hkbpapers, ifc_t a1842, ifc_f a1844, ifc_nand a1844]; rfl)), ⟨by omega, (by first | rfl | (simp only [ifc_t hkbstamps, ifc_t hkbpapers, ifc_t a1842, ifc_f a1844, ifc_nand a1844]; done) | (simp only [ifc_t hkbstamps, ifc_t hkbpapers, ifc_t a1842, ifc_f a1844, ifc_nand a1844]; rfl)), fun i => (by first | rfl | (simp only [ifc_t hkbstamps, ifc_t hkbpapers, ifc_t a1842, ifc_f a1844, ifc_nand a1844]; done) | (simp only [ifc_t hkbstamps, ifc_t hkbpapers, ifc_t a1842, ifc_f a1844, ifc_nand a1844]; rfl))⟩⟩) rfl gX11_stamp_1.2.1
  · refine lv_if_eq (tgt := 22) hx hb gX11_stamp_0.2.2.2.2.2.1 (by decide) (fun _ => ?_) (fun c9 => absurd (by decide) c9)
    refine lv_iconst (v := (-1)) hx hb gX11_stamp_1.1 (by decide) ?_
    refine toQ hQ0 ?_
    exact RI (v := (-1)) hC hP hD hS [0, 1, 2, 3, 4] (kbstamps, fbstamps) rfl rfl (by decide) (⟨(by first | rfl | (simp only [ifc_t hkbstamps, ifc_t hkbpapers, ifc_f a1842]; done) | (simp only [ifc_t hkbstamps, ifc_t hkbpapers, ifc_f a1842]; rfl)), ⟨by omega, (by first | rfl | (simp only [ifc_t hkbstamps, ifc_t hkbpapers, ifc_f a1842]; done) | (simp only [ifc_t hkbstamps, ifc_t hkbpapers, ifc_f a1842]; rfl)), fun i => (by first | rfl | (simp only [ifc_t hkbstamps, ifc_t hkbpapers, ifc_f a1842]; done) | (simp only [ifc_t hkbstamps, ifc_t hkbpapers, ifc_f a1842]; rfl))⟩⟩) rfl gX11_stamp_1.2.1
def K_p_again_no (l : Launch) (G : GG) (h0 : Nat) (bb : Nat) (kk : Nat) (sg : Nat) (do9 : Nat) (ru9 : Nat) (ta9 : Nat) (tp9 : Nat) (ro9 : Nat) (ho9 : Nat) (de9 : Nat) : Prop := MP l G yX11_again cX11_again 1 (some .int) 4 [.ref h0] [(h0, oX11 bb kk 0 sg do9 ru9 ta9 tp9 ro9 ho9 de9)] (fun r : Int32 => r = (-3))
set_option maxHeartbeats 4000000 in
set_option maxRecDepth 100000 in
theorem p_again_no (l : Launch) (G : GG) (h0 : Nat) (bb : Nat) (kk : Nat) (sg : Nat) (do9 : Nat) (ru9 : Nat) (ta9 : Nat) (tp9 : Nat) (ro9 : Nat) (ho9 : Nat) (de9 : Nat) : K_p_again_no l G h0 bb kk sg do9 ru9 ta9 tp9 ro9 ho9 de9 := by
  refine MP.start (by decide +kernel) (Nat.le_of_ble_eq_true rfl) ?_
  intro p e s m below meth c ls hC hK hP hD hl
  refine absQ (fun Q0 hQ0 => ?_)
  have hl : lv_has ls 1 [(0, .ref h0)] := hl
  refine Kan8 hC (fun hx hb hr hml hB hown hlocks hnm => ?_)
  refine lv_aload_n hx hb gX11_again_0.1 rfl (lv_at0 hl) ?_
  refine gf_X11_24 hC rfl hK hP 0 rfl rfl gX11_again_0.2.1 ?_
  refine lv_if_ne (tgt := 10) hx hb gX11_again_0.2.2.1 (by decide) (fun c9 => absurd (by decide) c9) (fun _ => ?_)
  refine lv_bipush (v := (-3)) hx hb gX11_again_0.2.2.2.1 (by decide) ?_
  refine toQ hQ0 ?_
  exact RP (v := (-3)) hC (rfl) rfl gX11_again_0.2.2.2.2.1
def K_p_saying (l : Launch) (G : GG) (h0 : Nat) (x1 : Int32) (x2 : Int32) (x3 : Int32) (x4 : Int32) (x5 : Int32) (x6 : Int32) (bb : Nat) (kk : Nat) (ikp : Int32) (sg : Nat) (do9 : Nat) (ru9 : Nat) (ta9 : Nat) (tp9 : Nat) (ro9 : Nat) (ho9 : Nat) (de9 : Nat) (bpersons : Nat) (bpapers : Nat) (bstamps : Nat) (bversions : Nat) (blines : Nat) (bsteps : Nat) (bsayings : Nat) (bfindings : Nat) (bwarnings : Nat) (bquestions : Nat) (td : Int32) (vd : Int32) (vl : Int32) (gp : Int32) (bsayingsc : Nat) (kbsayings : Nat) (fbsayings : Nat → Int32) (bpersonsc : Nat) (kbpersons : Nat) (bpapersc : Nat) (kbpapers : Nat) : Prop := MI l G yX11_saying cX11_saying 8 (some .int) 4 0 0 [.ref h0, .int x1, .int x2, .int x3, .int x4, .int x5, .int x6] [(h0, oX11 bb kk ikp sg do9 ru9 ta9 tp9 ro9 ho9 de9), (bb, oX0 bpersons bpapers bstamps bversions blines bsteps bsayings bfindings bwarnings bquestions td vd vl gp), (bsayings, oX8 16 8 bsayingsc (nI kbsayings)), (bsayingsc, iA G 128 fbsayings), (bpersons, oX8 10 2 bpersonsc (nI kbpersons)), (bpapers, oX8 12 6 bpapersc (nI kbpapers))] (fun (r : Int32) (u : Nat × (Nat → Int32)) => (r = ifc (Hs x1 kbpersons) (ifc (Hs x2 kbpersons) (ifc (Hs x3 kbpapers) (ifc (HOW x4) (ifc (TLK x6 kbsayings) (ifc (16 ≤ kbsayings) (-2) (nI kbsayings)) (-1)) (-1)) (-1)) (-1)) (-1)) ∧ (u.1 ≤ 16 ∧ kbsayings ≤ u.1 ∧ nI u.1 = ifc (Hs x1 kbpersons) (ifc (Hs x2 kbpersons) (ifc (Hs x3 kbpapers) (ifc (HOW x4) (ifc (TLK x6 kbsayings) (ifc (16 ≤ kbsayings) (nI kbsayings) (nI (kbsayings + 1))) (nI kbsayings)) (nI kbsayings)) (nI kbsayings)) (nI kbsayings)) (nI kbsayings) ∧ SPI u.2 u.1 kbpapers ∧ SPO u.2 u.1 kbpersons ∧ ∀ i : Nat, u.2 i = ifc (Hs x1 kbpersons) (ifc (Hs x2 kbpersons) (ifc (Hs x3 kbpapers) (ifc (HOW x4) (ifc (TLK x6 kbsayings) (ifc (16 ≤ kbsayings) (fbsayings i) (rowu fbsayings (kbsayings * 8) [x1, x2, x3, x4 / 10, x4 - x4 / 10 * 10, ifc (x5 = 0) 0 1, x6, td] i)) (fbsayings i)) (fbsayings i)) (fbsayings i)) (fbsayings i)) (fbsayings i))) (fun u : Nat × (Nat → Int32) => [(h0, oX11 bb kk ikp sg do9 ru9 ta9 tp9 ro9 ho9 de9), (bb, oX0 bpersons bpapers bstamps bversions blines bsteps bsayings bfindings bwarnings bquestions td vd vl gp), (bsayings, oX8 16 8 bsayingsc (nI u.1)), (bsayingsc, iA G 128 u.2), (bpersons, oX8 10 2 bpersonsc (nI kbpersons)), (bpapers, oX8 12 6 bpapersc (nI kbpapers))])
set_option maxHeartbeats 4000000 in
set_option maxRecDepth 100000 in
theorem p_saying (l : Launch) (G : GG) (h0 : Nat) (x1 : Int32) (x2 : Int32) (x3 : Int32) (x4 : Int32) (x5 : Int32) (x6 : Int32) (bb : Nat) (kk : Nat) (ikp : Int32) (sg : Nat) (do9 : Nat) (ru9 : Nat) (ta9 : Nat) (tp9 : Nat) (ro9 : Nat) (ho9 : Nat) (de9 : Nat) (bpersons : Nat) (bpapers : Nat) (bstamps : Nat) (bversions : Nat) (blines : Nat) (bsteps : Nat) (bsayings : Nat) (bfindings : Nat) (bwarnings : Nat) (bquestions : Nat) (td : Int32) (vd : Int32) (vl : Int32) (gp : Int32) (bsayingsc : Nat) (kbsayings : Nat) (fbsayings : Nat → Int32) (bpersonsc : Nat) (kbpersons : Nat) (bpapersc : Nat) (kbpapers : Nat) (hkbsayings : kbsayings ≤ 16) (hkbpersons : kbpersons ≤ 10) (hkbpapers : kbpapers ≤ 12) (hSP : SPI fbsayings kbsayings kbpapers) (hSO : SPO fbsayings kbsayings kbpersons) : K_p_saying l G h0 x1 x2 x3 x4 x5 x6 bb kk ikp sg do9 ru9 ta9 tp9 ro9 ho9 de9 bpersons bpapers bstamps bversions blines bsteps bsayings bfindings bwarnings bquestions td vd vl gp bsayingsc kbsayings fbsayings bpersonsc kbpersons bpapersc kbpapers := by
  refine MI.start (by decide +kernel) (Nat.le_of_ble_eq_true rfl) ?_
  intro p e s m below meth c A ls hC hK hP hD hS hA hl
  refine absQ (fun Q0 hQ0 => ?_)
  have hl : lv_has ls 8 [(0, .ref h0), (1, .int x1), (2, .int x2), (3, .int x3), (4, .int x4), (5, .int x5), (6, .int x6)] := hl
  refine Kan8 hC (fun hx hb hr hml hB hown hlocks hnm => ?_)
  refine lv_aload_n hx hb gX11_saying_0.1 rfl (lv_at0 hl) ?_
  refine gf_X11_15 hC rfl hK hP 0 rfl rfl gX11_saying_0.2.1 ?_
  refine gf_X11_107 hC rfl hK hP 1 rfl rfl gX11_saying_0.2.2.1 ?_
  refine lv_iload_n hx hb gX11_saying_0.2.2.2.1 rfl (lv_at1 hl) ?_
  refine pV hC hK hl hP hD (c_T_has l G bpersons x1 10 2 bpersonsc kbpersons) si_X11_124 [4] sm_4 fm_4 nd_4 rfl rfl rfl rfl rfl (Nat.le_of_ble_eq_true rfl) rm_4_1_2 ⟨by first | exact Nat.le_of_ble_eq_true rfl | exact Nat.zero_le _, by first | exact Nat.le_of_ble_eq_true rfl | exact Nat.zero_le _⟩ gX11_saying_0.2.2.2.2.1 (Kors (Keqa fun a1853 => ?_) (Keqa fun a1853 => ?_))
  · refine lv_if_eq (tgt := 42) hx hb gX11_saying_0.2.2.2.2.2.1 (by decide) (fun c9 => absurd c9 (by decide)) (fun _ => ?_)
    refine lv_aload_n hx hb gX11_saying_0.2.2.2.2.2.2.1 rfl (lv_at0 hl) ?_
    refine gf_X11_15 hC rfl hK hP 0 rfl rfl gX11_saying_0.2.2.2.2.2.2.2.1 ?_
    refine gf_X11_107 hC rfl hK hP 1 rfl rfl gX11_saying_0.2.2.2.2.2.2.2.2.1 ?_
    refine lv_iload_n hx hb gX11_saying_0.2.2.2.2.2.2.2.2.2 rfl (lv_at2 hl) ?_
    refine pV hC hK hl hP hD (c_T_has l G bpersons x2 10 2 bpersonsc kbpersons) si_X11_124 [4] sm_4 fm_4 nd_4 rfl rfl rfl rfl rfl (Nat.le_of_ble_eq_true rfl) rm_4_1_2 ⟨by first | exact Nat.le_of_ble_eq_true rfl | exact Nat.zero_le _, by first | exact Nat.le_of_ble_eq_true rfl | exact Nat.zero_le _⟩ gX11_saying_1.1 (Kors (Keqa fun a1855 => ?_) (Keqa fun a1855 => ?_))
    · refine lv_if_eq (tgt := 42) hx hb gX11_saying_1.2.1 (by decide) (fun c9 => absurd c9 (by decide)) (fun _ => ?_)
      refine lv_aload_n hx hb gX11_saying_1.2.2.1 rfl (lv_at0 hl) ?_
      refine gf_X11_15 hC rfl hK hP 0 rfl rfl gX11_saying_1.2.2.2.1 ?_
      refine gf_X11_144 hC rfl hK hP 1 rfl rfl gX11_saying_1.2.2.2.2.1 ?_
      refine lv_iload_n hx hb gX11_saying_1.2.2.2.2.2.1 rfl (lv_at3 hl) ?_
      refine pV hC hK hl hP hD (c_T_has l G bpapers x3 12 6 bpapersc kbpapers) si_X11_124 [5] sm_5 fm_5 nd_5 rfl rfl rfl rfl rfl (Nat.le_of_ble_eq_true rfl) rm_4_1_2 ⟨by first | exact Nat.le_of_ble_eq_true rfl | exact Nat.zero_le _, by first | exact Nat.le_of_ble_eq_true rfl | exact Nat.zero_le _⟩ gX11_saying_1.2.2.2.2.2.2.1 (Kors (Keqa fun a1857 => ?_) (Keqa fun a1857 => ?_))
      · refine lv_if_ne (tgt := 44) hx hb gX11_saying_1.2.2.2.2.2.2.2.1 (by decide) (fun _ => ?_) (fun c9 => absurd c9 (by decide))
        refine lv_iload hx hb gX11_saying_2.1 (lv_at4 hl) ?_
        refine lv_if_lt (tgt := 72) hx hb gX11_saying_2.2.1 (by decide) (fun c_46_1858 => ?_) (fun c_46_1858 => ?_)
        · refine lv_iconst (v := (-1)) hx hb gX11_saying_3.2.2.2.1 (by decide) ?_
          refine toQ hQ0 ?_
          exact RI (v := (-1)) hC hP hD hS [0, 1, 2, 3, 4, 5] (kbsayings, fbsayings) rfl rfl (by decide) (⟨(by first | rfl | (simp only [ifc_t hkbsayings, ifc_t hkbpersons, ifc_t hkbpapers, ifc_t hSP, ifc_t hSO, ifc_t a1853, ifc_t a1855, ifc_t a1857, ifc_t c_46_1858, ifc_f (how0 c_46_1858)]; done) | (simp only [ifc_t hkbsayings, ifc_t hkbpersons, ifc_t hkbpapers, ifc_t hSP, ifc_t hSO, ifc_t a1853, ifc_t a1855, ifc_t a1857, ifc_t c_46_1858, ifc_f (how0 c_46_1858)]; rfl) | (dsimp only; simp only [ifc_t hkbsayings, ifc_t hkbpersons, ifc_t hkbpapers, ifc_t hSP, ifc_t hSO, ifc_t a1853, ifc_t a1855, ifc_t a1857, ifc_t c_46_1858, ifc_f (how0 c_46_1858)]; done)), ⟨by omega, by omega, (by first | rfl | (simp only [ifc_t hkbsayings, ifc_t hkbpersons, ifc_t hkbpapers, ifc_t hSP, ifc_t hSO, ifc_t a1853, ifc_t a1855, ifc_t a1857, ifc_t c_46_1858, ifc_f (how0 c_46_1858)]; done) | (simp only [ifc_t hkbsayings, ifc_t hkbpersons, ifc_t hkbpapers, ifc_t hSP, ifc_t hSO, ifc_t a1853, ifc_t a1855, ifc_t a1857, ifc_t c_46_1858, ifc_f (how0 c_46_1858)]; rfl) | (dsimp only; simp only [ifc_t hkbsayings, ifc_t hkbpersons, ifc_t hkbpapers, ifc_t hSP, ifc_t hSO, ifc_t a1853, ifc_t a1855, ifc_t a1857, ifc_t c_46_1858, ifc_f (how0 c_46_1858)]; done)), hSP, hSO, (fun i => by first | rfl | (simp only [ifc_t hkbsayings, ifc_t hkbpersons, ifc_t hkbpapers, ifc_t hSP, ifc_t hSO, ifc_t a1853, ifc_t a1855, ifc_t a1857, ifc_t c_46_1858, ifc_f (how0 c_46_1858)]; done))⟩⟩) rfl gX11_saying_3.2.2.2.2.1
        · refine lv_iload hx hb gX11_saying_2.2.2.1 (lv_at4 hl) ?_
          refine lv_bipush (v := 10) hx hb gX11_saying_2.2.2.2.1 (by decide) ?_
          refine lv_idiv hx hb gX11_saying_2.2.2.2.2.1 (by decide) ?_
          refine lv_topi (fun x1859 ex1859 => ?_)
          refine lv_iconst (v := 0) hx hb gX11_saying_2.2.2.2.2.2.1 (by decide) ?_
          refine lv_sipush (v := 999) hx hb gX11_saying_2.2.2.2.2.2.2.1 (by decide) ?_
          refine pS hC hK hl (c_within l G x1859 0 999) si_X11_83 rfl rfl (Nat.le_of_ble_eq_true rfl) rm_4_1_3 ⟨by first | exact Nat.le_of_ble_eq_true rfl | exact Nat.zero_le _, by first | exact Nat.le_of_ble_eq_true rfl | exact Nat.zero_le _⟩ gX11_saying_2.2.2.2.2.2.2.2.1 (Kors (Keqa fun a1861 => ?_) (Keqa fun a1861 => ?_))
          · refine lv_if_eq (tgt := 72) hx hb gX11_saying_2.2.2.2.2.2.2.2.2.1 (by decide) (fun c9 => absurd c9 (by decide)) (fun _ => ?_)
            refine lv_iload hx hb gX11_saying_2.2.2.2.2.2.2.2.2.2 (lv_at4 hl) ?_
            refine lv_bipush (v := 10) hx hb gX11_saying_3.1 (by decide) ?_
            refine lv_irem hx hb gX11_saying_3.2.1 (by decide) ?_
            refine lv_topi (fun x1862 ex1862 => ?_)
            refine lv_if_ne (tgt := 74) hx hb gX11_saying_3.2.2.1 (by decide) (fun c_69_1863 => ?_) (fun c_69_1863 => ?_)
            · refine lv_iload hx hb gX11_saying_3.2.2.2.2.2.1 (lv_at6 hl) ?_
              refine lv_iconst (v := (-1)) hx hb gX11_saying_3.2.2.2.2.2.2.1 (by decide) ?_
              refine lv_icmp_eq (tgt := 97) hx hb gX11_saying_3.2.2.2.2.2.2.2.1 (by decide) (fun c_77_1864 => ?_) (fun c_77_1864 => ?_)
              · refine lv_aload_n hx hb gX11_saying_4.2.2.2.2.2.2.1 rfl (lv_at0 hl) ?_
                refine gf_X11_15 hC rfl hK hP 0 rfl rfl gX11_saying_4.2.2.2.2.2.2.2.1 ?_
                refine gf_X11_256 hC rfl hK hP 1 rfl rfl gX11_saying_4.2.2.2.2.2.2.2.2.1 ?_
                refine pV hC hK hl hP hD (c_T_isFull l G bsayings 16 8 bsayingsc kbsayings (hkbsayings) (by omega)) si_X11_111 [2] sm_2 fm_2 nd_2 rfl rfl rfl rfl rfl (Nat.le_of_ble_eq_true rfl) rm_4_1_1 ⟨by first | exact Nat.le_of_ble_eq_true rfl | exact Nat.zero_le _, by first | exact Nat.le_of_ble_eq_true rfl | exact Nat.zero_le _⟩ gX11_saying_4.2.2.2.2.2.2.2.2.2 (Kors (Keqa fun a1866 => ?_) (Keqa fun a1866 => ?_))
                · refine lv_if_eq (tgt := 113) hx hb gX11_saying_5.1 (by decide) (fun c9 => absurd c9 (by decide)) (fun _ => ?_)
                  refine lv_bipush (v := (-2)) hx hb gX11_saying_5.2.1 (by decide) ?_
                  refine toQ hQ0 ?_
                  exact RI (v := (-2)) hC hP hD hS [0, 1, 2, 3, 4, 5] (kbsayings, fbsayings) rfl rfl (by decide) (⟨(by first | rfl | (simp only [ifc_t hkbsayings, ifc_t hkbpersons, ifc_t hkbpapers, ifc_t hSP, ifc_t hSO, ifc_t a1853, ifc_t a1855, ifc_t a1857, ifc_f c_46_1858, ifc_t a1861, ifc_f c_69_1863, ifc_t c_77_1864, ifc_t a1866, ifc_t (howC c_46_1858 ex1859 a1861 ex1862 c_69_1863), ifc_t (q := TLK x6 kbsayings) (Or.inl c_77_1864)]; done) | (simp only [ifc_t hkbsayings, ifc_t hkbpersons, ifc_t hkbpapers, ifc_t hSP, ifc_t hSO, ifc_t a1853, ifc_t a1855, ifc_t a1857, ifc_f c_46_1858, ifc_t a1861, ifc_f c_69_1863, ifc_t c_77_1864, ifc_t a1866, ifc_t (howC c_46_1858 ex1859 a1861 ex1862 c_69_1863), ifc_t (q := TLK x6 kbsayings) (Or.inl c_77_1864)]; rfl) | (dsimp only; simp only [ifc_t hkbsayings, ifc_t hkbpersons, ifc_t hkbpapers, ifc_t hSP, ifc_t hSO, ifc_t a1853, ifc_t a1855, ifc_t a1857, ifc_f c_46_1858, ifc_t a1861, ifc_f c_69_1863, ifc_t c_77_1864, ifc_t a1866, ifc_t (howC c_46_1858 ex1859 a1861 ex1862 c_69_1863), ifc_t (q := TLK x6 kbsayings) (Or.inl c_77_1864)]; done)), ⟨by omega, by omega, (by first | rfl | (simp only [ifc_t hkbsayings, ifc_t hkbpersons, ifc_t hkbpapers, ifc_t hSP, ifc_t hSO, ifc_t a1853, ifc_t a1855, ifc_t a1857, ifc_f c_46_1858, ifc_t a1861, ifc_f c_69_1863, ifc_t c_77_1864, ifc_t a1866, ifc_t (howC c_46_1858 ex1859 a1861 ex1862 c_69_1863), ifc_t (q := TLK x6 kbsayings) (Or.inl c_77_1864)]; done) | (simp only [ifc_t hkbsayings, ifc_t hkbpersons, ifc_t hkbpapers, ifc_t hSP, ifc_t hSO, ifc_t a1853, ifc_t a1855, ifc_t a1857, ifc_f c_46_1858, ifc_t a1861, ifc_f c_69_1863, ifc_t c_77_1864, ifc_t a1866, ifc_t (howC c_46_1858 ex1859 a1861 ex1862 c_69_1863), ifc_t (q := TLK x6 kbsayings) (Or.inl c_77_1864)]; rfl) | (dsimp only; simp only [ifc_t hkbsayings, ifc_t hkbpersons, ifc_t hkbpapers, ifc_t hSP, ifc_t hSO, ifc_t a1853, ifc_t a1855, ifc_t a1857, ifc_f c_46_1858, ifc_t a1861, ifc_f c_69_1863, ifc_t c_77_1864, ifc_t a1866, ifc_t (howC c_46_1858 ex1859 a1861 ex1862 c_69_1863), ifc_t (q := TLK x6 kbsayings) (Or.inl c_77_1864)]; done)), hSP, hSO, (fun i => by first | rfl | (simp only [ifc_t hkbsayings, ifc_t hkbpersons, ifc_t hkbpapers, ifc_t hSP, ifc_t hSO, ifc_t a1853, ifc_t a1855, ifc_t a1857, ifc_f c_46_1858, ifc_t a1861, ifc_f c_69_1863, ifc_t c_77_1864, ifc_t a1866, ifc_t (howC c_46_1858 ex1859 a1861 ex1862 c_69_1863), ifc_t (q := TLK x6 kbsayings) (Or.inl c_77_1864)]; done))⟩⟩) rfl gX11_saying_5.2.2.1
                · refine lv_if_eq (tgt := 113) hx hb gX11_saying_5.1 (by decide) (fun _ => ?_) (fun c9 => absurd (by decide) c9)
                  refine lv_aload_n hx hb gX11_saying_5.2.2.2.1 rfl (lv_at0 hl) ?_
                  refine gf_X11_15 hC rfl hK hP 0 rfl rfl gX11_saying_5.2.2.2.2.1 ?_
                  refine gf_X11_256 hC rfl hK hP 1 rfl rfl gX11_saying_5.2.2.2.2.2.1 ?_
                  refine iV (wr := [(h0, oX11 bb kk ikp sg do9 ru9 ta9 tp9 ro9 ho9 de9), (bb, oX0 bpersons bpapers bstamps bversions blines bsteps bsayings bfindings bwarnings bquestions td vd vl gp), (bsayingsc, iA G 128 fbsayings), (bpersons, oX8 10 2 bpersonsc (nI kbpersons)), (bpapers, oX8 12 6 bpapersc (nI kbpapers))]) hC hK hl hP hD hS hA (c_T_append l G bsayings 16 8 bsayingsc kbsayings (a1866) (by omega)) si_X11_117 [2] [0, 1, 3, 4, 5] sm_2 fm_2 nd_2 sm_0_1_3_4_5 nd_0_1_3_4_5 dj_2__0_1_3_4_5 rfl rfl rfl rfl rfl (Nat.le_of_ble_eq_true rfl) rm_4_1_1 ⟨Nat.le_of_ble_eq_true rfl, Nat.le_of_ble_eq_true rfl⟩ gX11_saying_5.2.2.2.2.2.2.1 (fun r1867 u1868 H locs hr1867 hP hD hS => ?_)
                  refine Kpdr (ws := [(h0, oX11 bb kk ikp sg do9 ru9 ta9 tp9 ro9 ho9 de9), (bb, oX0 bpersons bpapers bstamps bversions blines bsteps bsayings bfindings bwarnings bquestions td vd vl gp), (bsayingsc, iA G 128 fbsayings), (bpersons, oX8 10 2 bpersonsc (nI kbpersons)), (bpapers, oX8 12 6 bpapersc (nI kbpapers)), (bsayings, oX8 16 8 bsayingsc (nI (kbsayings + 1)))]) hP hD (fun hP hD => ?_)
                  obtain rfl := hr1867
                  refine lv_istore (lv' := [(7, .int (nI kbsayings)), (0, .ref h0), (1, .int x1), (2, .int x2), (3, .int x3), (4, .int x4), (5, .int x5), (6, .int x6)]) hx hb gX11_saying_5.2.2.2.2.2.2.2.1 hl (by decide) rfl (fun ls hl => ?_)
                  refine lv_aload_n hx hb gX11_saying_5.2.2.2.2.2.2.2.2.1 rfl (lv_at1 hl) ?_
                  refine gf_X11_15 hC rfl hK hP 0 rfl rfl gX11_saying_5.2.2.2.2.2.2.2.2.2 ?_
                  refine gf_X11_256 hC rfl hK hP 1 rfl rfl gX11_saying_6.1 ?_
                  refine lv_iload hx hb gX11_saying_6.2.1 (lv_at0 hl) ?_
                  refine lv_iconst (v := 0) hx hb gX11_saying_6.2.2.1 (by decide) ?_
                  refine lv_iload_n hx hb gX11_saying_6.2.2.2.1 rfl (lv_at2 hl) ?_
                  refine vV (wr := [(h0, oX11 bb kk ikp sg do9 ru9 ta9 tp9 ro9 ho9 de9), (bb, oX0 bpersons bpapers bstamps bversions blines bsteps bsayings bfindings bwarnings bquestions td vd vl gp), (bpersons, oX8 10 2 bpersonsc (nI kbpersons)), (bpapers, oX8 12 6 bpapersc (nI kbpapers))]) hC hK hl hP hD hS hA (c_T_set l G bsayings (nI kbsayings) 0 x1 16 8 bsayingsc (kbsayings + 1) fbsayings (by omega) (by omega) (by omega)) si_X11_120 [5, 2] [0, 1, 3, 4] sm_5_2 fm_5_2 nd_5_2 sm_0_1_3_4 nd_0_1_3_4 dj_5_2__0_1_3_4 rfl rfl rfl rfl rfl (Nat.le_of_ble_eq_true rfl) rm_4_1_4 ⟨Nat.le_of_ble_eq_true rfl, Nat.le_of_ble_eq_true rfl⟩ gX11_saying_6.2.2.2.2.1 (fun f11872 H locs hr1870 hP hD hS => ?_)
                  try dsimp only at hr1870
                  refine Kpdr (ws := [(h0, oX11 bb kk ikp sg do9 ru9 ta9 tp9 ro9 ho9 de9), (bb, oX0 bpersons bpapers bstamps bversions blines bsteps bsayings bfindings bwarnings bquestions td vd vl gp), (bpersons, oX8 10 2 bpersonsc (nI kbpersons)), (bpapers, oX8 12 6 bpapersc (nI kbpapers)), (bsayings, oX8 16 8 bsayingsc (nI (kbsayings + 1))), (bsayingsc, iA G 128 f11872)]) hP hD (fun hP hD => ?_)
                  have w1873 := hr1870
                  refine lv_aload_n hx hb gX11_saying_6.2.2.2.2.2.1 rfl (lv_at1 hl) ?_
                  refine gf_X11_15 hC rfl hK hP 0 rfl rfl gX11_saying_6.2.2.2.2.2.2.1 ?_
                  refine gf_X11_256 hC rfl hK hP 1 rfl rfl gX11_saying_6.2.2.2.2.2.2.2.1 ?_
                  refine lv_iload hx hb gX11_saying_6.2.2.2.2.2.2.2.2.1 (lv_at0 hl) ?_
                  refine lv_iconst (v := 1) hx hb gX11_saying_6.2.2.2.2.2.2.2.2.2 (by decide) ?_
                  refine lv_iload_n hx hb gX11_saying_7.1 rfl (lv_at3 hl) ?_
                  refine vV (wr := [(h0, oX11 bb kk ikp sg do9 ru9 ta9 tp9 ro9 ho9 de9), (bb, oX0 bpersons bpapers bstamps bversions blines bsteps bsayings bfindings bwarnings bquestions td vd vl gp), (bpersons, oX8 10 2 bpersonsc (nI kbpersons)), (bpapers, oX8 12 6 bpapersc (nI kbpapers))]) hC hK hl hP hD hS hA (c_T_set l G bsayings (nI kbsayings) 1 x2 16 8 bsayingsc (kbsayings + 1) f11872 (by omega) (by omega) (by omega)) si_X11_120 [4, 5] [0, 1, 2, 3] sm_4_5 fm_4_5 nd_4_5 sm_0_1_2_3 nd_0_1_2_3 dj_4_5__0_1_2_3 rfl rfl rfl rfl rfl (Nat.le_of_ble_eq_true rfl) rm_4_1_4 ⟨Nat.le_of_ble_eq_true rfl, Nat.le_of_ble_eq_true rfl⟩ gX11_saying_7.2.1 (fun f11876 H locs hr1874 hP hD hS => ?_)
                  try dsimp only at hr1874
                  refine Kpdr (ws := [(h0, oX11 bb kk ikp sg do9 ru9 ta9 tp9 ro9 ho9 de9), (bb, oX0 bpersons bpapers bstamps bversions blines bsteps bsayings bfindings bwarnings bquestions td vd vl gp), (bpersons, oX8 10 2 bpersonsc (nI kbpersons)), (bpapers, oX8 12 6 bpapersc (nI kbpapers)), (bsayings, oX8 16 8 bsayingsc (nI (kbsayings + 1))), (bsayingsc, iA G 128 f11876)]) hP hD (fun hP hD => ?_)
                  have w1877 := hr1874
                  refine lv_aload_n hx hb gX11_saying_7.2.2.1 rfl (lv_at1 hl) ?_
                  refine gf_X11_15 hC rfl hK hP 0 rfl rfl gX11_saying_7.2.2.2.1 ?_
                  refine gf_X11_256 hC rfl hK hP 1 rfl rfl gX11_saying_7.2.2.2.2.1 ?_
                  refine lv_iload hx hb gX11_saying_7.2.2.2.2.2.1 (lv_at0 hl) ?_
                  refine lv_iconst (v := 2) hx hb gX11_saying_7.2.2.2.2.2.2.1 (by decide) ?_
                  refine lv_iload_n hx hb gX11_saying_7.2.2.2.2.2.2.2.1 rfl (lv_at4 hl) ?_
                  refine vV (wr := [(h0, oX11 bb kk ikp sg do9 ru9 ta9 tp9 ro9 ho9 de9), (bb, oX0 bpersons bpapers bstamps bversions blines bsteps bsayings bfindings bwarnings bquestions td vd vl gp), (bpersons, oX8 10 2 bpersonsc (nI kbpersons)), (bpapers, oX8 12 6 bpapersc (nI kbpapers))]) hC hK hl hP hD hS hA (c_T_set l G bsayings (nI kbsayings) 2 x3 16 8 bsayingsc (kbsayings + 1) f11876 (by omega) (by omega) (by omega)) si_X11_120 [4, 5] [0, 1, 2, 3] sm_4_5 fm_4_5 nd_4_5 sm_0_1_2_3 nd_0_1_2_3 dj_4_5__0_1_2_3 rfl rfl rfl rfl rfl (Nat.le_of_ble_eq_true rfl) rm_4_1_4 ⟨Nat.le_of_ble_eq_true rfl, Nat.le_of_ble_eq_true rfl⟩ gX11_saying_7.2.2.2.2.2.2.2.2.1 (fun f11880 H locs hr1878 hP hD hS => ?_)
                  try dsimp only at hr1878
                  refine Kpdr (ws := [(h0, oX11 bb kk ikp sg do9 ru9 ta9 tp9 ro9 ho9 de9), (bb, oX0 bpersons bpapers bstamps bversions blines bsteps bsayings bfindings bwarnings bquestions td vd vl gp), (bpersons, oX8 10 2 bpersonsc (nI kbpersons)), (bpapers, oX8 12 6 bpapersc (nI kbpapers)), (bsayings, oX8 16 8 bsayingsc (nI (kbsayings + 1))), (bsayingsc, iA G 128 f11880)]) hP hD (fun hP hD => ?_)
                  have w1881 := hr1878
                  refine lv_aload_n hx hb gX11_saying_7.2.2.2.2.2.2.2.2.2 rfl (lv_at1 hl) ?_
                  refine gf_X11_15 hC rfl hK hP 0 rfl rfl gX11_saying_8.1 ?_
                  refine gf_X11_256 hC rfl hK hP 1 rfl rfl gX11_saying_8.2.1 ?_
                  refine lv_iload hx hb gX11_saying_8.2.2.1 (lv_at0 hl) ?_
                  refine lv_iconst (v := 3) hx hb gX11_saying_8.2.2.2.1 (by decide) ?_
                  refine lv_iload hx hb gX11_saying_8.2.2.2.2.1 (lv_at5 hl) ?_
                  refine lv_bipush (v := 10) hx hb gX11_saying_8.2.2.2.2.2.1 (by decide) ?_
                  refine lv_idiv hx hb gX11_saying_8.2.2.2.2.2.2.1 (by decide) ?_
                  refine lv_topi (fun x1882 ex1882 => ?_)
                  refine vV (wr := [(h0, oX11 bb kk ikp sg do9 ru9 ta9 tp9 ro9 ho9 de9), (bb, oX0 bpersons bpapers bstamps bversions blines bsteps bsayings bfindings bwarnings bquestions td vd vl gp), (bpersons, oX8 10 2 bpersonsc (nI kbpersons)), (bpapers, oX8 12 6 bpapersc (nI kbpapers))]) hC hK hl hP hD hS hA (c_T_set l G bsayings (nI kbsayings) 3 x1882 16 8 bsayingsc (kbsayings + 1) f11880 (by omega) (by omega) (by omega)) si_X11_120 [4, 5] [0, 1, 2, 3] sm_4_5 fm_4_5 nd_4_5 sm_0_1_2_3 nd_0_1_2_3 dj_4_5__0_1_2_3 rfl rfl rfl rfl rfl (Nat.le_of_ble_eq_true rfl) rm_4_1_4 ⟨Nat.le_of_ble_eq_true rfl, Nat.le_of_ble_eq_true rfl⟩ gX11_saying_8.2.2.2.2.2.2.2.1 (fun f11885 H locs hr1883 hP hD hS => ?_)
                  try dsimp only at hr1883
                  refine Kpdr (ws := [(h0, oX11 bb kk ikp sg do9 ru9 ta9 tp9 ro9 ho9 de9), (bb, oX0 bpersons bpapers bstamps bversions blines bsteps bsayings bfindings bwarnings bquestions td vd vl gp), (bpersons, oX8 10 2 bpersonsc (nI kbpersons)), (bpapers, oX8 12 6 bpapersc (nI kbpapers)), (bsayings, oX8 16 8 bsayingsc (nI (kbsayings + 1))), (bsayingsc, iA G 128 f11885)]) hP hD (fun hP hD => ?_)
                  have w1886 := hr1883
                  refine lv_aload_n hx hb gX11_saying_8.2.2.2.2.2.2.2.2.1 rfl (lv_at1 hl) ?_
                  refine gf_X11_15 hC rfl hK hP 0 rfl rfl gX11_saying_8.2.2.2.2.2.2.2.2.2 ?_
                  refine gf_X11_256 hC rfl hK hP 1 rfl rfl gX11_saying_9.1 ?_
                  refine lv_iload hx hb gX11_saying_9.2.1 (lv_at0 hl) ?_
                  refine lv_iconst (v := 4) hx hb gX11_saying_9.2.2.1 (by decide) ?_
                  refine lv_iload hx hb gX11_saying_9.2.2.2.1 (lv_at5 hl) ?_
                  refine lv_bipush (v := 10) hx hb gX11_saying_9.2.2.2.2.1 (by decide) ?_
                  refine lv_irem hx hb gX11_saying_9.2.2.2.2.2.1 (by decide) ?_
                  refine lv_topi (fun x1887 ex1887 => ?_)
                  refine vV (wr := [(h0, oX11 bb kk ikp sg do9 ru9 ta9 tp9 ro9 ho9 de9), (bb, oX0 bpersons bpapers bstamps bversions blines bsteps bsayings bfindings bwarnings bquestions td vd vl gp), (bpersons, oX8 10 2 bpersonsc (nI kbpersons)), (bpapers, oX8 12 6 bpapersc (nI kbpapers))]) hC hK hl hP hD hS hA (c_T_set l G bsayings (nI kbsayings) 4 x1887 16 8 bsayingsc (kbsayings + 1) f11885 (by omega) (by omega) (by omega)) si_X11_120 [4, 5] [0, 1, 2, 3] sm_4_5 fm_4_5 nd_4_5 sm_0_1_2_3 nd_0_1_2_3 dj_4_5__0_1_2_3 rfl rfl rfl rfl rfl (Nat.le_of_ble_eq_true rfl) rm_4_1_4 ⟨Nat.le_of_ble_eq_true rfl, Nat.le_of_ble_eq_true rfl⟩ gX11_saying_9.2.2.2.2.2.2.1 (fun f11890 H locs hr1888 hP hD hS => ?_)
                  try dsimp only at hr1888
                  refine Kpdr (ws := [(h0, oX11 bb kk ikp sg do9 ru9 ta9 tp9 ro9 ho9 de9), (bb, oX0 bpersons bpapers bstamps bversions blines bsteps bsayings bfindings bwarnings bquestions td vd vl gp), (bpersons, oX8 10 2 bpersonsc (nI kbpersons)), (bpapers, oX8 12 6 bpapersc (nI kbpapers)), (bsayings, oX8 16 8 bsayingsc (nI (kbsayings + 1))), (bsayingsc, iA G 128 f11890)]) hP hD (fun hP hD => ?_)
                  have w1891 := hr1888
                  refine lv_aload_n hx hb gX11_saying_9.2.2.2.2.2.2.2.1 rfl (lv_at1 hl) ?_
                  refine gf_X11_15 hC rfl hK hP 0 rfl rfl gX11_saying_9.2.2.2.2.2.2.2.2.1 ?_
                  refine gf_X11_256 hC rfl hK hP 1 rfl rfl gX11_saying_9.2.2.2.2.2.2.2.2.2 ?_
                  refine lv_iload hx hb gX11_saying_10.1 (lv_at0 hl) ?_
                  refine lv_iconst (v := 5) hx hb gX11_saying_10.2.1 (by decide) ?_
                  refine lv_iload hx hb gX11_saying_10.2.2.1 (lv_at6 hl) ?_
                  refine lv_if_eq (tgt := 222) hx hb gX11_saying_10.2.2.2.1 (by decide) (fun c_215_1892 => ?_) (fun c_215_1892 => ?_)
                  · refine lv_iconst (v := 0) hx hb gX11_saying_10.2.2.2.2.2.2.1 (by decide) ?_
                    refine vV (wr := [(h0, oX11 bb kk ikp sg do9 ru9 ta9 tp9 ro9 ho9 de9), (bb, oX0 bpersons bpapers bstamps bversions blines bsteps bsayings bfindings bwarnings bquestions td vd vl gp), (bpersons, oX8 10 2 bpersonsc (nI kbpersons)), (bpapers, oX8 12 6 bpapersc (nI kbpapers))]) hC hK hl hP hD hS hA (c_T_set l G bsayings (nI kbsayings) 5 0 16 8 bsayingsc (kbsayings + 1) f11890 (by omega) (by omega) (by omega)) si_X11_120 [4, 5] [0, 1, 2, 3] sm_4_5 fm_4_5 nd_4_5 sm_0_1_2_3 nd_0_1_2_3 dj_4_5__0_1_2_3 rfl rfl rfl rfl rfl (Nat.le_of_ble_eq_true rfl) rm_4_1_4 ⟨Nat.le_of_ble_eq_true rfl, Nat.le_of_ble_eq_true rfl⟩ gX11_saying_10.2.2.2.2.2.2.2.1 (fun f11895 H locs hr1893 hP hD hS => ?_)
                    try dsimp only at hr1893
                    refine Kpdr (ws := [(h0, oX11 bb kk ikp sg do9 ru9 ta9 tp9 ro9 ho9 de9), (bb, oX0 bpersons bpapers bstamps bversions blines bsteps bsayings bfindings bwarnings bquestions td vd vl gp), (bpersons, oX8 10 2 bpersonsc (nI kbpersons)), (bpapers, oX8 12 6 bpapersc (nI kbpapers)), (bsayings, oX8 16 8 bsayingsc (nI (kbsayings + 1))), (bsayingsc, iA G 128 f11895)]) hP hD (fun hP hD => ?_)
                    have w1896 := hr1893
                    refine lv_aload_n hx hb gX11_saying_10.2.2.2.2.2.2.2.2.1 rfl (lv_at1 hl) ?_
                    refine gf_X11_15 hC rfl hK hP 0 rfl rfl gX11_saying_10.2.2.2.2.2.2.2.2.2 ?_
                    refine gf_X11_256 hC rfl hK hP 1 rfl rfl gX11_saying_11.1 ?_
                    refine lv_iload hx hb gX11_saying_11.2.1 (lv_at0 hl) ?_
                    refine lv_bipush (v := 6) hx hb gX11_saying_11.2.2.1 (by decide) ?_
                    refine lv_iload hx hb gX11_saying_11.2.2.2.1 (lv_at7 hl) ?_
                    refine vV (wr := [(h0, oX11 bb kk ikp sg do9 ru9 ta9 tp9 ro9 ho9 de9), (bb, oX0 bpersons bpapers bstamps bversions blines bsteps bsayings bfindings bwarnings bquestions td vd vl gp), (bpersons, oX8 10 2 bpersonsc (nI kbpersons)), (bpapers, oX8 12 6 bpapersc (nI kbpapers))]) hC hK hl hP hD hS hA (c_T_set l G bsayings (nI kbsayings) 6 x6 16 8 bsayingsc (kbsayings + 1) f11895 (by omega) (by omega) (by omega)) si_X11_120 [4, 5] [0, 1, 2, 3] sm_4_5 fm_4_5 nd_4_5 sm_0_1_2_3 nd_0_1_2_3 dj_4_5__0_1_2_3 rfl rfl rfl rfl rfl (Nat.le_of_ble_eq_true rfl) rm_4_1_4 ⟨Nat.le_of_ble_eq_true rfl, Nat.le_of_ble_eq_true rfl⟩ gX11_saying_11.2.2.2.2.1 (fun f11899 H locs hr1897 hP hD hS => ?_)
                    try dsimp only at hr1897
                    refine Kpdr (ws := [(h0, oX11 bb kk ikp sg do9 ru9 ta9 tp9 ro9 ho9 de9), (bb, oX0 bpersons bpapers bstamps bversions blines bsteps bsayings bfindings bwarnings bquestions td vd vl gp), (bpersons, oX8 10 2 bpersonsc (nI kbpersons)), (bpapers, oX8 12 6 bpapersc (nI kbpapers)), (bsayings, oX8 16 8 bsayingsc (nI (kbsayings + 1))), (bsayingsc, iA G 128 f11899)]) hP hD (fun hP hD => ?_)
                    have w1900 := hr1897
                    refine lv_aload_n hx hb gX11_saying_11.2.2.2.2.2.1 rfl (lv_at1 hl) ?_
                    refine gf_X11_15 hC rfl hK hP 0 rfl rfl gX11_saying_11.2.2.2.2.2.2.1 ?_
                    refine gf_X11_256 hC rfl hK hP 1 rfl rfl gX11_saying_11.2.2.2.2.2.2.2.1 ?_
                    refine lv_iload hx hb gX11_saying_11.2.2.2.2.2.2.2.2.1 (lv_at0 hl) ?_
                    refine lv_bipush (v := 7) hx hb gX11_saying_11.2.2.2.2.2.2.2.2.2 (by decide) ?_
                    refine lv_aload_n hx hb gX11_saying_12.1 rfl (lv_at1 hl) ?_
                    refine gf_X11_15 hC rfl hK hP 0 rfl rfl gX11_saying_12.2.1 ?_
                    refine gf_X11_87 hC rfl hK hP 1 rfl rfl gX11_saying_12.2.2.1 ?_
                    refine vV (wr := [(h0, oX11 bb kk ikp sg do9 ru9 ta9 tp9 ro9 ho9 de9), (bb, oX0 bpersons bpapers bstamps bversions blines bsteps bsayings bfindings bwarnings bquestions td vd vl gp), (bpersons, oX8 10 2 bpersonsc (nI kbpersons)), (bpapers, oX8 12 6 bpapersc (nI kbpapers))]) hC hK hl hP hD hS hA (c_T_set l G bsayings (nI kbsayings) 7 td 16 8 bsayingsc (kbsayings + 1) f11899 (by omega) (by omega) (by omega)) si_X11_120 [4, 5] [0, 1, 2, 3] sm_4_5 fm_4_5 nd_4_5 sm_0_1_2_3 nd_0_1_2_3 dj_4_5__0_1_2_3 rfl rfl rfl rfl rfl (Nat.le_of_ble_eq_true rfl) rm_4_1_4 ⟨Nat.le_of_ble_eq_true rfl, Nat.le_of_ble_eq_true rfl⟩ gX11_saying_12.2.2.2.1 (fun f11903 H locs hr1901 hP hD hS => ?_)
                    try dsimp only at hr1901
                    refine Kpdr (ws := [(h0, oX11 bb kk ikp sg do9 ru9 ta9 tp9 ro9 ho9 de9), (bb, oX0 bpersons bpapers bstamps bversions blines bsteps bsayings bfindings bwarnings bquestions td vd vl gp), (bpersons, oX8 10 2 bpersonsc (nI kbpersons)), (bpapers, oX8 12 6 bpapersc (nI kbpapers)), (bsayings, oX8 16 8 bsayingsc (nI (kbsayings + 1))), (bsayingsc, iA G 128 f11903)]) hP hD (fun hP hD => ?_)
                    have w1904 := hr1901
                    refine lv_iload hx hb gX11_saying_12.2.2.2.2.1 (lv_at0 hl) ?_
                    have tt1905 : f11872 = upd fbsayings (kbsayings * 8 + 0) x1 := w1873.symm.trans (ts1 (by decide) (by decide) (by omega) rfl)
                    have tt1906 : f11876 = upd f11872 (kbsayings * 8 + 1) x2 := w1877.symm.trans (ts1 (by decide) (by decide) (by omega) rfl)
                    have tt1907 : f11880 = upd f11876 (kbsayings * 8 + 2) x3 := w1881.symm.trans (ts1 (by decide) (by decide) (by omega) rfl)
                    have tt1908 : f11885 = upd f11880 (kbsayings * 8 + 3) x1882 := w1886.symm.trans (ts1 (by decide) (by decide) (by omega) rfl)
                    have tt1909 : f11890 = upd f11885 (kbsayings * 8 + 4) x1887 := w1891.symm.trans (ts1 (by decide) (by decide) (by omega) rfl)
                    have tt1910 : f11895 = upd f11890 (kbsayings * 8 + 5) 0 := w1896.symm.trans (ts1 (by decide) (by decide) (by omega) rfl)
                    have tt1911 : f11899 = upd f11895 (kbsayings * 8 + 6) x6 := w1900.symm.trans (ts1 (by decide) (by decide) (by omega) rfl)
                    have tt1912 : f11903 = upd f11899 (kbsayings * 8 + 7) td := w1904.symm.trans (ts1 (by decide) (by decide) (by omega) rfl)
                    have tu1913 : f11903 = rowu fbsayings (kbsayings * 8) [x1, x2, x3, x1882, x1887, 0, x6, td] := by rw [tt1912, tt1911, tt1910, tt1909, tt1908, tt1907, tt1906, tt1905]; rfl
                    refine toQ hQ0 ?_
                    exact RI (v := nI kbsayings) hC hP hD hS [0, 1, 4, 5, 2, 3] ((kbsayings + 1), f11903) rfl rfl (by decide) (⟨(by first | rfl | (simp only [ifc_t hkbsayings, ifc_t hkbpersons, ifc_t hkbpapers, ifc_t hSP, ifc_t hSO, ifc_t a1853, ifc_t a1855, ifc_t a1857, ifc_f c_46_1858, ifc_t a1861, ifc_f c_69_1863, ifc_t c_77_1864, ifc_t a1866, ifc_t c_215_1892, ifc_f (Nat.not_le.mpr a1866), ifc_t (howC c_46_1858 ex1859 a1861 ex1862 c_69_1863), ifc_t (q := TLK x6 kbsayings) (Or.inl c_77_1864)]; done) | (simp only [ifc_t hkbsayings, ifc_t hkbpersons, ifc_t hkbpapers, ifc_t hSP, ifc_t hSO, ifc_t a1853, ifc_t a1855, ifc_t a1857, ifc_f c_46_1858, ifc_t a1861, ifc_f c_69_1863, ifc_t c_77_1864, ifc_t a1866, ifc_t c_215_1892, ifc_f (Nat.not_le.mpr a1866), ifc_t (howC c_46_1858 ex1859 a1861 ex1862 c_69_1863), ifc_t (q := TLK x6 kbsayings) (Or.inl c_77_1864)]; rfl) | (dsimp only; simp only [ifc_t hkbsayings, ifc_t hkbpersons, ifc_t hkbpapers, ifc_t hSP, ifc_t hSO, ifc_t a1853, ifc_t a1855, ifc_t a1857, ifc_f c_46_1858, ifc_t a1861, ifc_f c_69_1863, ifc_t c_77_1864, ifc_t a1866, ifc_t c_215_1892, ifc_f (Nat.not_le.mpr a1866), ifc_t (howC c_46_1858 ex1859 a1861 ex1862 c_69_1863), ifc_t (q := TLK x6 kbsayings) (Or.inl c_77_1864)]; done)), ⟨by omega, by omega, (by first | rfl | (simp only [ifc_t hkbsayings, ifc_t hkbpersons, ifc_t hkbpapers, ifc_t hSP, ifc_t hSO, ifc_t a1853, ifc_t a1855, ifc_t a1857, ifc_f c_46_1858, ifc_t a1861, ifc_f c_69_1863, ifc_t c_77_1864, ifc_t a1866, ifc_t c_215_1892, ifc_f (Nat.not_le.mpr a1866), ifc_t (howC c_46_1858 ex1859 a1861 ex1862 c_69_1863), ifc_t (q := TLK x6 kbsayings) (Or.inl c_77_1864)]; done) | (simp only [ifc_t hkbsayings, ifc_t hkbpersons, ifc_t hkbpapers, ifc_t hSP, ifc_t hSO, ifc_t a1853, ifc_t a1855, ifc_t a1857, ifc_f c_46_1858, ifc_t a1861, ifc_f c_69_1863, ifc_t c_77_1864, ifc_t a1866, ifc_t c_215_1892, ifc_f (Nat.not_le.mpr a1866), ifc_t (howC c_46_1858 ex1859 a1861 ex1862 c_69_1863), ifc_t (q := TLK x6 kbsayings) (Or.inl c_77_1864)]; rfl) | (dsimp only; simp only [ifc_t hkbsayings, ifc_t hkbpersons, ifc_t hkbpapers, ifc_t hSP, ifc_t hSO, ifc_t a1853, ifc_t a1855, ifc_t a1857, ifc_f c_46_1858, ifc_t a1861, ifc_f c_69_1863, ifc_t c_77_1864, ifc_t a1866, ifc_t c_215_1892, ifc_f (Nat.not_le.mpr a1866), ifc_t (howC c_46_1858 ex1859 a1861 ex1862 c_69_1863), ifc_t (q := TLK x6 kbsayings) (Or.inl c_77_1864)]; done)), (by rw [tu1913]; exact SPI.row hSP a1857), (by rw [tu1913]; exact SPO.row hSO a1855 (HOW.hour (howC c_46_1858 ex1859 a1861 ex1862 c_69_1863) ex1882) (HOW.wgt (howC c_46_1858 ex1859 a1861 ex1862 c_69_1863) ex1887)), (fun i => by simp only [ifc_t hkbsayings, ifc_t hkbpersons, ifc_t hkbpapers, ifc_t hSP, ifc_t hSO, ifc_t a1853, ifc_t a1855, ifc_t a1857, ifc_f c_46_1858, ifc_t a1861, ifc_f c_69_1863, ifc_t c_77_1864, ifc_t a1866, ifc_t c_215_1892, ifc_f (Nat.not_le.mpr a1866), ifc_t (howC c_46_1858 ex1859 a1861 ex1862 c_69_1863), ifc_t (q := TLK x6 kbsayings) (Or.inl c_77_1864)]; rw [tu1913]; simp only [ex1882, ex1887])⟩⟩) rfl gX11_saying_12.2.2.2.2.2
                  · refine lv_iconst (v := 1) hx hb gX11_saying_10.2.2.2.2.1 (by decide) ?_
                    refine lv_goto (tgt := 223) hx hb gX11_saying_10.2.2.2.2.2.1 (by decide) ?_
                    refine vV (wr := [(h0, oX11 bb kk ikp sg do9 ru9 ta9 tp9 ro9 ho9 de9), (bb, oX0 bpersons bpapers bstamps bversions blines bsteps bsayings bfindings bwarnings bquestions td vd vl gp), (bpersons, oX8 10 2 bpersonsc (nI kbpersons)), (bpapers, oX8 12 6 bpapersc (nI kbpapers))]) hC hK hl hP hD hS hA (c_T_set l G bsayings (nI kbsayings) 5 1 16 8 bsayingsc (kbsayings + 1) f11890 (by omega) (by omega) (by omega)) si_X11_120 [4, 5] [0, 1, 2, 3] sm_4_5 fm_4_5 nd_4_5 sm_0_1_2_3 nd_0_1_2_3 dj_4_5__0_1_2_3 rfl rfl rfl rfl rfl (Nat.le_of_ble_eq_true rfl) rm_4_1_4 ⟨Nat.le_of_ble_eq_true rfl, Nat.le_of_ble_eq_true rfl⟩ gX11_saying_10.2.2.2.2.2.2.2.1 (fun f11916 H locs hr1914 hP hD hS => ?_)
                    try dsimp only at hr1914
                    refine Kpdr (ws := [(h0, oX11 bb kk ikp sg do9 ru9 ta9 tp9 ro9 ho9 de9), (bb, oX0 bpersons bpapers bstamps bversions blines bsteps bsayings bfindings bwarnings bquestions td vd vl gp), (bpersons, oX8 10 2 bpersonsc (nI kbpersons)), (bpapers, oX8 12 6 bpapersc (nI kbpapers)), (bsayings, oX8 16 8 bsayingsc (nI (kbsayings + 1))), (bsayingsc, iA G 128 f11916)]) hP hD (fun hP hD => ?_)
                    have w1917 := hr1914
                    refine lv_aload_n hx hb gX11_saying_10.2.2.2.2.2.2.2.2.1 rfl (lv_at1 hl) ?_
                    refine gf_X11_15 hC rfl hK hP 0 rfl rfl gX11_saying_10.2.2.2.2.2.2.2.2.2 ?_
                    refine gf_X11_256 hC rfl hK hP 1 rfl rfl gX11_saying_11.1 ?_
                    refine lv_iload hx hb gX11_saying_11.2.1 (lv_at0 hl) ?_
                    refine lv_bipush (v := 6) hx hb gX11_saying_11.2.2.1 (by decide) ?_
                    refine lv_iload hx hb gX11_saying_11.2.2.2.1 (lv_at7 hl) ?_
                    refine vV (wr := [(h0, oX11 bb kk ikp sg do9 ru9 ta9 tp9 ro9 ho9 de9), (bb, oX0 bpersons bpapers bstamps bversions blines bsteps bsayings bfindings bwarnings bquestions td vd vl gp), (bpersons, oX8 10 2 bpersonsc (nI kbpersons)), (bpapers, oX8 12 6 bpapersc (nI kbpapers))]) hC hK hl hP hD hS hA (c_T_set l G bsayings (nI kbsayings) 6 x6 16 8 bsayingsc (kbsayings + 1) f11916 (by omega) (by omega) (by omega)) si_X11_120 [4, 5] [0, 1, 2, 3] sm_4_5 fm_4_5 nd_4_5 sm_0_1_2_3 nd_0_1_2_3 dj_4_5__0_1_2_3 rfl rfl rfl rfl rfl (Nat.le_of_ble_eq_true rfl) rm_4_1_4 ⟨Nat.le_of_ble_eq_true rfl, Nat.le_of_ble_eq_true rfl⟩ gX11_saying_11.2.2.2.2.1 (fun f11920 H locs hr1918 hP hD hS => ?_)
                    try dsimp only at hr1918
                    refine Kpdr (ws := [(h0, oX11 bb kk ikp sg do9 ru9 ta9 tp9 ro9 ho9 de9), (bb, oX0 bpersons bpapers bstamps bversions blines bsteps bsayings bfindings bwarnings bquestions td vd vl gp), (bpersons, oX8 10 2 bpersonsc (nI kbpersons)), (bpapers, oX8 12 6 bpapersc (nI kbpapers)), (bsayings, oX8 16 8 bsayingsc (nI (kbsayings + 1))), (bsayingsc, iA G 128 f11920)]) hP hD (fun hP hD => ?_)
                    have w1921 := hr1918
                    refine lv_aload_n hx hb gX11_saying_11.2.2.2.2.2.1 rfl (lv_at1 hl) ?_
                    refine gf_X11_15 hC rfl hK hP 0 rfl rfl gX11_saying_11.2.2.2.2.2.2.1 ?_
                    refine gf_X11_256 hC rfl hK hP 1 rfl rfl gX11_saying_11.2.2.2.2.2.2.2.1 ?_
                    refine lv_iload hx hb gX11_saying_11.2.2.2.2.2.2.2.2.1 (lv_at0 hl) ?_
                    refine lv_bipush (v := 7) hx hb gX11_saying_11.2.2.2.2.2.2.2.2.2 (by decide) ?_
                    refine lv_aload_n hx hb gX11_saying_12.1 rfl (lv_at1 hl) ?_
                    refine gf_X11_15 hC rfl hK hP 0 rfl rfl gX11_saying_12.2.1 ?_
                    refine gf_X11_87 hC rfl hK hP 1 rfl rfl gX11_saying_12.2.2.1 ?_
                    refine vV (wr := [(h0, oX11 bb kk ikp sg do9 ru9 ta9 tp9 ro9 ho9 de9), (bb, oX0 bpersons bpapers bstamps bversions blines bsteps bsayings bfindings bwarnings bquestions td vd vl gp), (bpersons, oX8 10 2 bpersonsc (nI kbpersons)), (bpapers, oX8 12 6 bpapersc (nI kbpapers))]) hC hK hl hP hD hS hA (c_T_set l G bsayings (nI kbsayings) 7 td 16 8 bsayingsc (kbsayings + 1) f11920 (by omega) (by omega) (by omega)) si_X11_120 [4, 5] [0, 1, 2, 3] sm_4_5 fm_4_5 nd_4_5 sm_0_1_2_3 nd_0_1_2_3 dj_4_5__0_1_2_3 rfl rfl rfl rfl rfl (Nat.le_of_ble_eq_true rfl) rm_4_1_4 ⟨Nat.le_of_ble_eq_true rfl, Nat.le_of_ble_eq_true rfl⟩ gX11_saying_12.2.2.2.1 (fun f11924 H locs hr1922 hP hD hS => ?_)
                    try dsimp only at hr1922
                    refine Kpdr (ws := [(h0, oX11 bb kk ikp sg do9 ru9 ta9 tp9 ro9 ho9 de9), (bb, oX0 bpersons bpapers bstamps bversions blines bsteps bsayings bfindings bwarnings bquestions td vd vl gp), (bpersons, oX8 10 2 bpersonsc (nI kbpersons)), (bpapers, oX8 12 6 bpapersc (nI kbpapers)), (bsayings, oX8 16 8 bsayingsc (nI (kbsayings + 1))), (bsayingsc, iA G 128 f11924)]) hP hD (fun hP hD => ?_)
                    have w1925 := hr1922
                    refine lv_iload hx hb gX11_saying_12.2.2.2.2.1 (lv_at0 hl) ?_
                    have tt1926 : f11872 = upd fbsayings (kbsayings * 8 + 0) x1 := w1873.symm.trans (ts1 (by decide) (by decide) (by omega) rfl)
                    have tt1927 : f11876 = upd f11872 (kbsayings * 8 + 1) x2 := w1877.symm.trans (ts1 (by decide) (by decide) (by omega) rfl)
                    have tt1928 : f11880 = upd f11876 (kbsayings * 8 + 2) x3 := w1881.symm.trans (ts1 (by decide) (by decide) (by omega) rfl)
                    have tt1929 : f11885 = upd f11880 (kbsayings * 8 + 3) x1882 := w1886.symm.trans (ts1 (by decide) (by decide) (by omega) rfl)
                    have tt1930 : f11890 = upd f11885 (kbsayings * 8 + 4) x1887 := w1891.symm.trans (ts1 (by decide) (by decide) (by omega) rfl)
                    have tt1931 : f11916 = upd f11890 (kbsayings * 8 + 5) 1 := w1917.symm.trans (ts1 (by decide) (by decide) (by omega) rfl)
                    have tt1932 : f11920 = upd f11916 (kbsayings * 8 + 6) x6 := w1921.symm.trans (ts1 (by decide) (by decide) (by omega) rfl)
                    have tt1933 : f11924 = upd f11920 (kbsayings * 8 + 7) td := w1925.symm.trans (ts1 (by decide) (by decide) (by omega) rfl)
                    have tu1934 : f11924 = rowu fbsayings (kbsayings * 8) [x1, x2, x3, x1882, x1887, 1, x6, td] := by rw [tt1933, tt1932, tt1931, tt1930, tt1929, tt1928, tt1927, tt1926]; rfl
                    refine toQ hQ0 ?_
                    exact RI (v := nI kbsayings) hC hP hD hS [0, 1, 4, 5, 2, 3] ((kbsayings + 1), f11924) rfl rfl (by decide) (⟨(by first | rfl | (simp only [ifc_t hkbsayings, ifc_t hkbpersons, ifc_t hkbpapers, ifc_t hSP, ifc_t hSO, ifc_t a1853, ifc_t a1855, ifc_t a1857, ifc_f c_46_1858, ifc_t a1861, ifc_f c_69_1863, ifc_t c_77_1864, ifc_t a1866, ifc_f c_215_1892, ifc_f (Nat.not_le.mpr a1866), ifc_t (howC c_46_1858 ex1859 a1861 ex1862 c_69_1863), ifc_t (q := TLK x6 kbsayings) (Or.inl c_77_1864)]; done) | (simp only [ifc_t hkbsayings, ifc_t hkbpersons, ifc_t hkbpapers, ifc_t hSP, ifc_t hSO, ifc_t a1853, ifc_t a1855, ifc_t a1857, ifc_f c_46_1858, ifc_t a1861, ifc_f c_69_1863, ifc_t c_77_1864, ifc_t a1866, ifc_f c_215_1892, ifc_f (Nat.not_le.mpr a1866), ifc_t (howC c_46_1858 ex1859 a1861 ex1862 c_69_1863), ifc_t (q := TLK x6 kbsayings) (Or.inl c_77_1864)]; rfl) | (dsimp only; simp only [ifc_t hkbsayings, ifc_t hkbpersons, ifc_t hkbpapers, ifc_t hSP, ifc_t hSO, ifc_t a1853, ifc_t a1855, ifc_t a1857, ifc_f c_46_1858, ifc_t a1861, ifc_f c_69_1863, ifc_t c_77_1864, ifc_t a1866, ifc_f c_215_1892, ifc_f (Nat.not_le.mpr a1866), ifc_t (howC c_46_1858 ex1859 a1861 ex1862 c_69_1863), ifc_t (q := TLK x6 kbsayings) (Or.inl c_77_1864)]; done)), ⟨by omega, by omega, (by first | rfl | (simp only [ifc_t hkbsayings, ifc_t hkbpersons, ifc_t hkbpapers, ifc_t hSP, ifc_t hSO, ifc_t a1853, ifc_t a1855, ifc_t a1857, ifc_f c_46_1858, ifc_t a1861, ifc_f c_69_1863, ifc_t c_77_1864, ifc_t a1866, ifc_f c_215_1892, ifc_f (Nat.not_le.mpr a1866), ifc_t (howC c_46_1858 ex1859 a1861 ex1862 c_69_1863), ifc_t (q := TLK x6 kbsayings) (Or.inl c_77_1864)]; done) | (simp only [ifc_t hkbsayings, ifc_t hkbpersons, ifc_t hkbpapers, ifc_t hSP, ifc_t hSO, ifc_t a1853, ifc_t a1855, ifc_t a1857, ifc_f c_46_1858, ifc_t a1861, ifc_f c_69_1863, ifc_t c_77_1864, ifc_t a1866, ifc_f c_215_1892, ifc_f (Nat.not_le.mpr a1866), ifc_t (howC c_46_1858 ex1859 a1861 ex1862 c_69_1863), ifc_t (q := TLK x6 kbsayings) (Or.inl c_77_1864)]; rfl) | (dsimp only; simp only [ifc_t hkbsayings, ifc_t hkbpersons, ifc_t hkbpapers, ifc_t hSP, ifc_t hSO, ifc_t a1853, ifc_t a1855, ifc_t a1857, ifc_f c_46_1858, ifc_t a1861, ifc_f c_69_1863, ifc_t c_77_1864, ifc_t a1866, ifc_f c_215_1892, ifc_f (Nat.not_le.mpr a1866), ifc_t (howC c_46_1858 ex1859 a1861 ex1862 c_69_1863), ifc_t (q := TLK x6 kbsayings) (Or.inl c_77_1864)]; done)), (by rw [tu1934]; exact SPI.row hSP a1857), (by rw [tu1934]; exact SPO.row hSO a1855 (HOW.hour (howC c_46_1858 ex1859 a1861 ex1862 c_69_1863) ex1882) (HOW.wgt (howC c_46_1858 ex1859 a1861 ex1862 c_69_1863) ex1887)), (fun i => by simp only [ifc_t hkbsayings, ifc_t hkbpersons, ifc_t hkbpapers, ifc_t hSP, ifc_t hSO, ifc_t a1853, ifc_t a1855, ifc_t a1857, ifc_f c_46_1858, ifc_t a1861, ifc_f c_69_1863, ifc_t c_77_1864, ifc_t a1866, ifc_f c_215_1892, ifc_f (Nat.not_le.mpr a1866), ifc_t (howC c_46_1858 ex1859 a1861 ex1862 c_69_1863), ifc_t (q := TLK x6 kbsayings) (Or.inl c_77_1864)]; rw [tu1934]; simp only [ex1882, ex1887])⟩⟩) rfl gX11_saying_12.2.2.2.2.2
              · refine lv_aload_n hx hb gX11_saying_3.2.2.2.2.2.2.2.2.1 rfl (lv_at0 hl) ?_
                refine gf_X11_15 hC rfl hK hP 0 rfl rfl gX11_saying_3.2.2.2.2.2.2.2.2.2 ?_
                refine gf_X11_256 hC rfl hK hP 1 rfl rfl gX11_saying_4.1 ?_
                refine lv_iload hx hb gX11_saying_4.2.1 (lv_at6 hl) ?_
                refine pV hC hK hl hP hD (c_T_has l G bsayings x6 16 8 bsayingsc kbsayings) si_X11_124 [2] sm_2 fm_2 nd_2 rfl rfl rfl rfl rfl (Nat.le_of_ble_eq_true rfl) rm_4_1_2 ⟨by first | exact Nat.le_of_ble_eq_true rfl | exact Nat.zero_le _, by first | exact Nat.le_of_ble_eq_true rfl | exact Nat.zero_le _⟩ gX11_saying_4.2.2.1 (Kors (Keqa fun a1936 => ?_) (Keqa fun a1936 => ?_))
                · refine lv_if_ne (tgt := 97) hx hb gX11_saying_4.2.2.2.1 (by decide) (fun _ => ?_) (fun c9 => absurd c9 (by decide))
                  refine lv_aload_n hx hb gX11_saying_4.2.2.2.2.2.2.1 rfl (lv_at0 hl) ?_
                  refine gf_X11_15 hC rfl hK hP 0 rfl rfl gX11_saying_4.2.2.2.2.2.2.2.1 ?_
                  refine gf_X11_256 hC rfl hK hP 1 rfl rfl gX11_saying_4.2.2.2.2.2.2.2.2.1 ?_
                  refine pV hC hK hl hP hD (c_T_isFull l G bsayings 16 8 bsayingsc kbsayings (hkbsayings) (by omega)) si_X11_111 [2] sm_2 fm_2 nd_2 rfl rfl rfl rfl rfl (Nat.le_of_ble_eq_true rfl) rm_4_1_1 ⟨by first | exact Nat.le_of_ble_eq_true rfl | exact Nat.zero_le _, by first | exact Nat.le_of_ble_eq_true rfl | exact Nat.zero_le _⟩ gX11_saying_4.2.2.2.2.2.2.2.2.2 (Kors (Keqa fun a1938 => ?_) (Keqa fun a1938 => ?_))
                  · refine lv_if_eq (tgt := 113) hx hb gX11_saying_5.1 (by decide) (fun c9 => absurd c9 (by decide)) (fun _ => ?_)
                    refine lv_bipush (v := (-2)) hx hb gX11_saying_5.2.1 (by decide) ?_
                    refine toQ hQ0 ?_
                    exact RI (v := (-2)) hC hP hD hS [0, 1, 2, 3, 4, 5] (kbsayings, fbsayings) rfl rfl (by decide) (⟨(by first | rfl | (simp only [ifc_t hkbsayings, ifc_t hkbpersons, ifc_t hkbpapers, ifc_t hSP, ifc_t hSO, ifc_t a1853, ifc_t a1855, ifc_t a1857, ifc_f c_46_1858, ifc_t a1861, ifc_f c_69_1863, ifc_f c_77_1864, ifc_t a1936, ifc_t a1938, ifc_t (howC c_46_1858 ex1859 a1861 ex1862 c_69_1863), ifc_t (q := TLK x6 kbsayings) (Or.inr a1936)]; done) | (simp only [ifc_t hkbsayings, ifc_t hkbpersons, ifc_t hkbpapers, ifc_t hSP, ifc_t hSO, ifc_t a1853, ifc_t a1855, ifc_t a1857, ifc_f c_46_1858, ifc_t a1861, ifc_f c_69_1863, ifc_f c_77_1864, ifc_t a1936, ifc_t a1938, ifc_t (howC c_46_1858 ex1859 a1861 ex1862 c_69_1863), ifc_t (q := TLK x6 kbsayings) (Or.inr a1936)]; rfl) | (dsimp only; simp only [ifc_t hkbsayings, ifc_t hkbpersons, ifc_t hkbpapers, ifc_t hSP, ifc_t hSO, ifc_t a1853, ifc_t a1855, ifc_t a1857, ifc_f c_46_1858, ifc_t a1861, ifc_f c_69_1863, ifc_f c_77_1864, ifc_t a1936, ifc_t a1938, ifc_t (howC c_46_1858 ex1859 a1861 ex1862 c_69_1863), ifc_t (q := TLK x6 kbsayings) (Or.inr a1936)]; done)), ⟨by omega, by omega, (by first | rfl | (simp only [ifc_t hkbsayings, ifc_t hkbpersons, ifc_t hkbpapers, ifc_t hSP, ifc_t hSO, ifc_t a1853, ifc_t a1855, ifc_t a1857, ifc_f c_46_1858, ifc_t a1861, ifc_f c_69_1863, ifc_f c_77_1864, ifc_t a1936, ifc_t a1938, ifc_t (howC c_46_1858 ex1859 a1861 ex1862 c_69_1863), ifc_t (q := TLK x6 kbsayings) (Or.inr a1936)]; done) | (simp only [ifc_t hkbsayings, ifc_t hkbpersons, ifc_t hkbpapers, ifc_t hSP, ifc_t hSO, ifc_t a1853, ifc_t a1855, ifc_t a1857, ifc_f c_46_1858, ifc_t a1861, ifc_f c_69_1863, ifc_f c_77_1864, ifc_t a1936, ifc_t a1938, ifc_t (howC c_46_1858 ex1859 a1861 ex1862 c_69_1863), ifc_t (q := TLK x6 kbsayings) (Or.inr a1936)]; rfl) | (dsimp only; simp only [ifc_t hkbsayings, ifc_t hkbpersons, ifc_t hkbpapers, ifc_t hSP, ifc_t hSO, ifc_t a1853, ifc_t a1855, ifc_t a1857, ifc_f c_46_1858, ifc_t a1861, ifc_f c_69_1863, ifc_f c_77_1864, ifc_t a1936, ifc_t a1938, ifc_t (howC c_46_1858 ex1859 a1861 ex1862 c_69_1863), ifc_t (q := TLK x6 kbsayings) (Or.inr a1936)]; done)), hSP, hSO, (fun i => by first | rfl | (simp only [ifc_t hkbsayings, ifc_t hkbpersons, ifc_t hkbpapers, ifc_t hSP, ifc_t hSO, ifc_t a1853, ifc_t a1855, ifc_t a1857, ifc_f c_46_1858, ifc_t a1861, ifc_f c_69_1863, ifc_f c_77_1864, ifc_t a1936, ifc_t a1938, ifc_t (howC c_46_1858 ex1859 a1861 ex1862 c_69_1863), ifc_t (q := TLK x6 kbsayings) (Or.inr a1936)]; done))⟩⟩) rfl gX11_saying_5.2.2.1
                  · refine lv_if_eq (tgt := 113) hx hb gX11_saying_5.1 (by decide) (fun _ => ?_) (fun c9 => absurd (by decide) c9)
                    refine lv_aload_n hx hb gX11_saying_5.2.2.2.1 rfl (lv_at0 hl) ?_
                    refine gf_X11_15 hC rfl hK hP 0 rfl rfl gX11_saying_5.2.2.2.2.1 ?_
                    refine gf_X11_256 hC rfl hK hP 1 rfl rfl gX11_saying_5.2.2.2.2.2.1 ?_
                    refine iV (wr := [(h0, oX11 bb kk ikp sg do9 ru9 ta9 tp9 ro9 ho9 de9), (bb, oX0 bpersons bpapers bstamps bversions blines bsteps bsayings bfindings bwarnings bquestions td vd vl gp), (bsayingsc, iA G 128 fbsayings), (bpersons, oX8 10 2 bpersonsc (nI kbpersons)), (bpapers, oX8 12 6 bpapersc (nI kbpapers))]) hC hK hl hP hD hS hA (c_T_append l G bsayings 16 8 bsayingsc kbsayings (a1938) (by omega)) si_X11_117 [2] [0, 1, 3, 4, 5] sm_2 fm_2 nd_2 sm_0_1_3_4_5 nd_0_1_3_4_5 dj_2__0_1_3_4_5 rfl rfl rfl rfl rfl (Nat.le_of_ble_eq_true rfl) rm_4_1_1 ⟨Nat.le_of_ble_eq_true rfl, Nat.le_of_ble_eq_true rfl⟩ gX11_saying_5.2.2.2.2.2.2.1 (fun r1939 u1940 H locs hr1939 hP hD hS => ?_)
                    refine Kpdr (ws := [(h0, oX11 bb kk ikp sg do9 ru9 ta9 tp9 ro9 ho9 de9), (bb, oX0 bpersons bpapers bstamps bversions blines bsteps bsayings bfindings bwarnings bquestions td vd vl gp), (bsayingsc, iA G 128 fbsayings), (bpersons, oX8 10 2 bpersonsc (nI kbpersons)), (bpapers, oX8 12 6 bpapersc (nI kbpapers)), (bsayings, oX8 16 8 bsayingsc (nI (kbsayings + 1)))]) hP hD (fun hP hD => ?_)
                    obtain rfl := hr1939
                    refine lv_istore (lv' := [(7, .int (nI kbsayings)), (0, .ref h0), (1, .int x1), (2, .int x2), (3, .int x3), (4, .int x4), (5, .int x5), (6, .int x6)]) hx hb gX11_saying_5.2.2.2.2.2.2.2.1 hl (by decide) rfl (fun ls hl => ?_)
                    refine lv_aload_n hx hb gX11_saying_5.2.2.2.2.2.2.2.2.1 rfl (lv_at1 hl) ?_
                    refine gf_X11_15 hC rfl hK hP 0 rfl rfl gX11_saying_5.2.2.2.2.2.2.2.2.2 ?_
                    refine gf_X11_256 hC rfl hK hP 1 rfl rfl gX11_saying_6.1 ?_
                    refine lv_iload hx hb gX11_saying_6.2.1 (lv_at0 hl) ?_
                    refine lv_iconst (v := 0) hx hb gX11_saying_6.2.2.1 (by decide) ?_
                    refine lv_iload_n hx hb gX11_saying_6.2.2.2.1 rfl (lv_at2 hl) ?_
                    refine vV (wr := [(h0, oX11 bb kk ikp sg do9 ru9 ta9 tp9 ro9 ho9 de9), (bb, oX0 bpersons bpapers bstamps bversions blines bsteps bsayings bfindings bwarnings bquestions td vd vl gp), (bpersons, oX8 10 2 bpersonsc (nI kbpersons)), (bpapers, oX8 12 6 bpapersc (nI kbpapers))]) hC hK hl hP hD hS hA (c_T_set l G bsayings (nI kbsayings) 0 x1 16 8 bsayingsc (kbsayings + 1) fbsayings (by omega) (by omega) (by omega)) si_X11_120 [5, 2] [0, 1, 3, 4] sm_5_2 fm_5_2 nd_5_2 sm_0_1_3_4 nd_0_1_3_4 dj_5_2__0_1_3_4 rfl rfl rfl rfl rfl (Nat.le_of_ble_eq_true rfl) rm_4_1_4 ⟨Nat.le_of_ble_eq_true rfl, Nat.le_of_ble_eq_true rfl⟩ gX11_saying_6.2.2.2.2.1 (fun f11944 H locs hr1942 hP hD hS => ?_)
                    try dsimp only at hr1942
                    refine Kpdr (ws := [(h0, oX11 bb kk ikp sg do9 ru9 ta9 tp9 ro9 ho9 de9), (bb, oX0 bpersons bpapers bstamps bversions blines bsteps bsayings bfindings bwarnings bquestions td vd vl gp), (bpersons, oX8 10 2 bpersonsc (nI kbpersons)), (bpapers, oX8 12 6 bpapersc (nI kbpapers)), (bsayings, oX8 16 8 bsayingsc (nI (kbsayings + 1))), (bsayingsc, iA G 128 f11944)]) hP hD (fun hP hD => ?_)
                    have w1945 := hr1942
                    refine lv_aload_n hx hb gX11_saying_6.2.2.2.2.2.1 rfl (lv_at1 hl) ?_
                    refine gf_X11_15 hC rfl hK hP 0 rfl rfl gX11_saying_6.2.2.2.2.2.2.1 ?_
                    refine gf_X11_256 hC rfl hK hP 1 rfl rfl gX11_saying_6.2.2.2.2.2.2.2.1 ?_
                    refine lv_iload hx hb gX11_saying_6.2.2.2.2.2.2.2.2.1 (lv_at0 hl) ?_
                    refine lv_iconst (v := 1) hx hb gX11_saying_6.2.2.2.2.2.2.2.2.2 (by decide) ?_
                    refine lv_iload_n hx hb gX11_saying_7.1 rfl (lv_at3 hl) ?_
                    refine vV (wr := [(h0, oX11 bb kk ikp sg do9 ru9 ta9 tp9 ro9 ho9 de9), (bb, oX0 bpersons bpapers bstamps bversions blines bsteps bsayings bfindings bwarnings bquestions td vd vl gp), (bpersons, oX8 10 2 bpersonsc (nI kbpersons)), (bpapers, oX8 12 6 bpapersc (nI kbpapers))]) hC hK hl hP hD hS hA (c_T_set l G bsayings (nI kbsayings) 1 x2 16 8 bsayingsc (kbsayings + 1) f11944 (by omega) (by omega) (by omega)) si_X11_120 [4, 5] [0, 1, 2, 3] sm_4_5 fm_4_5 nd_4_5 sm_0_1_2_3 nd_0_1_2_3 dj_4_5__0_1_2_3 rfl rfl rfl rfl rfl (Nat.le_of_ble_eq_true rfl) rm_4_1_4 ⟨Nat.le_of_ble_eq_true rfl, Nat.le_of_ble_eq_true rfl⟩ gX11_saying_7.2.1 (fun f11948 H locs hr1946 hP hD hS => ?_)
                    try dsimp only at hr1946
                    refine Kpdr (ws := [(h0, oX11 bb kk ikp sg do9 ru9 ta9 tp9 ro9 ho9 de9), (bb, oX0 bpersons bpapers bstamps bversions blines bsteps bsayings bfindings bwarnings bquestions td vd vl gp), (bpersons, oX8 10 2 bpersonsc (nI kbpersons)), (bpapers, oX8 12 6 bpapersc (nI kbpapers)), (bsayings, oX8 16 8 bsayingsc (nI (kbsayings + 1))), (bsayingsc, iA G 128 f11948)]) hP hD (fun hP hD => ?_)
                    have w1949 := hr1946
                    refine lv_aload_n hx hb gX11_saying_7.2.2.1 rfl (lv_at1 hl) ?_
                    refine gf_X11_15 hC rfl hK hP 0 rfl rfl gX11_saying_7.2.2.2.1 ?_
                    refine gf_X11_256 hC rfl hK hP 1 rfl rfl gX11_saying_7.2.2.2.2.1 ?_
                    refine lv_iload hx hb gX11_saying_7.2.2.2.2.2.1 (lv_at0 hl) ?_
                    refine lv_iconst (v := 2) hx hb gX11_saying_7.2.2.2.2.2.2.1 (by decide) ?_
                    refine lv_iload_n hx hb gX11_saying_7.2.2.2.2.2.2.2.1 rfl (lv_at4 hl) ?_
                    refine vV (wr := [(h0, oX11 bb kk ikp sg do9 ru9 ta9 tp9 ro9 ho9 de9), (bb, oX0 bpersons bpapers bstamps bversions blines bsteps bsayings bfindings bwarnings bquestions td vd vl gp), (bpersons, oX8 10 2 bpersonsc (nI kbpersons)), (bpapers, oX8 12 6 bpapersc (nI kbpapers))]) hC hK hl hP hD hS hA (c_T_set l G bsayings (nI kbsayings) 2 x3 16 8 bsayingsc (kbsayings + 1) f11948 (by omega) (by omega) (by omega)) si_X11_120 [4, 5] [0, 1, 2, 3] sm_4_5 fm_4_5 nd_4_5 sm_0_1_2_3 nd_0_1_2_3 dj_4_5__0_1_2_3 rfl rfl rfl rfl rfl (Nat.le_of_ble_eq_true rfl) rm_4_1_4 ⟨Nat.le_of_ble_eq_true rfl, Nat.le_of_ble_eq_true rfl⟩ gX11_saying_7.2.2.2.2.2.2.2.2.1 (fun f11952 H locs hr1950 hP hD hS => ?_)
                    try dsimp only at hr1950
                    refine Kpdr (ws := [(h0, oX11 bb kk ikp sg do9 ru9 ta9 tp9 ro9 ho9 de9), (bb, oX0 bpersons bpapers bstamps bversions blines bsteps bsayings bfindings bwarnings bquestions td vd vl gp), (bpersons, oX8 10 2 bpersonsc (nI kbpersons)), (bpapers, oX8 12 6 bpapersc (nI kbpapers)), (bsayings, oX8 16 8 bsayingsc (nI (kbsayings + 1))), (bsayingsc, iA G 128 f11952)]) hP hD (fun hP hD => ?_)
                    have w1953 := hr1950
                    refine lv_aload_n hx hb gX11_saying_7.2.2.2.2.2.2.2.2.2 rfl (lv_at1 hl) ?_
                    refine gf_X11_15 hC rfl hK hP 0 rfl rfl gX11_saying_8.1 ?_
                    refine gf_X11_256 hC rfl hK hP 1 rfl rfl gX11_saying_8.2.1 ?_
                    refine lv_iload hx hb gX11_saying_8.2.2.1 (lv_at0 hl) ?_
                    refine lv_iconst (v := 3) hx hb gX11_saying_8.2.2.2.1 (by decide) ?_
                    refine lv_iload hx hb gX11_saying_8.2.2.2.2.1 (lv_at5 hl) ?_
                    refine lv_bipush (v := 10) hx hb gX11_saying_8.2.2.2.2.2.1 (by decide) ?_
                    refine lv_idiv hx hb gX11_saying_8.2.2.2.2.2.2.1 (by decide) ?_
                    refine lv_topi (fun x1954 ex1954 => ?_)
                    refine vV (wr := [(h0, oX11 bb kk ikp sg do9 ru9 ta9 tp9 ro9 ho9 de9), (bb, oX0 bpersons bpapers bstamps bversions blines bsteps bsayings bfindings bwarnings bquestions td vd vl gp), (bpersons, oX8 10 2 bpersonsc (nI kbpersons)), (bpapers, oX8 12 6 bpapersc (nI kbpapers))]) hC hK hl hP hD hS hA (c_T_set l G bsayings (nI kbsayings) 3 x1954 16 8 bsayingsc (kbsayings + 1) f11952 (by omega) (by omega) (by omega)) si_X11_120 [4, 5] [0, 1, 2, 3] sm_4_5 fm_4_5 nd_4_5 sm_0_1_2_3 nd_0_1_2_3 dj_4_5__0_1_2_3 rfl rfl rfl rfl rfl (Nat.le_of_ble_eq_true rfl) rm_4_1_4 ⟨Nat.le_of_ble_eq_true rfl, Nat.le_of_ble_eq_true rfl⟩ gX11_saying_8.2.2.2.2.2.2.2.1 (fun f11957 H locs hr1955 hP hD hS => ?_)
                    try dsimp only at hr1955
                    refine Kpdr (ws := [(h0, oX11 bb kk ikp sg do9 ru9 ta9 tp9 ro9 ho9 de9), (bb, oX0 bpersons bpapers bstamps bversions blines bsteps bsayings bfindings bwarnings bquestions td vd vl gp), (bpersons, oX8 10 2 bpersonsc (nI kbpersons)), (bpapers, oX8 12 6 bpapersc (nI kbpapers)), (bsayings, oX8 16 8 bsayingsc (nI (kbsayings + 1))), (bsayingsc, iA G 128 f11957)]) hP hD (fun hP hD => ?_)
                    have w1958 := hr1955
                    refine lv_aload_n hx hb gX11_saying_8.2.2.2.2.2.2.2.2.1 rfl (lv_at1 hl) ?_
                    refine gf_X11_15 hC rfl hK hP 0 rfl rfl gX11_saying_8.2.2.2.2.2.2.2.2.2 ?_
                    refine gf_X11_256 hC rfl hK hP 1 rfl rfl gX11_saying_9.1 ?_
                    refine lv_iload hx hb gX11_saying_9.2.1 (lv_at0 hl) ?_
                    refine lv_iconst (v := 4) hx hb gX11_saying_9.2.2.1 (by decide) ?_
                    refine lv_iload hx hb gX11_saying_9.2.2.2.1 (lv_at5 hl) ?_
                    refine lv_bipush (v := 10) hx hb gX11_saying_9.2.2.2.2.1 (by decide) ?_
                    refine lv_irem hx hb gX11_saying_9.2.2.2.2.2.1 (by decide) ?_
                    refine lv_topi (fun x1959 ex1959 => ?_)
                    refine vV (wr := [(h0, oX11 bb kk ikp sg do9 ru9 ta9 tp9 ro9 ho9 de9), (bb, oX0 bpersons bpapers bstamps bversions blines bsteps bsayings bfindings bwarnings bquestions td vd vl gp), (bpersons, oX8 10 2 bpersonsc (nI kbpersons)), (bpapers, oX8 12 6 bpapersc (nI kbpapers))]) hC hK hl hP hD hS hA (c_T_set l G bsayings (nI kbsayings) 4 x1959 16 8 bsayingsc (kbsayings + 1) f11957 (by omega) (by omega) (by omega)) si_X11_120 [4, 5] [0, 1, 2, 3] sm_4_5 fm_4_5 nd_4_5 sm_0_1_2_3 nd_0_1_2_3 dj_4_5__0_1_2_3 rfl rfl rfl rfl rfl (Nat.le_of_ble_eq_true rfl) rm_4_1_4 ⟨Nat.le_of_ble_eq_true rfl, Nat.le_of_ble_eq_true rfl⟩ gX11_saying_9.2.2.2.2.2.2.1 (fun f11962 H locs hr1960 hP hD hS => ?_)
                    try dsimp only at hr1960
                    refine Kpdr (ws := [(h0, oX11 bb kk ikp sg do9 ru9 ta9 tp9 ro9 ho9 de9), (bb, oX0 bpersons bpapers bstamps bversions blines bsteps bsayings bfindings bwarnings bquestions td vd vl gp), (bpersons, oX8 10 2 bpersonsc (nI kbpersons)), (bpapers, oX8 12 6 bpapersc (nI kbpapers)), (bsayings, oX8 16 8 bsayingsc (nI (kbsayings + 1))), (bsayingsc, iA G 128 f11962)]) hP hD (fun hP hD => ?_)
                    have w1963 := hr1960
                    refine lv_aload_n hx hb gX11_saying_9.2.2.2.2.2.2.2.1 rfl (lv_at1 hl) ?_
                    refine gf_X11_15 hC rfl hK hP 0 rfl rfl gX11_saying_9.2.2.2.2.2.2.2.2.1 ?_
                    refine gf_X11_256 hC rfl hK hP 1 rfl rfl gX11_saying_9.2.2.2.2.2.2.2.2.2 ?_
                    refine lv_iload hx hb gX11_saying_10.1 (lv_at0 hl) ?_
                    refine lv_iconst (v := 5) hx hb gX11_saying_10.2.1 (by decide) ?_
                    refine lv_iload hx hb gX11_saying_10.2.2.1 (lv_at6 hl) ?_
                    refine lv_if_eq (tgt := 222) hx hb gX11_saying_10.2.2.2.1 (by decide) (fun c_215_1964 => ?_) (fun c_215_1964 => ?_)
                    · refine lv_iconst (v := 0) hx hb gX11_saying_10.2.2.2.2.2.2.1 (by decide) ?_
                      refine vV (wr := [(h0, oX11 bb kk ikp sg do9 ru9 ta9 tp9 ro9 ho9 de9), (bb, oX0 bpersons bpapers bstamps bversions blines bsteps bsayings bfindings bwarnings bquestions td vd vl gp), (bpersons, oX8 10 2 bpersonsc (nI kbpersons)), (bpapers, oX8 12 6 bpapersc (nI kbpapers))]) hC hK hl hP hD hS hA (c_T_set l G bsayings (nI kbsayings) 5 0 16 8 bsayingsc (kbsayings + 1) f11962 (by omega) (by omega) (by omega)) si_X11_120 [4, 5] [0, 1, 2, 3] sm_4_5 fm_4_5 nd_4_5 sm_0_1_2_3 nd_0_1_2_3 dj_4_5__0_1_2_3 rfl rfl rfl rfl rfl (Nat.le_of_ble_eq_true rfl) rm_4_1_4 ⟨Nat.le_of_ble_eq_true rfl, Nat.le_of_ble_eq_true rfl⟩ gX11_saying_10.2.2.2.2.2.2.2.1 (fun f11967 H locs hr1965 hP hD hS => ?_)
                      try dsimp only at hr1965
                      refine Kpdr (ws := [(h0, oX11 bb kk ikp sg do9 ru9 ta9 tp9 ro9 ho9 de9), (bb, oX0 bpersons bpapers bstamps bversions blines bsteps bsayings bfindings bwarnings bquestions td vd vl gp), (bpersons, oX8 10 2 bpersonsc (nI kbpersons)), (bpapers, oX8 12 6 bpapersc (nI kbpapers)), (bsayings, oX8 16 8 bsayingsc (nI (kbsayings + 1))), (bsayingsc, iA G 128 f11967)]) hP hD (fun hP hD => ?_)
                      have w1968 := hr1965
                      refine lv_aload_n hx hb gX11_saying_10.2.2.2.2.2.2.2.2.1 rfl (lv_at1 hl) ?_
                      refine gf_X11_15 hC rfl hK hP 0 rfl rfl gX11_saying_10.2.2.2.2.2.2.2.2.2 ?_
                      refine gf_X11_256 hC rfl hK hP 1 rfl rfl gX11_saying_11.1 ?_
                      refine lv_iload hx hb gX11_saying_11.2.1 (lv_at0 hl) ?_
                      refine lv_bipush (v := 6) hx hb gX11_saying_11.2.2.1 (by decide) ?_
                      refine lv_iload hx hb gX11_saying_11.2.2.2.1 (lv_at7 hl) ?_
                      refine vV (wr := [(h0, oX11 bb kk ikp sg do9 ru9 ta9 tp9 ro9 ho9 de9), (bb, oX0 bpersons bpapers bstamps bversions blines bsteps bsayings bfindings bwarnings bquestions td vd vl gp), (bpersons, oX8 10 2 bpersonsc (nI kbpersons)), (bpapers, oX8 12 6 bpapersc (nI kbpapers))]) hC hK hl hP hD hS hA (c_T_set l G bsayings (nI kbsayings) 6 x6 16 8 bsayingsc (kbsayings + 1) f11967 (by omega) (by omega) (by omega)) si_X11_120 [4, 5] [0, 1, 2, 3] sm_4_5 fm_4_5 nd_4_5 sm_0_1_2_3 nd_0_1_2_3 dj_4_5__0_1_2_3 rfl rfl rfl rfl rfl (Nat.le_of_ble_eq_true rfl) rm_4_1_4 ⟨Nat.le_of_ble_eq_true rfl, Nat.le_of_ble_eq_true rfl⟩ gX11_saying_11.2.2.2.2.1 (fun f11971 H locs hr1969 hP hD hS => ?_)
                      try dsimp only at hr1969
                      refine Kpdr (ws := [(h0, oX11 bb kk ikp sg do9 ru9 ta9 tp9 ro9 ho9 de9), (bb, oX0 bpersons bpapers bstamps bversions blines bsteps bsayings bfindings bwarnings bquestions td vd vl gp), (bpersons, oX8 10 2 bpersonsc (nI kbpersons)), (bpapers, oX8 12 6 bpapersc (nI kbpapers)), (bsayings, oX8 16 8 bsayingsc (nI (kbsayings + 1))), (bsayingsc, iA G 128 f11971)]) hP hD (fun hP hD => ?_)
                      have w1972 := hr1969
                      refine lv_aload_n hx hb gX11_saying_11.2.2.2.2.2.1 rfl (lv_at1 hl) ?_
                      refine gf_X11_15 hC rfl hK hP 0 rfl rfl gX11_saying_11.2.2.2.2.2.2.1 ?_
                      refine gf_X11_256 hC rfl hK hP 1 rfl rfl gX11_saying_11.2.2.2.2.2.2.2.1 ?_
                      refine lv_iload hx hb gX11_saying_11.2.2.2.2.2.2.2.2.1 (lv_at0 hl) ?_
                      refine lv_bipush (v := 7) hx hb gX11_saying_11.2.2.2.2.2.2.2.2.2 (by decide) ?_
                      refine lv_aload_n hx hb gX11_saying_12.1 rfl (lv_at1 hl) ?_
                      refine gf_X11_15 hC rfl hK hP 0 rfl rfl gX11_saying_12.2.1 ?_
                      refine gf_X11_87 hC rfl hK hP 1 rfl rfl gX11_saying_12.2.2.1 ?_
                      refine vV (wr := [(h0, oX11 bb kk ikp sg do9 ru9 ta9 tp9 ro9 ho9 de9), (bb, oX0 bpersons bpapers bstamps bversions blines bsteps bsayings bfindings bwarnings bquestions td vd vl gp), (bpersons, oX8 10 2 bpersonsc (nI kbpersons)), (bpapers, oX8 12 6 bpapersc (nI kbpapers))]) hC hK hl hP hD hS hA (c_T_set l G bsayings (nI kbsayings) 7 td 16 8 bsayingsc (kbsayings + 1) f11971 (by omega) (by omega) (by omega)) si_X11_120 [4, 5] [0, 1, 2, 3] sm_4_5 fm_4_5 nd_4_5 sm_0_1_2_3 nd_0_1_2_3 dj_4_5__0_1_2_3 rfl rfl rfl rfl rfl (Nat.le_of_ble_eq_true rfl) rm_4_1_4 ⟨Nat.le_of_ble_eq_true rfl, Nat.le_of_ble_eq_true rfl⟩ gX11_saying_12.2.2.2.1 (fun f11975 H locs hr1973 hP hD hS => ?_)
                      try dsimp only at hr1973
                      refine Kpdr (ws := [(h0, oX11 bb kk ikp sg do9 ru9 ta9 tp9 ro9 ho9 de9), (bb, oX0 bpersons bpapers bstamps bversions blines bsteps bsayings bfindings bwarnings bquestions td vd vl gp), (bpersons, oX8 10 2 bpersonsc (nI kbpersons)), (bpapers, oX8 12 6 bpapersc (nI kbpapers)), (bsayings, oX8 16 8 bsayingsc (nI (kbsayings + 1))), (bsayingsc, iA G 128 f11975)]) hP hD (fun hP hD => ?_)
                      have w1976 := hr1973
                      refine lv_iload hx hb gX11_saying_12.2.2.2.2.1 (lv_at0 hl) ?_
                      have tt1977 : f11944 = upd fbsayings (kbsayings * 8 + 0) x1 := w1945.symm.trans (ts1 (by decide) (by decide) (by omega) rfl)
                      have tt1978 : f11948 = upd f11944 (kbsayings * 8 + 1) x2 := w1949.symm.trans (ts1 (by decide) (by decide) (by omega) rfl)
                      have tt1979 : f11952 = upd f11948 (kbsayings * 8 + 2) x3 := w1953.symm.trans (ts1 (by decide) (by decide) (by omega) rfl)
                      have tt1980 : f11957 = upd f11952 (kbsayings * 8 + 3) x1954 := w1958.symm.trans (ts1 (by decide) (by decide) (by omega) rfl)
                      have tt1981 : f11962 = upd f11957 (kbsayings * 8 + 4) x1959 := w1963.symm.trans (ts1 (by decide) (by decide) (by omega) rfl)
                      have tt1982 : f11967 = upd f11962 (kbsayings * 8 + 5) 0 := w1968.symm.trans (ts1 (by decide) (by decide) (by omega) rfl)
                      have tt1983 : f11971 = upd f11967 (kbsayings * 8 + 6) x6 := w1972.symm.trans (ts1 (by decide) (by decide) (by omega) rfl)
                      have tt1984 : f11975 = upd f11971 (kbsayings * 8 + 7) td := w1976.symm.trans (ts1 (by decide) (by decide) (by omega) rfl)
                      have tu1985 : f11975 = rowu fbsayings (kbsayings * 8) [x1, x2, x3, x1954, x1959, 0, x6, td] := by rw [tt1984, tt1983, tt1982, tt1981, tt1980, tt1979, tt1978, tt1977]; rfl
                      refine toQ hQ0 ?_
                      exact RI (v := nI kbsayings) hC hP hD hS [0, 1, 4, 5, 2, 3] ((kbsayings + 1), f11975) rfl rfl (by decide) (⟨(by first | rfl | (simp only [ifc_t hkbsayings, ifc_t hkbpersons, ifc_t hkbpapers, ifc_t hSP, ifc_t hSO, ifc_t a1853, ifc_t a1855, ifc_t a1857, ifc_f c_46_1858, ifc_t a1861, ifc_f c_69_1863, ifc_f c_77_1864, ifc_t a1936, ifc_t a1938, ifc_t c_215_1964, ifc_f (Nat.not_le.mpr a1938), ifc_t (howC c_46_1858 ex1859 a1861 ex1862 c_69_1863), ifc_t (q := TLK x6 kbsayings) (Or.inr a1936)]; done) | (simp only [ifc_t hkbsayings, ifc_t hkbpersons, ifc_t hkbpapers, ifc_t hSP, ifc_t hSO, ifc_t a1853, ifc_t a1855, ifc_t a1857, ifc_f c_46_1858, ifc_t a1861, ifc_f c_69_1863, ifc_f c_77_1864, ifc_t a1936, ifc_t a1938, ifc_t c_215_1964, ifc_f (Nat.not_le.mpr a1938), ifc_t (howC c_46_1858 ex1859 a1861 ex1862 c_69_1863), ifc_t (q := TLK x6 kbsayings) (Or.inr a1936)]; rfl) | (dsimp only; simp only [ifc_t hkbsayings, ifc_t hkbpersons, ifc_t hkbpapers, ifc_t hSP, ifc_t hSO, ifc_t a1853, ifc_t a1855, ifc_t a1857, ifc_f c_46_1858, ifc_t a1861, ifc_f c_69_1863, ifc_f c_77_1864, ifc_t a1936, ifc_t a1938, ifc_t c_215_1964, ifc_f (Nat.not_le.mpr a1938), ifc_t (howC c_46_1858 ex1859 a1861 ex1862 c_69_1863), ifc_t (q := TLK x6 kbsayings) (Or.inr a1936)]; done)), ⟨by omega, by omega, (by first | rfl | (simp only [ifc_t hkbsayings, ifc_t hkbpersons, ifc_t hkbpapers, ifc_t hSP, ifc_t hSO, ifc_t a1853, ifc_t a1855, ifc_t a1857, ifc_f c_46_1858, ifc_t a1861, ifc_f c_69_1863, ifc_f c_77_1864, ifc_t a1936, ifc_t a1938, ifc_t c_215_1964, ifc_f (Nat.not_le.mpr a1938), ifc_t (howC c_46_1858 ex1859 a1861 ex1862 c_69_1863), ifc_t (q := TLK x6 kbsayings) (Or.inr a1936)]; done) | (simp only [ifc_t hkbsayings, ifc_t hkbpersons, ifc_t hkbpapers, ifc_t hSP, ifc_t hSO, ifc_t a1853, ifc_t a1855, ifc_t a1857, ifc_f c_46_1858, ifc_t a1861, ifc_f c_69_1863, ifc_f c_77_1864, ifc_t a1936, ifc_t a1938, ifc_t c_215_1964, ifc_f (Nat.not_le.mpr a1938), ifc_t (howC c_46_1858 ex1859 a1861 ex1862 c_69_1863), ifc_t (q := TLK x6 kbsayings) (Or.inr a1936)]; rfl) | (dsimp only; simp only [ifc_t hkbsayings, ifc_t hkbpersons, ifc_t hkbpapers, ifc_t hSP, ifc_t hSO, ifc_t a1853, ifc_t a1855, ifc_t a1857, ifc_f c_46_1858, ifc_t a1861, ifc_f c_69_1863, ifc_f c_77_1864, ifc_t a1936, ifc_t a1938, ifc_t c_215_1964, ifc_f (Nat.not_le.mpr a1938), ifc_t (howC c_46_1858 ex1859 a1861 ex1862 c_69_1863), ifc_t (q := TLK x6 kbsayings) (Or.inr a1936)]; done)), (by rw [tu1985]; exact SPI.row hSP a1857), (by rw [tu1985]; exact SPO.row hSO a1855 (HOW.hour (howC c_46_1858 ex1859 a1861 ex1862 c_69_1863) ex1954) (HOW.wgt (howC c_46_1858 ex1859 a1861 ex1862 c_69_1863) ex1959)), (fun i => by simp only [ifc_t hkbsayings, ifc_t hkbpersons, ifc_t hkbpapers, ifc_t hSP, ifc_t hSO, ifc_t a1853, ifc_t a1855, ifc_t a1857, ifc_f c_46_1858, ifc_t a1861, ifc_f c_69_1863, ifc_f c_77_1864, ifc_t a1936, ifc_t a1938, ifc_t c_215_1964, ifc_f (Nat.not_le.mpr a1938), ifc_t (howC c_46_1858 ex1859 a1861 ex1862 c_69_1863), ifc_t (q := TLK x6 kbsayings) (Or.inr a1936)]; rw [tu1985]; simp only [ex1954, ex1959])⟩⟩) rfl gX11_saying_12.2.2.2.2.2
                    · refine lv_iconst (v := 1) hx hb gX11_saying_10.2.2.2.2.1 (by decide) ?_
                      refine lv_goto (tgt := 223) hx hb gX11_saying_10.2.2.2.2.2.1 (by decide) ?_
                      refine vV (wr := [(h0, oX11 bb kk ikp sg do9 ru9 ta9 tp9 ro9 ho9 de9), (bb, oX0 bpersons bpapers bstamps bversions blines bsteps bsayings bfindings bwarnings bquestions td vd vl gp), (bpersons, oX8 10 2 bpersonsc (nI kbpersons)), (bpapers, oX8 12 6 bpapersc (nI kbpapers))]) hC hK hl hP hD hS hA (c_T_set l G bsayings (nI kbsayings) 5 1 16 8 bsayingsc (kbsayings + 1) f11962 (by omega) (by omega) (by omega)) si_X11_120 [4, 5] [0, 1, 2, 3] sm_4_5 fm_4_5 nd_4_5 sm_0_1_2_3 nd_0_1_2_3 dj_4_5__0_1_2_3 rfl rfl rfl rfl rfl (Nat.le_of_ble_eq_true rfl) rm_4_1_4 ⟨Nat.le_of_ble_eq_true rfl, Nat.le_of_ble_eq_true rfl⟩ gX11_saying_10.2.2.2.2.2.2.2.1 (fun f11988 H locs hr1986 hP hD hS => ?_)
                      try dsimp only at hr1986
                      refine Kpdr (ws := [(h0, oX11 bb kk ikp sg do9 ru9 ta9 tp9 ro9 ho9 de9), (bb, oX0 bpersons bpapers bstamps bversions blines bsteps bsayings bfindings bwarnings bquestions td vd vl gp), (bpersons, oX8 10 2 bpersonsc (nI kbpersons)), (bpapers, oX8 12 6 bpapersc (nI kbpapers)), (bsayings, oX8 16 8 bsayingsc (nI (kbsayings + 1))), (bsayingsc, iA G 128 f11988)]) hP hD (fun hP hD => ?_)
                      have w1989 := hr1986
                      refine lv_aload_n hx hb gX11_saying_10.2.2.2.2.2.2.2.2.1 rfl (lv_at1 hl) ?_
                      refine gf_X11_15 hC rfl hK hP 0 rfl rfl gX11_saying_10.2.2.2.2.2.2.2.2.2 ?_
                      refine gf_X11_256 hC rfl hK hP 1 rfl rfl gX11_saying_11.1 ?_
                      refine lv_iload hx hb gX11_saying_11.2.1 (lv_at0 hl) ?_
                      refine lv_bipush (v := 6) hx hb gX11_saying_11.2.2.1 (by decide) ?_
                      refine lv_iload hx hb gX11_saying_11.2.2.2.1 (lv_at7 hl) ?_
                      refine vV (wr := [(h0, oX11 bb kk ikp sg do9 ru9 ta9 tp9 ro9 ho9 de9), (bb, oX0 bpersons bpapers bstamps bversions blines bsteps bsayings bfindings bwarnings bquestions td vd vl gp), (bpersons, oX8 10 2 bpersonsc (nI kbpersons)), (bpapers, oX8 12 6 bpapersc (nI kbpapers))]) hC hK hl hP hD hS hA (c_T_set l G bsayings (nI kbsayings) 6 x6 16 8 bsayingsc (kbsayings + 1) f11988 (by omega) (by omega) (by omega)) si_X11_120 [4, 5] [0, 1, 2, 3] sm_4_5 fm_4_5 nd_4_5 sm_0_1_2_3 nd_0_1_2_3 dj_4_5__0_1_2_3 rfl rfl rfl rfl rfl (Nat.le_of_ble_eq_true rfl) rm_4_1_4 ⟨Nat.le_of_ble_eq_true rfl, Nat.le_of_ble_eq_true rfl⟩ gX11_saying_11.2.2.2.2.1 (fun f11992 H locs hr1990 hP hD hS => ?_)
                      try dsimp only at hr1990
                      refine Kpdr (ws := [(h0, oX11 bb kk ikp sg do9 ru9 ta9 tp9 ro9 ho9 de9), (bb, oX0 bpersons bpapers bstamps bversions blines bsteps bsayings bfindings bwarnings bquestions td vd vl gp), (bpersons, oX8 10 2 bpersonsc (nI kbpersons)), (bpapers, oX8 12 6 bpapersc (nI kbpapers)), (bsayings, oX8 16 8 bsayingsc (nI (kbsayings + 1))), (bsayingsc, iA G 128 f11992)]) hP hD (fun hP hD => ?_)
                      have w1993 := hr1990
                      refine lv_aload_n hx hb gX11_saying_11.2.2.2.2.2.1 rfl (lv_at1 hl) ?_
                      refine gf_X11_15 hC rfl hK hP 0 rfl rfl gX11_saying_11.2.2.2.2.2.2.1 ?_
                      refine gf_X11_256 hC rfl hK hP 1 rfl rfl gX11_saying_11.2.2.2.2.2.2.2.1 ?_
                      refine lv_iload hx hb gX11_saying_11.2.2.2.2.2.2.2.2.1 (lv_at0 hl) ?_
                      refine lv_bipush (v := 7) hx hb gX11_saying_11.2.2.2.2.2.2.2.2.2 (by decide) ?_
                      refine lv_aload_n hx hb gX11_saying_12.1 rfl (lv_at1 hl) ?_
                      refine gf_X11_15 hC rfl hK hP 0 rfl rfl gX11_saying_12.2.1 ?_
                      refine gf_X11_87 hC rfl hK hP 1 rfl rfl gX11_saying_12.2.2.1 ?_
                      refine vV (wr := [(h0, oX11 bb kk ikp sg do9 ru9 ta9 tp9 ro9 ho9 de9), (bb, oX0 bpersons bpapers bstamps bversions blines bsteps bsayings bfindings bwarnings bquestions td vd vl gp), (bpersons, oX8 10 2 bpersonsc (nI kbpersons)), (bpapers, oX8 12 6 bpapersc (nI kbpapers))]) hC hK hl hP hD hS hA (c_T_set l G bsayings (nI kbsayings) 7 td 16 8 bsayingsc (kbsayings + 1) f11992 (by omega) (by omega) (by omega)) si_X11_120 [4, 5] [0, 1, 2, 3] sm_4_5 fm_4_5 nd_4_5 sm_0_1_2_3 nd_0_1_2_3 dj_4_5__0_1_2_3 rfl rfl rfl rfl rfl (Nat.le_of_ble_eq_true rfl) rm_4_1_4 ⟨Nat.le_of_ble_eq_true rfl, Nat.le_of_ble_eq_true rfl⟩ gX11_saying_12.2.2.2.1 (fun f11996 H locs hr1994 hP hD hS => ?_)
                      try dsimp only at hr1994
                      refine Kpdr (ws := [(h0, oX11 bb kk ikp sg do9 ru9 ta9 tp9 ro9 ho9 de9), (bb, oX0 bpersons bpapers bstamps bversions blines bsteps bsayings bfindings bwarnings bquestions td vd vl gp), (bpersons, oX8 10 2 bpersonsc (nI kbpersons)), (bpapers, oX8 12 6 bpapersc (nI kbpapers)), (bsayings, oX8 16 8 bsayingsc (nI (kbsayings + 1))), (bsayingsc, iA G 128 f11996)]) hP hD (fun hP hD => ?_)
                      have w1997 := hr1994
                      refine lv_iload hx hb gX11_saying_12.2.2.2.2.1 (lv_at0 hl) ?_
                      have tt1998 : f11944 = upd fbsayings (kbsayings * 8 + 0) x1 := w1945.symm.trans (ts1 (by decide) (by decide) (by omega) rfl)
                      have tt1999 : f11948 = upd f11944 (kbsayings * 8 + 1) x2 := w1949.symm.trans (ts1 (by decide) (by decide) (by omega) rfl)
                      have tt2000 : f11952 = upd f11948 (kbsayings * 8 + 2) x3 := w1953.symm.trans (ts1 (by decide) (by decide) (by omega) rfl)
                      have tt2001 : f11957 = upd f11952 (kbsayings * 8 + 3) x1954 := w1958.symm.trans (ts1 (by decide) (by decide) (by omega) rfl)
                      have tt2002 : f11962 = upd f11957 (kbsayings * 8 + 4) x1959 := w1963.symm.trans (ts1 (by decide) (by decide) (by omega) rfl)
                      have tt2003 : f11988 = upd f11962 (kbsayings * 8 + 5) 1 := w1989.symm.trans (ts1 (by decide) (by decide) (by omega) rfl)
                      have tt2004 : f11992 = upd f11988 (kbsayings * 8 + 6) x6 := w1993.symm.trans (ts1 (by decide) (by decide) (by omega) rfl)
                      have tt2005 : f11996 = upd f11992 (kbsayings * 8 + 7) td := w1997.symm.trans (ts1 (by decide) (by decide) (by omega) rfl)
                      have tu2006 : f11996 = rowu fbsayings (kbsayings * 8) [x1, x2, x3, x1954, x1959, 1, x6, td] := by rw [tt2005, tt2004, tt2003, tt2002, tt2001, tt2000, tt1999, tt1998]; rfl
                      refine toQ hQ0 ?_
                      exact RI (v := nI kbsayings) hC hP hD hS [0, 1, 4, 5, 2, 3] ((kbsayings + 1), f11996) rfl rfl (by decide) (⟨(by first | rfl | (simp only [ifc_t hkbsayings, ifc_t hkbpersons, ifc_t hkbpapers, ifc_t hSP, ifc_t hSO, ifc_t a1853, ifc_t a1855, ifc_t a1857, ifc_f c_46_1858, ifc_t a1861, ifc_f c_69_1863, ifc_f c_77_1864, ifc_t a1936, ifc_t a1938, ifc_f c_215_1964, ifc_f (Nat.not_le.mpr a1938), ifc_t (howC c_46_1858 ex1859 a1861 ex1862 c_69_1863), ifc_t (q := TLK x6 kbsayings) (Or.inr a1936)]; done) | (simp only [ifc_t hkbsayings, ifc_t hkbpersons, ifc_t hkbpapers, ifc_t hSP, ifc_t hSO, ifc_t a1853, ifc_t a1855, ifc_t a1857, ifc_f c_46_1858, ifc_t a1861, ifc_f c_69_1863, ifc_f c_77_1864, ifc_t a1936, ifc_t a1938, ifc_f c_215_1964, ifc_f (Nat.not_le.mpr a1938), ifc_t (howC c_46_1858 ex1859 a1861 ex1862 c_69_1863), ifc_t (q := TLK x6 kbsayings) (Or.inr a1936)]; rfl) | (dsimp only; simp only [ifc_t hkbsayings, ifc_t hkbpersons, ifc_t hkbpapers, ifc_t hSP, ifc_t hSO, ifc_t a1853, ifc_t a1855, ifc_t a1857, ifc_f c_46_1858, ifc_t a1861, ifc_f c_69_1863, ifc_f c_77_1864, ifc_t a1936, ifc_t a1938, ifc_f c_215_1964, ifc_f (Nat.not_le.mpr a1938), ifc_t (howC c_46_1858 ex1859 a1861 ex1862 c_69_1863), ifc_t (q := TLK x6 kbsayings) (Or.inr a1936)]; done)), ⟨by omega, by omega, (by first | rfl | (simp only [ifc_t hkbsayings, ifc_t hkbpersons, ifc_t hkbpapers, ifc_t hSP, ifc_t hSO, ifc_t a1853, ifc_t a1855, ifc_t a1857, ifc_f c_46_1858, ifc_t a1861, ifc_f c_69_1863, ifc_f c_77_1864, ifc_t a1936, ifc_t a1938, ifc_f c_215_1964, ifc_f (Nat.not_le.mpr a1938), ifc_t (howC c_46_1858 ex1859 a1861 ex1862 c_69_1863), ifc_t (q := TLK x6 kbsayings) (Or.inr a1936)]; done) | (simp only [ifc_t hkbsayings, ifc_t hkbpersons, ifc_t hkbpapers, ifc_t hSP, ifc_t hSO, ifc_t a1853, ifc_t a1855, ifc_t a1857, ifc_f c_46_1858, ifc_t a1861, ifc_f c_69_1863, ifc_f c_77_1864, ifc_t a1936, ifc_t a1938, ifc_f c_215_1964, ifc_f (Nat.not_le.mpr a1938), ifc_t (howC c_46_1858 ex1859 a1861 ex1862 c_69_1863), ifc_t (q := TLK x6 kbsayings) (Or.inr a1936)]; rfl) | (dsimp only; simp only [ifc_t hkbsayings, ifc_t hkbpersons, ifc_t hkbpapers, ifc_t hSP, ifc_t hSO, ifc_t a1853, ifc_t a1855, ifc_t a1857, ifc_f c_46_1858, ifc_t a1861, ifc_f c_69_1863, ifc_f c_77_1864, ifc_t a1936, ifc_t a1938, ifc_f c_215_1964, ifc_f (Nat.not_le.mpr a1938), ifc_t (howC c_46_1858 ex1859 a1861 ex1862 c_69_1863), ifc_t (q := TLK x6 kbsayings) (Or.inr a1936)]; done)), (by rw [tu2006]; exact SPI.row hSP a1857), (by rw [tu2006]; exact SPO.row hSO a1855 (HOW.hour (howC c_46_1858 ex1859 a1861 ex1862 c_69_1863) ex1954) (HOW.wgt (howC c_46_1858 ex1859 a1861 ex1862 c_69_1863) ex1959)), (fun i => by simp only [ifc_t hkbsayings, ifc_t hkbpersons, ifc_t hkbpapers, ifc_t hSP, ifc_t hSO, ifc_t a1853, ifc_t a1855, ifc_t a1857, ifc_f c_46_1858, ifc_t a1861, ifc_f c_69_1863, ifc_f c_77_1864, ifc_t a1936, ifc_t a1938, ifc_f c_215_1964, ifc_f (Nat.not_le.mpr a1938), ifc_t (howC c_46_1858 ex1859 a1861 ex1862 c_69_1863), ifc_t (q := TLK x6 kbsayings) (Or.inr a1936)]; rw [tu2006]; simp only [ex1954, ex1959])⟩⟩) rfl gX11_saying_12.2.2.2.2.2
                · refine lv_if_ne (tgt := 97) hx hb gX11_saying_4.2.2.2.1 (by decide) (fun c9 => absurd (by decide) c9) (fun _ => ?_)
                  refine lv_iconst (v := (-1)) hx hb gX11_saying_4.2.2.2.2.1 (by decide) ?_
                  refine toQ hQ0 ?_
                  exact RI (v := (-1)) hC hP hD hS [0, 1, 2, 3, 4, 5] (kbsayings, fbsayings) rfl rfl (by decide) (⟨(by first | rfl | (simp only [ifc_t hkbsayings, ifc_t hkbpersons, ifc_t hkbpapers, ifc_t hSP, ifc_t hSO, ifc_t a1853, ifc_t a1855, ifc_t a1857, ifc_f c_46_1858, ifc_t a1861, ifc_f c_69_1863, ifc_f c_77_1864, ifc_f a1936, ifc_t (howC c_46_1858 ex1859 a1861 ex1862 c_69_1863), ifc_f (q := TLK x6 kbsayings) (fun h9 => h9.elim c_77_1864 a1936)]; done) | (simp only [ifc_t hkbsayings, ifc_t hkbpersons, ifc_t hkbpapers, ifc_t hSP, ifc_t hSO, ifc_t a1853, ifc_t a1855, ifc_t a1857, ifc_f c_46_1858, ifc_t a1861, ifc_f c_69_1863, ifc_f c_77_1864, ifc_f a1936, ifc_t (howC c_46_1858 ex1859 a1861 ex1862 c_69_1863), ifc_f (q := TLK x6 kbsayings) (fun h9 => h9.elim c_77_1864 a1936)]; rfl) | (dsimp only; simp only [ifc_t hkbsayings, ifc_t hkbpersons, ifc_t hkbpapers, ifc_t hSP, ifc_t hSO, ifc_t a1853, ifc_t a1855, ifc_t a1857, ifc_f c_46_1858, ifc_t a1861, ifc_f c_69_1863, ifc_f c_77_1864, ifc_f a1936, ifc_t (howC c_46_1858 ex1859 a1861 ex1862 c_69_1863), ifc_f (q := TLK x6 kbsayings) (fun h9 => h9.elim c_77_1864 a1936)]; done)), ⟨by omega, by omega, (by first | rfl | (simp only [ifc_t hkbsayings, ifc_t hkbpersons, ifc_t hkbpapers, ifc_t hSP, ifc_t hSO, ifc_t a1853, ifc_t a1855, ifc_t a1857, ifc_f c_46_1858, ifc_t a1861, ifc_f c_69_1863, ifc_f c_77_1864, ifc_f a1936, ifc_t (howC c_46_1858 ex1859 a1861 ex1862 c_69_1863), ifc_f (q := TLK x6 kbsayings) (fun h9 => h9.elim c_77_1864 a1936)]; done) | (simp only [ifc_t hkbsayings, ifc_t hkbpersons, ifc_t hkbpapers, ifc_t hSP, ifc_t hSO, ifc_t a1853, ifc_t a1855, ifc_t a1857, ifc_f c_46_1858, ifc_t a1861, ifc_f c_69_1863, ifc_f c_77_1864, ifc_f a1936, ifc_t (howC c_46_1858 ex1859 a1861 ex1862 c_69_1863), ifc_f (q := TLK x6 kbsayings) (fun h9 => h9.elim c_77_1864 a1936)]; rfl) | (dsimp only; simp only [ifc_t hkbsayings, ifc_t hkbpersons, ifc_t hkbpapers, ifc_t hSP, ifc_t hSO, ifc_t a1853, ifc_t a1855, ifc_t a1857, ifc_f c_46_1858, ifc_t a1861, ifc_f c_69_1863, ifc_f c_77_1864, ifc_f a1936, ifc_t (howC c_46_1858 ex1859 a1861 ex1862 c_69_1863), ifc_f (q := TLK x6 kbsayings) (fun h9 => h9.elim c_77_1864 a1936)]; done)), hSP, hSO, (fun i => by first | rfl | (simp only [ifc_t hkbsayings, ifc_t hkbpersons, ifc_t hkbpapers, ifc_t hSP, ifc_t hSO, ifc_t a1853, ifc_t a1855, ifc_t a1857, ifc_f c_46_1858, ifc_t a1861, ifc_f c_69_1863, ifc_f c_77_1864, ifc_f a1936, ifc_t (howC c_46_1858 ex1859 a1861 ex1862 c_69_1863), ifc_f (q := TLK x6 kbsayings) (fun h9 => h9.elim c_77_1864 a1936)]; done))⟩⟩) rfl gX11_saying_4.2.2.2.2.2.1
            · refine lv_iconst (v := (-1)) hx hb gX11_saying_3.2.2.2.1 (by decide) ?_
              refine toQ hQ0 ?_
              exact RI (v := (-1)) hC hP hD hS [0, 1, 2, 3, 4, 5] (kbsayings, fbsayings) rfl rfl (by decide) (⟨(by first | rfl | (simp only [ifc_t hkbsayings, ifc_t hkbpersons, ifc_t hkbpapers, ifc_t hSP, ifc_t hSO, ifc_t a1853, ifc_t a1855, ifc_t a1857, ifc_f c_46_1858, ifc_t a1861, ifc_t c_69_1863, ifc_f (how2 c_46_1858 ex1862 c_69_1863)]; done) | (simp only [ifc_t hkbsayings, ifc_t hkbpersons, ifc_t hkbpapers, ifc_t hSP, ifc_t hSO, ifc_t a1853, ifc_t a1855, ifc_t a1857, ifc_f c_46_1858, ifc_t a1861, ifc_t c_69_1863, ifc_f (how2 c_46_1858 ex1862 c_69_1863)]; rfl) | (dsimp only; simp only [ifc_t hkbsayings, ifc_t hkbpersons, ifc_t hkbpapers, ifc_t hSP, ifc_t hSO, ifc_t a1853, ifc_t a1855, ifc_t a1857, ifc_f c_46_1858, ifc_t a1861, ifc_t c_69_1863, ifc_f (how2 c_46_1858 ex1862 c_69_1863)]; done)), ⟨by omega, by omega, (by first | rfl | (simp only [ifc_t hkbsayings, ifc_t hkbpersons, ifc_t hkbpapers, ifc_t hSP, ifc_t hSO, ifc_t a1853, ifc_t a1855, ifc_t a1857, ifc_f c_46_1858, ifc_t a1861, ifc_t c_69_1863, ifc_f (how2 c_46_1858 ex1862 c_69_1863)]; done) | (simp only [ifc_t hkbsayings, ifc_t hkbpersons, ifc_t hkbpapers, ifc_t hSP, ifc_t hSO, ifc_t a1853, ifc_t a1855, ifc_t a1857, ifc_f c_46_1858, ifc_t a1861, ifc_t c_69_1863, ifc_f (how2 c_46_1858 ex1862 c_69_1863)]; rfl) | (dsimp only; simp only [ifc_t hkbsayings, ifc_t hkbpersons, ifc_t hkbpapers, ifc_t hSP, ifc_t hSO, ifc_t a1853, ifc_t a1855, ifc_t a1857, ifc_f c_46_1858, ifc_t a1861, ifc_t c_69_1863, ifc_f (how2 c_46_1858 ex1862 c_69_1863)]; done)), hSP, hSO, (fun i => by first | rfl | (simp only [ifc_t hkbsayings, ifc_t hkbpersons, ifc_t hkbpapers, ifc_t hSP, ifc_t hSO, ifc_t a1853, ifc_t a1855, ifc_t a1857, ifc_f c_46_1858, ifc_t a1861, ifc_t c_69_1863, ifc_f (how2 c_46_1858 ex1862 c_69_1863)]; done))⟩⟩) rfl gX11_saying_3.2.2.2.2.1
          · refine lv_if_eq (tgt := 72) hx hb gX11_saying_2.2.2.2.2.2.2.2.2.1 (by decide) (fun _ => ?_) (fun c9 => absurd (by decide) c9)
            refine lv_iconst (v := (-1)) hx hb gX11_saying_3.2.2.2.1 (by decide) ?_
            refine toQ hQ0 ?_
            exact RI (v := (-1)) hC hP hD hS [0, 1, 2, 3, 4, 5] (kbsayings, fbsayings) rfl rfl (by decide) (⟨(by first | rfl | (simp only [ifc_t hkbsayings, ifc_t hkbpersons, ifc_t hkbpapers, ifc_t hSP, ifc_t hSO, ifc_t a1853, ifc_t a1855, ifc_t a1857, ifc_f c_46_1858, ifc_f a1861, ifc_f (how1 c_46_1858 ex1859 a1861)]; done) | (simp only [ifc_t hkbsayings, ifc_t hkbpersons, ifc_t hkbpapers, ifc_t hSP, ifc_t hSO, ifc_t a1853, ifc_t a1855, ifc_t a1857, ifc_f c_46_1858, ifc_f a1861, ifc_f (how1 c_46_1858 ex1859 a1861)]; rfl) | (dsimp only; simp only [ifc_t hkbsayings, ifc_t hkbpersons, ifc_t hkbpapers, ifc_t hSP, ifc_t hSO, ifc_t a1853, ifc_t a1855, ifc_t a1857, ifc_f c_46_1858, ifc_f a1861, ifc_f (how1 c_46_1858 ex1859 a1861)]; done)), ⟨by omega, by omega, (by first | rfl | (simp only [ifc_t hkbsayings, ifc_t hkbpersons, ifc_t hkbpapers, ifc_t hSP, ifc_t hSO, ifc_t a1853, ifc_t a1855, ifc_t a1857, ifc_f c_46_1858, ifc_f a1861, ifc_f (how1 c_46_1858 ex1859 a1861)]; done) | (simp only [ifc_t hkbsayings, ifc_t hkbpersons, ifc_t hkbpapers, ifc_t hSP, ifc_t hSO, ifc_t a1853, ifc_t a1855, ifc_t a1857, ifc_f c_46_1858, ifc_f a1861, ifc_f (how1 c_46_1858 ex1859 a1861)]; rfl) | (dsimp only; simp only [ifc_t hkbsayings, ifc_t hkbpersons, ifc_t hkbpapers, ifc_t hSP, ifc_t hSO, ifc_t a1853, ifc_t a1855, ifc_t a1857, ifc_f c_46_1858, ifc_f a1861, ifc_f (how1 c_46_1858 ex1859 a1861)]; done)), hSP, hSO, (fun i => by first | rfl | (simp only [ifc_t hkbsayings, ifc_t hkbpersons, ifc_t hkbpapers, ifc_t hSP, ifc_t hSO, ifc_t a1853, ifc_t a1855, ifc_t a1857, ifc_f c_46_1858, ifc_f a1861, ifc_f (how1 c_46_1858 ex1859 a1861)]; done))⟩⟩) rfl gX11_saying_3.2.2.2.2.1
      · refine lv_if_ne (tgt := 44) hx hb gX11_saying_1.2.2.2.2.2.2.2.1 (by decide) (fun c9 => absurd (by decide) c9) (fun _ => ?_)
        refine lv_iconst (v := (-1)) hx hb gX11_saying_1.2.2.2.2.2.2.2.2.1 (by decide) ?_
        refine toQ hQ0 ?_
        exact RI (v := (-1)) hC hP hD hS [0, 1, 2, 3, 4, 5] (kbsayings, fbsayings) rfl rfl (by decide) (⟨(by first | rfl | (simp only [ifc_t hkbsayings, ifc_t hkbpersons, ifc_t hkbpapers, ifc_t hSP, ifc_t hSO, ifc_t a1853, ifc_t a1855, ifc_f a1857]; done) | (simp only [ifc_t hkbsayings, ifc_t hkbpersons, ifc_t hkbpapers, ifc_t hSP, ifc_t hSO, ifc_t a1853, ifc_t a1855, ifc_f a1857]; rfl) | (dsimp only; simp only [ifc_t hkbsayings, ifc_t hkbpersons, ifc_t hkbpapers, ifc_t hSP, ifc_t hSO, ifc_t a1853, ifc_t a1855, ifc_f a1857]; done)), ⟨by omega, by omega, (by first | rfl | (simp only [ifc_t hkbsayings, ifc_t hkbpersons, ifc_t hkbpapers, ifc_t hSP, ifc_t hSO, ifc_t a1853, ifc_t a1855, ifc_f a1857]; done) | (simp only [ifc_t hkbsayings, ifc_t hkbpersons, ifc_t hkbpapers, ifc_t hSP, ifc_t hSO, ifc_t a1853, ifc_t a1855, ifc_f a1857]; rfl) | (dsimp only; simp only [ifc_t hkbsayings, ifc_t hkbpersons, ifc_t hkbpapers, ifc_t hSP, ifc_t hSO, ifc_t a1853, ifc_t a1855, ifc_f a1857]; done)), hSP, hSO, (fun i => by first | rfl | (simp only [ifc_t hkbsayings, ifc_t hkbpersons, ifc_t hkbpapers, ifc_t hSP, ifc_t hSO, ifc_t a1853, ifc_t a1855, ifc_f a1857]; done))⟩⟩) rfl gX11_saying_1.2.2.2.2.2.2.2.2.2
    · refine lv_if_eq (tgt := 42) hx hb gX11_saying_1.2.1 (by decide) (fun _ => ?_) (fun c9 => absurd (by decide) c9)
      refine lv_iconst (v := (-1)) hx hb gX11_saying_1.2.2.2.2.2.2.2.2.1 (by decide) ?_
      refine toQ hQ0 ?_
      exact RI (v := (-1)) hC hP hD hS [0, 1, 2, 3, 4, 5] (kbsayings, fbsayings) rfl rfl (by decide) (⟨(by first | rfl | (simp only [ifc_t hkbsayings, ifc_t hkbpersons, ifc_t hkbpapers, ifc_t hSP, ifc_t hSO, ifc_t a1853, ifc_f a1855]; done) | (simp only [ifc_t hkbsayings, ifc_t hkbpersons, ifc_t hkbpapers, ifc_t hSP, ifc_t hSO, ifc_t a1853, ifc_f a1855]; rfl) | (dsimp only; simp only [ifc_t hkbsayings, ifc_t hkbpersons, ifc_t hkbpapers, ifc_t hSP, ifc_t hSO, ifc_t a1853, ifc_f a1855]; done)), ⟨by omega, by omega, (by first | rfl | (simp only [ifc_t hkbsayings, ifc_t hkbpersons, ifc_t hkbpapers, ifc_t hSP, ifc_t hSO, ifc_t a1853, ifc_f a1855]; done) | (simp only [ifc_t hkbsayings, ifc_t hkbpersons, ifc_t hkbpapers, ifc_t hSP, ifc_t hSO, ifc_t a1853, ifc_f a1855]; rfl) | (dsimp only; simp only [ifc_t hkbsayings, ifc_t hkbpersons, ifc_t hkbpapers, ifc_t hSP, ifc_t hSO, ifc_t a1853, ifc_f a1855]; done)), hSP, hSO, (fun i => by first | rfl | (simp only [ifc_t hkbsayings, ifc_t hkbpersons, ifc_t hkbpapers, ifc_t hSP, ifc_t hSO, ifc_t a1853, ifc_f a1855]; done))⟩⟩) rfl gX11_saying_1.2.2.2.2.2.2.2.2.2
  · refine lv_if_eq (tgt := 42) hx hb gX11_saying_0.2.2.2.2.2.1 (by decide) (fun _ => ?_) (fun c9 => absurd (by decide) c9)
    refine lv_iconst (v := (-1)) hx hb gX11_saying_1.2.2.2.2.2.2.2.2.1 (by decide) ?_
    refine toQ hQ0 ?_
    exact RI (v := (-1)) hC hP hD hS [0, 1, 2, 3, 4, 5] (kbsayings, fbsayings) rfl rfl (by decide) (⟨(by first | rfl | (simp only [ifc_t hkbsayings, ifc_t hkbpersons, ifc_t hkbpapers, ifc_t hSP, ifc_t hSO, ifc_f a1853]; done) | (simp only [ifc_t hkbsayings, ifc_t hkbpersons, ifc_t hkbpapers, ifc_t hSP, ifc_t hSO, ifc_f a1853]; rfl) | (dsimp only; simp only [ifc_t hkbsayings, ifc_t hkbpersons, ifc_t hkbpapers, ifc_t hSP, ifc_t hSO, ifc_f a1853]; done)), ⟨by omega, by omega, (by first | rfl | (simp only [ifc_t hkbsayings, ifc_t hkbpersons, ifc_t hkbpapers, ifc_t hSP, ifc_t hSO, ifc_f a1853]; done) | (simp only [ifc_t hkbsayings, ifc_t hkbpersons, ifc_t hkbpapers, ifc_t hSP, ifc_t hSO, ifc_f a1853]; rfl) | (dsimp only; simp only [ifc_t hkbsayings, ifc_t hkbpersons, ifc_t hkbpapers, ifc_t hSP, ifc_t hSO, ifc_f a1853]; done)), hSP, hSO, (fun i => by first | rfl | (simp only [ifc_t hkbsayings, ifc_t hkbpersons, ifc_t hkbpapers, ifc_t hSP, ifc_t hSO, ifc_f a1853]; done))⟩⟩) rfl gX11_saying_1.2.2.2.2.2.2.2.2.2
def K_p_finding (l : Launch) (G : GG) (h0 : Nat) (x1 : Int32) (x2 : Int32) (x3 : Int32) (x4 : Int32) (bb : Nat) (kk : Nat) (ikp : Int32) (sg : Nat) (do9 : Nat) (ru9 : Nat) (ta9 : Nat) (tp9 : Nat) (ro9 : Nat) (ho9 : Nat) (de9 : Nat) (bpersons : Nat) (bpapers : Nat) (bstamps : Nat) (bversions : Nat) (blines : Nat) (bsteps : Nat) (bsayings : Nat) (bfindings : Nat) (bwarnings : Nat) (bquestions : Nat) (td : Int32) (vd : Int32) (vl : Int32) (gp : Int32) (bfindingsc : Nat) (kbfindings : Nat) (fbfindings : Nat → Int32) (bpersonsc : Nat) (kbpersons : Nat) : Prop := MI l G yX11_finding cX11_finding 6 (some .int) 4 0 0 [.ref h0, .int x1, .int x2, .int x3, .int x4] [(h0, oX11 bb kk ikp sg do9 ru9 ta9 tp9 ro9 ho9 de9), (bb, oX0 bpersons bpapers bstamps bversions blines bsteps bsayings bfindings bwarnings bquestions td vd vl gp), (bfindings, oX8 12 4 bfindingsc (nI kbfindings)), (bfindingsc, iA G 48 fbfindings), (bpersons, oX8 10 2 bpersonsc (nI kbpersons))] (fun (r : Int32) (u : Nat × (Nat → Int32)) => (r = ifc (Hs x1 kbpersons) (ifc (Wi x2 0 7) (ifc (Wi x3 0 999) (ifc (Wi x4 0 2) (ifc (12 ≤ kbfindings) (-2) (nI kbfindings)) (-1)) (-1)) (-1)) (-1)) ∧ (u.1 ≤ 12 ∧ kbfindings ≤ u.1 ∧ nI u.1 = ifc (Hs x1 kbpersons) (ifc (Wi x2 0 7) (ifc (Wi x3 0 999) (ifc (Wi x4 0 2) (ifc (12 ≤ kbfindings) (nI kbfindings) (nI (kbfindings + 1))) (nI kbfindings)) (nI kbfindings)) (nI kbfindings)) (nI kbfindings) ∧ ∀ i : Nat, u.2 i = ifc (Hs x1 kbpersons) (ifc (Wi x2 0 7) (ifc (Wi x3 0 999) (ifc (Wi x4 0 2) (ifc (12 ≤ kbfindings) (fbfindings i) (rowu fbfindings (kbfindings * 4) [x1, x2, x3, x4] i)) (fbfindings i)) (fbfindings i)) (fbfindings i)) (fbfindings i))) (fun u : Nat × (Nat → Int32) => [(h0, oX11 bb kk ikp sg do9 ru9 ta9 tp9 ro9 ho9 de9), (bb, oX0 bpersons bpapers bstamps bversions blines bsteps bsayings bfindings bwarnings bquestions td vd vl gp), (bfindings, oX8 12 4 bfindingsc (nI u.1)), (bfindingsc, iA G 48 u.2), (bpersons, oX8 10 2 bpersonsc (nI kbpersons))])
set_option maxHeartbeats 4000000 in
set_option maxRecDepth 100000 in
theorem p_finding (l : Launch) (G : GG) (h0 : Nat) (x1 : Int32) (x2 : Int32) (x3 : Int32) (x4 : Int32) (bb : Nat) (kk : Nat) (ikp : Int32) (sg : Nat) (do9 : Nat) (ru9 : Nat) (ta9 : Nat) (tp9 : Nat) (ro9 : Nat) (ho9 : Nat) (de9 : Nat) (bpersons : Nat) (bpapers : Nat) (bstamps : Nat) (bversions : Nat) (blines : Nat) (bsteps : Nat) (bsayings : Nat) (bfindings : Nat) (bwarnings : Nat) (bquestions : Nat) (td : Int32) (vd : Int32) (vl : Int32) (gp : Int32) (bfindingsc : Nat) (kbfindings : Nat) (fbfindings : Nat → Int32) (bpersonsc : Nat) (kbpersons : Nat) (hkbfindings : kbfindings ≤ 12) (hkbpersons : kbpersons ≤ 10) : K_p_finding l G h0 x1 x2 x3 x4 bb kk ikp sg do9 ru9 ta9 tp9 ro9 ho9 de9 bpersons bpapers bstamps bversions blines bsteps bsayings bfindings bwarnings bquestions td vd vl gp bfindingsc kbfindings fbfindings bpersonsc kbpersons := by
  refine MI.start (by decide +kernel) (Nat.le_of_ble_eq_true rfl) ?_
  intro p e s m below meth c A ls hC hK hP hD hS hA hl
  refine absQ (fun Q0 hQ0 => ?_)
  have hl : lv_has ls 6 [(0, .ref h0), (1, .int x1), (2, .int x2), (3, .int x3), (4, .int x4)] := hl
  refine Kan8 hC (fun hx hb hr hml hB hown hlocks hnm => ?_)
  refine lv_aload_n hx hb gX11_finding_0.1 rfl (lv_at0 hl) ?_
  refine gf_X11_15 hC rfl hK hP 0 rfl rfl gX11_finding_0.2.1 ?_
  refine gf_X11_107 hC rfl hK hP 1 rfl rfl gX11_finding_0.2.2.1 ?_
  refine lv_iload_n hx hb gX11_finding_0.2.2.2.1 rfl (lv_at1 hl) ?_
  refine pV hC hK hl hP hD (c_T_has l G bpersons x1 10 2 bpersonsc kbpersons) si_X11_124 [4] sm_4 fm_4 nd_4 rfl rfl rfl rfl rfl (Nat.le_of_ble_eq_true rfl) rm_4_1_2 ⟨by first | exact Nat.le_of_ble_eq_true rfl | exact Nat.zero_le _, by first | exact Nat.le_of_ble_eq_true rfl | exact Nat.zero_le _⟩ gX11_finding_0.2.2.2.2.1 (Kors (Keqa fun a2008 => ?_) (Keqa fun a2008 => ?_))
  · refine lv_if_eq (tgt := 40) hx hb gX11_finding_0.2.2.2.2.2.1 (by decide) (fun c9 => absurd c9 (by decide)) (fun _ => ?_)
    refine lv_iload_n hx hb gX11_finding_0.2.2.2.2.2.2.1 rfl (lv_at2 hl) ?_
    refine pS hC hK hl (c_isThing l G x2) si_X11_213 rfl rfl (Nat.le_of_ble_eq_true rfl) rm_4_2_1 ⟨by first | exact Nat.le_of_ble_eq_true rfl | exact Nat.zero_le _, by first | exact Nat.le_of_ble_eq_true rfl | exact Nat.zero_le _⟩ gX11_finding_0.2.2.2.2.2.2.2.1 (Kors (Keqa fun a2010 => ?_) (Keqa fun a2010 => ?_))
    · refine lv_if_eq (tgt := 40) hx hb gX11_finding_0.2.2.2.2.2.2.2.2.1 (by decide) (fun c9 => absurd c9 (by decide)) (fun _ => ?_)
      refine lv_iload_n hx hb gX11_finding_0.2.2.2.2.2.2.2.2.2 rfl (lv_at3 hl) ?_
      refine lv_iconst (v := 0) hx hb gX11_finding_1.1 (by decide) ?_
      refine lv_sipush (v := 999) hx hb gX11_finding_1.2.1 (by decide) ?_
      refine pS hC hK hl (c_within l G x3 0 999) si_X11_83 rfl rfl (Nat.le_of_ble_eq_true rfl) rm_4_1_3 ⟨by first | exact Nat.le_of_ble_eq_true rfl | exact Nat.zero_le _, by first | exact Nat.le_of_ble_eq_true rfl | exact Nat.zero_le _⟩ gX11_finding_1.2.2.1 (Kors (Keqa fun a2012 => ?_) (Keqa fun a2012 => ?_))
      · refine lv_if_eq (tgt := 40) hx hb gX11_finding_1.2.2.2.1 (by decide) (fun c9 => absurd c9 (by decide)) (fun _ => ?_)
        refine lv_iload hx hb gX11_finding_1.2.2.2.2.1 (lv_at4 hl) ?_
        refine pS hC hK hl (c_isWay l G x4) si_X11_216 rfl rfl (Nat.le_of_ble_eq_true rfl) rm_4_2_1 ⟨by first | exact Nat.le_of_ble_eq_true rfl | exact Nat.zero_le _, by first | exact Nat.le_of_ble_eq_true rfl | exact Nat.zero_le _⟩ gX11_finding_1.2.2.2.2.2.1 (Kors (Keqa fun a2014 => ?_) (Keqa fun a2014 => ?_))
        · refine lv_if_ne (tgt := 42) hx hb gX11_finding_1.2.2.2.2.2.2.1 (by decide) (fun _ => ?_) (fun c9 => absurd c9 (by decide))
          refine lv_aload_n hx hb gX11_finding_1.2.2.2.2.2.2.2.2.2 rfl (lv_at0 hl) ?_
          refine gf_X11_15 hC rfl hK hP 0 rfl rfl gX11_finding_2.1 ?_
          refine gf_X11_271 hC rfl hK hP 1 rfl rfl gX11_finding_2.2.1 ?_
          refine pV hC hK hl hP hD (c_T_isFull l G bfindings 12 4 bfindingsc kbfindings (hkbfindings) (by omega)) si_X11_111 [2] sm_2 fm_2 nd_2 rfl rfl rfl rfl rfl (Nat.le_of_ble_eq_true rfl) rm_4_1_1 ⟨by first | exact Nat.le_of_ble_eq_true rfl | exact Nat.zero_le _, by first | exact Nat.le_of_ble_eq_true rfl | exact Nat.zero_le _⟩ gX11_finding_2.2.2.1 (Kors (Keqa fun a2016 => ?_) (Keqa fun a2016 => ?_))
          · refine lv_if_eq (tgt := 58) hx hb gX11_finding_2.2.2.2.1 (by decide) (fun c9 => absurd c9 (by decide)) (fun _ => ?_)
            refine lv_bipush (v := (-2)) hx hb gX11_finding_2.2.2.2.2.1 (by decide) ?_
            refine toQ hQ0 ?_
            exact RI (v := (-2)) hC hP hD hS [0, 1, 2, 3, 4] (kbfindings, fbfindings) rfl rfl (by decide) (⟨(by first | rfl | (simp only [ifc_t hkbfindings, ifc_t hkbpersons, ifc_t a2008, ifc_t a2010, ifc_t a2012, ifc_t a2014, ifc_t a2016]; done) | (simp only [ifc_t hkbfindings, ifc_t hkbpersons, ifc_t a2008, ifc_t a2010, ifc_t a2012, ifc_t a2014, ifc_t a2016]; rfl) | (dsimp only; simp only [ifc_t hkbfindings, ifc_t hkbpersons, ifc_t a2008, ifc_t a2010, ifc_t a2012, ifc_t a2014, ifc_t a2016]; done)), ⟨by omega, by omega, (by first | rfl | (simp only [ifc_t hkbfindings, ifc_t hkbpersons, ifc_t a2008, ifc_t a2010, ifc_t a2012, ifc_t a2014, ifc_t a2016]; done) | (simp only [ifc_t hkbfindings, ifc_t hkbpersons, ifc_t a2008, ifc_t a2010, ifc_t a2012, ifc_t a2014, ifc_t a2016]; rfl) | (dsimp only; simp only [ifc_t hkbfindings, ifc_t hkbpersons, ifc_t a2008, ifc_t a2010, ifc_t a2012, ifc_t a2014, ifc_t a2016]; done)), (fun i => by first | rfl | (simp only [ifc_t hkbfindings, ifc_t hkbpersons, ifc_t a2008, ifc_t a2010, ifc_t a2012, ifc_t a2014, ifc_t a2016]; done))⟩⟩) rfl gX11_finding_2.2.2.2.2.2.1
          · refine lv_if_eq (tgt := 58) hx hb gX11_finding_2.2.2.2.1 (by decide) (fun _ => ?_) (fun c9 => absurd (by decide) c9)
            refine lv_aload_n hx hb gX11_finding_2.2.2.2.2.2.2.1 rfl (lv_at0 hl) ?_
            refine gf_X11_15 hC rfl hK hP 0 rfl rfl gX11_finding_2.2.2.2.2.2.2.2.1 ?_
            refine gf_X11_271 hC rfl hK hP 1 rfl rfl gX11_finding_2.2.2.2.2.2.2.2.2.1 ?_
            refine iV (wr := [(h0, oX11 bb kk ikp sg do9 ru9 ta9 tp9 ro9 ho9 de9), (bb, oX0 bpersons bpapers bstamps bversions blines bsteps bsayings bfindings bwarnings bquestions td vd vl gp), (bfindingsc, iA G 48 fbfindings), (bpersons, oX8 10 2 bpersonsc (nI kbpersons))]) hC hK hl hP hD hS hA (c_T_append l G bfindings 12 4 bfindingsc kbfindings (a2016) (by omega)) si_X11_117 [2] [0, 1, 3, 4] sm_2 fm_2 nd_2 sm_0_1_3_4 nd_0_1_3_4 dj_2__0_1_3_4 rfl rfl rfl rfl rfl (Nat.le_of_ble_eq_true rfl) rm_4_1_1 ⟨Nat.le_of_ble_eq_true rfl, Nat.le_of_ble_eq_true rfl⟩ gX11_finding_2.2.2.2.2.2.2.2.2.2 (fun r2017 u2018 H locs hr2017 hP hD hS => ?_)
            refine Kpdr (ws := [(h0, oX11 bb kk ikp sg do9 ru9 ta9 tp9 ro9 ho9 de9), (bb, oX0 bpersons bpapers bstamps bversions blines bsteps bsayings bfindings bwarnings bquestions td vd vl gp), (bfindingsc, iA G 48 fbfindings), (bpersons, oX8 10 2 bpersonsc (nI kbpersons)), (bfindings, oX8 12 4 bfindingsc (nI (kbfindings + 1)))]) hP hD (fun hP hD => ?_)
            obtain rfl := hr2017
            refine lv_istore (lv' := [(5, .int (nI kbfindings)), (0, .ref h0), (1, .int x1), (2, .int x2), (3, .int x3), (4, .int x4)]) hx hb gX11_finding_3.1 hl (by decide) rfl (fun ls hl => ?_)
            refine lv_aload_n hx hb gX11_finding_3.2.1 rfl (lv_at1 hl) ?_
            refine gf_X11_15 hC rfl hK hP 0 rfl rfl gX11_finding_3.2.2.1 ?_
            refine gf_X11_271 hC rfl hK hP 1 rfl rfl gX11_finding_3.2.2.2.1 ?_
            refine lv_iload hx hb gX11_finding_3.2.2.2.2.1 (lv_at0 hl) ?_
            refine lv_iconst (v := 0) hx hb gX11_finding_3.2.2.2.2.2.1 (by decide) ?_
            refine lv_iload_n hx hb gX11_finding_3.2.2.2.2.2.2.1 rfl (lv_at2 hl) ?_
            refine vV (wr := [(h0, oX11 bb kk ikp sg do9 ru9 ta9 tp9 ro9 ho9 de9), (bb, oX0 bpersons bpapers bstamps bversions blines bsteps bsayings bfindings bwarnings bquestions td vd vl gp), (bpersons, oX8 10 2 bpersonsc (nI kbpersons))]) hC hK hl hP hD hS hA (c_T_set l G bfindings (nI kbfindings) 0 x1 12 4 bfindingsc (kbfindings + 1) fbfindings (by omega) (by omega) (by omega)) si_X11_120 [4, 2] [0, 1, 3] sm_4_2 fm_4_2 nd_4_2 sm_0_1_3 nd_0_1_3 dj_4_2__0_1_3 rfl rfl rfl rfl rfl (Nat.le_of_ble_eq_true rfl) rm_4_1_4 ⟨Nat.le_of_ble_eq_true rfl, Nat.le_of_ble_eq_true rfl⟩ gX11_finding_3.2.2.2.2.2.2.2.1 (fun f12022 H locs hr2020 hP hD hS => ?_)
            try dsimp only at hr2020
            refine Kpdr (ws := [(h0, oX11 bb kk ikp sg do9 ru9 ta9 tp9 ro9 ho9 de9), (bb, oX0 bpersons bpapers bstamps bversions blines bsteps bsayings bfindings bwarnings bquestions td vd vl gp), (bpersons, oX8 10 2 bpersonsc (nI kbpersons)), (bfindings, oX8 12 4 bfindingsc (nI (kbfindings + 1))), (bfindingsc, iA G 48 f12022)]) hP hD (fun hP hD => ?_)
            have w2023 := hr2020
            refine lv_aload_n hx hb gX11_finding_3.2.2.2.2.2.2.2.2.1 rfl (lv_at1 hl) ?_
            refine gf_X11_15 hC rfl hK hP 0 rfl rfl gX11_finding_3.2.2.2.2.2.2.2.2.2 ?_
            refine gf_X11_271 hC rfl hK hP 1 rfl rfl gX11_finding_4.1 ?_
            refine lv_iload hx hb gX11_finding_4.2.1 (lv_at0 hl) ?_
            refine lv_iconst (v := 1) hx hb gX11_finding_4.2.2.1 (by decide) ?_
            refine lv_iload_n hx hb gX11_finding_4.2.2.2.1 rfl (lv_at3 hl) ?_
            refine vV (wr := [(h0, oX11 bb kk ikp sg do9 ru9 ta9 tp9 ro9 ho9 de9), (bb, oX0 bpersons bpapers bstamps bversions blines bsteps bsayings bfindings bwarnings bquestions td vd vl gp), (bpersons, oX8 10 2 bpersonsc (nI kbpersons))]) hC hK hl hP hD hS hA (c_T_set l G bfindings (nI kbfindings) 1 x2 12 4 bfindingsc (kbfindings + 1) f12022 (by omega) (by omega) (by omega)) si_X11_120 [3, 4] [0, 1, 2] sm_3_4 fm_3_4 nd_3_4 sm_0_1_2 nd_0_1_2 dj_3_4__0_1_2 rfl rfl rfl rfl rfl (Nat.le_of_ble_eq_true rfl) rm_4_1_4 ⟨Nat.le_of_ble_eq_true rfl, Nat.le_of_ble_eq_true rfl⟩ gX11_finding_4.2.2.2.2.1 (fun f12026 H locs hr2024 hP hD hS => ?_)
            try dsimp only at hr2024
            refine Kpdr (ws := [(h0, oX11 bb kk ikp sg do9 ru9 ta9 tp9 ro9 ho9 de9), (bb, oX0 bpersons bpapers bstamps bversions blines bsteps bsayings bfindings bwarnings bquestions td vd vl gp), (bpersons, oX8 10 2 bpersonsc (nI kbpersons)), (bfindings, oX8 12 4 bfindingsc (nI (kbfindings + 1))), (bfindingsc, iA G 48 f12026)]) hP hD (fun hP hD => ?_)
            have w2027 := hr2024
            refine lv_aload_n hx hb gX11_finding_4.2.2.2.2.2.1 rfl (lv_at1 hl) ?_
            refine gf_X11_15 hC rfl hK hP 0 rfl rfl gX11_finding_4.2.2.2.2.2.2.1 ?_
            refine gf_X11_271 hC rfl hK hP 1 rfl rfl gX11_finding_4.2.2.2.2.2.2.2.1 ?_
            refine lv_iload hx hb gX11_finding_4.2.2.2.2.2.2.2.2.1 (lv_at0 hl) ?_
            refine lv_iconst (v := 2) hx hb gX11_finding_4.2.2.2.2.2.2.2.2.2 (by decide) ?_
            refine lv_iload_n hx hb gX11_finding_5.1 rfl (lv_at4 hl) ?_
            refine vV (wr := [(h0, oX11 bb kk ikp sg do9 ru9 ta9 tp9 ro9 ho9 de9), (bb, oX0 bpersons bpapers bstamps bversions blines bsteps bsayings bfindings bwarnings bquestions td vd vl gp), (bpersons, oX8 10 2 bpersonsc (nI kbpersons))]) hC hK hl hP hD hS hA (c_T_set l G bfindings (nI kbfindings) 2 x3 12 4 bfindingsc (kbfindings + 1) f12026 (by omega) (by omega) (by omega)) si_X11_120 [3, 4] [0, 1, 2] sm_3_4 fm_3_4 nd_3_4 sm_0_1_2 nd_0_1_2 dj_3_4__0_1_2 rfl rfl rfl rfl rfl (Nat.le_of_ble_eq_true rfl) rm_4_1_4 ⟨Nat.le_of_ble_eq_true rfl, Nat.le_of_ble_eq_true rfl⟩ gX11_finding_5.2.1 (fun f12030 H locs hr2028 hP hD hS => ?_)
            try dsimp only at hr2028
            refine Kpdr (ws := [(h0, oX11 bb kk ikp sg do9 ru9 ta9 tp9 ro9 ho9 de9), (bb, oX0 bpersons bpapers bstamps bversions blines bsteps bsayings bfindings bwarnings bquestions td vd vl gp), (bpersons, oX8 10 2 bpersonsc (nI kbpersons)), (bfindings, oX8 12 4 bfindingsc (nI (kbfindings + 1))), (bfindingsc, iA G 48 f12030)]) hP hD (fun hP hD => ?_)
            have w2031 := hr2028
            refine lv_aload_n hx hb gX11_finding_5.2.2.1 rfl (lv_at1 hl) ?_
            refine gf_X11_15 hC rfl hK hP 0 rfl rfl gX11_finding_5.2.2.2.1 ?_
            refine gf_X11_271 hC rfl hK hP 1 rfl rfl gX11_finding_5.2.2.2.2.1 ?_
            refine lv_iload hx hb gX11_finding_5.2.2.2.2.2.1 (lv_at0 hl) ?_
            refine lv_iconst (v := 3) hx hb gX11_finding_5.2.2.2.2.2.2.1 (by decide) ?_
            refine lv_iload hx hb gX11_finding_5.2.2.2.2.2.2.2.1 (lv_at5 hl) ?_
            refine vV (wr := [(h0, oX11 bb kk ikp sg do9 ru9 ta9 tp9 ro9 ho9 de9), (bb, oX0 bpersons bpapers bstamps bversions blines bsteps bsayings bfindings bwarnings bquestions td vd vl gp), (bpersons, oX8 10 2 bpersonsc (nI kbpersons))]) hC hK hl hP hD hS hA (c_T_set l G bfindings (nI kbfindings) 3 x4 12 4 bfindingsc (kbfindings + 1) f12030 (by omega) (by omega) (by omega)) si_X11_120 [3, 4] [0, 1, 2] sm_3_4 fm_3_4 nd_3_4 sm_0_1_2 nd_0_1_2 dj_3_4__0_1_2 rfl rfl rfl rfl rfl (Nat.le_of_ble_eq_true rfl) rm_4_1_4 ⟨Nat.le_of_ble_eq_true rfl, Nat.le_of_ble_eq_true rfl⟩ gX11_finding_5.2.2.2.2.2.2.2.2.1 (fun f12034 H locs hr2032 hP hD hS => ?_)
            try dsimp only at hr2032
            refine Kpdr (ws := [(h0, oX11 bb kk ikp sg do9 ru9 ta9 tp9 ro9 ho9 de9), (bb, oX0 bpersons bpapers bstamps bversions blines bsteps bsayings bfindings bwarnings bquestions td vd vl gp), (bpersons, oX8 10 2 bpersonsc (nI kbpersons)), (bfindings, oX8 12 4 bfindingsc (nI (kbfindings + 1))), (bfindingsc, iA G 48 f12034)]) hP hD (fun hP hD => ?_)
            have w2035 := hr2032
            refine lv_iload hx hb gX11_finding_5.2.2.2.2.2.2.2.2.2 (lv_at0 hl) ?_
            have tt2036 : f12022 = upd fbfindings (kbfindings * 4 + 0) x1 := w2023.symm.trans (ts1 (by decide) (by decide) (by omega) rfl)
            have tt2037 : f12026 = upd f12022 (kbfindings * 4 + 1) x2 := w2027.symm.trans (ts1 (by decide) (by decide) (by omega) rfl)
            have tt2038 : f12030 = upd f12026 (kbfindings * 4 + 2) x3 := w2031.symm.trans (ts1 (by decide) (by decide) (by omega) rfl)
            have tt2039 : f12034 = upd f12030 (kbfindings * 4 + 3) x4 := w2035.symm.trans (ts1 (by decide) (by decide) (by omega) rfl)
            have tu2040 : f12034 = rowu fbfindings (kbfindings * 4) [x1, x2, x3, x4] := by rw [tt2039, tt2038, tt2037, tt2036]; rfl
            refine toQ hQ0 ?_
            exact RI (v := nI kbfindings) hC hP hD hS [0, 1, 3, 4, 2] ((kbfindings + 1), f12034) rfl rfl (by decide) (⟨(by first | rfl | (simp only [ifc_t hkbfindings, ifc_t hkbpersons, ifc_t a2008, ifc_t a2010, ifc_t a2012, ifc_t a2014, ifc_t a2016, ifc_f (Nat.not_le.mpr a2016)]; done) | (simp only [ifc_t hkbfindings, ifc_t hkbpersons, ifc_t a2008, ifc_t a2010, ifc_t a2012, ifc_t a2014, ifc_t a2016, ifc_f (Nat.not_le.mpr a2016)]; rfl) | (dsimp only; simp only [ifc_t hkbfindings, ifc_t hkbpersons, ifc_t a2008, ifc_t a2010, ifc_t a2012, ifc_t a2014, ifc_t a2016, ifc_f (Nat.not_le.mpr a2016)]; done)), ⟨by omega, by omega, (by first | rfl | (simp only [ifc_t hkbfindings, ifc_t hkbpersons, ifc_t a2008, ifc_t a2010, ifc_t a2012, ifc_t a2014, ifc_t a2016, ifc_f (Nat.not_le.mpr a2016)]; done) | (simp only [ifc_t hkbfindings, ifc_t hkbpersons, ifc_t a2008, ifc_t a2010, ifc_t a2012, ifc_t a2014, ifc_t a2016, ifc_f (Nat.not_le.mpr a2016)]; rfl) | (dsimp only; simp only [ifc_t hkbfindings, ifc_t hkbpersons, ifc_t a2008, ifc_t a2010, ifc_t a2012, ifc_t a2014, ifc_t a2016, ifc_f (Nat.not_le.mpr a2016)]; done)), (fun i => by simp only [ifc_t hkbfindings, ifc_t hkbpersons, ifc_t a2008, ifc_t a2010, ifc_t a2012, ifc_t a2014, ifc_t a2016, ifc_f (Nat.not_le.mpr a2016)]; rw [tu2040])⟩⟩) rfl gX11_finding_6
        · refine lv_if_ne (tgt := 42) hx hb gX11_finding_1.2.2.2.2.2.2.1 (by decide) (fun c9 => absurd (by decide) c9) (fun _ => ?_)
          refine lv_iconst (v := (-1)) hx hb gX11_finding_1.2.2.2.2.2.2.2.1 (by decide) ?_
          refine toQ hQ0 ?_
          exact RI (v := (-1)) hC hP hD hS [0, 1, 2, 3, 4] (kbfindings, fbfindings) rfl rfl (by decide) (⟨(by first | rfl | (simp only [ifc_t hkbfindings, ifc_t hkbpersons, ifc_t a2008, ifc_t a2010, ifc_t a2012, ifc_f a2014]; done) | (simp only [ifc_t hkbfindings, ifc_t hkbpersons, ifc_t a2008, ifc_t a2010, ifc_t a2012, ifc_f a2014]; rfl) | (dsimp only; simp only [ifc_t hkbfindings, ifc_t hkbpersons, ifc_t a2008, ifc_t a2010, ifc_t a2012, ifc_f a2014]; done)), ⟨by omega, by omega, (by first | rfl | (simp only [ifc_t hkbfindings, ifc_t hkbpersons, ifc_t a2008, ifc_t a2010, ifc_t a2012, ifc_f a2014]; done) | (simp only [ifc_t hkbfindings, ifc_t hkbpersons, ifc_t a2008, ifc_t a2010, ifc_t a2012, ifc_f a2014]; rfl) | (dsimp only; simp only [ifc_t hkbfindings, ifc_t hkbpersons, ifc_t a2008, ifc_t a2010, ifc_t a2012, ifc_f a2014]; done)), (fun i => by first | rfl | (simp only [ifc_t hkbfindings, ifc_t hkbpersons, ifc_t a2008, ifc_t a2010, ifc_t a2012, ifc_f a2014]; done))⟩⟩) rfl gX11_finding_1.2.2.2.2.2.2.2.2.1
      · refine lv_if_eq (tgt := 40) hx hb gX11_finding_1.2.2.2.1 (by decide) (fun _ => ?_) (fun c9 => absurd (by decide) c9)
        refine lv_iconst (v := (-1)) hx hb gX11_finding_1.2.2.2.2.2.2.2.1 (by decide) ?_
        refine toQ hQ0 ?_
        exact RI (v := (-1)) hC hP hD hS [0, 1, 2, 3, 4] (kbfindings, fbfindings) rfl rfl (by decide) (⟨(by first | rfl | (simp only [ifc_t hkbfindings, ifc_t hkbpersons, ifc_t a2008, ifc_t a2010, ifc_f a2012]; done) | (simp only [ifc_t hkbfindings, ifc_t hkbpersons, ifc_t a2008, ifc_t a2010, ifc_f a2012]; rfl) | (dsimp only; simp only [ifc_t hkbfindings, ifc_t hkbpersons, ifc_t a2008, ifc_t a2010, ifc_f a2012]; done)), ⟨by omega, by omega, (by first | rfl | (simp only [ifc_t hkbfindings, ifc_t hkbpersons, ifc_t a2008, ifc_t a2010, ifc_f a2012]; done) | (simp only [ifc_t hkbfindings, ifc_t hkbpersons, ifc_t a2008, ifc_t a2010, ifc_f a2012]; rfl) | (dsimp only; simp only [ifc_t hkbfindings, ifc_t hkbpersons, ifc_t a2008, ifc_t a2010, ifc_f a2012]; done)), (fun i => by first | rfl | (simp only [ifc_t hkbfindings, ifc_t hkbpersons, ifc_t a2008, ifc_t a2010, ifc_f a2012]; done))⟩⟩) rfl gX11_finding_1.2.2.2.2.2.2.2.2.1
    · refine lv_if_eq (tgt := 40) hx hb gX11_finding_0.2.2.2.2.2.2.2.2.1 (by decide) (fun _ => ?_) (fun c9 => absurd (by decide) c9)
      refine lv_iconst (v := (-1)) hx hb gX11_finding_1.2.2.2.2.2.2.2.1 (by decide) ?_
      refine toQ hQ0 ?_
      exact RI (v := (-1)) hC hP hD hS [0, 1, 2, 3, 4] (kbfindings, fbfindings) rfl rfl (by decide) (⟨(by first | rfl | (simp only [ifc_t hkbfindings, ifc_t hkbpersons, ifc_t a2008, ifc_f a2010]; done) | (simp only [ifc_t hkbfindings, ifc_t hkbpersons, ifc_t a2008, ifc_f a2010]; rfl) | (dsimp only; simp only [ifc_t hkbfindings, ifc_t hkbpersons, ifc_t a2008, ifc_f a2010]; done)), ⟨by omega, by omega, (by first | rfl | (simp only [ifc_t hkbfindings, ifc_t hkbpersons, ifc_t a2008, ifc_f a2010]; done) | (simp only [ifc_t hkbfindings, ifc_t hkbpersons, ifc_t a2008, ifc_f a2010]; rfl) | (dsimp only; simp only [ifc_t hkbfindings, ifc_t hkbpersons, ifc_t a2008, ifc_f a2010]; done)), (fun i => by first | rfl | (simp only [ifc_t hkbfindings, ifc_t hkbpersons, ifc_t a2008, ifc_f a2010]; done))⟩⟩) rfl gX11_finding_1.2.2.2.2.2.2.2.2.1
  · refine lv_if_eq (tgt := 40) hx hb gX11_finding_0.2.2.2.2.2.1 (by decide) (fun _ => ?_) (fun c9 => absurd (by decide) c9)
    refine lv_iconst (v := (-1)) hx hb gX11_finding_1.2.2.2.2.2.2.2.1 (by decide) ?_
    refine toQ hQ0 ?_
    exact RI (v := (-1)) hC hP hD hS [0, 1, 2, 3, 4] (kbfindings, fbfindings) rfl rfl (by decide) (⟨(by first | rfl | (simp only [ifc_t hkbfindings, ifc_t hkbpersons, ifc_f a2008]; done) | (simp only [ifc_t hkbfindings, ifc_t hkbpersons, ifc_f a2008]; rfl) | (dsimp only; simp only [ifc_t hkbfindings, ifc_t hkbpersons, ifc_f a2008]; done)), ⟨by omega, by omega, (by first | rfl | (simp only [ifc_t hkbfindings, ifc_t hkbpersons, ifc_f a2008]; done) | (simp only [ifc_t hkbfindings, ifc_t hkbpersons, ifc_f a2008]; rfl) | (dsimp only; simp only [ifc_t hkbfindings, ifc_t hkbpersons, ifc_f a2008]; done)), (fun i => by first | rfl | (simp only [ifc_t hkbfindings, ifc_t hkbpersons, ifc_f a2008]; done))⟩⟩) rfl gX11_finding_1.2.2.2.2.2.2.2.2.1
def K_p_warn (l : Launch) (G : GG) (h0 : Nat) (x1 : Int32) (x2 : Int32) (bb : Nat) (kk : Nat) (ikp : Int32) (sg : Nat) (do9 : Nat) (ru9 : Nat) (ta9 : Nat) (tp9 : Nat) (ro9 : Nat) (ho9 : Nat) (de9 : Nat) (bpersons : Nat) (bpapers : Nat) (bstamps : Nat) (bversions : Nat) (blines : Nat) (bsteps : Nat) (bsayings : Nat) (bfindings : Nat) (bwarnings : Nat) (bquestions : Nat) (td : Int32) (vd : Int32) (vl : Int32) (gp : Int32) (bwarningsc : Nat) (kbwarnings : Nat) (fbwarnings : Nat → Int32) (bpersonsc : Nat) (kbpersons : Nat) (bpapersc : Nat) (kbpapers : Nat) : Prop := MI l G yX11_warn cX11_warn 4 (some .int) 4 0 0 [.ref h0, .int x1, .int x2] [(h0, oX11 bb kk ikp sg do9 ru9 ta9 tp9 ro9 ho9 de9), (bb, oX0 bpersons bpapers bstamps bversions blines bsteps bsayings bfindings bwarnings bquestions td vd vl gp), (bwarnings, oX8 16 3 bwarningsc (nI kbwarnings)), (bwarningsc, iA G 48 fbwarnings), (bpersons, oX8 10 2 bpersonsc (nI kbpersons)), (bpapers, oX8 12 6 bpapersc (nI kbpapers))] (fun (r : Int32) (u : Nat × (Nat → Int32)) => (r = ifc (Hs x1 kbpersons) (ifc (Hs x2 kbpapers) (ifc (16 ≤ kbwarnings) (-2) (nI kbwarnings)) (-1)) (-1)) ∧ (u.1 ≤ 16 ∧ kbwarnings ≤ u.1 ∧ nI u.1 = ifc (Hs x1 kbpersons) (ifc (Hs x2 kbpapers) (ifc (16 ≤ kbwarnings) (nI kbwarnings) (nI (kbwarnings + 1))) (nI kbwarnings)) (nI kbwarnings) ∧ ∀ i : Nat, u.2 i = ifc (Hs x1 kbpersons) (ifc (Hs x2 kbpapers) (ifc (16 ≤ kbwarnings) (fbwarnings i) (rowu fbwarnings (kbwarnings * 3) [x1, x2, td] i)) (fbwarnings i)) (fbwarnings i))) (fun u : Nat × (Nat → Int32) => [(h0, oX11 bb kk ikp sg do9 ru9 ta9 tp9 ro9 ho9 de9), (bb, oX0 bpersons bpapers bstamps bversions blines bsteps bsayings bfindings bwarnings bquestions td vd vl gp), (bwarnings, oX8 16 3 bwarningsc (nI u.1)), (bwarningsc, iA G 48 u.2), (bpersons, oX8 10 2 bpersonsc (nI kbpersons)), (bpapers, oX8 12 6 bpapersc (nI kbpapers))])
set_option maxHeartbeats 4000000 in
set_option maxRecDepth 100000 in
theorem p_warn (l : Launch) (G : GG) (h0 : Nat) (x1 : Int32) (x2 : Int32) (bb : Nat) (kk : Nat) (ikp : Int32) (sg : Nat) (do9 : Nat) (ru9 : Nat) (ta9 : Nat) (tp9 : Nat) (ro9 : Nat) (ho9 : Nat) (de9 : Nat) (bpersons : Nat) (bpapers : Nat) (bstamps : Nat) (bversions : Nat) (blines : Nat) (bsteps : Nat) (bsayings : Nat) (bfindings : Nat) (bwarnings : Nat) (bquestions : Nat) (td : Int32) (vd : Int32) (vl : Int32) (gp : Int32) (bwarningsc : Nat) (kbwarnings : Nat) (fbwarnings : Nat → Int32) (bpersonsc : Nat) (kbpersons : Nat) (bpapersc : Nat) (kbpapers : Nat) (hkbwarnings : kbwarnings ≤ 16) (hkbpersons : kbpersons ≤ 10) (hkbpapers : kbpapers ≤ 12) : K_p_warn l G h0 x1 x2 bb kk ikp sg do9 ru9 ta9 tp9 ro9 ho9 de9 bpersons bpapers bstamps bversions blines bsteps bsayings bfindings bwarnings bquestions td vd vl gp bwarningsc kbwarnings fbwarnings bpersonsc kbpersons bpapersc kbpapers := by
  refine MI.start (by decide +kernel) (Nat.le_of_ble_eq_true rfl) ?_
  intro p e s m below meth c A ls hC hK hP hD hS hA hl
  refine absQ (fun Q0 hQ0 => ?_)
  have hl : lv_has ls 4 [(0, .ref h0), (1, .int x1), (2, .int x2)] := hl
  refine Kan8 hC (fun hx hb hr hml hB hown hlocks hnm => ?_)
  refine lv_aload_n hx hb gX11_warn_0.1 rfl (lv_at0 hl) ?_
  refine gf_X11_15 hC rfl hK hP 0 rfl rfl gX11_warn_0.2.1 ?_
  refine gf_X11_107 hC rfl hK hP 1 rfl rfl gX11_warn_0.2.2.1 ?_
  refine lv_iload_n hx hb gX11_warn_0.2.2.2.1 rfl (lv_at1 hl) ?_
  refine pV hC hK hl hP hD (c_T_has l G bpersons x1 10 2 bpersonsc kbpersons) si_X11_124 [4] sm_4 fm_4 nd_4 rfl rfl rfl rfl rfl (Nat.le_of_ble_eq_true rfl) rm_4_1_2 ⟨by first | exact Nat.le_of_ble_eq_true rfl | exact Nat.zero_le _, by first | exact Nat.le_of_ble_eq_true rfl | exact Nat.zero_le _⟩ gX11_warn_0.2.2.2.2.1 (Kors (Keqa fun a2042 => ?_) (Keqa fun a2042 => ?_))
  · refine lv_if_eq (tgt := 28) hx hb gX11_warn_0.2.2.2.2.2.1 (by decide) (fun c9 => absurd c9 (by decide)) (fun _ => ?_)
    refine lv_aload_n hx hb gX11_warn_0.2.2.2.2.2.2.1 rfl (lv_at0 hl) ?_
    refine gf_X11_15 hC rfl hK hP 0 rfl rfl gX11_warn_0.2.2.2.2.2.2.2.1 ?_
    refine gf_X11_144 hC rfl hK hP 1 rfl rfl gX11_warn_0.2.2.2.2.2.2.2.2.1 ?_
    refine lv_iload_n hx hb gX11_warn_0.2.2.2.2.2.2.2.2.2 rfl (lv_at2 hl) ?_
    refine pV hC hK hl hP hD (c_T_has l G bpapers x2 12 6 bpapersc kbpapers) si_X11_124 [5] sm_5 fm_5 nd_5 rfl rfl rfl rfl rfl (Nat.le_of_ble_eq_true rfl) rm_4_1_2 ⟨by first | exact Nat.le_of_ble_eq_true rfl | exact Nat.zero_le _, by first | exact Nat.le_of_ble_eq_true rfl | exact Nat.zero_le _⟩ gX11_warn_1.1 (Kors (Keqa fun a2044 => ?_) (Keqa fun a2044 => ?_))
    · refine lv_if_ne (tgt := 30) hx hb gX11_warn_1.2.1 (by decide) (fun _ => ?_) (fun c9 => absurd c9 (by decide))
      refine lv_aload_n hx hb gX11_warn_1.2.2.2.2.1 rfl (lv_at0 hl) ?_
      refine gf_X11_15 hC rfl hK hP 0 rfl rfl gX11_warn_1.2.2.2.2.2.1 ?_
      refine gf_X11_283 hC rfl hK hP 1 rfl rfl gX11_warn_1.2.2.2.2.2.2.1 ?_
      refine pV hC hK hl hP hD (c_T_isFull l G bwarnings 16 3 bwarningsc kbwarnings (hkbwarnings) (by omega)) si_X11_111 [2] sm_2 fm_2 nd_2 rfl rfl rfl rfl rfl (Nat.le_of_ble_eq_true rfl) rm_4_1_1 ⟨by first | exact Nat.le_of_ble_eq_true rfl | exact Nat.zero_le _, by first | exact Nat.le_of_ble_eq_true rfl | exact Nat.zero_le _⟩ gX11_warn_1.2.2.2.2.2.2.2.1 (Kors (Keqa fun a2046 => ?_) (Keqa fun a2046 => ?_))
      · refine lv_if_eq (tgt := 46) hx hb gX11_warn_1.2.2.2.2.2.2.2.2.1 (by decide) (fun c9 => absurd c9 (by decide)) (fun _ => ?_)
        refine lv_bipush (v := (-2)) hx hb gX11_warn_1.2.2.2.2.2.2.2.2.2 (by decide) ?_
        refine toQ hQ0 ?_
        exact RI (v := (-2)) hC hP hD hS [0, 1, 2, 3, 4, 5] (kbwarnings, fbwarnings) rfl rfl (by decide) (⟨(by first | rfl | (simp only [ifc_t hkbwarnings, ifc_t hkbpersons, ifc_t hkbpapers, ifc_t a2042, ifc_t a2044, ifc_t a2046]; done) | (simp only [ifc_t hkbwarnings, ifc_t hkbpersons, ifc_t hkbpapers, ifc_t a2042, ifc_t a2044, ifc_t a2046]; rfl) | (dsimp only; simp only [ifc_t hkbwarnings, ifc_t hkbpersons, ifc_t hkbpapers, ifc_t a2042, ifc_t a2044, ifc_t a2046]; done)), ⟨by omega, by omega, (by first | rfl | (simp only [ifc_t hkbwarnings, ifc_t hkbpersons, ifc_t hkbpapers, ifc_t a2042, ifc_t a2044, ifc_t a2046]; done) | (simp only [ifc_t hkbwarnings, ifc_t hkbpersons, ifc_t hkbpapers, ifc_t a2042, ifc_t a2044, ifc_t a2046]; rfl) | (dsimp only; simp only [ifc_t hkbwarnings, ifc_t hkbpersons, ifc_t hkbpapers, ifc_t a2042, ifc_t a2044, ifc_t a2046]; done)), (fun i => by first | rfl | (simp only [ifc_t hkbwarnings, ifc_t hkbpersons, ifc_t hkbpapers, ifc_t a2042, ifc_t a2044, ifc_t a2046]; done))⟩⟩) rfl gX11_warn_2.1
      · refine lv_if_eq (tgt := 46) hx hb gX11_warn_1.2.2.2.2.2.2.2.2.1 (by decide) (fun _ => ?_) (fun c9 => absurd (by decide) c9)
        refine lv_aload_n hx hb gX11_warn_2.2.1 rfl (lv_at0 hl) ?_
        refine gf_X11_15 hC rfl hK hP 0 rfl rfl gX11_warn_2.2.2.1 ?_
        refine gf_X11_283 hC rfl hK hP 1 rfl rfl gX11_warn_2.2.2.2.1 ?_
        refine iV (wr := [(h0, oX11 bb kk ikp sg do9 ru9 ta9 tp9 ro9 ho9 de9), (bb, oX0 bpersons bpapers bstamps bversions blines bsteps bsayings bfindings bwarnings bquestions td vd vl gp), (bwarningsc, iA G 48 fbwarnings), (bpersons, oX8 10 2 bpersonsc (nI kbpersons)), (bpapers, oX8 12 6 bpapersc (nI kbpapers))]) hC hK hl hP hD hS hA (c_T_append l G bwarnings 16 3 bwarningsc kbwarnings (a2046) (by omega)) si_X11_117 [2] [0, 1, 3, 4, 5] sm_2 fm_2 nd_2 sm_0_1_3_4_5 nd_0_1_3_4_5 dj_2__0_1_3_4_5 rfl rfl rfl rfl rfl (Nat.le_of_ble_eq_true rfl) rm_4_1_1 ⟨Nat.le_of_ble_eq_true rfl, Nat.le_of_ble_eq_true rfl⟩ gX11_warn_2.2.2.2.2.1 (fun r2047 u2048 H locs hr2047 hP hD hS => ?_)
        refine Kpdr (ws := [(h0, oX11 bb kk ikp sg do9 ru9 ta9 tp9 ro9 ho9 de9), (bb, oX0 bpersons bpapers bstamps bversions blines bsteps bsayings bfindings bwarnings bquestions td vd vl gp), (bwarningsc, iA G 48 fbwarnings), (bpersons, oX8 10 2 bpersonsc (nI kbpersons)), (bpapers, oX8 12 6 bpapersc (nI kbpapers)), (bwarnings, oX8 16 3 bwarningsc (nI (kbwarnings + 1)))]) hP hD (fun hP hD => ?_)
        obtain rfl := hr2047
        refine lv_istore_n (lv' := [(3, .int (nI kbwarnings)), (0, .ref h0), (1, .int x1), (2, .int x2)]) hx hb gX11_warn_2.2.2.2.2.2.1 rfl hl (by decide) rfl (fun ls hl => ?_)
        refine lv_aload_n hx hb gX11_warn_2.2.2.2.2.2.2.1 rfl (lv_at1 hl) ?_
        refine gf_X11_15 hC rfl hK hP 0 rfl rfl gX11_warn_2.2.2.2.2.2.2.2.1 ?_
        refine gf_X11_283 hC rfl hK hP 1 rfl rfl gX11_warn_2.2.2.2.2.2.2.2.2.1 ?_
        refine lv_iload_n hx hb gX11_warn_2.2.2.2.2.2.2.2.2.2 rfl (lv_at0 hl) ?_
        refine lv_iconst (v := 0) hx hb gX11_warn_3.1 (by decide) ?_
        refine lv_iload_n hx hb gX11_warn_3.2.1 rfl (lv_at2 hl) ?_
        refine vV (wr := [(h0, oX11 bb kk ikp sg do9 ru9 ta9 tp9 ro9 ho9 de9), (bb, oX0 bpersons bpapers bstamps bversions blines bsteps bsayings bfindings bwarnings bquestions td vd vl gp), (bpersons, oX8 10 2 bpersonsc (nI kbpersons)), (bpapers, oX8 12 6 bpapersc (nI kbpapers))]) hC hK hl hP hD hS hA (c_T_set l G bwarnings (nI kbwarnings) 0 x1 16 3 bwarningsc (kbwarnings + 1) fbwarnings (by omega) (by omega) (by omega)) si_X11_120 [5, 2] [0, 1, 3, 4] sm_5_2 fm_5_2 nd_5_2 sm_0_1_3_4 nd_0_1_3_4 dj_5_2__0_1_3_4 rfl rfl rfl rfl rfl (Nat.le_of_ble_eq_true rfl) rm_4_1_4 ⟨Nat.le_of_ble_eq_true rfl, Nat.le_of_ble_eq_true rfl⟩ gX11_warn_3.2.2.1 (fun f12052 H locs hr2050 hP hD hS => ?_)
        try dsimp only at hr2050
        refine Kpdr (ws := [(h0, oX11 bb kk ikp sg do9 ru9 ta9 tp9 ro9 ho9 de9), (bb, oX0 bpersons bpapers bstamps bversions blines bsteps bsayings bfindings bwarnings bquestions td vd vl gp), (bpersons, oX8 10 2 bpersonsc (nI kbpersons)), (bpapers, oX8 12 6 bpapersc (nI kbpapers)), (bwarnings, oX8 16 3 bwarningsc (nI (kbwarnings + 1))), (bwarningsc, iA G 48 f12052)]) hP hD (fun hP hD => ?_)
        have w2053 := hr2050
        refine lv_aload_n hx hb gX11_warn_3.2.2.2.1 rfl (lv_at1 hl) ?_
        refine gf_X11_15 hC rfl hK hP 0 rfl rfl gX11_warn_3.2.2.2.2.1 ?_
        refine gf_X11_283 hC rfl hK hP 1 rfl rfl gX11_warn_3.2.2.2.2.2.1 ?_
        refine lv_iload_n hx hb gX11_warn_3.2.2.2.2.2.2.1 rfl (lv_at0 hl) ?_
        refine lv_iconst (v := 1) hx hb gX11_warn_3.2.2.2.2.2.2.2.1 (by decide) ?_
        refine lv_iload_n hx hb gX11_warn_3.2.2.2.2.2.2.2.2.1 rfl (lv_at3 hl) ?_
        refine vV (wr := [(h0, oX11 bb kk ikp sg do9 ru9 ta9 tp9 ro9 ho9 de9), (bb, oX0 bpersons bpapers bstamps bversions blines bsteps bsayings bfindings bwarnings bquestions td vd vl gp), (bpersons, oX8 10 2 bpersonsc (nI kbpersons)), (bpapers, oX8 12 6 bpapersc (nI kbpapers))]) hC hK hl hP hD hS hA (c_T_set l G bwarnings (nI kbwarnings) 1 x2 16 3 bwarningsc (kbwarnings + 1) f12052 (by omega) (by omega) (by omega)) si_X11_120 [4, 5] [0, 1, 2, 3] sm_4_5 fm_4_5 nd_4_5 sm_0_1_2_3 nd_0_1_2_3 dj_4_5__0_1_2_3 rfl rfl rfl rfl rfl (Nat.le_of_ble_eq_true rfl) rm_4_1_4 ⟨Nat.le_of_ble_eq_true rfl, Nat.le_of_ble_eq_true rfl⟩ gX11_warn_3.2.2.2.2.2.2.2.2.2 (fun f12056 H locs hr2054 hP hD hS => ?_)
        try dsimp only at hr2054
        refine Kpdr (ws := [(h0, oX11 bb kk ikp sg do9 ru9 ta9 tp9 ro9 ho9 de9), (bb, oX0 bpersons bpapers bstamps bversions blines bsteps bsayings bfindings bwarnings bquestions td vd vl gp), (bpersons, oX8 10 2 bpersonsc (nI kbpersons)), (bpapers, oX8 12 6 bpapersc (nI kbpapers)), (bwarnings, oX8 16 3 bwarningsc (nI (kbwarnings + 1))), (bwarningsc, iA G 48 f12056)]) hP hD (fun hP hD => ?_)
        have w2057 := hr2054
        refine lv_aload_n hx hb gX11_warn_4.1 rfl (lv_at1 hl) ?_
        refine gf_X11_15 hC rfl hK hP 0 rfl rfl gX11_warn_4.2.1 ?_
        refine gf_X11_283 hC rfl hK hP 1 rfl rfl gX11_warn_4.2.2.1 ?_
        refine lv_iload_n hx hb gX11_warn_4.2.2.2.1 rfl (lv_at0 hl) ?_
        refine lv_iconst (v := 2) hx hb gX11_warn_4.2.2.2.2.1 (by decide) ?_
        refine lv_aload_n hx hb gX11_warn_4.2.2.2.2.2.1 rfl (lv_at1 hl) ?_
        refine gf_X11_15 hC rfl hK hP 0 rfl rfl gX11_warn_4.2.2.2.2.2.2.1 ?_
        refine gf_X11_87 hC rfl hK hP 1 rfl rfl gX11_warn_4.2.2.2.2.2.2.2.1 ?_
        refine vV (wr := [(h0, oX11 bb kk ikp sg do9 ru9 ta9 tp9 ro9 ho9 de9), (bb, oX0 bpersons bpapers bstamps bversions blines bsteps bsayings bfindings bwarnings bquestions td vd vl gp), (bpersons, oX8 10 2 bpersonsc (nI kbpersons)), (bpapers, oX8 12 6 bpapersc (nI kbpapers))]) hC hK hl hP hD hS hA (c_T_set l G bwarnings (nI kbwarnings) 2 td 16 3 bwarningsc (kbwarnings + 1) f12056 (by omega) (by omega) (by omega)) si_X11_120 [4, 5] [0, 1, 2, 3] sm_4_5 fm_4_5 nd_4_5 sm_0_1_2_3 nd_0_1_2_3 dj_4_5__0_1_2_3 rfl rfl rfl rfl rfl (Nat.le_of_ble_eq_true rfl) rm_4_1_4 ⟨Nat.le_of_ble_eq_true rfl, Nat.le_of_ble_eq_true rfl⟩ gX11_warn_4.2.2.2.2.2.2.2.2.1 (fun f12060 H locs hr2058 hP hD hS => ?_)
        try dsimp only at hr2058
        refine Kpdr (ws := [(h0, oX11 bb kk ikp sg do9 ru9 ta9 tp9 ro9 ho9 de9), (bb, oX0 bpersons bpapers bstamps bversions blines bsteps bsayings bfindings bwarnings bquestions td vd vl gp), (bpersons, oX8 10 2 bpersonsc (nI kbpersons)), (bpapers, oX8 12 6 bpapersc (nI kbpapers)), (bwarnings, oX8 16 3 bwarningsc (nI (kbwarnings + 1))), (bwarningsc, iA G 48 f12060)]) hP hD (fun hP hD => ?_)
        have w2061 := hr2058
        refine lv_iload_n hx hb gX11_warn_4.2.2.2.2.2.2.2.2.2 rfl (lv_at0 hl) ?_
        have tt2062 : f12052 = upd fbwarnings (kbwarnings * 3 + 0) x1 := w2053.symm.trans (ts1 (by decide) (by decide) (by omega) rfl)
        have tt2063 : f12056 = upd f12052 (kbwarnings * 3 + 1) x2 := w2057.symm.trans (ts1 (by decide) (by decide) (by omega) rfl)
        have tt2064 : f12060 = upd f12056 (kbwarnings * 3 + 2) td := w2061.symm.trans (ts1 (by decide) (by decide) (by omega) rfl)
        have tu2065 : f12060 = rowu fbwarnings (kbwarnings * 3) [x1, x2, td] := by rw [tt2064, tt2063, tt2062]; rfl
        refine toQ hQ0 ?_
        exact RI (v := nI kbwarnings) hC hP hD hS [0, 1, 4, 5, 2, 3] ((kbwarnings + 1), f12060) rfl rfl (by decide) (⟨(by first | rfl | (simp only [ifc_t hkbwarnings, ifc_t hkbpersons, ifc_t hkbpapers, ifc_t a2042, ifc_t a2044, ifc_t a2046, ifc_f (Nat.not_le.mpr a2046)]; done) | (simp only [ifc_t hkbwarnings, ifc_t hkbpersons, ifc_t hkbpapers, ifc_t a2042, ifc_t a2044, ifc_t a2046, ifc_f (Nat.not_le.mpr a2046)]; rfl) | (dsimp only; simp only [ifc_t hkbwarnings, ifc_t hkbpersons, ifc_t hkbpapers, ifc_t a2042, ifc_t a2044, ifc_t a2046, ifc_f (Nat.not_le.mpr a2046)]; done)), ⟨by omega, by omega, (by first | rfl | (simp only [ifc_t hkbwarnings, ifc_t hkbpersons, ifc_t hkbpapers, ifc_t a2042, ifc_t a2044, ifc_t a2046, ifc_f (Nat.not_le.mpr a2046)]; done) | (simp only [ifc_t hkbwarnings, ifc_t hkbpersons, ifc_t hkbpapers, ifc_t a2042, ifc_t a2044, ifc_t a2046, ifc_f (Nat.not_le.mpr a2046)]; rfl) | (dsimp only; simp only [ifc_t hkbwarnings, ifc_t hkbpersons, ifc_t hkbpapers, ifc_t a2042, ifc_t a2044, ifc_t a2046, ifc_f (Nat.not_le.mpr a2046)]; done)), (fun i => by simp only [ifc_t hkbwarnings, ifc_t hkbpersons, ifc_t hkbpapers, ifc_t a2042, ifc_t a2044, ifc_t a2046, ifc_f (Nat.not_le.mpr a2046)]; rw [tu2065])⟩⟩) rfl gX11_warn_5
    · refine lv_if_ne (tgt := 30) hx hb gX11_warn_1.2.1 (by decide) (fun c9 => absurd (by decide) c9) (fun _ => ?_)
      refine lv_iconst (v := (-1)) hx hb gX11_warn_1.2.2.1 (by decide) ?_
      refine toQ hQ0 ?_
      exact RI (v := (-1)) hC hP hD hS [0, 1, 2, 3, 4, 5] (kbwarnings, fbwarnings) rfl rfl (by decide) (⟨(by first | rfl | (simp only [ifc_t hkbwarnings, ifc_t hkbpersons, ifc_t hkbpapers, ifc_t a2042, ifc_f a2044]; done) | (simp only [ifc_t hkbwarnings, ifc_t hkbpersons, ifc_t hkbpapers, ifc_t a2042, ifc_f a2044]; rfl) | (dsimp only; simp only [ifc_t hkbwarnings, ifc_t hkbpersons, ifc_t hkbpapers, ifc_t a2042, ifc_f a2044]; done)), ⟨by omega, by omega, (by first | rfl | (simp only [ifc_t hkbwarnings, ifc_t hkbpersons, ifc_t hkbpapers, ifc_t a2042, ifc_f a2044]; done) | (simp only [ifc_t hkbwarnings, ifc_t hkbpersons, ifc_t hkbpapers, ifc_t a2042, ifc_f a2044]; rfl) | (dsimp only; simp only [ifc_t hkbwarnings, ifc_t hkbpersons, ifc_t hkbpapers, ifc_t a2042, ifc_f a2044]; done)), (fun i => by first | rfl | (simp only [ifc_t hkbwarnings, ifc_t hkbpersons, ifc_t hkbpapers, ifc_t a2042, ifc_f a2044]; done))⟩⟩) rfl gX11_warn_1.2.2.2.1
  · refine lv_if_eq (tgt := 28) hx hb gX11_warn_0.2.2.2.2.2.1 (by decide) (fun _ => ?_) (fun c9 => absurd (by decide) c9)
    refine lv_iconst (v := (-1)) hx hb gX11_warn_1.2.2.1 (by decide) ?_
    refine toQ hQ0 ?_
    exact RI (v := (-1)) hC hP hD hS [0, 1, 2, 3, 4, 5] (kbwarnings, fbwarnings) rfl rfl (by decide) (⟨(by first | rfl | (simp only [ifc_t hkbwarnings, ifc_t hkbpersons, ifc_t hkbpapers, ifc_f a2042]; done) | (simp only [ifc_t hkbwarnings, ifc_t hkbpersons, ifc_t hkbpapers, ifc_f a2042]; rfl) | (dsimp only; simp only [ifc_t hkbwarnings, ifc_t hkbpersons, ifc_t hkbpapers, ifc_f a2042]; done)), ⟨by omega, by omega, (by first | rfl | (simp only [ifc_t hkbwarnings, ifc_t hkbpersons, ifc_t hkbpapers, ifc_f a2042]; done) | (simp only [ifc_t hkbwarnings, ifc_t hkbpersons, ifc_t hkbpapers, ifc_f a2042]; rfl) | (dsimp only; simp only [ifc_t hkbwarnings, ifc_t hkbpersons, ifc_t hkbpapers, ifc_f a2042]; done)), (fun i => by first | rfl | (simp only [ifc_t hkbwarnings, ifc_t hkbpersons, ifc_t hkbpapers, ifc_f a2042]; done))⟩⟩) rfl gX11_warn_1.2.2.2.1
def K_p_line (l : Launch) (G : GG) (h0 : Nat) (x1 : Int32) (x2 : Int32) (x3 : Int32) (bb : Nat) (kk : Nat) (ikp : Int32) (sg : Nat) (do9 : Nat) (ru9 : Nat) (ta9 : Nat) (tp9 : Nat) (ro9 : Nat) (ho9 : Nat) (de9 : Nat) (bpersons : Nat) (bpapers : Nat) (bstamps : Nat) (bversions : Nat) (blines : Nat) (bsteps : Nat) (bsayings : Nat) (bfindings : Nat) (bwarnings : Nat) (bquestions : Nat) (td : Int32) (vd : Int32) (vl : Int32) (gp : Int32) (bversionsc : Nat) (kbversions : Nat) (fbversions : Nat → Int32) (blinesc : Nat) (kblines : Nat) (fblines : Nat → Int32) : Prop := MP l G yX11_line cX11_line 5 (some .int) 4 [.ref h0, .int x1, .int x2, .int x3] [(h0, oX11 bb kk ikp sg do9 ru9 ta9 tp9 ro9 ho9 de9), (bb, oX0 bpersons bpapers bstamps bversions blines bsteps bsayings bfindings bwarnings bquestions td vd vl gp), (bversions, oX8 8 3 bversionsc (nI kbversions)), (bversionsc, iA G 24 fbversions), (blines, oX8 72 7 blinesc (nI kblines)), (blinesc, iA G 504 fblines)] (fun r : Int32 => True)
set_option maxHeartbeats 4000000 in
set_option maxRecDepth 100000 in
theorem p_line (l : Launch) (G : GG) (h0 : Nat) (x1 : Int32) (x2 : Int32) (x3 : Int32) (bb : Nat) (kk : Nat) (ikp : Int32) (sg : Nat) (do9 : Nat) (ru9 : Nat) (ta9 : Nat) (tp9 : Nat) (ro9 : Nat) (ho9 : Nat) (de9 : Nat) (bpersons : Nat) (bpapers : Nat) (bstamps : Nat) (bversions : Nat) (blines : Nat) (bsteps : Nat) (bsayings : Nat) (bfindings : Nat) (bwarnings : Nat) (bquestions : Nat) (td : Int32) (vd : Int32) (vl : Int32) (gp : Int32) (bversionsc : Nat) (kbversions : Nat) (fbversions : Nat → Int32) (blinesc : Nat) (kblines : Nat) (fblines : Nat → Int32) (hkbversions : kbversions ≤ 8) (hkblines : kblines ≤ 72) : K_p_line l G h0 x1 x2 x3 bb kk ikp sg do9 ru9 ta9 tp9 ro9 ho9 de9 bpersons bpapers bstamps bversions blines bsteps bsayings bfindings bwarnings bquestions td vd vl gp bversionsc kbversions fbversions blinesc kblines fblines := by
  refine MP.start (by decide +kernel) (Nat.le_of_ble_eq_true rfl) ?_
  intro p e s m below meth c ls hC hK hP hD hl
  refine absQ (fun Q0 hQ0 => ?_)
  have hl : lv_has ls 5 [(0, .ref h0), (1, .int x1), (2, .int x2), (3, .int x3)] := hl
  refine Kan8 hC (fun hx hb hr hml hB hown hlocks hnm => ?_)
  refine lv_aload_n hx hb gX11_line_0.1 rfl (lv_at0 hl) ?_
  refine gf_X11_15 hC rfl hK hP 0 rfl rfl gX11_line_0.2.1 ?_
  refine gf_X11_233 hC rfl hK hP 1 rfl rfl gX11_line_0.2.2.1 ?_
  refine lv_iload_n hx hb gX11_line_0.2.2.2.1 rfl (lv_at1 hl) ?_
  refine pV hC hK hl hP hD (c_T_has l G bversions x1 8 3 bversionsc kbversions) si_X11_124 [2] sm_2 fm_2 nd_2 rfl rfl rfl rfl rfl (Nat.le_of_ble_eq_true rfl) rm_4_1_2 ⟨by first | exact Nat.le_of_ble_eq_true rfl | exact Nat.zero_le _, by first | exact Nat.le_of_ble_eq_true rfl | exact Nat.zero_le _⟩ gX11_line_0.2.2.2.2.1 (Kors (Keqa fun a2067 => ?_) (Keqa fun a2067 => ?_))
  · refine lv_if_eq (tgt := 36) hx hb gX11_line_0.2.2.2.2.2.1 (by decide) (fun c9 => absurd c9 (by decide)) (fun _ => ?_)
    refine lv_iload_n hx hb gX11_line_0.2.2.2.2.2.2.1 rfl (lv_at2 hl) ?_
    refine lv_iconst (v := 0) hx hb gX11_line_0.2.2.2.2.2.2.2.1 (by decide) ?_
    refine lv_aload_n hx hb gX11_line_0.2.2.2.2.2.2.2.2.1 rfl (lv_at0 hl) ?_
    refine gf_X11_15 hC rfl hK hP 0 rfl rfl gX11_line_0.2.2.2.2.2.2.2.2.2 ?_
    refine gf_X11_233 hC rfl hK hP 1 rfl rfl gX11_line_1.1 ?_
    refine lv_iload_n hx hb gX11_line_1.2.1 rfl (lv_at1 hl) ?_
    refine lv_iconst (v := 2) hx hb gX11_line_1.2.2.1 (by decide) ?_
    refine pV hC hK hl hP hD (c_T_at l G bversions x1 2 8 3 bversionsc kbversions fbversions (hkbversions) (by omega) (by omega)) si_X11_128 [2, 3] sm_2_3 fm_2_3 nd_2_3 rfl rfl rfl rfl rfl (Nat.le_of_ble_eq_true rfl) rm_4_1_3 ⟨by first | exact Nat.le_of_ble_eq_true rfl | exact Nat.zero_le _, by first | exact Nat.le_of_ble_eq_true rfl | exact Nat.zero_le _⟩ gX11_line_1.2.2.2.1 (fun r2068 hr2068 => ?_)
    refine lv_iconst (v := 1) hx hb gX11_line_1.2.2.2.2.1 (by decide) ?_
    refine lv_isub hx hb gX11_line_1.2.2.2.2.2.1 ?_
    refine pS hC hK hl (c_within l G x2 0 (r2068 - 1)) si_X11_83 rfl rfl (Nat.le_of_ble_eq_true rfl) rm_4_1_3 ⟨by first | exact Nat.le_of_ble_eq_true rfl | exact Nat.zero_le _, by first | exact Nat.le_of_ble_eq_true rfl | exact Nat.zero_le _⟩ gX11_line_1.2.2.2.2.2.2.1 (Kors (Keqa fun a2071 => ?_) (Keqa fun a2071 => ?_))
    · refine lv_if_ne (tgt := 39) hx hb gX11_line_1.2.2.2.2.2.2.2.1 (by decide) (fun _ => ?_) (fun c9 => absurd c9 (by decide))
      refine lv_aload_n hx hb gX11_line_2.1 rfl (lv_at0 hl) ?_
      refine gf_X11_15 hC rfl hK hP 0 rfl rfl gX11_line_2.2.1 ?_
      refine gf_X11_233 hC rfl hK hP 1 rfl rfl gX11_line_2.2.2.1 ?_
      refine lv_iload_n hx hb gX11_line_2.2.2.2.1 rfl (lv_at1 hl) ?_
      refine lv_iconst (v := 1) hx hb gX11_line_2.2.2.2.2.1 (by decide) ?_
      refine pV hC hK hl hP hD (c_T_at l G bversions x1 1 8 3 bversionsc kbversions fbversions (hkbversions) (by omega) (by omega)) si_X11_128 [2, 3] sm_2_3 fm_2_3 nd_2_3 rfl rfl rfl rfl rfl (Nat.le_of_ble_eq_true rfl) rm_4_1_3 ⟨by first | exact Nat.le_of_ble_eq_true rfl | exact Nat.zero_le _, by first | exact Nat.le_of_ble_eq_true rfl | exact Nat.zero_le _⟩ gX11_line_2.2.2.2.2.2.1 (fun r2072 hr2072 => ?_)
      refine lv_iload_n hx hb gX11_line_2.2.2.2.2.2.2.1 rfl (lv_at2 hl) ?_
      refine lv_iadd hx hb gX11_line_2.2.2.2.2.2.2.2.1 ?_
      refine lv_istore (lv' := [(4, .int (r2072 + x2)), (0, .ref h0), (1, .int x1), (2, .int x2), (3, .int x3)]) hx hb gX11_line_2.2.2.2.2.2.2.2.2.1 hl (by decide) rfl (fun ls hl => ?_)
      refine lv_iload_n hx hb gX11_line_2.2.2.2.2.2.2.2.2.2 rfl (lv_at4 hl) ?_
      by_cases c_56_2074 : x3 = 0
      · refine lv_tableIn (tgt := 92) hx hb gX11_line_3.1 (by rw [c_56_2074]; decide) (by rw [c_56_2074]; decide) (by rw [c_56_2074]; rfl) (by decide) ?_
        refine lv_aload_n hx hb gX11_line_3.2.1 rfl (lv_at1 hl) ?_
        refine gf_X11_15 hC rfl hK hP 0 rfl rfl gX11_line_3.2.2.1 ?_
        refine gf_X11_240 hC rfl hK hP 1 rfl rfl gX11_line_3.2.2.2.1 ?_
        refine lv_iload hx hb gX11_line_3.2.2.2.2.1 (lv_at0 hl) ?_
        refine lv_iconst (v := 0) hx hb gX11_line_3.2.2.2.2.2.1 (by decide) ?_
        refine pV hC hK hl hP hD (c_T_at l G blines (r2072 + x2) 0 72 7 blinesc kblines fblines (hkblines) (by omega) (by omega)) si_X11_128 [4, 5] sm_4_5 fm_4_5 nd_4_5 rfl rfl rfl rfl rfl (Nat.le_of_ble_eq_true rfl) rm_4_1_3 ⟨by first | exact Nat.le_of_ble_eq_true rfl | exact Nat.zero_le _, by first | exact Nat.le_of_ble_eq_true rfl | exact Nat.zero_le _⟩ gX11_line_3.2.2.2.2.2.2.1 (fun r2075 hr2075 => ?_)
        refine toQ hQ0 ?_
        exact RP (v := r2075) hC (trivial) rfl gX11_line_3.2.2.2.2.2.2.2.1
      by_cases c_56_2077 : x3 = 1
      · refine lv_tableIn (tgt := 106) hx hb gX11_line_3.1 (by rw [c_56_2077]; decide) (by rw [c_56_2077]; decide) (by rw [c_56_2077]; rfl) (by decide) ?_
        refine lv_aload_n hx hb gX11_line_3.2.2.2.2.2.2.2.2.1 rfl (lv_at1 hl) ?_
        refine gf_X11_15 hC rfl hK hP 0 rfl rfl gX11_line_3.2.2.2.2.2.2.2.2.2 ?_
        refine gf_X11_240 hC rfl hK hP 1 rfl rfl gX11_line_4.1 ?_
        refine lv_iload hx hb gX11_line_4.2.1 (lv_at0 hl) ?_
        refine lv_iconst (v := 1) hx hb gX11_line_4.2.2.1 (by decide) ?_
        refine pV hC hK hl hP hD (c_T_at l G blines (r2072 + x2) 1 72 7 blinesc kblines fblines (hkblines) (by omega) (by omega)) si_X11_128 [4, 5] sm_4_5 fm_4_5 nd_4_5 rfl rfl rfl rfl rfl (Nat.le_of_ble_eq_true rfl) rm_4_1_3 ⟨by first | exact Nat.le_of_ble_eq_true rfl | exact Nat.zero_le _, by first | exact Nat.le_of_ble_eq_true rfl | exact Nat.zero_le _⟩ gX11_line_4.2.2.2.1 (fun r2078 hr2078 => ?_)
        refine toQ hQ0 ?_
        exact RP (v := r2078) hC (trivial) rfl gX11_line_4.2.2.2.2.1
      by_cases c_56_2080 : x3 = 2
      · refine lv_tableIn (tgt := 120) hx hb gX11_line_3.1 (by rw [c_56_2080]; decide) (by rw [c_56_2080]; decide) (by rw [c_56_2080]; rfl) (by decide) ?_
        refine lv_aload_n hx hb gX11_line_4.2.2.2.2.2.1 rfl (lv_at1 hl) ?_
        refine gf_X11_15 hC rfl hK hP 0 rfl rfl gX11_line_4.2.2.2.2.2.2.1 ?_
        refine gf_X11_240 hC rfl hK hP 1 rfl rfl gX11_line_4.2.2.2.2.2.2.2.1 ?_
        refine lv_iload hx hb gX11_line_4.2.2.2.2.2.2.2.2.1 (lv_at0 hl) ?_
        refine lv_iconst (v := 2) hx hb gX11_line_4.2.2.2.2.2.2.2.2.2 (by decide) ?_
        refine pV hC hK hl hP hD (c_T_at l G blines (r2072 + x2) 2 72 7 blinesc kblines fblines (hkblines) (by omega) (by omega)) si_X11_128 [4, 5] sm_4_5 fm_4_5 nd_4_5 rfl rfl rfl rfl rfl (Nat.le_of_ble_eq_true rfl) rm_4_1_3 ⟨by first | exact Nat.le_of_ble_eq_true rfl | exact Nat.zero_le _, by first | exact Nat.le_of_ble_eq_true rfl | exact Nat.zero_le _⟩ gX11_line_5.1 (fun r2081 hr2081 => ?_)
        refine toQ hQ0 ?_
        exact RP (v := r2081) hC (trivial) rfl gX11_line_5.2.1
      by_cases c_56_2083 : x3 = 3
      · refine lv_tableIn (tgt := 134) hx hb gX11_line_3.1 (by rw [c_56_2083]; decide) (by rw [c_56_2083]; decide) (by rw [c_56_2083]; rfl) (by decide) ?_
        refine lv_aload_n hx hb gX11_line_5.2.2.1 rfl (lv_at1 hl) ?_
        refine gf_X11_15 hC rfl hK hP 0 rfl rfl gX11_line_5.2.2.2.1 ?_
        refine gf_X11_240 hC rfl hK hP 1 rfl rfl gX11_line_5.2.2.2.2.1 ?_
        refine lv_iload hx hb gX11_line_5.2.2.2.2.2.1 (lv_at0 hl) ?_
        refine lv_iconst (v := 3) hx hb gX11_line_5.2.2.2.2.2.2.1 (by decide) ?_
        refine pV hC hK hl hP hD (c_T_at l G blines (r2072 + x2) 3 72 7 blinesc kblines fblines (hkblines) (by omega) (by omega)) si_X11_128 [4, 5] sm_4_5 fm_4_5 nd_4_5 rfl rfl rfl rfl rfl (Nat.le_of_ble_eq_true rfl) rm_4_1_3 ⟨by first | exact Nat.le_of_ble_eq_true rfl | exact Nat.zero_le _, by first | exact Nat.le_of_ble_eq_true rfl | exact Nat.zero_le _⟩ gX11_line_5.2.2.2.2.2.2.2.1 (fun r2084 hr2084 => ?_)
        refine toQ hQ0 ?_
        exact RP (v := r2084) hC (trivial) rfl gX11_line_5.2.2.2.2.2.2.2.2.1
      by_cases c_56_2086 : x3 = 4
      · refine lv_tableIn (tgt := 148) hx hb gX11_line_3.1 (by rw [c_56_2086]; decide) (by rw [c_56_2086]; decide) (by rw [c_56_2086]; rfl) (by decide) ?_
        refine lv_aload_n hx hb gX11_line_5.2.2.2.2.2.2.2.2.2 rfl (lv_at1 hl) ?_
        refine gf_X11_15 hC rfl hK hP 0 rfl rfl gX11_line_6.1 ?_
        refine gf_X11_240 hC rfl hK hP 1 rfl rfl gX11_line_6.2.1 ?_
        refine lv_iload hx hb gX11_line_6.2.2.1 (lv_at0 hl) ?_
        refine lv_iconst (v := 4) hx hb gX11_line_6.2.2.2.1 (by decide) ?_
        refine pV hC hK hl hP hD (c_T_at l G blines (r2072 + x2) 4 72 7 blinesc kblines fblines (hkblines) (by omega) (by omega)) si_X11_128 [4, 5] sm_4_5 fm_4_5 nd_4_5 rfl rfl rfl rfl rfl (Nat.le_of_ble_eq_true rfl) rm_4_1_3 ⟨by first | exact Nat.le_of_ble_eq_true rfl | exact Nat.zero_le _, by first | exact Nat.le_of_ble_eq_true rfl | exact Nat.zero_le _⟩ gX11_line_6.2.2.2.2.1 (fun r2087 hr2087 => ?_)
        refine toQ hQ0 ?_
        exact RP (v := r2087) hC (trivial) rfl gX11_line_6.2.2.2.2.2.1
      refine lv_tableOut (tgt := 162) hx hb gX11_line_3.1 (by have q9 := sw_0_4 (x := x3); simp only [c_56_2074, c_56_2077, c_56_2080, c_56_2083, c_56_2086, not_false_eq_true, true_implies] at q9; exact q9) (by decide) ?_
      refine lv_bipush (v := (-9)) hx hb gX11_line_6.2.2.2.2.2.2.1 (by decide) ?_
      refine toQ hQ0 ?_
      exact RP (v := (-9)) hC (trivial) rfl gX11_line_6.2.2.2.2.2.2.2
    · refine lv_if_ne (tgt := 39) hx hb gX11_line_1.2.2.2.2.2.2.2.1 (by decide) (fun c9 => absurd (by decide) c9) (fun _ => ?_)
      refine lv_bipush (v := (-9)) hx hb gX11_line_1.2.2.2.2.2.2.2.2.1 (by decide) ?_
      refine toQ hQ0 ?_
      exact RP (v := (-9)) hC (trivial) rfl gX11_line_1.2.2.2.2.2.2.2.2.2
  · refine lv_if_eq (tgt := 36) hx hb gX11_line_0.2.2.2.2.2.1 (by decide) (fun _ => ?_) (fun c9 => absurd (by decide) c9)
    refine lv_bipush (v := (-9)) hx hb gX11_line_1.2.2.2.2.2.2.2.2.1 (by decide) ?_
    refine toQ hQ0 ?_
    exact RP (v := (-9)) hC (trivial) rfl gX11_line_1.2.2.2.2.2.2.2.2.2
