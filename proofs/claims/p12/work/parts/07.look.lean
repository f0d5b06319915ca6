section WR
variable {p : Program} {l : Launch} {e : Env} {R : Room} {s : State} {m : MethodId} {args : Array Value} {below : List Frame} {meth : Method} {c : Code} {H : Heap} {locs : List Loc} {cells slots : Nat} {Q : State → Prop}
variable {pc : Nat} {ls : Array Slot} {rest : List Value} {G : GG} {ws : va_W} {A : Nat → Prop} {y0 : MethodName} {b0 : ByteArray} {mL0 : Nat} {rt0 : Option FieldType} {a : Nat} {H0 : Heap}
theorem gX7_look_0 : (decode cX7_look 0 = .ok (.aload_n 0, 1)) ∧ (decode cX7_look 1 = .ok (.iconst 0, 1)) ∧ (decode cX7_look 2 = .ok (.putfield 41, 3)) ∧ (decode cX7_look 5 = .ok (.aload_n 0, 1)) ∧ (decode cX7_look 6 = .ok (.getfield 12, 3)) ∧ (decode cX7_look 9 = .ok (.invokevirtual 45, 3)) ∧ (decode cX7_look 12 = .ok (.iconst 0, 1)) ∧ (decode cX7_look 13 = .ok (.istore_n 2, 1)) ∧ (decode cX7_look 14 = .ok (.iload_n 2, 1)) ∧ (decode cX7_look 15 = .ok (.bipush 12, 2)) := by decide +kernel
theorem pf_X7_41 (hC : CX p s m meth c y0 b0 mL0 rt0 args) (hy0 : y0.cls = RX7) (hK : KK G s) (hP : va_P G.1 vwCl ws H) (hD : va_D A ws) (hS : va_S A H0 H locs) (q0 : Nat) {fs : List Value} {v : Value} {ws' : va_W} (he : ws[q0]? = some (a, .inr (7, fs))) (hl : 8 < fs.length) (hws : ws.set q0 (a, .inr (7, fs.set 8 v)) = ws') (hn : narrow .boolean v = v) (hfit : fits .boolean v = true) (hdg : decode b0 pc = .ok (.putfield 41, 3)) (kk : ∀ (H1 : Heap) (locs1 : List Loc), va_P G.1 vwCl ws' H1 → va_D A ws' → va_S A H0 H1 locs1 → W p l e R s m args below meth c H1 locs1 cells slots Q (F0 m (pc + 3) ls rest)) : W p l e R s m args below meth c H locs cells slots Q (F0 m pc ls (v :: .ref a :: rest)) := by
  obtain ⟨hx, hb, hr, hml, hB, hown, hlocks, hnm⟩ := hC
  rw [hy0] at hown
  subst hws
  exact va_put (ci := 7) (ty := .boolean) (C := RX7) (T := TX7) (N := 9) hx hb hB in_X7 tyX7 tyX7_ok nmX7 hown hK.1 hP hD hS q0 he rfl 8 (by decide) (hB _ m_183) (fun _ h => h) rfl (by decide +kernel) hn hfit hl hdg kk
theorem m_442 : Cond.code yX1_free cX1_free 4 none ∈ BW := iB_BW24 _ (List.mem_of_getElem? (i := 6) rfl)
theorem pd_9 : (parseMethodDescriptor "()V").map (fun d => d.parameters.length) = some 0 := by decide +kernel
theorem m_472 : Cond.methodLink RX7 45 yX1_free ∈ BW := iB_BW25 _ (List.mem_of_getElem? (i := 16) rfl)
theorem m_440 : Cond.instanceMethod yX1_free ∈ BW := iB_BW24 _ (List.mem_of_getElem? (i := 4) rfl)
theorem m_441 : Cond.selects RX1 yX1_free yX1_free ∈ BW := iB_BW24 _ (List.mem_of_getElem? (i := 5) rfl)
theorem si_X7_45 : SV RX7 RX1 45 yX1_free cX1_free 4 none 0 := ⟨⟨m_472, m_440, m_441, m_107, m_442⟩, rfl, nK_RX1.1, nK_RX1.2, pd_9⟩
theorem gX7_look_1 : (decode cX7_look 17 = .ok (.if_icmp .ge 23, 3)) ∧ (decode cX7_look 20 = .ok (.aload_n 0, 1)) ∧ (decode cX7_look 21 = .ok (.getfield 18, 3)) ∧ (decode cX7_look 24 = .ok (.iload_n 2, 1)) ∧ (decode cX7_look 25 = .ok (.iconst (-1), 1)) ∧ (decode cX7_look 26 = .ok (.iastore, 1)) ∧ (decode cX7_look 27 = .ok (.aload_n 0, 1)) ∧ (decode cX7_look 28 = .ok (.getfield 22, 3)) ∧ (decode cX7_look 31 = .ok (.iload_n 2, 1)) ∧ (decode cX7_look 32 = .ok (.iconst (-1), 1)) := by decide +kernel
theorem gX7_look_2 : (decode cX7_look 33 = .ok (.iastore, 1)) ∧ (decode cX7_look 34 = .ok (.iinc 2 1, 3)) ∧ (decode cX7_look 37 = .ok (.goto (-23), 3)) ∧ (decode cX7_look 40 = .ok (.iconst 0, 1)) ∧ (decode cX7_look 41 = .ok (.istore_n 2, 1)) ∧ (decode cX7_look 42 = .ok (.iload_n 2, 1)) ∧ (decode cX7_look 43 = .ok (.aload_n 0, 1)) ∧ (decode cX7_look 44 = .ok (.getfield 37, 3)) ∧ (decode cX7_look 47 = .ok (.getfield 48, 3)) ∧ (decode cX7_look 50 = .ok (.invokevirtual 54, 3)) := by decide +kernel
theorem gX7_look_3 : (decode cX7_look 53 = .ok (.if_icmp .ge 116, 3)) ∧ (decode cX7_look 56 = .ok (.aload_n 0, 1)) ∧ (decode cX7_look 57 = .ok (.getfield 37, 3)) ∧ (decode cX7_look 60 = .ok (.getfield 48, 3)) ∧ (decode cX7_look 63 = .ok (.iload_n 2, 1)) ∧ (decode cX7_look 64 = .ok (.iconst 0, 1)) ∧ (decode cX7_look 65 = .ok (.invokevirtual 60, 3)) ∧ (decode cX7_look 68 = .ok (.istore_n 3, 1)) ∧ (decode cX7_look 69 = .ok (.iload_n 3, 1)) ∧ (decode cX7_look 70 = .ok (.iconst 0, 1)) := by decide +kernel
theorem gX7_look_8 : (decode cX7_look 152 = .ok (.iconst 0, 1)) ∧ (decode cX7_look 153 = .ok (.putfield 41, 3)) ∧ (decode cX7_look 156 = .ok (.aload_n 0, 1)) ∧ (decode cX7_look 157 = .ok (.getfield 22, 3)) ∧ (decode cX7_look 160 = .ok (.iload_n 3, 1)) ∧ (decode cX7_look 161 = .ok (.iload_n 2, 1)) ∧ (decode cX7_look 162 = .ok (.iastore, 1)) ∧ (decode cX7_look 163 = .ok (.iinc 2 1, 3)) ∧ (decode cX7_look 166 = .ok (.goto (-124), 3)) ∧ (decode cX7_look 169 = .ok (.aload_n 0, 1)) := by decide +kernel
theorem gX7_look_9 : (decode cX7_look 170 = .ok (.invokevirtual 80, 3)) ∧ (decode cX7_look 173 = .ok (.return_, 1)) := by decide +kernel
theorem m_478 : Cond.code yX7_boundHours cX7_boundHours 2 none ∈ BW := iB_BW26 _ (List.mem_of_getElem? (i := 2) rfl)
theorem m_476 : Cond.methodLink RX7 80 yX7_boundHours ∈ BW := iB_BW26 _ (List.mem_of_getElem? (i := 0) rfl)
theorem m_477 : Cond.instanceMethod yX7_boundHours ∈ BW := iB_BW26 _ (List.mem_of_getElem? (i := 1) rfl)
theorem m_4 : Cond.selects RX7 yX7_boundHours yX7_boundHours ∈ BW := iB_BW0 _ (List.mem_of_getElem? (i := 4) rfl)
theorem si_X7_80 : SV RX7 RX7 80 yX7_boundHours cX7_boundHours 2 none 0 := ⟨⟨m_476, m_477, m_4, m_106, m_478⟩, rfl, nK_RX7.1, nK_RX7.2, pd_9⟩
theorem gX7_look_4 : (decode cX7_look 71 = .ok (.bipush 11, 2)) ∧ (decode cX7_look 73 = .ok (.invokestatic 64, 3)) ∧ (decode cX7_look 76 = .ok (.ifCond .eq 87, 3)) ∧ (decode cX7_look 79 = .ok (.iload_n 1, 1)) ∧ (decode cX7_look 80 = .ok (.iload_n 3, 1)) ∧ (decode cX7_look 81 = .ok (.invokestatic 68, 3)) ∧ (decode cX7_look 84 = .ok (.ifCond .ne 6, 3)) ∧ (decode cX7_look 87 = .ok (.goto 76, 3)) ∧ (decode cX7_look 90 = .ok (.aload_n 0, 1)) ∧ (decode cX7_look 91 = .ok (.getfield 22, 3)) := by decide +kernel
theorem gX7_look_5 : (decode cX7_look 94 = .ok (.iload_n 3, 1)) ∧ (decode cX7_look 95 = .ok (.iaload, 1)) ∧ (decode cX7_look 96 = .ok (.ifCond .ge 13, 3)) ∧ (decode cX7_look 99 = .ok (.aload_n 0, 1)) ∧ (decode cX7_look 100 = .ok (.getfield 18, 3)) ∧ (decode cX7_look 103 = .ok (.iload_n 3, 1)) ∧ (decode cX7_look 104 = .ok (.iload_n 2, 1)) ∧ (decode cX7_look 105 = .ok (.iastore, 1)) ∧ (decode cX7_look 106 = .ok (.goto 50, 3)) ∧ (decode cX7_look 109 = .ok (.aload_n 0, 1)) := by decide +kernel
theorem gX7_look_6 : (decode cX7_look 110 = .ok (.getfield 41, 3)) ∧ (decode cX7_look 113 = .ok (.ifCond .ne 43, 3)) ∧ (decode cX7_look 116 = .ok (.aload_n 0, 1)) ∧ (decode cX7_look 117 = .ok (.aload_n 0, 1)) ∧ (decode cX7_look 118 = .ok (.getfield 12, 3)) ∧ (decode cX7_look 121 = .ok (.aload_n 0, 1)) ∧ (decode cX7_look 122 = .ok (.getfield 37, 3)) ∧ (decode cX7_look 125 = .ok (.getfield 48, 3)) ∧ (decode cX7_look 128 = .ok (.aload_n 0, 1)) ∧ (decode cX7_look 129 = .ok (.getfield 22, 3)) := by decide +kernel
theorem gX7_look_7 : (decode cX7_look 132 = .ok (.iload_n 3, 1)) ∧ (decode cX7_look 133 = .ok (.iaload, 1)) ∧ (decode cX7_look 134 = .ok (.iload_n 2, 1)) ∧ (decode cX7_look 135 = .ok (.aload_n 0, 1)) ∧ (decode cX7_look 136 = .ok (.getfield 37, 3)) ∧ (decode cX7_look 139 = .ok (.getfield 72, 3)) ∧ (decode cX7_look 142 = .ok (.invokevirtual 76, 3)) ∧ (decode cX7_look 145 = .ok (.ifCond .ne 7, 3)) ∧ (decode cX7_look 148 = .ok (.iconst 1, 1)) ∧ (decode cX7_look 149 = .ok (.goto 4, 3)) := by decide +kernel
theorem nm_35 : Cond.fieldLinkNest RX7 72 RX0 "gap" "I" RX11 ∈ NestW := List.mem_of_getElem? (i := 35) rfl
theorem gf_X7_72 (hC : CX p s m meth c y0 b0 mL0 rt0 args) (hy0 : y0.cls = RX7) (hK : KK G s) (hP : va_P G.1 vwCl ws H) (q0 : Nat) {fs : List Value} {v : Value} (he : ws[q0]? = some (a, .inr (0, fs))) (hv : fs[13]? = some v) (hdg : decode b0 pc = .ok (.getfield 72, 3)) (kk : W p l e R s m args below meth c H locs cells slots Q (F0 m (pc + 3) ls (v :: rest))) : W p l e R s m args below meth c H locs cells slots Q (F0 m pc ls (.ref a :: rest)) := by
  obtain ⟨hx, hb, hr, hml, hB, hown, hlocks, hnm⟩ := hC
  rw [hy0] at hown
  exact va_getN (ci := 0) (C := RX0) (T := TX0) (N := 14) hx hb hB in_X0 hown hK.1 hP q0 he rfl 13 (by decide) (va_Nw.use rfl (hK.2.1 _ nm_35)) (fun _ h => h) hv hdg kk
theorem m_463 : Cond.code yX1_follow cX1_follow 8 (some .boolean) ∈ BW := iB_BW25 _ (List.mem_of_getElem? (i := 7) rfl)
theorem pd_10 : (parseMethodDescriptor "(LInquiryBench$Table;III)Z").map (fun d => d.parameters.length) = some 4 := by decide +kernel
theorem m_475 : Cond.methodLink RX7 76 yX1_follow ∈ BW := iB_BW25 _ (List.mem_of_getElem? (i := 19) rfl)
theorem m_461 : Cond.instanceMethod yX1_follow ∈ BW := iB_BW25 _ (List.mem_of_getElem? (i := 5) rfl)
theorem m_462 : Cond.selects RX1 yX1_follow yX1_follow ∈ BW := iB_BW25 _ (List.mem_of_getElem? (i := 6) rfl)
theorem si_X7_76 : SV RX7 RX1 76 yX1_follow cX1_follow 8 (some .boolean) 4 := ⟨⟨m_475, m_461, m_462, m_107, m_463⟩, rfl, nK_RX1.1, nK_RX1.2, pd_10⟩
end WR
/-- what the papers that are asked of are -/
def VPP (pp : Int32) : Nat → Prop := fun p => HB pp (nI p)
def AFI (ft : Nat → Int32) (V : Nat → Prop) (k : Nat) (f : Nat → Int32) : Prop := ∀ p, p < 12 → FIS ft V k p (f p)
def ALA (ft : Nat → Int32) (V : Nat → Prop) (k : Nat) (f : Nat → Int32) : Prop := ∀ p, p < 12 → LAS ft V k p (f p)
/-- the first papers are unseen -/
def M1P (k : Nat) (f g : Nat → Int32) : Prop := ∀ p, p < k → f p = (-1) ∧ g p = (-1)
theorem M1P.zero {f g : Nat → Int32} : M1P 0 f g := fun p h => absurd h (Nat.not_lt_zero p)
theorem M1P.next {k : Nat} {f g : Nat → Int32} (h : M1P k f g) : M1P (k + 1) (upd f k (-1)) (upd g k (-1)) := by
  intro p hp
  unfold upd
  by_cases c : p = k
  · rw [if_pos c, if_pos c]; exact ⟨rfl, rfl⟩
  · rw [if_neg c, if_neg c]; exact h p (by omega)
theorem AFI.zero {ft : Nat → Int32} {V : Nat → Prop} {f g : Nat → Int32} (h : M1P 12 f g) : AFI ft V 0 f := fun p hp => by rw [(h p hp).1]; exact FIS.zero
theorem ALA.zero {ft : Nat → Int32} {V : Nat → Prop} {f g : Nat → Int32} (h : M1P 12 f g) : ALA ft V 0 g := fun p hp => by rw [(h p hp).2]; exact LAS.zero
theorem nI_inj9 {a b : Nat} (ha : a < 2 ^ 31) (hb : b < 2 ^ 31) (h : nI a = nI b) : a = b := (nI_eq ha hb).mp h
theorem AFI.skip {ft : Nat → Int32} {V : Nat → Prop} {k p : Nat} {f : Nat → Int32} (h : AFI ft V k f) (e : ft (k * 3 + 0) = nI p) (hp : p < 12) (hv : ¬ V p) : AFI ft V (k + 1) f := fun q hq => FIS.skip (h q hq) fun e2 => by
  rw [← nI_inj9 (by omega) (by omega) (e.symm.trans e2)]
  exact hv
theorem ALA.skip {ft : Nat → Int32} {V : Nat → Prop} {k p : Nat} {f : Nat → Int32} (h : ALA ft V k f) (e : ft (k * 3 + 0) = nI p) (hp : p < 12) (hv : ¬ V p) : ALA ft V (k + 1) f := fun q hq => LAS.skip (h q hq) fun e2 => by
  rw [← nI_inj9 (by omega) (by omega) (e.symm.trans e2)]
  exact hv
theorem ALA.put {ft : Nat → Int32} {V : Nat → Prop} {k p : Nat} {f : Nat → Int32} (h : ALA ft V k f) (e : ft (k * 3 + 0) = nI p) (hp : p < 12) (hv : V p) : ALA ft V (k + 1) (upd f p (nI k)) := by
  intro q hq
  unfold upd
  by_cases c : q = p
  · rw [if_pos c, c]
    exact LAS.new e hv
  · rw [if_neg c]
    exact LAS.skip (h q hq) fun e2 => absurd (nI_inj9 (by omega) (by omega) (e2.symm.trans e)) c
theorem LAS.neg {ft : Nat → Int32} {V : Nat → Prop} {k p : Nat} {x : Int32} (h : LAS ft V k p x) (hx : x < 0) (hk : k < 2 ^ 31) : x = (-1) := by
  rcases h with ⟨h1, -⟩ | ⟨s, h1, h2, -⟩
  · exact h1
  · rw [h2] at hx
    exact absurd hx (nI_pos (by omega))
theorem LAS.nneg {x : Int32} (hx : ¬ x < 0) : ¬ x = (-1) := fun e => hx (by rw [e]; decide)
theorem AFI.put {ft : Nat → Int32} {V : Nat → Prop} {k p : Nat} {f g : Nat → Int32} (h : AFI ft V k f) (hl : ALA ft V k g) (hx : g p < 0) (hk : k < 2 ^ 31) (e : ft (k * 3 + 0) = nI p) (hp : p < 12) (hv : V p) : AFI ft V (k + 1) (upd f p (nI k)) := by
  intro q hq
  unfold upd
  by_cases c : q = p
  · rw [if_pos c, c]
    exact FIS.new (hl p hp) ((hl p hp).neg hx hk) hk e hv
  · rw [if_neg c]
    exact FIS.skip (h q hq) fun e2 => absurd (nI_inj9 (by omega) (by omega) (e2.symm.trans e)) c
theorem ALA.seen {ft : Nat → Int32} {V : Nat → Prop} {k p : Nat} {g : Nat → Int32} (h : ALA ft V k g) (hp : p < 12) (hx : ¬ g p < 0) : ∃ s, s < k ∧ g p = nI s ∧ ft (s * 3 + 0) = nI p ∧ V p := by
  rcases h p hp with ⟨h1, -⟩ | ⟨s, h1, h2, h3, h4, -⟩
  · exact absurd h1 (LAS.nneg hx)
  · exact ⟨s, h1, h2, h3, h4⟩
theorem AFI.seen {ft : Nat → Int32} {V : Nat → Prop} {k p : Nat} {f g : Nat → Int32} (h : AFI ft V k f) (hl : ALA ft V k g) (hp : p < 12) (hx : ¬ g p < 0) : ∃ s, s < k ∧ f p = nI s ∧ ft (s * 3 + 0) = nI p := by
  obtain ⟨s, h1, h2, h3, h4⟩ := hl.seen hp hx
  rcases h p hp with ⟨-, h5⟩ | ⟨s2, h5, h6, h7, -⟩
  · exact absurd h4 (h5 s h1 h3)
  · exact ⟨s2, h5, h6, h7⟩
theorem AFI.keep {ft : Nat → Int32} {V : Nat → Prop} {k p : Nat} {f g : Nat → Int32} (h : AFI ft V k f) (hl : ALA ft V k g) (hx : ¬ g p < 0) (hk : k < 2 ^ 31) (e : ft (k * 3 + 0) = nI p) (hp : p < 12) : AFI ft V (k + 1) f := by
  intro q hq
  by_cases c : q = p
  · rw [c]
    obtain ⟨s, h1, h2, -⟩ := h.seen hl hp hx
    exact FIS.keep (h p hp) (LAS.nneg (by rw [h2]; exact nI_pos (by omega)))
  · exact FIS.skip (h q hq) fun e2 => absurd (nI_inj9 (by omega) (by omega) (e2.symm.trans e)) c
/-- a clash, or narrow bounds -/
def CCS (c : Int32) (K : Nat → Nat → Int → Prop) (M : Nat → Nat → Int) : Prop := (c = 0 ∧ CLB K M) ∨ (c = 1 ∧ NOS K)
theorem CCS.zero {ft : Nat → Int32} {V : Nat → Prop} {gp : Int} {M : Nat → Nat → Int} (h : CLO KB M) : CCS 0 (KST ft V gp 0) M := Or.inl ⟨rfl, by rw [KST.zero]; exact h, KST.bas⟩
theorem CCS.get {c : Int32} {K : Nat → Nat → Int → Prop} {M : Nat → Nat → Int} (h : CCS c K M) (hc : c = 0) : CLB K M := by
  rcases h with ⟨-, h⟩ | ⟨h1, -⟩
  · exact h
  · exact absurd (h1.symm.trans hc) (by decide)
theorem CCS.nos {c : Int32} {K : Nat → Nat → Int → Prop} {M : Nat → Nat → Int} (h : CCS c K M) (hc : ¬ c = 0) : c = 1 ∧ NOS K := by
  rcases h with ⟨h1, -⟩ | h
  · exact absurd h1 hc
  · exact h
theorem CCS.b {c : Int32} {K : Nat → Nat → Int → Prop} {M : Nat → Nat → Int} (h : CCS c K M) : c = 0 ∨ c = 1 := by
  rcases h with ⟨h1, -⟩ | ⟨h1, -⟩
  · exact Or.inl h1
  · exact Or.inr h1
theorem CCS.no {c : Int32} {ft : Nat → Int32} {V : Nat → Prop} {gp : Int} {k : Nat} {M : Nat → Nat → Int} (h : CCS c (KST ft V gp k) M) (hn : ∀ s1, ¬ PRC ft V s1 k) : CCS c (KST ft V gp (k + 1)) M := by rw [KST.no hn]; exact h
theorem KST.fo {ft : Nat → Int32} {V : Nat → Prop} {gp : Int} {n s0 : Nat} (h : PRC ft V s0 n) : KST ft V gp (n + 1) = KFO (KST ft V gp n) ft gp s0 n := KST.yes h
theorem CCS.yes1 {ft : Nat → Int32} {V : Nat → Prop} {gp : Int} {k s0 : Nat} {M : Nat → Nat → Int} (hp : PRC ft V s0 k) (h : CLB (KFO (KST ft V gp k) ft gp s0 k) M) : CCS 0 (KST ft V gp (k + 1)) M := Or.inl ⟨rfl, by rw [KST.fo hp]; exact h⟩
theorem CCS.yes0 {ft : Nat → Int32} {V : Nat → Prop} {gp : Int} {k s0 : Nat} {M : Nat → Nat → Int} (hp : PRC ft V s0 k) (h : NOS (KFO (KST ft V gp k) ft gp s0 k)) : CCS 1 (KST ft V gp (k + 1)) M := Or.inr ⟨rfl, by rw [KST.fo hp]; exact h⟩
theorem CCS.stay {c x : Int32} {ft : Nat → Int32} {V : Nat → Prop} {gp : Int} {k : Nat} {M : Nat → Nat → Int} (h : CCS c (KST ft V gp k) M) (hc : ¬ c = 0) (hp : ∃ s, s < k ∧ x = nI s ∧ PRC ft V s k) : CCS c (KST ft V gp (k + 1)) M := by
  obtain ⟨h1, h2⟩ := h.nos hc
  obtain ⟨s, -, -, hp⟩ := hp
  exact Or.inr ⟨h1, by rw [KST.fo hp]; exact h2.ad.ad⟩
/-- the true hour of a stamp, at the least and at the most -/
def TR0 (ft fm : Nat → Int32) (s : Nat) : Int32 := ft (s * 3 + 2) + -(fm (0 * 6 + CKS ft s))
def TR1 (ft fm : Nat → Int32) (s : Nat) : Int32 := ft (s * 3 + 2) + fm (CKS ft s * 6 + 0)
def BHP (ft fm f g a b c d : Nat → Int32) (k : Nat) : Prop := ∀ p, p < k → ¬ g p < 0 → a p = TR0 ft fm (f p).toNatClampNeg ∧ b p = TR1 ft fm (f p).toNatClampNeg ∧ c p = TR0 ft fm (g p).toNatClampNeg ∧ d p = TR1 ft fm (g p).toNatClampNeg
theorem BHP.zero {ft fm f g a b c d : Nat → Int32} : BHP ft fm f g a b c d 0 := fun p h => absurd h (Nat.not_lt_zero p)
theorem BHP.skip {ft fm f g a b c d : Nat → Int32} {k : Nat} (h : BHP ft fm f g a b c d k) (hx : g k < 0) : BHP ft fm f g a b c d (k + 1) := fun p hp hg => by
  by_cases e : p = k
  · rw [e] at hg; exact absurd hx hg
  · exact h p (by omega) hg
theorem BHP.put {ft fm f g a b c d : Nat → Int32} {k s1 s2 : Nat} (h : BHP ft fm f g a b c d k) (e1 : f k = nI s1) (e2 : g k = nI s2) (h1 : s1 < 2 ^ 31) (h2 : s2 < 2 ^ 31) : BHP ft fm f g (upd a k (TR0 ft fm s1)) (upd b k (TR1 ft fm s1)) (upd c k (TR0 ft fm s2)) (upd d k (TR1 ft fm s2)) (k + 1) := fun p hp hg => by
  unfold upd
  by_cases e : p = k
  · rw [if_pos e, if_pos e, if_pos e, if_pos e, e, e1, e2, nI_clamp h1, nI_clamp h2]
    exact ⟨rfl, rfl, rfl, rfl⟩
  · rw [if_neg e, if_neg e, if_neg e, if_neg e]
    exact h p (by omega) hg
/-- what looking at papers tells -/
def LKP (ft : Nat → Int32) (pp gp : Int32) (k : Nat) (c : Int32) (fm f g ml mm sl sm : Nat → Int32) : Prop := CCS c (KST ft (VPP pp) gp.toInt k) (MAT fm) ∧ AFI ft (VPP pp) k f ∧ ALA ft (VPP pp) k g ∧ BHP ft fm f g ml mm sl sm 12
section WR
variable {p : Program} {l : Launch} {e : Env} {R : Room} {s : State} {m : MethodId} {args : Array Value} {below : List Frame} {meth : Method} {c : Code} {H : Heap} {locs : List Loc} {cells slots : Nat} {Q : State → Prop}
variable {pc : Nat} {ls : Array Slot} {rest : List Value} {G : GG} {ws : va_W} {A : Nat → Prop} {y0 : MethodName} {b0 : ByteArray} {mL0 : Nat} {rt0 : Option FieldType} {a : Nat} {H0 : Heap}
end WR
theorem rm_5_1_4 {mc ms : Nat} : 1 + 1 ≤ (RM 5 mc ms).frames ∧ 8 + (4 + 11) + 40 * 1 ≤ (RM 5 mc ms).locals := ⟨by show 1 + 1 ≤ 5; decide, by show 8 + (4 + 11) + 40 * 1 ≤ 40 * 5; decide⟩
theorem sm_0_3_4_5_6_7_8_9_10_11 {a0 a1 a2 a3 a4 a5 a6 a7 a8 a9 a10 a11 : Nat × va_E} {l : va_W} : ([0, 3, 4, 5, 6, 7, 8, 9, 10, 11] : List Nat).map (fun i => (a0 :: a1 :: a2 :: a3 :: a4 :: a5 :: a6 :: a7 :: a8 :: a9 :: a10 :: a11 :: l : va_W)[i]?) = ([a0, a3, a4, a5, a6, a7, a8, a9, a10, a11] : va_W).map some := rfl
theorem nd_0_3_4_5_6_7_8_9_10_11 : va_nd [0, 3, 4, 5, 6, 7, 8, 9, 10, 11] = true := by decide
theorem dj_1_2__0_3_4_5_6_7_8_9_10_11 : ∀ i ∈ ([0, 3, 4, 5, 6, 7, 8, 9, 10, 11] : List Nat), i ∉ ([1, 2] : List Nat) := by decide
theorem rm_5_1_1 {mc ms : Nat} : 1 + 1 ≤ (RM 5 mc ms).frames ∧ 8 + (1 + 11) + 40 * 1 ≤ (RM 5 mc ms).locals := ⟨by show 1 + 1 ≤ 5; decide, by show 8 + (1 + 11) + 40 * 1 ≤ 40 * 5; decide⟩
theorem sm_8 {a0 a1 a2 a3 a4 a5 a6 a7 a8 : Nat × va_E} {l : va_W} : ([8] : List Nat).map (fun i => (a0 :: a1 :: a2 :: a3 :: a4 :: a5 :: a6 :: a7 :: a8 :: l : va_W)[i]?) = ([a8] : va_W).map some := rfl
theorem fm_8 {a0 a1 a2 a3 a4 a5 a6 a7 a8 : Nat × va_E} {l : va_W} : ([8] : List Nat).filterMap (fun i => (a0 :: a1 :: a2 :: a3 :: a4 :: a5 :: a6 :: a7 :: a8 :: l : va_W)[i]?) = ([a8] : va_W) := rfl
theorem nd_8 : va_nd [8] = true := by decide
theorem rm_5_4_2 {mc ms : Nat} : 4 + 1 ≤ (RM 5 mc ms).frames ∧ 8 + (2 + 11) + 40 * 4 ≤ (RM 5 mc ms).locals := ⟨by show 4 + 1 ≤ 5; decide, by show 8 + (2 + 11) + 40 * 4 ≤ 40 * 5; decide⟩
theorem sm_0_1_2_3_4_5_6_10_11_7_8_9 {a0 a1 a2 a3 a4 a5 a6 a7 a8 a9 a10 a11 : Nat × va_E} {l : va_W} : ([0, 1, 2, 3, 4, 5, 6, 10, 11, 7, 8, 9] : List Nat).map (fun i => (a0 :: a1 :: a2 :: a3 :: a4 :: a5 :: a6 :: a7 :: a8 :: a9 :: a10 :: a11 :: l : va_W)[i]?) = ([a0, a1, a2, a3, a4, a5, a6, a10, a11, a7, a8, a9] : va_W).map some := rfl
theorem fm_0_1_2_3_4_5_6_10_11_7_8_9 {a0 a1 a2 a3 a4 a5 a6 a7 a8 a9 a10 a11 : Nat × va_E} {l : va_W} : ([0, 1, 2, 3, 4, 5, 6, 10, 11, 7, 8, 9] : List Nat).filterMap (fun i => (a0 :: a1 :: a2 :: a3 :: a4 :: a5 :: a6 :: a7 :: a8 :: a9 :: a10 :: a11 :: l : va_W)[i]?) = ([a0, a1, a2, a3, a4, a5, a6, a10, a11, a7, a8, a9] : va_W) := rfl
theorem nd_0_1_2_3_4_5_6_10_11_7_8_9 : va_nd [0, 1, 2, 3, 4, 5, 6, 10, 11, 7, 8, 9] = true := by decide
theorem rm_5_1_3 {mc ms : Nat} : 1 + 1 ≤ (RM 5 mc ms).frames ∧ 8 + (3 + 11) + 40 * 1 ≤ (RM 5 mc ms).locals := ⟨by show 1 + 1 ≤ 5; decide, by show 8 + (3 + 11) + 40 * 1 ≤ 40 * 5; decide⟩
theorem sm_8_9 {a0 a1 a2 a3 a4 a5 a6 a7 a8 a9 : Nat × va_E} {l : va_W} : ([8, 9] : List Nat).map (fun i => (a0 :: a1 :: a2 :: a3 :: a4 :: a5 :: a6 :: a7 :: a8 :: a9 :: l : va_W)[i]?) = ([a8, a9] : va_W).map some := rfl
theorem fm_8_9 {a0 a1 a2 a3 a4 a5 a6 a7 a8 a9 : Nat × va_E} {l : va_W} : ([8, 9] : List Nat).filterMap (fun i => (a0 :: a1 :: a2 :: a3 :: a4 :: a5 :: a6 :: a7 :: a8 :: a9 :: l : va_W)[i]?) = ([a8, a9] : va_W) := rfl
theorem nd_8_9 : va_nd [8, 9] = true := by decide
theorem rm_5_1_2 {mc ms : Nat} : 1 + 1 ≤ (RM 5 mc ms).frames ∧ 8 + (2 + 11) + 40 * 1 ≤ (RM 5 mc ms).locals := ⟨by show 1 + 1 ≤ 5; decide, by show 8 + (2 + 11) + 40 * 1 ≤ 40 * 5; decide⟩
theorem rm_5_3_8 {mc ms : Nat} : 3 + 1 ≤ (RM 5 mc ms).frames ∧ 8 + (8 + 11) + 40 * 3 ≤ (RM 5 mc ms).locals := ⟨by show 3 + 1 ≤ 5; decide, by show 8 + (8 + 11) + 40 * 3 ≤ 40 * 5; decide⟩
theorem sm_10_11_8_9 {a0 a1 a2 a3 a4 a5 a6 a7 a8 a9 a10 a11 : Nat × va_E} {l : va_W} : ([10, 11, 8, 9] : List Nat).map (fun i => (a0 :: a1 :: a2 :: a3 :: a4 :: a5 :: a6 :: a7 :: a8 :: a9 :: a10 :: a11 :: l : va_W)[i]?) = ([a10, a11, a8, a9] : va_W).map some := rfl
theorem fm_10_11_8_9 {a0 a1 a2 a3 a4 a5 a6 a7 a8 a9 a10 a11 : Nat × va_E} {l : va_W} : ([10, 11, 8, 9] : List Nat).filterMap (fun i => (a0 :: a1 :: a2 :: a3 :: a4 :: a5 :: a6 :: a7 :: a8 :: a9 :: a10 :: a11 :: l : va_W)[i]?) = ([a10, a11, a8, a9] : va_W) := rfl
theorem nd_10_11_8_9 : va_nd [10, 11, 8, 9] = true := by decide
theorem sm_0_1_2_3_4_5_6_7 {a0 a1 a2 a3 a4 a5 a6 a7 : Nat × va_E} {l : va_W} : ([0, 1, 2, 3, 4, 5, 6, 7] : List Nat).map (fun i => (a0 :: a1 :: a2 :: a3 :: a4 :: a5 :: a6 :: a7 :: l : va_W)[i]?) = ([a0, a1, a2, a3, a4, a5, a6, a7] : va_W).map some := rfl
theorem nd_0_1_2_3_4_5_6_7 : va_nd [0, 1, 2, 3, 4, 5, 6, 7] = true := by decide
theorem dj_10_11_8_9__0_1_2_3_4_5_6_7 : ∀ i ∈ ([0, 1, 2, 3, 4, 5, 6, 7] : List Nat), i ∉ ([10, 11, 8, 9] : List Nat) := by decide
theorem fm_0_1_2_3_4_5_6_7_10_11_8_9 {a0 a1 a2 a3 a4 a5 a6 a7 a8 a9 a10 a11 : Nat × va_E} {l : va_W} : ([0, 1, 2, 3, 4, 5, 6, 7, 10, 11, 8, 9] : List Nat).filterMap (fun i => (a0 :: a1 :: a2 :: a3 :: a4 :: a5 :: a6 :: a7 :: a8 :: a9 :: a10 :: a11 :: l : va_W)[i]?) = ([a0, a1, a2, a3, a4, a5, a6, a7, a10, a11, a8, a9] : va_W) := rfl
theorem nd_0_1_2_3_4_5_6_7_10_11_8_9 : va_nd [0, 1, 2, 3, 4, 5, 6, 7, 10, 11, 8, 9] = true := by decide
theorem sm_0_1_2_3_4_5_6_7_10_11_8_9 {a0 a1 a2 a3 a4 a5 a6 a7 a8 a9 a10 a11 : Nat × va_E} {l : va_W} : ([0, 1, 2, 3, 4, 5, 6, 7, 10, 11, 8, 9] : List Nat).map (fun i => (a0 :: a1 :: a2 :: a3 :: a4 :: a5 :: a6 :: a7 :: a8 :: a9 :: a10 :: a11 :: l : va_W)[i]?) = ([a0, a1, a2, a3, a4, a5, a6, a7, a10, a11, a8, a9] : va_W).map some := rfl
def K_c_look (l : Launch) (G : GG) (h0 : Nat) (pp : Int32) (bb : Nat) (clk : Nat) (fi : Nat) (la : Nat) (ml : Nat) (mm : Nat) (sl : Nat) (sm : Nat) (cl : Int32) (clm : Nat) (fclm : Nat → Int32) (ffi : Nat → Int32) (fla : Nat → Int32) (fml : Nat → Int32) (fmm : Nat → Int32) (fsl : Nat → Int32) (fsm : Nat → Int32) (bpersons : Nat) (bpapers : Nat) (bstamps : Nat) (bversions : Nat) (blines : Nat) (bsteps : Nat) (bsayings : Nat) (bfindings : Nat) (bwarnings : Nat) (bquestions : Nat) (td : Int32) (vd : Int32) (vl : Int32) (gp : Int32) (bstampsc : Nat) (kbstamps : Nat) (fbstamps : Nat → Int32) : Prop := MV l G yX7_look cX7_look 4 5 0 0 [.ref h0, .int pp] [(h0, oX7 bb clk fi la ml mm sl sm cl), (clk, oX1 clm), (clm, iA G 36 fclm), (fi, iA G 12 ffi), (la, iA G 12 fla), (ml, iA G 12 fml), (mm, iA G 12 fmm), (sl, iA G 12 fsl), (sm, iA G 12 fsm), (bb, oX0 bpersons bpapers bstamps bversions blines bsteps bsayings bfindings bwarnings bquestions td vd vl gp), (bstamps, oX8 24 3 bstampsc (nI kbstamps)), (bstampsc, iA G 72 fbstamps)] (fun u : Int32 × (Nat → Int32) × (Nat → Int32) × (Nat → Int32) × (Nat → Int32) × (Nat → Int32) × (Nat → Int32) × (Nat → Int32) => u.1 = 0 ∨ u.1 = 1) (fun u : Int32 × (Nat → Int32) × (Nat → Int32) × (Nat → Int32) × (Nat → Int32) × (Nat → Int32) × (Nat → Int32) × (Nat → Int32) => [(h0, oX7 bb clk fi la ml mm sl sm u.1), (clk, oX1 clm), (clm, iA G 36 u.2.1), (fi, iA G 12 u.2.2.1), (la, iA G 12 u.2.2.2.1), (ml, iA G 12 u.2.2.2.2.1), (mm, iA G 12 u.2.2.2.2.2.1), (sl, iA G 12 u.2.2.2.2.2.2.1), (sm, iA G 12 u.2.2.2.2.2.2.2), (bb, oX0 bpersons bpapers bstamps bversions blines bsteps bsayings bfindings bwarnings bquestions td vd vl gp), (bstamps, oX8 24 3 bstampsc (nI kbstamps)), (bstampsc, iA G 72 fbstamps)])
set_option maxHeartbeats 4000000 in
set_option maxRecDepth 100000 in
/-- look(), for every state -/
theorem c_look (l : Launch) (G : GG) (h0 : Nat) (pp : Int32) (bb : Nat) (clk : Nat) (fi : Nat) (la : Nat) (ml : Nat) (mm : Nat) (sl : Nat) (sm : Nat) (cl : Int32) (clm : Nat) (fclm : Nat → Int32) (ffi : Nat → Int32) (fla : Nat → Int32) (fml : Nat → Int32) (fmm : Nat → Int32) (fsl : Nat → Int32) (fsm : Nat → Int32) (bpersons : Nat) (bpapers : Nat) (bstamps : Nat) (bversions : Nat) (blines : Nat) (bsteps : Nat) (bsayings : Nat) (bfindings : Nat) (bwarnings : Nat) (bquestions : Nat) (td : Int32) (vd : Int32) (vl : Int32) (gp : Int32) (bstampsc : Nat) (kbstamps : Nat) (fbstamps : Nat → Int32) (hkbstamps : kbstamps ≤ 24) : K_c_look l G h0 pp bb clk fi la ml mm sl sm cl clm fclm ffi fla fml fmm fsl fsm bpersons bpapers bstamps bversions blines bsteps bsayings bfindings bwarnings bquestions td vd vl gp bstampsc kbstamps fbstamps := by
  refine MV.start (by decide +kernel) (Nat.le_of_ble_eq_true rfl) ?_
  intro p e s m below meth c A ls hC hK hP hD hS hA hl
  refine absQ (fun Q0 hQ0 => ?_)
  have hl : lv_has ls 4 [(0, .ref h0), (1, .int pp)] := hl
  refine Kan8 hC (fun hx hb hr hml hB hown hlocks hnm => ?_)
  refine lv_aload_n hx hb gX7_look_0.1 rfl (lv_at0 hl) ?_
  refine lv_iconst (v := 0) hx hb gX7_look_0.2.1 (by decide) ?_
  refine pf_X7_41 hC rfl hK hP hD hS 0 (ws' := [(h0, oX7 bb clk fi la ml mm sl sm 0), (clk, oX1 clm), (clm, iA G 36 fclm), (fi, iA G 12 ffi), (la, iA G 12 fla), (ml, iA G 12 fml), (mm, iA G 12 fmm), (sl, iA G 12 fsl), (sm, iA G 12 fsm), (bb, oX0 bpersons bpapers bstamps bversions blines bsteps bsayings bfindings bwarnings bquestions td vd vl gp), (bstamps, oX8 24 3 bstampsc (nI kbstamps)), (bstampsc, iA G 72 fbstamps)]) rfl (Nat.le_of_ble_eq_true rfl) rfl (by decide +kernel) (by decide +kernel) gX7_look_0.2.2.1 (fun H locs hP hD hS => ?_)
  refine lv_aload_n hx hb gX7_look_0.2.2.2.1 rfl (lv_at0 hl) ?_
  refine gf_X7_12 hC rfl hK hP 0 rfl rfl gX7_look_0.2.2.2.2.1 ?_
  refine vV (wr := [(h0, oX7 bb clk fi la ml mm sl sm 0), (fi, iA G 12 ffi), (la, iA G 12 fla), (ml, iA G 12 fml), (mm, iA G 12 fmm), (sl, iA G 12 fsl), (sm, iA G 12 fsm), (bb, oX0 bpersons bpapers bstamps bversions blines bsteps bsayings bfindings bwarnings bquestions td vd vl gp), (bstamps, oX8 24 3 bstampsc (nI kbstamps)), (bstampsc, iA G 72 fbstamps)]) hC hK hl hP hD hS hA (c_free l G clk clm fclm) si_X7_45 [1, 2] [0, 3, 4, 5, 6, 7, 8, 9, 10, 11] sm_1_2 fm_1_2 nd_1_2 sm_0_3_4_5_6_7_8_9_10_11 nd_0_3_4_5_6_7_8_9_10_11 dj_1_2__0_3_4_5_6_7_8_9_10_11 rfl rfl rfl rfl rfl (Nat.le_of_ble_eq_true rfl) rm_5_1_4 ⟨Nat.le_of_ble_eq_true rfl, Nat.le_of_ble_eq_true rfl⟩ gX7_look_0.2.2.2.2.2.1 (fun f1346 H locs hr344 hP hD hS => ?_)
  try dsimp only at hr344
  refine Kpdr (ws := [(h0, oX7 bb clk fi la ml mm sl sm 0), (fi, iA G 12 ffi), (la, iA G 12 fla), (ml, iA G 12 fml), (mm, iA G 12 fmm), (sl, iA G 12 fsl), (sm, iA G 12 fsm), (bb, oX0 bpersons bpapers bstamps bversions blines bsteps bsayings bfindings bwarnings bquestions td vd vl gp), (bstamps, oX8 24 3 bstampsc (nI kbstamps)), (bstampsc, iA G 72 fbstamps), (clk, oX1 clm), (clm, iA G 36 f1346)]) hP hD (fun hP hD => ?_)
  refine lv_iconst (v := 0) hx hb gX7_look_0.2.2.2.2.2.2.1 (by decide) ?_
  refine lv_istore_n (lv' := [(2, .int 0), (0, .ref h0), (1, .int pp)]) hx hb gX7_look_0.2.2.2.2.2.2.2.1 rfl hl (by decide) rfl (fun ls hl => ?_)
  have keyP : ∀ (nP kP : Nat) (vfi : Nat → Int32) (vla : Nat → Int32) (H : Heap) (locs : List Loc) (ls : Array Slot), kP + nP = 12 → va_PD G A [(h0, oX7 bb clk fi la ml mm sl sm 0), (fi, iA G 12 vfi), (la, iA G 12 vla), (ml, iA G 12 fml), (mm, iA G 12 fmm), (sl, iA G 12 fsl), (sm, iA G 12 fsm), (bb, oX0 bpersons bpapers bstamps bversions blines bsteps bsayings bfindings bwarnings bquestions td vd vl gp), (bstamps, oX8 24 3 bstampsc (nI kbstamps)), (bstampsc, iA G 72 fbstamps), (clk, oX1 clm), (clm, iA G 36 f1346)] H → va_S A s.heap H locs → lv_has ls 4 [(2, .int (nI kP)), (0, .ref h0), (1, .int pp)] → W p l e (RM 5 0 0) s m ([.ref h0, .int pp] : List Value).toArray below meth c H locs 0 0 Q0 (F0 m 14 ls []) := by
    intro nP
    induction nP with
    | zero =>
      intro kP vfi vla H locs ls hkP hPD hS hl
      refine Kan2 hPD (fun hP hD => ?_)
      obtain rfl : 12 = kP := by omega
      have hl : lv_has ls 4 [(2, .int 12), (0, .ref h0), (1, .int pp)] := hl
      refine lv_iload_n hx hb gX7_look_0.2.2.2.2.2.2.2.2.1 rfl (lv_at0 hl) ?_
      refine lv_bipush (v := 12) hx hb gX7_look_0.2.2.2.2.2.2.2.2.2 (by decide) ?_
      refine lv_icmp_ge (tgt := 40) hx hb gX7_look_1.1 (by decide) (fun _ => ?_) (fun c9 => absurd (by decide) c9)
      refine lv_iconst (v := 0) hx hb gX7_look_2.2.2.2.1 (by decide) ?_
      refine lv_istore_n (lv' := [(2, .int 0), (0, .ref h0), (1, .int pp)]) hx hb gX7_look_2.2.2.2.2.1 rfl hl (by decide) rfl (fun ls hl => ?_)
      have keyQ : ∀ (nQ kQ : Nat) (wcl : Int32) (wfi : Nat → Int32) (wla : Nat → Int32) (wclm : Nat → Int32) (H : Heap) (locs : List Loc) (ls : Array Slot), kQ + nQ = kbstamps → (wcl = 0 ∨ wcl = 1) → va_PD G A [(h0, oX7 bb clk fi la ml mm sl sm wcl), (fi, iA G 12 wfi), (la, iA G 12 wla), (ml, iA G 12 fml), (mm, iA G 12 fmm), (sl, iA G 12 fsl), (sm, iA G 12 fsm), (bb, oX0 bpersons bpapers bstamps bversions blines bsteps bsayings bfindings bwarnings bquestions td vd vl gp), (bstamps, oX8 24 3 bstampsc (nI kbstamps)), (bstampsc, iA G 72 fbstamps), (clk, oX1 clm), (clm, iA G 36 wclm)] H → va_S A s.heap H locs → lv_has ls 4 [(2, .int (nI kQ)), (0, .ref h0), (1, .int pp)] → W p l e (RM 5 0 0) s m ([.ref h0, .int pp] : List Value).toArray below meth c H locs 0 0 Q0 (F0 m 42 ls []) := by
        intro nQ
        induction nQ with
        | zero =>
          intro kQ wcl wfi wla wclm H locs ls hkQ hwcl hPD hS hl
          refine Kan2 hPD (fun hP hD => ?_)
          obtain rfl : kbstamps = kQ := by omega
          have hl : lv_has ls 4 [(2, .int (nI kbstamps)), (0, .ref h0), (1, .int pp)] := hl
          refine lv_iload_n hx hb gX7_look_2.2.2.2.2.2.1 rfl (lv_at0 hl) ?_
          refine lv_aload_n hx hb gX7_look_2.2.2.2.2.2.2.1 rfl (lv_at1 hl) ?_
          refine gf_X7_37 hC rfl hK hP 0 rfl rfl gX7_look_2.2.2.2.2.2.2.2.1 ?_
          refine gf_X7_48 hC rfl hK hP 7 rfl rfl gX7_look_2.2.2.2.2.2.2.2.2.1 ?_
          refine pV hC hK hl hP hD (c_T_count l G bstamps 24 3 bstampsc kbstamps) si_X7_54 [8] sm_8 fm_8 nd_8 rfl rfl rfl rfl rfl (Nat.le_of_ble_eq_true rfl) rm_5_1_1 ⟨by first | exact Nat.le_of_ble_eq_true rfl | exact Nat.zero_le _, by first | exact Nat.le_of_ble_eq_true rfl | exact Nat.zero_le _⟩ gX7_look_2.2.2.2.2.2.2.2.2.2 (Keqr ?_)
          refine lv_icmp_ge (tgt := 169) hx hb gX7_look_3.1 (by decide) (fun _ => ?_) (fun c9 => absurd (Int32.le_refl _) c9)
          refine lv_aload_n hx hb gX7_look_8.2.2.2.2.2.2.2.2.2 rfl (lv_at1 hl) ?_
          refine vV (wr := []) hC hK hl hP hD hS hA (c_boundHours l G h0 bb clk fi la ml mm sl sm wcl wfi wla fml fmm fsl fsm clm wclm bpersons bpapers bstamps bversions blines bsteps bsayings bfindings bwarnings bquestions td vd vl gp bstampsc kbstamps fbstamps (hkbstamps)) si_X7_80 [0, 1, 2, 3, 4, 5, 6, 10, 11, 7, 8, 9] [] sm_0_1_2_3_4_5_6_10_11_7_8_9 fm_0_1_2_3_4_5_6_10_11_7_8_9 nd_0_1_2_3_4_5_6_10_11_7_8_9 rfl rfl (by decide) rfl rfl rfl rfl rfl (Nat.le_of_ble_eq_true rfl) rm_5_4_2 ⟨Nat.le_of_ble_eq_true rfl, Nat.le_of_ble_eq_true rfl⟩ gX7_look_9.1 (Ktu4 fun gml351 gmm352 gsl353 gsm354 => ?_)
          intro H locs hr349 hP hD hS
          try dsimp only at hr349
          refine Kpdr (ws := [(h0, oX7 bb clk fi la ml mm sl sm wcl), (fi, iA G 12 wfi), (la, iA G 12 wla), (ml, iA G 12 gml351), (mm, iA G 12 gmm352), (sl, iA G 12 gsl353), (sm, iA G 12 gsm354), (clk, oX1 clm), (clm, iA G 36 wclm), (bb, oX0 bpersons bpapers bstamps bversions blines bsteps bsayings bfindings bwarnings bquestions td vd vl gp), (bstamps, oX8 24 3 bstampsc (nI kbstamps)), (bstampsc, iA G 72 fbstamps)]) hP hD (fun hP hD => ?_)
          refine toQ hQ0 ?_
          exact RV hC hP hD hS [0, 7, 8, 1, 2, 3, 4, 5, 6, 9, 10, 11] (wcl, wclm, wfi, wla, gml351, gmm352, gsl353, gsm354) rfl rfl (by decide) (by first | assumption | exact Or.inl rfl | exact Or.inr rfl) gX7_look_9.2
        | succ nQ ihQ =>
          intro kQ wcl wfi wla wclm H locs ls hkQ hwcl hPD hS hl
          refine Kan2 hPD (fun hP hD => ?_)
          refine lv_iload_n hx hb gX7_look_2.2.2.2.2.2.1 rfl (lv_at0 hl) ?_
          refine lv_aload_n hx hb gX7_look_2.2.2.2.2.2.2.1 rfl (lv_at1 hl) ?_
          refine gf_X7_37 hC rfl hK hP 0 rfl rfl gX7_look_2.2.2.2.2.2.2.2.1 ?_
          refine gf_X7_48 hC rfl hK hP 7 rfl rfl gX7_look_2.2.2.2.2.2.2.2.2.1 ?_
          refine pV hC hK hl hP hD (c_T_count l G bstamps 24 3 bstampsc kbstamps) si_X7_54 [8] sm_8 fm_8 nd_8 rfl rfl rfl rfl rfl (Nat.le_of_ble_eq_true rfl) rm_5_1_1 ⟨by first | exact Nat.le_of_ble_eq_true rfl | exact Nat.zero_le _, by first | exact Nat.le_of_ble_eq_true rfl | exact Nat.zero_le _⟩ gX7_look_2.2.2.2.2.2.2.2.2.2 (Keqr ?_)
          refine lv_icmp_ge (tgt := 169) hx hb gX7_look_3.1 (by decide) (fun c9 => absurd c9 (nI_ge (a := kQ) (b := kbstamps) (by omega) (by omega))) (fun _ => ?_)
          refine lv_aload_n hx hb gX7_look_3.2.1 rfl (lv_at1 hl) ?_
          refine gf_X7_37 hC rfl hK hP 0 rfl rfl gX7_look_3.2.2.1 ?_
          refine gf_X7_48 hC rfl hK hP 7 rfl rfl gX7_look_3.2.2.2.1 ?_
          refine lv_iload_n hx hb gX7_look_3.2.2.2.2.1 rfl (lv_at0 hl) ?_
          refine lv_iconst (v := 0) hx hb gX7_look_3.2.2.2.2.2.1 (by decide) ?_
          refine pV hC hK hl hP hD (c_T_at l G bstamps (nI kQ) 0 24 3 bstampsc kbstamps fbstamps (hkbstamps) (by omega) (by omega)) si_X7_60 [8, 9] sm_8_9 fm_8_9 nd_8_9 rfl rfl rfl rfl rfl (Nat.le_of_ble_eq_true rfl) rm_5_1_3 ⟨by first | exact Nat.le_of_ble_eq_true rfl | exact Nat.zero_le _, by first | exact Nat.le_of_ble_eq_true rfl | exact Nat.zero_le _⟩ gX7_look_3.2.2.2.2.2.2.1 (fun r357 hr357 => ?_)
          refine lv_istore_n (lv' := [(3, .int r357), (2, .int (nI kQ)), (0, .ref h0), (1, .int pp)]) hx hb gX7_look_3.2.2.2.2.2.2.2.1 rfl hl (by decide) rfl (fun ls hl => ?_)
          refine lv_iload_n hx hb gX7_look_3.2.2.2.2.2.2.2.2.1 rfl (lv_at0 hl) ?_
          refine lv_iconst (v := 0) hx hb gX7_look_3.2.2.2.2.2.2.2.2.2 (by decide) ?_
          refine lv_bipush (v := 11) hx hb gX7_look_4.1 (by decide) ?_
          refine pSN hC hK hl (c_within l G r357 0 11) si_X7_64 rfl rfl (Nat.le_of_ble_eq_true rfl) rm_5_1_3 ⟨by first | exact Nat.le_of_ble_eq_true rfl | exact Nat.zero_le _, by first | exact Nat.le_of_ble_eq_true rfl | exact Nat.zero_le _⟩ gX7_look_4.2.1 (Kors (Keqa fun a360 => ?_) (Keqa fun a360 => ?_))
          · refine lv_if_eq (tgt := 163) hx hb gX7_look_4.2.2.1 (by decide) (fun c9 => absurd c9 (by decide)) (fun _ => ?_)
            refine lv_iload_n hx hb gX7_look_4.2.2.2.1 rfl (lv_at3 hl) ?_
            refine lv_iload_n hx hb gX7_look_4.2.2.2.2.1 rfl (lv_at0 hl) ?_
            refine pSN hC hK hl (c_hasBit l G pp r357) si_X7_68 rfl rfl (Nat.le_of_ble_eq_true rfl) rm_5_1_2 ⟨by first | exact Nat.le_of_ble_eq_true rfl | exact Nat.zero_le _, by first | exact Nat.le_of_ble_eq_true rfl | exact Nat.zero_le _⟩ gX7_look_4.2.2.2.2.2.1 (Kors (Keqa fun a362 => ?_) (Keqa fun a362 => ?_))
            · refine lv_if_ne (tgt := 90) hx hb gX7_look_4.2.2.2.2.2.2.1 (by decide) (fun _ => ?_) (fun c9 => absurd c9 (by decide))
              obtain ⟨jp, hjp, rfl⟩ := Wi11 a360
              refine lv_aload_n hx hb gX7_look_4.2.2.2.2.2.2.2.2.1 rfl (lv_at2 hl) ?_
              refine gf_X7_22 hC rfl hK hP 0 rfl rfl gX7_look_4.2.2.2.2.2.2.2.2.2 ?_
              refine lv_iload_n hx hb gX7_look_5.1 rfl (lv_at0 hl) ?_
              refine aldN hC hK hP 2 rfl (k := jp) (by omega) (Nat.le_of_ble_eq_true rfl) (v := wla jp) rfl gX7_look_5.2.1 ?_
              refine lv_topi (fun x363 ex363 => ?_)
              refine lv_if_ge (tgt := 109) hx hb gX7_look_5.2.2.1 (by decide) (fun c_96_364 => ?_) (fun c_96_364 => ?_)
              · refine lv_aload_n hx hb gX7_look_5.2.2.2.2.2.2.2.2.2 rfl (lv_at2 hl) ?_
                refine gf_X7_41 hC rfl hK hP 0 rfl rfl gX7_look_6.1 ?_
                refine lv_if_ne (tgt := 156) hx hb gX7_look_6.2.1 (by decide) (fun c_113_365 => ?_) (fun c_113_365 => ?_)
                · refine lv_aload_n hx hb gX7_look_8.2.2.1 rfl (lv_at2 hl) ?_
                  refine gf_X7_22 hC rfl hK hP 0 rfl rfl gX7_look_8.2.2.2.1 ?_
                  refine lv_iload_n hx hb gX7_look_8.2.2.2.2.1 rfl (lv_at0 hl) ?_
                  refine lv_iload_n hx hb gX7_look_8.2.2.2.2.2.1 rfl (lv_at1 hl) ?_
                  refine astN hC hK hP hD hS 2 (ws' := [(h0, oX7 bb clk fi la ml mm sl sm wcl), (fi, iA G 12 wfi), (la, iA G 12 (upd wla jp (nI kQ))), (ml, iA G 12 fml), (mm, iA G 12 fmm), (sl, iA G 12 fsl), (sm, iA G 12 fsm), (bb, oX0 bpersons bpapers bstamps bversions blines bsteps bsayings bfindings bwarnings bquestions td vd vl gp), (bstamps, oX8 24 3 bstampsc (nI kbstamps)), (bstampsc, iA G 72 fbstamps), (clk, oX1 clm), (clm, iA G 36 wclm)]) rfl (k := jp) (by omega) (Nat.le_of_ble_eq_true rfl) (rfl) gX7_look_8.2.2.2.2.2.2.1 (fun H locs hP hD hS => ?_)
                  refine lv_iinc (v := nI (kQ + 1)) (lv' := [(2, .int (nI (kQ + 1))), (3, .int (nI jp)), (0, .ref h0), (1, .int pp)]) hx hb gX7_look_8.2.2.2.2.2.2.2.1 hl (k := 1) rfl (nI_1 _) (by decide) rfl (fun ls hl => ?_)
                  refine lv_goto (tgt := 42) hx hb gX7_look_8.2.2.2.2.2.2.2.2.1 (by decide) ?_
                  exact ihQ (kQ + 1) wcl wfi (upd wla jp (nI kQ)) wclm _ _ _ (by omega) (by first | assumption | exact Or.inl rfl | exact Or.inr rfl) (And.intro hP hD) hS (lv_sub hl [0, 2, 3] rfl)
                · refine lv_aload_n hx hb gX7_look_6.2.2.1 rfl (lv_at2 hl) ?_
                  refine lv_aload_n hx hb gX7_look_6.2.2.2.1 rfl (lv_at2 hl) ?_
                  refine gf_X7_12 hC rfl hK hP 0 rfl rfl gX7_look_6.2.2.2.2.1 ?_
                  refine lv_aload_n hx hb gX7_look_6.2.2.2.2.2.1 rfl (lv_at2 hl) ?_
                  refine gf_X7_37 hC rfl hK hP 0 rfl rfl gX7_look_6.2.2.2.2.2.2.1 ?_
                  refine gf_X7_48 hC rfl hK hP 7 rfl rfl gX7_look_6.2.2.2.2.2.2.2.1 ?_
                  refine lv_aload_n hx hb gX7_look_6.2.2.2.2.2.2.2.2.1 rfl (lv_at2 hl) ?_
                  refine gf_X7_22 hC rfl hK hP 0 rfl rfl gX7_look_6.2.2.2.2.2.2.2.2.2 ?_
                  refine lv_iload_n hx hb gX7_look_7.1 rfl (lv_at0 hl) ?_
                  refine aldN hC hK hP 2 rfl (k := jp) (by omega) (Nat.le_of_ble_eq_true rfl) (v := wla jp) rfl gX7_look_7.2.1 ?_
                  refine lv_topi (fun x366 ex366 => ?_)
                  refine lv_iload_n hx hb gX7_look_7.2.2.1 rfl (lv_at1 hl) ?_
                  refine lv_aload_n hx hb gX7_look_7.2.2.2.1 rfl (lv_at2 hl) ?_
                  refine gf_X7_37 hC rfl hK hP 0 rfl rfl gX7_look_7.2.2.2.2.1 ?_
                  refine gf_X7_72 hC rfl hK hP 7 rfl rfl gX7_look_7.2.2.2.2.2.1 ?_
                  refine iV (wr := [(h0, oX7 bb clk fi la ml mm sl sm wcl), (fi, iA G 12 wfi), (la, iA G 12 wla), (ml, iA G 12 fml), (mm, iA G 12 fmm), (sl, iA G 12 fsl), (sm, iA G 12 fsm), (bb, oX0 bpersons bpapers bstamps bversions blines bsteps bsayings bfindings bwarnings bquestions td vd vl gp)]) hC hK hl hP hD hS hA (c_follow l G clk bstamps x366 (nI kQ) gp clm wclm bstampsc kbstamps fbstamps (hkbstamps)) si_X7_76 [10, 11, 8, 9] [0, 1, 2, 3, 4, 5, 6, 7] sm_10_11_8_9 fm_10_11_8_9 nd_10_11_8_9 sm_0_1_2_3_4_5_6_7 nd_0_1_2_3_4_5_6_7 dj_10_11_8_9__0_1_2_3_4_5_6_7 rfl rfl rfl rfl rfl (Nat.le_of_ble_eq_true rfl) rm_5_3_8 ⟨Nat.le_of_ble_eq_true rfl, Nat.le_of_ble_eq_true rfl⟩ gX7_look_7.2.2.2.2.2.2.1 (fun r367 f1369 H locs hr367 hP hD hS => ?_)
                  try dsimp only at hr367
                  refine Kpdr (ws := [(h0, oX7 bb clk fi la ml mm sl sm wcl), (fi, iA G 12 wfi), (la, iA G 12 wla), (ml, iA G 12 fml), (mm, iA G 12 fmm), (sl, iA G 12 fsl), (sm, iA G 12 fsm), (bb, oX0 bpersons bpapers bstamps bversions blines bsteps bsayings bfindings bwarnings bquestions td vd vl gp), (clk, oX1 clm), (clm, iA G 36 f1369), (bstamps, oX8 24 3 bstampsc (nI kbstamps)), (bstampsc, iA G 72 fbstamps)]) hP hD (fun hP hD => ?_)
                  rcases hr367 with rfl | rfl
                  · refine lv_if_ne (tgt := 152) hx hb gX7_look_7.2.2.2.2.2.2.2.1 (by decide) (fun _ => ?_) (fun c9 => absurd c9 (by decide))
                    refine lv_iconst (v := 0) hx hb gX7_look_8.1 (by decide) ?_
                    refine pf_X7_41 hC rfl hK hP hD hS 0 (ws' := [(h0, oX7 bb clk fi la ml mm sl sm 0), (fi, iA G 12 wfi), (la, iA G 12 wla), (ml, iA G 12 fml), (mm, iA G 12 fmm), (sl, iA G 12 fsl), (sm, iA G 12 fsm), (bb, oX0 bpersons bpapers bstamps bversions blines bsteps bsayings bfindings bwarnings bquestions td vd vl gp), (clk, oX1 clm), (clm, iA G 36 f1369), (bstamps, oX8 24 3 bstampsc (nI kbstamps)), (bstampsc, iA G 72 fbstamps)]) rfl (Nat.le_of_ble_eq_true rfl) rfl (by decide +kernel) (by decide +kernel) gX7_look_8.2.1 (fun H locs hP hD hS => ?_)
                    refine lv_aload_n hx hb gX7_look_8.2.2.1 rfl (lv_at2 hl) ?_
                    refine gf_X7_22 hC rfl hK hP 0 rfl rfl gX7_look_8.2.2.2.1 ?_
                    refine lv_iload_n hx hb gX7_look_8.2.2.2.2.1 rfl (lv_at0 hl) ?_
                    refine lv_iload_n hx hb gX7_look_8.2.2.2.2.2.1 rfl (lv_at1 hl) ?_
                    refine astN hC hK hP hD hS 2 (ws' := [(h0, oX7 bb clk fi la ml mm sl sm 0), (fi, iA G 12 wfi), (la, iA G 12 (upd wla jp (nI kQ))), (ml, iA G 12 fml), (mm, iA G 12 fmm), (sl, iA G 12 fsl), (sm, iA G 12 fsm), (bb, oX0 bpersons bpapers bstamps bversions blines bsteps bsayings bfindings bwarnings bquestions td vd vl gp), (clk, oX1 clm), (clm, iA G 36 f1369), (bstamps, oX8 24 3 bstampsc (nI kbstamps)), (bstampsc, iA G 72 fbstamps)]) rfl (k := jp) (by omega) (Nat.le_of_ble_eq_true rfl) (rfl) gX7_look_8.2.2.2.2.2.2.1 (fun H locs hP hD hS => ?_)
                    refine lv_iinc (v := nI (kQ + 1)) (lv' := [(2, .int (nI (kQ + 1))), (3, .int (nI jp)), (0, .ref h0), (1, .int pp)]) hx hb gX7_look_8.2.2.2.2.2.2.2.1 hl (k := 1) rfl (nI_1 _) (by decide) rfl (fun ls hl => ?_)
                    refine lv_goto (tgt := 42) hx hb gX7_look_8.2.2.2.2.2.2.2.2.1 (by decide) ?_
                    refine Kpds (ws' := [(h0, oX7 bb clk fi la ml mm sl sm 0), (fi, iA G 12 wfi), (la, iA G 12 (upd wla jp (nI kQ))), (ml, iA G 12 fml), (mm, iA G 12 fmm), (sl, iA G 12 fsl), (sm, iA G 12 fsm), (bb, oX0 bpersons bpapers bstamps bversions blines bsteps bsayings bfindings bwarnings bquestions td vd vl gp), (bstamps, oX8 24 3 bstampsc (nI kbstamps)), (bstampsc, iA G 72 fbstamps), (clk, oX1 clm), (clm, iA G 36 f1369)]) hP hD [0, 1, 2, 3, 4, 5, 6, 7, 10, 11, 8, 9] fm_0_1_2_3_4_5_6_7_10_11_8_9 nd_0_1_2_3_4_5_6_7_10_11_8_9 sm_0_1_2_3_4_5_6_7_10_11_8_9 (fun hP hD => ?_)
                    exact ihQ (kQ + 1) 0 wfi (upd wla jp (nI kQ)) f1369 _ _ _ (by omega) (by first | assumption | exact Or.inl rfl | exact Or.inr rfl) (And.intro hP hD) hS (lv_sub hl [0, 2, 3] rfl)
                  · refine lv_if_ne (tgt := 152) hx hb gX7_look_7.2.2.2.2.2.2.2.1 (by decide) (fun c9 => absurd (by decide) c9) (fun _ => ?_)
                    refine lv_iconst (v := 1) hx hb gX7_look_7.2.2.2.2.2.2.2.2.1 (by decide) ?_
                    refine lv_goto (tgt := 153) hx hb gX7_look_7.2.2.2.2.2.2.2.2.2 (by decide) ?_
                    refine pf_X7_41 hC rfl hK hP hD hS 0 (ws' := [(h0, oX7 bb clk fi la ml mm sl sm 1), (fi, iA G 12 wfi), (la, iA G 12 wla), (ml, iA G 12 fml), (mm, iA G 12 fmm), (sl, iA G 12 fsl), (sm, iA G 12 fsm), (bb, oX0 bpersons bpapers bstamps bversions blines bsteps bsayings bfindings bwarnings bquestions td vd vl gp), (clk, oX1 clm), (clm, iA G 36 f1369), (bstamps, oX8 24 3 bstampsc (nI kbstamps)), (bstampsc, iA G 72 fbstamps)]) rfl (Nat.le_of_ble_eq_true rfl) rfl (by decide +kernel) (by decide +kernel) gX7_look_8.2.1 (fun H locs hP hD hS => ?_)
                    refine lv_aload_n hx hb gX7_look_8.2.2.1 rfl (lv_at2 hl) ?_
                    refine gf_X7_22 hC rfl hK hP 0 rfl rfl gX7_look_8.2.2.2.1 ?_
                    refine lv_iload_n hx hb gX7_look_8.2.2.2.2.1 rfl (lv_at0 hl) ?_
                    refine lv_iload_n hx hb gX7_look_8.2.2.2.2.2.1 rfl (lv_at1 hl) ?_
                    refine astN hC hK hP hD hS 2 (ws' := [(h0, oX7 bb clk fi la ml mm sl sm 1), (fi, iA G 12 wfi), (la, iA G 12 (upd wla jp (nI kQ))), (ml, iA G 12 fml), (mm, iA G 12 fmm), (sl, iA G 12 fsl), (sm, iA G 12 fsm), (bb, oX0 bpersons bpapers bstamps bversions blines bsteps bsayings bfindings bwarnings bquestions td vd vl gp), (clk, oX1 clm), (clm, iA G 36 f1369), (bstamps, oX8 24 3 bstampsc (nI kbstamps)), (bstampsc, iA G 72 fbstamps)]) rfl (k := jp) (by omega) (Nat.le_of_ble_eq_true rfl) (rfl) gX7_look_8.2.2.2.2.2.2.1 (fun H locs hP hD hS => ?_)
                    refine lv_iinc (v := nI (kQ + 1)) (lv' := [(2, .int (nI (kQ + 1))), (3, .int (nI jp)), (0, .ref h0), (1, .int pp)]) hx hb gX7_look_8.2.2.2.2.2.2.2.1 hl (k := 1) rfl (nI_1 _) (by decide) rfl (fun ls hl => ?_)
                    refine lv_goto (tgt := 42) hx hb gX7_look_8.2.2.2.2.2.2.2.2.1 (by decide) ?_
                    refine Kpds (ws' := [(h0, oX7 bb clk fi la ml mm sl sm 1), (fi, iA G 12 wfi), (la, iA G 12 (upd wla jp (nI kQ))), (ml, iA G 12 fml), (mm, iA G 12 fmm), (sl, iA G 12 fsl), (sm, iA G 12 fsm), (bb, oX0 bpersons bpapers bstamps bversions blines bsteps bsayings bfindings bwarnings bquestions td vd vl gp), (bstamps, oX8 24 3 bstampsc (nI kbstamps)), (bstampsc, iA G 72 fbstamps), (clk, oX1 clm), (clm, iA G 36 f1369)]) hP hD [0, 1, 2, 3, 4, 5, 6, 7, 10, 11, 8, 9] fm_0_1_2_3_4_5_6_7_10_11_8_9 nd_0_1_2_3_4_5_6_7_10_11_8_9 sm_0_1_2_3_4_5_6_7_10_11_8_9 (fun hP hD => ?_)
                    exact ihQ (kQ + 1) 1 wfi (upd wla jp (nI kQ)) f1369 _ _ _ (by omega) (by first | assumption | exact Or.inl rfl | exact Or.inr rfl) (And.intro hP hD) hS (lv_sub hl [0, 2, 3] rfl)
              · refine lv_aload_n hx hb gX7_look_5.2.2.2.1 rfl (lv_at2 hl) ?_
                refine gf_X7_18 hC rfl hK hP 0 rfl rfl gX7_look_5.2.2.2.2.1 ?_
                refine lv_iload_n hx hb gX7_look_5.2.2.2.2.2.1 rfl (lv_at0 hl) ?_
                refine lv_iload_n hx hb gX7_look_5.2.2.2.2.2.2.1 rfl (lv_at1 hl) ?_
                refine astN hC hK hP hD hS 1 (ws' := [(h0, oX7 bb clk fi la ml mm sl sm wcl), (fi, iA G 12 (upd wfi jp (nI kQ))), (la, iA G 12 wla), (ml, iA G 12 fml), (mm, iA G 12 fmm), (sl, iA G 12 fsl), (sm, iA G 12 fsm), (bb, oX0 bpersons bpapers bstamps bversions blines bsteps bsayings bfindings bwarnings bquestions td vd vl gp), (bstamps, oX8 24 3 bstampsc (nI kbstamps)), (bstampsc, iA G 72 fbstamps), (clk, oX1 clm), (clm, iA G 36 wclm)]) rfl (k := jp) (by omega) (Nat.le_of_ble_eq_true rfl) (rfl) gX7_look_5.2.2.2.2.2.2.2.1 (fun H locs hP hD hS => ?_)
                refine lv_goto (tgt := 156) hx hb gX7_look_5.2.2.2.2.2.2.2.2.1 (by decide) ?_
                refine lv_aload_n hx hb gX7_look_8.2.2.1 rfl (lv_at2 hl) ?_
                refine gf_X7_22 hC rfl hK hP 0 rfl rfl gX7_look_8.2.2.2.1 ?_
                refine lv_iload_n hx hb gX7_look_8.2.2.2.2.1 rfl (lv_at0 hl) ?_
                refine lv_iload_n hx hb gX7_look_8.2.2.2.2.2.1 rfl (lv_at1 hl) ?_
                refine astN hC hK hP hD hS 2 (ws' := [(h0, oX7 bb clk fi la ml mm sl sm wcl), (fi, iA G 12 (upd wfi jp (nI kQ))), (la, iA G 12 (upd wla jp (nI kQ))), (ml, iA G 12 fml), (mm, iA G 12 fmm), (sl, iA G 12 fsl), (sm, iA G 12 fsm), (bb, oX0 bpersons bpapers bstamps bversions blines bsteps bsayings bfindings bwarnings bquestions td vd vl gp), (bstamps, oX8 24 3 bstampsc (nI kbstamps)), (bstampsc, iA G 72 fbstamps), (clk, oX1 clm), (clm, iA G 36 wclm)]) rfl (k := jp) (by omega) (Nat.le_of_ble_eq_true rfl) (rfl) gX7_look_8.2.2.2.2.2.2.1 (fun H locs hP hD hS => ?_)
                refine lv_iinc (v := nI (kQ + 1)) (lv' := [(2, .int (nI (kQ + 1))), (3, .int (nI jp)), (0, .ref h0), (1, .int pp)]) hx hb gX7_look_8.2.2.2.2.2.2.2.1 hl (k := 1) rfl (nI_1 _) (by decide) rfl (fun ls hl => ?_)
                refine lv_goto (tgt := 42) hx hb gX7_look_8.2.2.2.2.2.2.2.2.1 (by decide) ?_
                exact ihQ (kQ + 1) wcl (upd wfi jp (nI kQ)) (upd wla jp (nI kQ)) wclm _ _ _ (by omega) (by first | assumption | exact Or.inl rfl | exact Or.inr rfl) (And.intro hP hD) hS (lv_sub hl [0, 2, 3] rfl)
            · refine lv_if_ne (tgt := 90) hx hb gX7_look_4.2.2.2.2.2.2.1 (by decide) (fun c9 => absurd (by decide) c9) (fun _ => ?_)
              refine lv_goto (tgt := 163) hx hb gX7_look_4.2.2.2.2.2.2.2.1 (by decide) ?_
              refine lv_iinc (v := nI (kQ + 1)) (lv' := [(2, .int (nI (kQ + 1))), (3, .int r357), (0, .ref h0), (1, .int pp)]) hx hb gX7_look_8.2.2.2.2.2.2.2.1 hl (k := 1) rfl (nI_1 _) (by decide) rfl (fun ls hl => ?_)
              refine lv_goto (tgt := 42) hx hb gX7_look_8.2.2.2.2.2.2.2.2.1 (by decide) ?_
              exact ihQ (kQ + 1) wcl wfi wla wclm _ _ _ (by omega) (by first | assumption | exact Or.inl rfl | exact Or.inr rfl) (And.intro hP hD) hS (lv_sub hl [0, 2, 3] rfl)
          · refine lv_if_eq (tgt := 163) hx hb gX7_look_4.2.2.1 (by decide) (fun _ => ?_) (fun c9 => absurd (by decide) c9)
            refine lv_iinc (v := nI (kQ + 1)) (lv' := [(2, .int (nI (kQ + 1))), (3, .int r357), (0, .ref h0), (1, .int pp)]) hx hb gX7_look_8.2.2.2.2.2.2.2.1 hl (k := 1) rfl (nI_1 _) (by decide) rfl (fun ls hl => ?_)
            refine lv_goto (tgt := 42) hx hb gX7_look_8.2.2.2.2.2.2.2.2.1 (by decide) ?_
            exact ihQ (kQ + 1) wcl wfi wla wclm _ _ _ (by omega) (by first | assumption | exact Or.inl rfl | exact Or.inr rfl) (And.intro hP hD) hS (lv_sub hl [0, 2, 3] rfl)
      exact keyQ kbstamps 0 0 vfi vla f1346 _ _ _ (by omega) (by first | assumption | exact Or.inl rfl | exact Or.inr rfl) (And.intro hP hD) hS (lv_sub hl [0, 1, 2] rfl)
    | succ nP ihP =>
      intro kP vfi vla H locs ls hkP hPD hS hl
      refine Kan2 hPD (fun hP hD => ?_)
      refine lv_iload_n hx hb gX7_look_0.2.2.2.2.2.2.2.2.1 rfl (lv_at0 hl) ?_
      refine lv_bipush (v := 12) hx hb gX7_look_0.2.2.2.2.2.2.2.2.2 (by decide) ?_
      refine lv_icmp_ge (tgt := 40) hx hb gX7_look_1.1 (by decide) (fun c9 => absurd c9 (nI_ge (a := kP) (b := 12) (by omega) (by omega))) (fun _ => ?_)
      refine lv_aload_n hx hb gX7_look_1.2.1 rfl (lv_at1 hl) ?_
      refine gf_X7_18 hC rfl hK hP 0 rfl rfl gX7_look_1.2.2.1 ?_
      refine lv_iload_n hx hb gX7_look_1.2.2.2.1 rfl (lv_at0 hl) ?_
      refine lv_iconst (v := (-1)) hx hb gX7_look_1.2.2.2.2.1 (by decide) ?_
      refine astN hC hK hP hD hS 1 (ws' := [(h0, oX7 bb clk fi la ml mm sl sm 0), (fi, iA G 12 (upd vfi kP (-1))), (la, iA G 12 vla), (ml, iA G 12 fml), (mm, iA G 12 fmm), (sl, iA G 12 fsl), (sm, iA G 12 fsm), (bb, oX0 bpersons bpapers bstamps bversions blines bsteps bsayings bfindings bwarnings bquestions td vd vl gp), (bstamps, oX8 24 3 bstampsc (nI kbstamps)), (bstampsc, iA G 72 fbstamps), (clk, oX1 clm), (clm, iA G 36 f1346)]) rfl (k := kP) (by omega) (Nat.le_of_ble_eq_true rfl) (rfl) gX7_look_1.2.2.2.2.2.1 (fun H locs hP hD hS => ?_)
      refine lv_aload_n hx hb gX7_look_1.2.2.2.2.2.2.1 rfl (lv_at1 hl) ?_
      refine gf_X7_22 hC rfl hK hP 0 rfl rfl gX7_look_1.2.2.2.2.2.2.2.1 ?_
      refine lv_iload_n hx hb gX7_look_1.2.2.2.2.2.2.2.2.1 rfl (lv_at0 hl) ?_
      refine lv_iconst (v := (-1)) hx hb gX7_look_1.2.2.2.2.2.2.2.2.2 (by decide) ?_
      refine astN hC hK hP hD hS 2 (ws' := [(h0, oX7 bb clk fi la ml mm sl sm 0), (fi, iA G 12 (upd vfi kP (-1))), (la, iA G 12 (upd vla kP (-1))), (ml, iA G 12 fml), (mm, iA G 12 fmm), (sl, iA G 12 fsl), (sm, iA G 12 fsm), (bb, oX0 bpersons bpapers bstamps bversions blines bsteps bsayings bfindings bwarnings bquestions td vd vl gp), (bstamps, oX8 24 3 bstampsc (nI kbstamps)), (bstampsc, iA G 72 fbstamps), (clk, oX1 clm), (clm, iA G 36 f1346)]) rfl (k := kP) (by omega) (Nat.le_of_ble_eq_true rfl) (rfl) gX7_look_2.1 (fun H locs hP hD hS => ?_)
      refine lv_iinc (v := nI (kP + 1)) (lv' := [(2, .int (nI (kP + 1))), (0, .ref h0), (1, .int pp)]) hx hb gX7_look_2.2.1 hl (k := 0) rfl (nI_1 _) (by decide) rfl (fun ls hl => ?_)
      refine lv_goto (tgt := 14) hx hb gX7_look_2.2.2.1 (by decide) ?_
      exact ihP (kP + 1) (upd vfi kP (-1)) (upd vla kP (-1)) _ _ _ (by omega) (And.intro hP hD) hS (lv_sub hl [0, 1, 2] rfl)
  exact keyP 12 0 ffi fla _ _ _ (by omega) (And.intro hP hD) hS (lv_sub hl [0, 1, 2] rfl)
def K_c_trueHour0X (l : Launch) (G : GG) (h0 : Nat) (js : Nat) (bb : Nat) (clk : Nat) (fi : Nat) (la : Nat) (ml : Nat) (mm : Nat) (sl : Nat) (sm : Nat) (cl : Int32) (clm : Nat) (fclm : Nat → Int32) (bpersons : Nat) (bpapers : Nat) (bstamps : Nat) (bversions : Nat) (blines : Nat) (bsteps : Nat) (bsayings : Nat) (bfindings : Nat) (bwarnings : Nat) (bquestions : Nat) (td : Int32) (vd : Int32) (vl : Int32) (gp : Int32) (bstampsc : Nat) (kbstamps : Nat) (fbstamps : Nat → Int32) : Prop := MP l G yX7_trueHour cX7_trueHour 5 (some .int) 3 [.ref h0, .int (nI js), .int 0] [(h0, oX7 bb clk fi la ml mm sl sm cl), (clk, oX1 clm), (clm, iA G 36 fclm), (bb, oX0 bpersons bpapers bstamps bversions blines bsteps bsayings bfindings bwarnings bquestions td vd vl gp), (bstamps, oX8 24 3 bstampsc (nI kbstamps)), (bstampsc, iA G 72 fbstamps)] (fun r : Int32 => r = (TR0 fbstamps fclm js))
set_option maxHeartbeats 4000000 in
set_option maxRecDepth 100000 in
theorem c_trueHour0X (l : Launch) (G : GG) (h0 : Nat) (js : Nat) (bb : Nat) (clk : Nat) (fi : Nat) (la : Nat) (ml : Nat) (mm : Nat) (sl : Nat) (sm : Nat) (cl : Int32) (clm : Nat) (fclm : Nat → Int32) (bpersons : Nat) (bpapers : Nat) (bstamps : Nat) (bversions : Nat) (blines : Nat) (bsteps : Nat) (bsayings : Nat) (bfindings : Nat) (bwarnings : Nat) (bquestions : Nat) (td : Int32) (vd : Int32) (vl : Int32) (gp : Int32) (bstampsc : Nat) (kbstamps : Nat) (fbstamps : Nat → Int32) (hkbstamps : kbstamps ≤ 24) (hSV : SVL fbstamps kbstamps) (hjs : js < kbstamps) : K_c_trueHour0X l G h0 js bb clk fi la ml mm sl sm cl clm fclm bpersons bpapers bstamps bversions blines bsteps bsayings bfindings bwarnings bquestions td vd vl gp bstampsc kbstamps fbstamps := by
  refine MP.start (by decide +kernel) (Nat.le_of_ble_eq_true rfl) ?_
  intro p e s m below meth c ls hC hK hP hD hl
  refine absQ (fun Q0 hQ0 => ?_)
  have hl : lv_has ls 5 [(0, .ref h0), (1, .int (nI js)), (2, .int 0)] := hl
  refine Kan8 hC (fun hx hb hr hml hB hown hlocks hnm => ?_)
  obtain ⟨-, ⟨jc, hjc, ejc⟩, -, -⟩ := hSV js hjs
  refine lv_aload_n hx hb gX7_trueHour_0.1 rfl (lv_at0 hl) ?_
  refine gf_X7_37 hC rfl hK hP 0 rfl rfl gX7_trueHour_0.2.1 ?_
  refine gf_X7_48 hC rfl hK hP 3 rfl rfl gX7_trueHour_0.2.2.1 ?_
  refine lv_iload_n hx hb gX7_trueHour_0.2.2.2.1 rfl (lv_at1 hl) ?_
  refine lv_iconst (v := 1) hx hb gX7_trueHour_0.2.2.2.2.1 (by decide) ?_
  refine pV hC hK hl hP hD (c_T_at l G bstamps (nI js) 1 24 3 bstampsc kbstamps fbstamps (hkbstamps) (by omega) (by omega)) si_X7_60 [4, 5] sm_4_5 fm_4_5 nd_4_5 rfl rfl rfl rfl rfl (Nat.le_of_ble_eq_true rfl) rm_3_1_3 ⟨by first | exact Nat.le_of_ble_eq_true rfl | exact Nat.zero_le _, by first | exact Nat.le_of_ble_eq_true rfl | exact Nat.zero_le _⟩ gX7_trueHour_0.2.2.2.2.2.1 (fun r371 hr371 => ?_)
  refine eqi (x1 := nI jc) ((hr371.trans (tatq (by omega) (by omega) (by decide) (by decide) rfl)).trans ejc) ?_
  refine lv_istore_n (lv' := [(3, .int (nI jc)), (0, .ref h0), (1, .int (nI js)), (2, .int 0)]) hx hb gX7_trueHour_0.2.2.2.2.2.2.1 rfl hl (by decide) rfl (fun ls hl => ?_)
  refine lv_iload_n hx hb gX7_trueHour_0.2.2.2.2.2.2.2.1 rfl (lv_at3 hl) ?_
  refine lv_if_eq (tgt := 29) hx hb gX7_trueHour_0.2.2.2.2.2.2.2.2.1 (by decide) (fun _ => ?_) (fun c9 => absurd (by decide) c9)
  refine lv_aload_n hx hb gX7_trueHour_1.2.2.2.2.2.1 rfl (lv_at1 hl) ?_
  refine gf_X7_12 hC rfl hK hP 0 rfl rfl gX7_trueHour_1.2.2.2.2.2.2.1 ?_
  refine lv_iconst (v := 0) hx hb gX7_trueHour_1.2.2.2.2.2.2.2.1 (by decide) ?_
  refine lv_iload_n hx hb gX7_trueHour_1.2.2.2.2.2.2.2.2.1 rfl (lv_at0 hl) ?_
  refine pV hC hK hl hP hD (c_mostAheadX l G clk 0 jc clm fclm (by omega) (by omega)) si_X7_87 [1, 2] sm_1_2 fm_1_2 nd_1_2 rfl rfl rfl rfl rfl (Nat.le_of_ble_eq_true rfl) rm_3_1_3 ⟨by first | exact Nat.le_of_ble_eq_true rfl | exact Nat.zero_le _, by first | exact Nat.le_of_ble_eq_true rfl | exact Nat.zero_le _⟩ gX7_trueHour_1.2.2.2.2.2.2.2.2.2 (Keqr ?_)
  refine lv_ineg hx hb gX7_trueHour_2.1 ?_
  refine lv_istore (lv' := [(4, .int (-(fclm (0 * 6 + jc)))), (3, .int (nI jc)), (0, .ref h0), (1, .int (nI js)), (2, .int 0)]) hx hb gX7_trueHour_2.2.1 hl (by decide) rfl (fun ls hl => ?_)
  refine lv_aload_n hx hb gX7_trueHour_2.2.2.1 rfl (lv_at2 hl) ?_
  refine gf_X7_37 hC rfl hK hP 0 rfl rfl gX7_trueHour_2.2.2.2.1 ?_
  refine gf_X7_48 hC rfl hK hP 3 rfl rfl gX7_trueHour_2.2.2.2.2.1 ?_
  refine lv_iload_n hx hb gX7_trueHour_2.2.2.2.2.2.1 rfl (lv_at3 hl) ?_
  refine lv_iconst (v := 2) hx hb gX7_trueHour_2.2.2.2.2.2.2.1 (by decide) ?_
  refine pV hC hK hl hP hD (c_T_at l G bstamps (nI js) 2 24 3 bstampsc kbstamps fbstamps (hkbstamps) (by omega) (by omega)) si_X7_60 [4, 5] sm_4_5 fm_4_5 nd_4_5 rfl rfl rfl rfl rfl (Nat.le_of_ble_eq_true rfl) rm_3_1_3 ⟨by first | exact Nat.le_of_ble_eq_true rfl | exact Nat.zero_le _, by first | exact Nat.le_of_ble_eq_true rfl | exact Nat.zero_le _⟩ gX7_trueHour_2.2.2.2.2.2.2.2.1 (fun r375 hr375 => ?_)
  refine eqi (x1 := fbstamps (js * 3 + 2)) (hr375.trans (tatq (by omega) (by omega) (by decide) (by decide) rfl)) ?_
  refine lv_iload hx hb gX7_trueHour_2.2.2.2.2.2.2.2.2.1 (lv_at0 hl) ?_
  refine lv_iadd hx hb gX7_trueHour_2.2.2.2.2.2.2.2.2.2 ?_
  refine toQ hQ0 ?_
  exact RP (v := (fbstamps (js * 3 + 2)) + (-(fclm (0 * 6 + jc)))) hC ((by unfold TR0 CKS; rw [ejc, nI_clamp (by omega)])) rfl gX7_trueHour_3
def K_c_trueHour1X (l : Launch) (G : GG) (h0 : Nat) (js : Nat) (bb : Nat) (clk : Nat) (fi : Nat) (la : Nat) (ml : Nat) (mm : Nat) (sl : Nat) (sm : Nat) (cl : Int32) (clm : Nat) (fclm : Nat → Int32) (bpersons : Nat) (bpapers : Nat) (bstamps : Nat) (bversions : Nat) (blines : Nat) (bsteps : Nat) (bsayings : Nat) (bfindings : Nat) (bwarnings : Nat) (bquestions : Nat) (td : Int32) (vd : Int32) (vl : Int32) (gp : Int32) (bstampsc : Nat) (kbstamps : Nat) (fbstamps : Nat → Int32) : Prop := MP l G yX7_trueHour cX7_trueHour 5 (some .int) 3 [.ref h0, .int (nI js), .int 1] [(h0, oX7 bb clk fi la ml mm sl sm cl), (clk, oX1 clm), (clm, iA G 36 fclm), (bb, oX0 bpersons bpapers bstamps bversions blines bsteps bsayings bfindings bwarnings bquestions td vd vl gp), (bstamps, oX8 24 3 bstampsc (nI kbstamps)), (bstampsc, iA G 72 fbstamps)] (fun r : Int32 => r = (TR1 fbstamps fclm js))
set_option maxHeartbeats 4000000 in
set_option maxRecDepth 100000 in
theorem c_trueHour1X (l : Launch) (G : GG) (h0 : Nat) (js : Nat) (bb : Nat) (clk : Nat) (fi : Nat) (la : Nat) (ml : Nat) (mm : Nat) (sl : Nat) (sm : Nat) (cl : Int32) (clm : Nat) (fclm : Nat → Int32) (bpersons : Nat) (bpapers : Nat) (bstamps : Nat) (bversions : Nat) (blines : Nat) (bsteps : Nat) (bsayings : Nat) (bfindings : Nat) (bwarnings : Nat) (bquestions : Nat) (td : Int32) (vd : Int32) (vl : Int32) (gp : Int32) (bstampsc : Nat) (kbstamps : Nat) (fbstamps : Nat → Int32) (hkbstamps : kbstamps ≤ 24) (hSV : SVL fbstamps kbstamps) (hjs : js < kbstamps) : K_c_trueHour1X l G h0 js bb clk fi la ml mm sl sm cl clm fclm bpersons bpapers bstamps bversions blines bsteps bsayings bfindings bwarnings bquestions td vd vl gp bstampsc kbstamps fbstamps := by
  refine MP.start (by decide +kernel) (Nat.le_of_ble_eq_true rfl) ?_
  intro p e s m below meth c ls hC hK hP hD hl
  refine absQ (fun Q0 hQ0 => ?_)
  have hl : lv_has ls 5 [(0, .ref h0), (1, .int (nI js)), (2, .int 1)] := hl
  refine Kan8 hC (fun hx hb hr hml hB hown hlocks hnm => ?_)
  obtain ⟨-, ⟨jc, hjc, ejc⟩, -, -⟩ := hSV js hjs
  refine lv_aload_n hx hb gX7_trueHour_0.1 rfl (lv_at0 hl) ?_
  refine gf_X7_37 hC rfl hK hP 0 rfl rfl gX7_trueHour_0.2.1 ?_
  refine gf_X7_48 hC rfl hK hP 3 rfl rfl gX7_trueHour_0.2.2.1 ?_
  refine lv_iload_n hx hb gX7_trueHour_0.2.2.2.1 rfl (lv_at1 hl) ?_
  refine lv_iconst (v := 1) hx hb gX7_trueHour_0.2.2.2.2.1 (by decide) ?_
  refine pV hC hK hl hP hD (c_T_at l G bstamps (nI js) 1 24 3 bstampsc kbstamps fbstamps (hkbstamps) (by omega) (by omega)) si_X7_60 [4, 5] sm_4_5 fm_4_5 nd_4_5 rfl rfl rfl rfl rfl (Nat.le_of_ble_eq_true rfl) rm_3_1_3 ⟨by first | exact Nat.le_of_ble_eq_true rfl | exact Nat.zero_le _, by first | exact Nat.le_of_ble_eq_true rfl | exact Nat.zero_le _⟩ gX7_trueHour_0.2.2.2.2.2.1 (fun r377 hr377 => ?_)
  refine eqi (x1 := nI jc) ((hr377.trans (tatq (by omega) (by omega) (by decide) (by decide) rfl)).trans ejc) ?_
  refine lv_istore_n (lv' := [(3, .int (nI jc)), (0, .ref h0), (1, .int (nI js)), (2, .int 1)]) hx hb gX7_trueHour_0.2.2.2.2.2.2.1 rfl hl (by decide) rfl (fun ls hl => ?_)
  refine lv_iload_n hx hb gX7_trueHour_0.2.2.2.2.2.2.2.1 rfl (lv_at3 hl) ?_
  refine lv_if_eq (tgt := 29) hx hb gX7_trueHour_0.2.2.2.2.2.2.2.2.1 (by decide) (fun c9 => absurd c9 (by decide)) (fun _ => ?_)
  refine lv_aload_n hx hb gX7_trueHour_0.2.2.2.2.2.2.2.2.2 rfl (lv_at1 hl) ?_
  refine gf_X7_12 hC rfl hK hP 0 rfl rfl gX7_trueHour_1.1 ?_
  refine lv_iload_n hx hb gX7_trueHour_1.2.1 rfl (lv_at0 hl) ?_
  refine lv_iconst (v := 0) hx hb gX7_trueHour_1.2.2.1 (by decide) ?_
  refine pV hC hK hl hP hD (c_mostAheadX l G clk jc 0 clm fclm (by omega) (by omega)) si_X7_87 [1, 2] sm_1_2 fm_1_2 nd_1_2 rfl rfl rfl rfl rfl (Nat.le_of_ble_eq_true rfl) rm_3_1_3 ⟨by first | exact Nat.le_of_ble_eq_true rfl | exact Nat.zero_le _, by first | exact Nat.le_of_ble_eq_true rfl | exact Nat.zero_le _⟩ gX7_trueHour_1.2.2.2.1 (Keqr ?_)
  refine lv_goto (tgt := 39) hx hb gX7_trueHour_1.2.2.2.2.1 (by decide) ?_
  refine lv_istore (lv' := [(4, .int (fclm (jc * 6 + 0))), (3, .int (nI jc)), (0, .ref h0), (1, .int (nI js)), (2, .int 1)]) hx hb gX7_trueHour_2.2.1 hl (by decide) rfl (fun ls hl => ?_)
  refine lv_aload_n hx hb gX7_trueHour_2.2.2.1 rfl (lv_at2 hl) ?_
  refine gf_X7_37 hC rfl hK hP 0 rfl rfl gX7_trueHour_2.2.2.2.1 ?_
  refine gf_X7_48 hC rfl hK hP 3 rfl rfl gX7_trueHour_2.2.2.2.2.1 ?_
  refine lv_iload_n hx hb gX7_trueHour_2.2.2.2.2.2.1 rfl (lv_at3 hl) ?_
  refine lv_iconst (v := 2) hx hb gX7_trueHour_2.2.2.2.2.2.2.1 (by decide) ?_
  refine pV hC hK hl hP hD (c_T_at l G bstamps (nI js) 2 24 3 bstampsc kbstamps fbstamps (hkbstamps) (by omega) (by omega)) si_X7_60 [4, 5] sm_4_5 fm_4_5 nd_4_5 rfl rfl rfl rfl rfl (Nat.le_of_ble_eq_true rfl) rm_3_1_3 ⟨by first | exact Nat.le_of_ble_eq_true rfl | exact Nat.zero_le _, by first | exact Nat.le_of_ble_eq_true rfl | exact Nat.zero_le _⟩ gX7_trueHour_2.2.2.2.2.2.2.2.1 (fun r381 hr381 => ?_)
  refine eqi (x1 := fbstamps (js * 3 + 2)) (hr381.trans (tatq (by omega) (by omega) (by decide) (by decide) rfl)) ?_
  refine lv_iload hx hb gX7_trueHour_2.2.2.2.2.2.2.2.2.1 (lv_at0 hl) ?_
  refine lv_iadd hx hb gX7_trueHour_2.2.2.2.2.2.2.2.2.2 ?_
  refine toQ hQ0 ?_
  exact RP (v := (fbstamps (js * 3 + 2)) + (fclm (jc * 6 + 0))) hC ((by unfold TR1 CKS; rw [ejc, nI_clamp (by omega)])) rfl gX7_trueHour_3
def K_c_boundHoursX (l : Launch) (G : GG) (h0 : Nat) (bb : Nat) (clk : Nat) (fi : Nat) (la : Nat) (ml : Nat) (mm : Nat) (sl : Nat) (sm : Nat) (cl : Int32) (ffi : Nat → Int32) (fla : Nat → Int32) (fml : Nat → Int32) (fmm : Nat → Int32) (fsl : Nat → Int32) (fsm : Nat → Int32) (clm : Nat) (fclm : Nat → Int32) (bpersons : Nat) (bpapers : Nat) (bstamps : Nat) (bversions : Nat) (blines : Nat) (bsteps : Nat) (bsayings : Nat) (bfindings : Nat) (bwarnings : Nat) (bquestions : Nat) (td : Int32) (vd : Int32) (vl : Int32) (gp : Int32) (bstampsc : Nat) (kbstamps : Nat) (fbstamps : Nat → Int32) : Prop := MV l G yX7_boundHours cX7_boundHours 2 4 0 0 [.ref h0] [(h0, oX7 bb clk fi la ml mm sl sm cl), (fi, iA G 12 ffi), (la, iA G 12 fla), (ml, iA G 12 fml), (mm, iA G 12 fmm), (sl, iA G 12 fsl), (sm, iA G 12 fsm), (clk, oX1 clm), (clm, iA G 36 fclm), (bb, oX0 bpersons bpapers bstamps bversions blines bsteps bsayings bfindings bwarnings bquestions td vd vl gp), (bstamps, oX8 24 3 bstampsc (nI kbstamps)), (bstampsc, iA G 72 fbstamps)] (fun u : (Nat → Int32) × (Nat → Int32) × (Nat → Int32) × (Nat → Int32) => BHP fbstamps fclm ffi fla u.1 u.2.1 u.2.2.1 u.2.2.2 12) (fun u : (Nat → Int32) × (Nat → Int32) × (Nat → Int32) × (Nat → Int32) => [(h0, oX7 bb clk fi la ml mm sl sm cl), (fi, iA G 12 ffi), (la, iA G 12 fla), (ml, iA G 12 u.1), (mm, iA G 12 u.2.1), (sl, iA G 12 u.2.2.1), (sm, iA G 12 u.2.2.2), (clk, oX1 clm), (clm, iA G 36 fclm), (bb, oX0 bpersons bpapers bstamps bversions blines bsteps bsayings bfindings bwarnings bquestions td vd vl gp), (bstamps, oX8 24 3 bstampsc (nI kbstamps)), (bstampsc, iA G 72 fbstamps)])
set_option maxHeartbeats 4000000 in
set_option maxRecDepth 100000 in
theorem c_boundHoursX (l : Launch) (G : GG) (pp : Int32) (h0 : Nat) (bb : Nat) (clk : Nat) (fi : Nat) (la : Nat) (ml : Nat) (mm : Nat) (sl : Nat) (sm : Nat) (cl : Int32) (ffi : Nat → Int32) (fla : Nat → Int32) (fml : Nat → Int32) (fmm : Nat → Int32) (fsl : Nat → Int32) (fsm : Nat → Int32) (clm : Nat) (fclm : Nat → Int32) (bpersons : Nat) (bpapers : Nat) (bstamps : Nat) (bversions : Nat) (blines : Nat) (bsteps : Nat) (bsayings : Nat) (bfindings : Nat) (bwarnings : Nat) (bquestions : Nat) (td : Int32) (vd : Int32) (vl : Int32) (gp : Int32) (bstampsc : Nat) (kbstamps : Nat) (fbstamps : Nat → Int32) (hkbstamps : kbstamps ≤ 24) (hSV : SVL fbstamps kbstamps) (hAF : AFI fbstamps (VPP pp) kbstamps ffi) (hAL : ALA fbstamps (VPP pp) kbstamps fla) : K_c_boundHoursX l G h0 bb clk fi la ml mm sl sm cl ffi fla fml fmm fsl fsm clm fclm bpersons bpapers bstamps bversions blines bsteps bsayings bfindings bwarnings bquestions td vd vl gp bstampsc kbstamps fbstamps := by
  refine MV.start (by decide +kernel) (Nat.le_of_ble_eq_true rfl) ?_
  intro p e s m below meth c A ls hC hK hP hD hS hA hl
  refine absQ (fun Q0 hQ0 => ?_)
  have hl : lv_has ls 2 [(0, .ref h0)] := hl
  refine Kan8 hC (fun hx hb hr hml hB hown hlocks hnm => ?_)
  refine lv_iconst (v := 0) hx hb gX7_boundHours_0.1 (by decide) ?_
  refine lv_istore_n (lv' := [(1, .int 0), (0, .ref h0)]) hx hb gX7_boundHours_0.2.1 rfl hl (by decide) rfl (fun ls hl => ?_)
  have keyP : ∀ (nP kP : Nat) (vml : Nat → Int32) (vmm : Nat → Int32) (vsl : Nat → Int32) (vsm : Nat → Int32) (H : Heap) (locs : List Loc) (ls : Array Slot), kP + nP = 12 → (BHP fbstamps fclm ffi fla vml vmm vsl vsm kP) → va_PD G A [(h0, oX7 bb clk fi la ml mm sl sm cl), (fi, iA G 12 ffi), (la, iA G 12 fla), (ml, iA G 12 vml), (mm, iA G 12 vmm), (sl, iA G 12 vsl), (sm, iA G 12 vsm), (clk, oX1 clm), (clm, iA G 36 fclm), (bb, oX0 bpersons bpapers bstamps bversions blines bsteps bsayings bfindings bwarnings bquestions td vd vl gp), (bstamps, oX8 24 3 bstampsc (nI kbstamps)), (bstampsc, iA G 72 fbstamps)] H → va_S A s.heap H locs → lv_has ls 2 [(1, .int (nI kP)), (0, .ref h0)] → W p l e (RM 4 0 0) s m ([.ref h0] : List Value).toArray below meth c H locs 0 0 Q0 (F0 m 2 ls []) := by
    intro nP
    induction nP with
    | zero =>
      intro kP vml vmm vsl vsm H locs ls hkP hbh hPD hS hl
      refine Kan2 hPD (fun hP hD => ?_)
      obtain rfl : 12 = kP := by omega
      have hl : lv_has ls 2 [(1, .int 12), (0, .ref h0)] := hl
      refine lv_iload_n hx hb gX7_boundHours_0.2.2.1 rfl (lv_at0 hl) ?_
      refine lv_bipush (v := 12) hx hb gX7_boundHours_0.2.2.2.1 (by decide) ?_
      refine lv_icmp_ge (tgt := 94) hx hb gX7_boundHours_0.2.2.2.2.1 (by decide) (fun _ => ?_) (fun c9 => absurd (by decide) c9)
      refine toQ hQ0 ?_
      exact RV hC hP hD hS [0, 1, 2, 3, 4, 5, 6, 7, 8, 9, 10, 11] (vml, vmm, vsl, vsm) rfl rfl (by decide) (hbh) gX7_boundHours_5.2.2.2.2.2.2.2
    | succ nP ihP =>
      intro kP vml vmm vsl vsm H locs ls hkP hbh hPD hS hl
      refine Kan2 hPD (fun hP hD => ?_)
      refine lv_iload_n hx hb gX7_boundHours_0.2.2.1 rfl (lv_at0 hl) ?_
      refine lv_bipush (v := 12) hx hb gX7_boundHours_0.2.2.2.1 (by decide) ?_
      refine lv_icmp_ge (tgt := 94) hx hb gX7_boundHours_0.2.2.2.2.1 (by decide) (fun c9 => absurd c9 (nI_ge (a := kP) (b := 12) (by omega) (by omega))) (fun _ => ?_)
      refine lv_aload_n hx hb gX7_boundHours_0.2.2.2.2.2.1 rfl (lv_at1 hl) ?_
      refine gf_X7_22 hC rfl hK hP 0 rfl rfl gX7_boundHours_0.2.2.2.2.2.2.1 ?_
      refine lv_iload_n hx hb gX7_boundHours_0.2.2.2.2.2.2.2.1 rfl (lv_at0 hl) ?_
      refine aldN hC hK hP 2 rfl (k := kP) (by omega) (Nat.le_of_ble_eq_true rfl) (v := fla kP) rfl gX7_boundHours_0.2.2.2.2.2.2.2.2.1 ?_
      refine lv_if_ge (tgt := 20) hx hb gX7_boundHours_0.2.2.2.2.2.2.2.2.2 (by decide) (fun c_14_383 => ?_) (fun c_14_383 => ?_)
      · obtain ⟨js1, hjs1, ejs1, -⟩ := hAF.seen hAL (p := kP) (by omega) (Int32.not_lt.mpr c_14_383)
        obtain ⟨js2, hjs2, ejs2, -, -⟩ := hAL.seen (p := kP) (by omega) (Int32.not_lt.mpr c_14_383)
        refine lv_aload_n hx hb gX7_boundHours_1.2.1 rfl (lv_at1 hl) ?_
        refine gf_X7_25 hC rfl hK hP 0 rfl rfl gX7_boundHours_1.2.2.1 ?_
        refine lv_iload_n hx hb gX7_boundHours_1.2.2.2.1 rfl (lv_at0 hl) ?_
        refine lv_aload_n hx hb gX7_boundHours_1.2.2.2.2.1 rfl (lv_at1 hl) ?_
        refine lv_aload_n hx hb gX7_boundHours_1.2.2.2.2.2.1 rfl (lv_at1 hl) ?_
        refine gf_X7_18 hC rfl hK hP 0 rfl rfl gX7_boundHours_1.2.2.2.2.2.2.1 ?_
        refine lv_iload_n hx hb gX7_boundHours_1.2.2.2.2.2.2.2.1 rfl (lv_at0 hl) ?_
        refine aldN hC hK hP 1 rfl (k := kP) (by omega) (Nat.le_of_ble_eq_true rfl) (v := ffi kP) rfl gX7_boundHours_1.2.2.2.2.2.2.2.2.1 ?_
        refine eqi (x1 := nI js1) ejs1 ?_
        refine lv_iconst (v := 0) hx hb gX7_boundHours_1.2.2.2.2.2.2.2.2.2 (by decide) ?_
        refine pV hC hK hl hP hD (c_trueHour0X l G h0 js1 bb clk fi la ml mm sl sm cl clm fclm bpersons bpapers bstamps bversions blines bsteps bsayings bfindings bwarnings bquestions td vd vl gp bstampsc kbstamps fbstamps (hkbstamps) (hSV) (by omega)) si_X7_83 [0, 7, 8, 9, 10, 11] sm_0_7_8_9_10_11 fm_0_7_8_9_10_11 nd_0_7_8_9_10_11 rfl rfl rfl rfl rfl (Nat.le_of_ble_eq_true rfl) rm_4_3_5 ⟨by first | exact Nat.le_of_ble_eq_true rfl | exact Nat.zero_le _, by first | exact Nat.le_of_ble_eq_true rfl | exact Nat.zero_le _⟩ gX7_boundHours_2.1 (Keqr ?_)
        refine astN hC hK hP hD hS 3 (ws' := [(h0, oX7 bb clk fi la ml mm sl sm cl), (fi, iA G 12 ffi), (la, iA G 12 fla), (ml, iA G 12 (upd vml kP (TR0 fbstamps fclm js1))), (mm, iA G 12 vmm), (sl, iA G 12 vsl), (sm, iA G 12 vsm), (clk, oX1 clm), (clm, iA G 36 fclm), (bb, oX0 bpersons bpapers bstamps bversions blines bsteps bsayings bfindings bwarnings bquestions td vd vl gp), (bstamps, oX8 24 3 bstampsc (nI kbstamps)), (bstampsc, iA G 72 fbstamps)]) rfl (k := kP) (by omega) (Nat.le_of_ble_eq_true rfl) (rfl) gX7_boundHours_2.2.1 (fun H locs hP hD hS => ?_)
        refine lv_aload_n hx hb gX7_boundHours_2.2.2.1 rfl (lv_at1 hl) ?_
        refine gf_X7_28 hC rfl hK hP 0 rfl rfl gX7_boundHours_2.2.2.2.1 ?_
        refine lv_iload_n hx hb gX7_boundHours_2.2.2.2.2.1 rfl (lv_at0 hl) ?_
        refine lv_aload_n hx hb gX7_boundHours_2.2.2.2.2.2.1 rfl (lv_at1 hl) ?_
        refine lv_aload_n hx hb gX7_boundHours_2.2.2.2.2.2.2.1 rfl (lv_at1 hl) ?_
        refine gf_X7_18 hC rfl hK hP 0 rfl rfl gX7_boundHours_2.2.2.2.2.2.2.2.1 ?_
        refine lv_iload_n hx hb gX7_boundHours_2.2.2.2.2.2.2.2.2.1 rfl (lv_at0 hl) ?_
        refine aldN hC hK hP 1 rfl (k := kP) (by omega) (Nat.le_of_ble_eq_true rfl) (v := ffi kP) rfl gX7_boundHours_2.2.2.2.2.2.2.2.2.2 ?_
        refine eqi (x1 := nI js1) ejs1 ?_
        refine lv_iconst (v := 1) hx hb gX7_boundHours_3.1 (by decide) ?_
        refine pV hC hK hl hP hD (c_trueHour1X l G h0 js1 bb clk fi la ml mm sl sm cl clm fclm bpersons bpapers bstamps bversions blines bsteps bsayings bfindings bwarnings bquestions td vd vl gp bstampsc kbstamps fbstamps (hkbstamps) (hSV) (by omega)) si_X7_83 [0, 7, 8, 9, 10, 11] sm_0_7_8_9_10_11 fm_0_7_8_9_10_11 nd_0_7_8_9_10_11 rfl rfl rfl rfl rfl (Nat.le_of_ble_eq_true rfl) rm_4_3_5 ⟨by first | exact Nat.le_of_ble_eq_true rfl | exact Nat.zero_le _, by first | exact Nat.le_of_ble_eq_true rfl | exact Nat.zero_le _⟩ gX7_boundHours_3.2.1 (Keqr ?_)
        refine astN hC hK hP hD hS 4 (ws' := [(h0, oX7 bb clk fi la ml mm sl sm cl), (fi, iA G 12 ffi), (la, iA G 12 fla), (ml, iA G 12 (upd vml kP (TR0 fbstamps fclm js1))), (mm, iA G 12 (upd vmm kP (TR1 fbstamps fclm js1))), (sl, iA G 12 vsl), (sm, iA G 12 vsm), (clk, oX1 clm), (clm, iA G 36 fclm), (bb, oX0 bpersons bpapers bstamps bversions blines bsteps bsayings bfindings bwarnings bquestions td vd vl gp), (bstamps, oX8 24 3 bstampsc (nI kbstamps)), (bstampsc, iA G 72 fbstamps)]) rfl (k := kP) (by omega) (Nat.le_of_ble_eq_true rfl) (rfl) gX7_boundHours_3.2.2.1 (fun H locs hP hD hS => ?_)
        refine lv_aload_n hx hb gX7_boundHours_3.2.2.2.1 rfl (lv_at1 hl) ?_
        refine gf_X7_31 hC rfl hK hP 0 rfl rfl gX7_boundHours_3.2.2.2.2.1 ?_
        refine lv_iload_n hx hb gX7_boundHours_3.2.2.2.2.2.1 rfl (lv_at0 hl) ?_
        refine lv_aload_n hx hb gX7_boundHours_3.2.2.2.2.2.2.1 rfl (lv_at1 hl) ?_
        refine lv_aload_n hx hb gX7_boundHours_3.2.2.2.2.2.2.2.1 rfl (lv_at1 hl) ?_
        refine gf_X7_22 hC rfl hK hP 0 rfl rfl gX7_boundHours_3.2.2.2.2.2.2.2.2.1 ?_
        refine lv_iload_n hx hb gX7_boundHours_3.2.2.2.2.2.2.2.2.2 rfl (lv_at0 hl) ?_
        refine aldN hC hK hP 2 rfl (k := kP) (by omega) (Nat.le_of_ble_eq_true rfl) (v := fla kP) rfl gX7_boundHours_4.1 ?_
        refine eqi (x1 := nI js2) ejs2 ?_
        refine lv_iconst (v := 0) hx hb gX7_boundHours_4.2.1 (by decide) ?_
        refine pV hC hK hl hP hD (c_trueHour0X l G h0 js2 bb clk fi la ml mm sl sm cl clm fclm bpersons bpapers bstamps bversions blines bsteps bsayings bfindings bwarnings bquestions td vd vl gp bstampsc kbstamps fbstamps (hkbstamps) (hSV) (by omega)) si_X7_83 [0, 7, 8, 9, 10, 11] sm_0_7_8_9_10_11 fm_0_7_8_9_10_11 nd_0_7_8_9_10_11 rfl rfl rfl rfl rfl (Nat.le_of_ble_eq_true rfl) rm_4_3_5 ⟨by first | exact Nat.le_of_ble_eq_true rfl | exact Nat.zero_le _, by first | exact Nat.le_of_ble_eq_true rfl | exact Nat.zero_le _⟩ gX7_boundHours_4.2.2.1 (Keqr ?_)
        refine astN hC hK hP hD hS 5 (ws' := [(h0, oX7 bb clk fi la ml mm sl sm cl), (fi, iA G 12 ffi), (la, iA G 12 fla), (ml, iA G 12 (upd vml kP (TR0 fbstamps fclm js1))), (mm, iA G 12 (upd vmm kP (TR1 fbstamps fclm js1))), (sl, iA G 12 (upd vsl kP (TR0 fbstamps fclm js2))), (sm, iA G 12 vsm), (clk, oX1 clm), (clm, iA G 36 fclm), (bb, oX0 bpersons bpapers bstamps bversions blines bsteps bsayings bfindings bwarnings bquestions td vd vl gp), (bstamps, oX8 24 3 bstampsc (nI kbstamps)), (bstampsc, iA G 72 fbstamps)]) rfl (k := kP) (by omega) (Nat.le_of_ble_eq_true rfl) (rfl) gX7_boundHours_4.2.2.2.1 (fun H locs hP hD hS => ?_)
        refine lv_aload_n hx hb gX7_boundHours_4.2.2.2.2.1 rfl (lv_at1 hl) ?_
        refine gf_X7_34 hC rfl hK hP 0 rfl rfl gX7_boundHours_4.2.2.2.2.2.1 ?_
        refine lv_iload_n hx hb gX7_boundHours_4.2.2.2.2.2.2.1 rfl (lv_at0 hl) ?_
        refine lv_aload_n hx hb gX7_boundHours_4.2.2.2.2.2.2.2.1 rfl (lv_at1 hl) ?_
        refine lv_aload_n hx hb gX7_boundHours_4.2.2.2.2.2.2.2.2.1 rfl (lv_at1 hl) ?_
        refine gf_X7_22 hC rfl hK hP 0 rfl rfl gX7_boundHours_4.2.2.2.2.2.2.2.2.2 ?_
        refine lv_iload_n hx hb gX7_boundHours_5.1 rfl (lv_at0 hl) ?_
        refine aldN hC hK hP 2 rfl (k := kP) (by omega) (Nat.le_of_ble_eq_true rfl) (v := fla kP) rfl gX7_boundHours_5.2.1 ?_
        refine eqi (x1 := nI js2) ejs2 ?_
        refine lv_iconst (v := 1) hx hb gX7_boundHours_5.2.2.1 (by decide) ?_
        refine pV hC hK hl hP hD (c_trueHour1X l G h0 js2 bb clk fi la ml mm sl sm cl clm fclm bpersons bpapers bstamps bversions blines bsteps bsayings bfindings bwarnings bquestions td vd vl gp bstampsc kbstamps fbstamps (hkbstamps) (hSV) (by omega)) si_X7_83 [0, 7, 8, 9, 10, 11] sm_0_7_8_9_10_11 fm_0_7_8_9_10_11 nd_0_7_8_9_10_11 rfl rfl rfl rfl rfl (Nat.le_of_ble_eq_true rfl) rm_4_3_5 ⟨by first | exact Nat.le_of_ble_eq_true rfl | exact Nat.zero_le _, by first | exact Nat.le_of_ble_eq_true rfl | exact Nat.zero_le _⟩ gX7_boundHours_5.2.2.2.1 (Keqr ?_)
        refine astN hC hK hP hD hS 6 (ws' := [(h0, oX7 bb clk fi la ml mm sl sm cl), (fi, iA G 12 ffi), (la, iA G 12 fla), (ml, iA G 12 (upd vml kP (TR0 fbstamps fclm js1))), (mm, iA G 12 (upd vmm kP (TR1 fbstamps fclm js1))), (sl, iA G 12 (upd vsl kP (TR0 fbstamps fclm js2))), (sm, iA G 12 (upd vsm kP (TR1 fbstamps fclm js2))), (clk, oX1 clm), (clm, iA G 36 fclm), (bb, oX0 bpersons bpapers bstamps bversions blines bsteps bsayings bfindings bwarnings bquestions td vd vl gp), (bstamps, oX8 24 3 bstampsc (nI kbstamps)), (bstampsc, iA G 72 fbstamps)]) rfl (k := kP) (by omega) (Nat.le_of_ble_eq_true rfl) (rfl) gX7_boundHours_5.2.2.2.2.1 (fun H locs hP hD hS => ?_)
        refine lv_iinc (v := nI (kP + 1)) (lv' := [(1, .int (nI (kP + 1))), (0, .ref h0)]) hx hb gX7_boundHours_5.2.2.2.2.2.1 hl (k := 0) rfl (nI_1 _) (by decide) rfl (fun ls hl => ?_)
        refine lv_goto (tgt := 2) hx hb gX7_boundHours_5.2.2.2.2.2.2.1 (by decide) ?_
        have hst9 : BHP fbstamps fclm ffi fla (upd vml kP (TR0 fbstamps fclm js1)) (upd vmm kP (TR1 fbstamps fclm js1)) (upd vsl kP (TR0 fbstamps fclm js2)) (upd vsm kP (TR1 fbstamps fclm js2)) (kP + 1) := BHP.put hbh ejs1 ejs2 (by omega) (by omega)
        exact ihP (kP + 1) (upd vml kP (TR0 fbstamps fclm js1)) (upd vmm kP (TR1 fbstamps fclm js1)) (upd vsl kP (TR0 fbstamps fclm js2)) (upd vsm kP (TR1 fbstamps fclm js2)) _ _ _ (by omega) (by first | assumption | exact Or.inl rfl | exact Or.inr rfl | exact BHP.zero) (And.intro hP hD) hS (lv_sub hl [0, 1] rfl)
      · refine lv_goto (tgt := 88) hx hb gX7_boundHours_1.1 (by decide) ?_
        refine lv_iinc (v := nI (kP + 1)) (lv' := [(1, .int (nI (kP + 1))), (0, .ref h0)]) hx hb gX7_boundHours_5.2.2.2.2.2.1 hl (k := 0) rfl (nI_1 _) (by decide) rfl (fun ls hl => ?_)
        refine lv_goto (tgt := 2) hx hb gX7_boundHours_5.2.2.2.2.2.2.1 (by decide) ?_
        have hst9 : BHP fbstamps fclm ffi fla vml vmm vsl vsm (kP + 1) := BHP.skip hbh (Int32.not_le.mp c_14_383)
        exact ihP (kP + 1) vml vmm vsl vsm _ _ _ (by omega) (by first | assumption | exact Or.inl rfl | exact Or.inr rfl | exact BHP.zero) (And.intro hP hD) hS (lv_sub hl [0, 1] rfl)
  exact keyP 12 0 fml fmm fsl fsm _ _ _ (by omega) (by first | assumption | exact Or.inl rfl | exact Or.inr rfl | exact BHP.zero) (And.intro hP hD) hS (lv_sub hl [0, 1] rfl)
def K_c_lookX (l : Launch) (G : GG) (h0 : Nat) (pp : Int32) (bb : Nat) (clk : Nat) (fi : Nat) (la : Nat) (ml : Nat) (mm : Nat) (sl : Nat) (sm : Nat) (cl : Int32) (clm : Nat) (fclm : Nat → Int32) (ffi : Nat → Int32) (fla : Nat → Int32) (fml : Nat → Int32) (fmm : Nat → Int32) (fsl : Nat → Int32) (fsm : Nat → Int32) (bpersons : Nat) (bpapers : Nat) (bstamps : Nat) (bversions : Nat) (blines : Nat) (bsteps : Nat) (bsayings : Nat) (bfindings : Nat) (bwarnings : Nat) (bquestions : Nat) (td : Int32) (vd : Int32) (vl : Int32) (gp : Int32) (bstampsc : Nat) (kbstamps : Nat) (fbstamps : Nat → Int32) : Prop := MV l G yX7_look cX7_look 4 5 0 0 [.ref h0, .int pp] [(h0, oX7 bb clk fi la ml mm sl sm cl), (clk, oX1 clm), (clm, iA G 36 fclm), (fi, iA G 12 ffi), (la, iA G 12 fla), (ml, iA G 12 fml), (mm, iA G 12 fmm), (sl, iA G 12 fsl), (sm, iA G 12 fsm), (bb, oX0 bpersons bpapers bstamps bversions blines bsteps bsayings bfindings bwarnings bquestions td vd vl gp), (bstamps, oX8 24 3 bstampsc (nI kbstamps)), (bstampsc, iA G 72 fbstamps)] (fun u : Int32 × (Nat → Int32) × (Nat → Int32) × (Nat → Int32) × (Nat → Int32) × (Nat → Int32) × (Nat → Int32) × (Nat → Int32) => (u.1 = 0 ∨ u.1 = 1) ∧ LKP fbstamps pp gp kbstamps u.1 u.2.1 u.2.2.1 u.2.2.2.1 u.2.2.2.2.1 u.2.2.2.2.2.1 u.2.2.2.2.2.2.1 u.2.2.2.2.2.2.2) (fun u : Int32 × (Nat → Int32) × (Nat → Int32) × (Nat → Int32) × (Nat → Int32) × (Nat → Int32) × (Nat → Int32) × (Nat → Int32) => [(h0, oX7 bb clk fi la ml mm sl sm u.1), (clk, oX1 clm), (clm, iA G 36 u.2.1), (fi, iA G 12 u.2.2.1), (la, iA G 12 u.2.2.2.1), (ml, iA G 12 u.2.2.2.2.1), (mm, iA G 12 u.2.2.2.2.2.1), (sl, iA G 12 u.2.2.2.2.2.2.1), (sm, iA G 12 u.2.2.2.2.2.2.2), (bb, oX0 bpersons bpapers bstamps bversions blines bsteps bsayings bfindings bwarnings bquestions td vd vl gp), (bstamps, oX8 24 3 bstampsc (nI kbstamps)), (bstampsc, iA G 72 fbstamps)])
set_option maxHeartbeats 4000000 in
set_option maxRecDepth 100000 in
theorem c_lookX (l : Launch) (G : GG) (h0 : Nat) (pp : Int32) (bb : Nat) (clk : Nat) (fi : Nat) (la : Nat) (ml : Nat) (mm : Nat) (sl : Nat) (sm : Nat) (cl : Int32) (clm : Nat) (fclm : Nat → Int32) (ffi : Nat → Int32) (fla : Nat → Int32) (fml : Nat → Int32) (fmm : Nat → Int32) (fsl : Nat → Int32) (fsm : Nat → Int32) (bpersons : Nat) (bpapers : Nat) (bstamps : Nat) (bversions : Nat) (blines : Nat) (bsteps : Nat) (bsayings : Nat) (bfindings : Nat) (bwarnings : Nat) (bquestions : Nat) (td : Int32) (vd : Int32) (vl : Int32) (gp : Int32) (bstampsc : Nat) (kbstamps : Nat) (fbstamps : Nat → Int32) (hkbstamps : kbstamps ≤ 24) (hSV : SVL fbstamps kbstamps) (hgp : GPR gp) : K_c_lookX l G h0 pp bb clk fi la ml mm sl sm cl clm fclm ffi fla fml fmm fsl fsm bpersons bpapers bstamps bversions blines bsteps bsayings bfindings bwarnings bquestions td vd vl gp bstampsc kbstamps fbstamps := by
  refine MV.start (by decide +kernel) (Nat.le_of_ble_eq_true rfl) ?_
  intro p e s m below meth c A ls hC hK hP hD hS hA hl
  refine absQ (fun Q0 hQ0 => ?_)
  have hl : lv_has ls 4 [(0, .ref h0), (1, .int pp)] := hl
  refine Kan8 hC (fun hx hb hr hml hB hown hlocks hnm => ?_)
  refine lv_aload_n hx hb gX7_look_0.1 rfl (lv_at0 hl) ?_
  refine lv_iconst (v := 0) hx hb gX7_look_0.2.1 (by decide) ?_
  refine pf_X7_41 hC rfl hK hP hD hS 0 (ws' := [(h0, oX7 bb clk fi la ml mm sl sm 0), (clk, oX1 clm), (clm, iA G 36 fclm), (fi, iA G 12 ffi), (la, iA G 12 fla), (ml, iA G 12 fml), (mm, iA G 12 fmm), (sl, iA G 12 fsl), (sm, iA G 12 fsm), (bb, oX0 bpersons bpapers bstamps bversions blines bsteps bsayings bfindings bwarnings bquestions td vd vl gp), (bstamps, oX8 24 3 bstampsc (nI kbstamps)), (bstampsc, iA G 72 fbstamps)]) rfl (Nat.le_of_ble_eq_true rfl) rfl (by decide +kernel) (by decide +kernel) gX7_look_0.2.2.1 (fun H locs hP hD hS => ?_)
  refine lv_aload_n hx hb gX7_look_0.2.2.2.1 rfl (lv_at0 hl) ?_
  refine gf_X7_12 hC rfl hK hP 0 rfl rfl gX7_look_0.2.2.2.2.1 ?_
  refine vV (wr := [(h0, oX7 bb clk fi la ml mm sl sm 0), (fi, iA G 12 ffi), (la, iA G 12 fla), (ml, iA G 12 fml), (mm, iA G 12 fmm), (sl, iA G 12 fsl), (sm, iA G 12 fsm), (bb, oX0 bpersons bpapers bstamps bversions blines bsteps bsayings bfindings bwarnings bquestions td vd vl gp), (bstamps, oX8 24 3 bstampsc (nI kbstamps)), (bstampsc, iA G 72 fbstamps)]) hC hK hl hP hD hS hA (c_freeX l G clk clm fclm) si_X7_45 [1, 2] [0, 3, 4, 5, 6, 7, 8, 9, 10, 11] sm_1_2 fm_1_2 nd_1_2 sm_0_3_4_5_6_7_8_9_10_11 nd_0_3_4_5_6_7_8_9_10_11 dj_1_2__0_3_4_5_6_7_8_9_10_11 rfl rfl rfl rfl rfl (Nat.le_of_ble_eq_true rfl) rm_5_1_4 ⟨Nat.le_of_ble_eq_true rfl, Nat.le_of_ble_eq_true rfl⟩ gX7_look_0.2.2.2.2.2.1 (fun f1394 H locs hr392 hP hD hS => ?_)
  try dsimp only at hr392
  refine Kpdr (ws := [(h0, oX7 bb clk fi la ml mm sl sm 0), (fi, iA G 12 ffi), (la, iA G 12 fla), (ml, iA G 12 fml), (mm, iA G 12 fmm), (sl, iA G 12 fsl), (sm, iA G 12 fsm), (bb, oX0 bpersons bpapers bstamps bversions blines bsteps bsayings bfindings bwarnings bquestions td vd vl gp), (bstamps, oX8 24 3 bstampsc (nI kbstamps)), (bstampsc, iA G 72 fbstamps), (clk, oX1 clm), (clm, iA G 36 f1394)]) hP hD (fun hP hD => ?_)
  have w395 := hr392
  refine lv_iconst (v := 0) hx hb gX7_look_0.2.2.2.2.2.2.1 (by decide) ?_
  refine lv_istore_n (lv' := [(2, .int 0), (0, .ref h0), (1, .int pp)]) hx hb gX7_look_0.2.2.2.2.2.2.2.1 rfl hl (by decide) rfl (fun ls hl => ?_)
  have keyP : ∀ (nP kP : Nat) (vfi : Nat → Int32) (vla : Nat → Int32) (H : Heap) (locs : List Loc) (ls : Array Slot), kP + nP = 12 → (M1P kP vfi vla) → va_PD G A [(h0, oX7 bb clk fi la ml mm sl sm 0), (fi, iA G 12 vfi), (la, iA G 12 vla), (ml, iA G 12 fml), (mm, iA G 12 fmm), (sl, iA G 12 fsl), (sm, iA G 12 fsm), (bb, oX0 bpersons bpapers bstamps bversions blines bsteps bsayings bfindings bwarnings bquestions td vd vl gp), (bstamps, oX8 24 3 bstampsc (nI kbstamps)), (bstampsc, iA G 72 fbstamps), (clk, oX1 clm), (clm, iA G 36 f1394)] H → va_S A s.heap H locs → lv_has ls 4 [(2, .int (nI kP)), (0, .ref h0), (1, .int pp)] → W p l e (RM 5 0 0) s m ([.ref h0, .int pp] : List Value).toArray below meth c H locs 0 0 Q0 (F0 m 14 ls []) := by
    intro nP
    induction nP with
    | zero =>
      intro kP vfi vla H locs ls hkP hm1 hPD hS hl
      refine Kan2 hPD (fun hP hD => ?_)
      obtain rfl : 12 = kP := by omega
      have hl : lv_has ls 4 [(2, .int 12), (0, .ref h0), (1, .int pp)] := hl
      refine lv_iload_n hx hb gX7_look_0.2.2.2.2.2.2.2.2.1 rfl (lv_at0 hl) ?_
      refine lv_bipush (v := 12) hx hb gX7_look_0.2.2.2.2.2.2.2.2.2 (by decide) ?_
      refine lv_icmp_ge (tgt := 40) hx hb gX7_look_1.1 (by decide) (fun _ => ?_) (fun c9 => absurd (by decide) c9)
      refine lv_iconst (v := 0) hx hb gX7_look_2.2.2.2.1 (by decide) ?_
      refine lv_istore_n (lv' := [(2, .int 0), (0, .ref h0), (1, .int pp)]) hx hb gX7_look_2.2.2.2.2.1 rfl hl (by decide) rfl (fun ls hl => ?_)
      have hz6 : CCS 0 (KST fbstamps (VPP pp) gp.toInt 0) (MAT f1394) := CCS.zero w395
      have hz7 : AFI fbstamps (VPP pp) 0 vfi := AFI.zero hm1
      have hz8 : ALA fbstamps (VPP pp) 0 vla := ALA.zero hm1
      have keyQ : ∀ (nQ kQ : Nat) (wcl : Int32) (wfi : Nat → Int32) (wla : Nat → Int32) (wclm : Nat → Int32) (H : Heap) (locs : List Loc) (ls : Array Slot), kQ + nQ = kbstamps → (wcl = 0 ∨ wcl = 1) → (CCS wcl (KST fbstamps (VPP pp) gp.toInt kQ) (MAT wclm)) → (AFI fbstamps (VPP pp) kQ wfi) → (ALA fbstamps (VPP pp) kQ wla) → va_PD G A [(h0, oX7 bb clk fi la ml mm sl sm wcl), (fi, iA G 12 wfi), (la, iA G 12 wla), (ml, iA G 12 fml), (mm, iA G 12 fmm), (sl, iA G 12 fsl), (sm, iA G 12 fsm), (bb, oX0 bpersons bpapers bstamps bversions blines bsteps bsayings bfindings bwarnings bquestions td vd vl gp), (bstamps, oX8 24 3 bstampsc (nI kbstamps)), (bstampsc, iA G 72 fbstamps), (clk, oX1 clm), (clm, iA G 36 wclm)] H → va_S A s.heap H locs → lv_has ls 4 [(2, .int (nI kQ)), (0, .ref h0), (1, .int pp)] → W p l e (RM 5 0 0) s m ([.ref h0, .int pp] : List Value).toArray below meth c H locs 0 0 Q0 (F0 m 42 ls []) := by
        intro nQ
        induction nQ with
        | zero =>
          intro kQ wcl wfi wla wclm H locs ls hkQ hwcl hcc hfi hla hPD hS hl
          refine Kan2 hPD (fun hP hD => ?_)
          obtain rfl : kbstamps = kQ := by omega
          have hl : lv_has ls 4 [(2, .int (nI kbstamps)), (0, .ref h0), (1, .int pp)] := hl
          refine lv_iload_n hx hb gX7_look_2.2.2.2.2.2.1 rfl (lv_at0 hl) ?_
          refine lv_aload_n hx hb gX7_look_2.2.2.2.2.2.2.1 rfl (lv_at1 hl) ?_
          refine gf_X7_37 hC rfl hK hP 0 rfl rfl gX7_look_2.2.2.2.2.2.2.2.1 ?_
          refine gf_X7_48 hC rfl hK hP 7 rfl rfl gX7_look_2.2.2.2.2.2.2.2.2.1 ?_
          refine pV hC hK hl hP hD (c_T_count l G bstamps 24 3 bstampsc kbstamps) si_X7_54 [8] sm_8 fm_8 nd_8 rfl rfl rfl rfl rfl (Nat.le_of_ble_eq_true rfl) rm_5_1_1 ⟨by first | exact Nat.le_of_ble_eq_true rfl | exact Nat.zero_le _, by first | exact Nat.le_of_ble_eq_true rfl | exact Nat.zero_le _⟩ gX7_look_2.2.2.2.2.2.2.2.2.2 (Keqr ?_)
          refine lv_icmp_ge (tgt := 169) hx hb gX7_look_3.1 (by decide) (fun _ => ?_) (fun c9 => absurd (Int32.le_refl _) c9)
          refine lv_aload_n hx hb gX7_look_8.2.2.2.2.2.2.2.2.2 rfl (lv_at1 hl) ?_
          refine vV (wr := []) hC hK hl hP hD hS hA (c_boundHoursX l G pp h0 bb clk fi la ml mm sl sm wcl wfi wla fml fmm fsl fsm clm wclm bpersons bpapers bstamps bversions blines bsteps bsayings bfindings bwarnings bquestions td vd vl gp bstampsc kbstamps fbstamps (hkbstamps) (hSV) (hfi) (hla)) si_X7_80 [0, 1, 2, 3, 4, 5, 6, 10, 11, 7, 8, 9] [] sm_0_1_2_3_4_5_6_10_11_7_8_9 fm_0_1_2_3_4_5_6_10_11_7_8_9 nd_0_1_2_3_4_5_6_10_11_7_8_9 rfl rfl (by decide) rfl rfl rfl rfl rfl (Nat.le_of_ble_eq_true rfl) rm_5_4_2 ⟨Nat.le_of_ble_eq_true rfl, Nat.le_of_ble_eq_true rfl⟩ gX7_look_9.1 (Ktu4 fun gml400 gmm401 gsl402 gsm403 => ?_)
          intro H locs hr398 hP hD hS
          try dsimp only at hr398
          refine Kpdr (ws := [(h0, oX7 bb clk fi la ml mm sl sm wcl), (fi, iA G 12 wfi), (la, iA G 12 wla), (ml, iA G 12 gml400), (mm, iA G 12 gmm401), (sl, iA G 12 gsl402), (sm, iA G 12 gsm403), (clk, oX1 clm), (clm, iA G 36 wclm), (bb, oX0 bpersons bpapers bstamps bversions blines bsteps bsayings bfindings bwarnings bquestions td vd vl gp), (bstamps, oX8 24 3 bstampsc (nI kbstamps)), (bstampsc, iA G 72 fbstamps)]) hP hD (fun hP hD => ?_)
          have w404 := hr398
          refine toQ hQ0 ?_
          exact RV hC hP hD hS [0, 7, 8, 1, 2, 3, 4, 5, 6, 9, 10, 11] (wcl, wclm, wfi, wla, gml400, gmm401, gsl402, gsm403) rfl rfl (by decide) (⟨hcc.b, hcc, hfi, hla, w404⟩) gX7_look_9.2
        | succ nQ ihQ =>
          intro kQ wcl wfi wla wclm H locs ls hkQ hwcl hcc hfi hla hPD hS hl
          refine Kan2 hPD (fun hP hD => ?_)
          refine lv_iload_n hx hb gX7_look_2.2.2.2.2.2.1 rfl (lv_at0 hl) ?_
          refine lv_aload_n hx hb gX7_look_2.2.2.2.2.2.2.1 rfl (lv_at1 hl) ?_
          refine gf_X7_37 hC rfl hK hP 0 rfl rfl gX7_look_2.2.2.2.2.2.2.2.1 ?_
          refine gf_X7_48 hC rfl hK hP 7 rfl rfl gX7_look_2.2.2.2.2.2.2.2.2.1 ?_
          refine pV hC hK hl hP hD (c_T_count l G bstamps 24 3 bstampsc kbstamps) si_X7_54 [8] sm_8 fm_8 nd_8 rfl rfl rfl rfl rfl (Nat.le_of_ble_eq_true rfl) rm_5_1_1 ⟨by first | exact Nat.le_of_ble_eq_true rfl | exact Nat.zero_le _, by first | exact Nat.le_of_ble_eq_true rfl | exact Nat.zero_le _⟩ gX7_look_2.2.2.2.2.2.2.2.2.2 (Keqr ?_)
          refine lv_icmp_ge (tgt := 169) hx hb gX7_look_3.1 (by decide) (fun c9 => absurd c9 (nI_ge (a := kQ) (b := kbstamps) (by omega) (by omega))) (fun _ => ?_)
          refine lv_aload_n hx hb gX7_look_3.2.1 rfl (lv_at1 hl) ?_
          refine gf_X7_37 hC rfl hK hP 0 rfl rfl gX7_look_3.2.2.1 ?_
          refine gf_X7_48 hC rfl hK hP 7 rfl rfl gX7_look_3.2.2.2.1 ?_
          refine lv_iload_n hx hb gX7_look_3.2.2.2.2.1 rfl (lv_at0 hl) ?_
          refine lv_iconst (v := 0) hx hb gX7_look_3.2.2.2.2.2.1 (by decide) ?_
          refine pV hC hK hl hP hD (c_T_at l G bstamps (nI kQ) 0 24 3 bstampsc kbstamps fbstamps (hkbstamps) (by omega) (by omega)) si_X7_60 [8, 9] sm_8_9 fm_8_9 nd_8_9 rfl rfl rfl rfl rfl (Nat.le_of_ble_eq_true rfl) rm_5_1_3 ⟨by first | exact Nat.le_of_ble_eq_true rfl | exact Nat.zero_le _, by first | exact Nat.le_of_ble_eq_true rfl | exact Nat.zero_le _⟩ gX7_look_3.2.2.2.2.2.2.1 (fun r407 hr407 => ?_)
          obtain ⟨jp, hjp, ejp⟩ := (hSV kQ (by omega)).1
          refine eqi (x1 := nI jp) ((hr407.trans (tatq (by omega) (by omega) (by decide) (by decide) rfl)).trans ejp) ?_
          have wjp : Wi (nI jp) 0 11 := Wi_j (N := 11) rfl (by decide) (by omega)
          refine lv_istore_n (lv' := [(3, .int (nI jp)), (2, .int (nI kQ)), (0, .ref h0), (1, .int pp)]) hx hb gX7_look_3.2.2.2.2.2.2.2.1 rfl hl (by decide) rfl (fun ls hl => ?_)
          refine lv_iload_n hx hb gX7_look_3.2.2.2.2.2.2.2.2.1 rfl (lv_at0 hl) ?_
          refine lv_iconst (v := 0) hx hb gX7_look_3.2.2.2.2.2.2.2.2.2 (by decide) ?_
          refine lv_bipush (v := 11) hx hb gX7_look_4.1 (by decide) ?_
          refine pSN hC hK hl (c_within l G (nI jp) 0 11) si_X7_64 rfl rfl (Nat.le_of_ble_eq_true rfl) rm_5_1_3 ⟨by first | exact Nat.le_of_ble_eq_true rfl | exact Nat.zero_le _, by first | exact Nat.le_of_ble_eq_true rfl | exact Nat.zero_le _⟩ gX7_look_4.2.1 (Kors (Keqa fun a410 => ?_) (Keqa fun a410 => ?_))
          · refine lv_if_eq (tgt := 163) hx hb gX7_look_4.2.2.1 (by decide) (fun c9 => absurd c9 (by decide)) (fun _ => ?_)
            refine lv_iload_n hx hb gX7_look_4.2.2.2.1 rfl (lv_at3 hl) ?_
            refine lv_iload_n hx hb gX7_look_4.2.2.2.2.1 rfl (lv_at0 hl) ?_
            refine pSN hC hK hl (c_hasBit l G pp (nI jp)) si_X7_68 rfl rfl (Nat.le_of_ble_eq_true rfl) rm_5_1_2 ⟨by first | exact Nat.le_of_ble_eq_true rfl | exact Nat.zero_le _, by first | exact Nat.le_of_ble_eq_true rfl | exact Nat.zero_le _⟩ gX7_look_4.2.2.2.2.2.1 (Kors (Keqa fun a412 => ?_) (Keqa fun a412 => ?_))
            · refine lv_if_ne (tgt := 90) hx hb gX7_look_4.2.2.2.2.2.2.1 (by decide) (fun _ => ?_) (fun c9 => absurd c9 (by decide))
              refine lv_aload_n hx hb gX7_look_4.2.2.2.2.2.2.2.2.1 rfl (lv_at2 hl) ?_
              refine gf_X7_22 hC rfl hK hP 0 rfl rfl gX7_look_4.2.2.2.2.2.2.2.2.2 ?_
              refine lv_iload_n hx hb gX7_look_5.1 rfl (lv_at0 hl) ?_
              refine aldN hC hK hP 2 rfl (k := jp) (by omega) (Nat.le_of_ble_eq_true rfl) (v := wla jp) rfl gX7_look_5.2.1 ?_
              refine lv_if_ge (tgt := 109) hx hb gX7_look_5.2.2.1 (by decide) (fun c_96_413 => ?_) (fun c_96_413 => ?_)
              · refine lv_aload_n hx hb gX7_look_5.2.2.2.2.2.2.2.2.2 rfl (lv_at2 hl) ?_
                refine gf_X7_41 hC rfl hK hP 0 rfl rfl gX7_look_6.1 ?_
                refine lv_if_ne (tgt := 156) hx hb gX7_look_6.2.1 (by decide) (fun c_113_414 => ?_) (fun c_113_414 => ?_)
                · refine lv_aload_n hx hb gX7_look_8.2.2.1 rfl (lv_at2 hl) ?_
                  refine gf_X7_22 hC rfl hK hP 0 rfl rfl gX7_look_8.2.2.2.1 ?_
                  refine lv_iload_n hx hb gX7_look_8.2.2.2.2.1 rfl (lv_at0 hl) ?_
                  refine lv_iload_n hx hb gX7_look_8.2.2.2.2.2.1 rfl (lv_at1 hl) ?_
                  refine astN hC hK hP hD hS 2 (ws' := [(h0, oX7 bb clk fi la ml mm sl sm wcl), (fi, iA G 12 wfi), (la, iA G 12 (upd wla jp (nI kQ))), (ml, iA G 12 fml), (mm, iA G 12 fmm), (sl, iA G 12 fsl), (sm, iA G 12 fsm), (bb, oX0 bpersons bpapers bstamps bversions blines bsteps bsayings bfindings bwarnings bquestions td vd vl gp), (bstamps, oX8 24 3 bstampsc (nI kbstamps)), (bstampsc, iA G 72 fbstamps), (clk, oX1 clm), (clm, iA G 36 wclm)]) rfl (k := jp) (by omega) (Nat.le_of_ble_eq_true rfl) (rfl) gX7_look_8.2.2.2.2.2.2.1 (fun H locs hP hD hS => ?_)
                  refine lv_iinc (v := nI (kQ + 1)) (lv' := [(2, .int (nI (kQ + 1))), (3, .int (nI jp)), (0, .ref h0), (1, .int pp)]) hx hb gX7_look_8.2.2.2.2.2.2.2.1 hl (k := 1) rfl (nI_1 _) (by decide) rfl (fun ls hl => ?_)
                  refine lv_goto (tgt := 42) hx hb gX7_look_8.2.2.2.2.2.2.2.2.1 (by decide) ?_
                  have hst6 : CCS wcl (KST fbstamps (VPP pp) gp.toInt (kQ + 1)) (MAT wclm) := CCS.stay hcc c_113_414 ((hla jp hjp).prc (LAS.nneg (Int32.not_lt.mpr c_96_413)) (by omega) ejp)
                  have hst5 := CCS.b hst6
                  have hst7 : AFI fbstamps (VPP pp) (kQ + 1) wfi := hfi.keep hla (Int32.not_lt.mpr c_96_413) (by omega) ejp hjp
                  have hst8 : ALA fbstamps (VPP pp) (kQ + 1) (upd wla jp (nI kQ)) := hla.put ejp hjp a412
                  exact ihQ (kQ + 1) wcl wfi (upd wla jp (nI kQ)) wclm _ _ _ (by omega) (by first | assumption | exact Or.inl rfl | exact Or.inr rfl) (by first | assumption | exact Or.inl rfl | exact Or.inr rfl) (by first | assumption | exact Or.inl rfl | exact Or.inr rfl) (by first | assumption | exact Or.inl rfl | exact Or.inr rfl) (And.intro hP hD) hS (lv_sub hl [0, 2, 3] rfl)
                · obtain ⟨js, hjs, ejs, hpc⟩ := (hla jp hjp).prc (LAS.nneg (Int32.not_lt.mpr c_96_413)) (by omega) ejp
                  have hCB : CLB (KST fbstamps (VPP pp) gp.toInt kQ) (MAT wclm) := hcc.get c_113_414
                  refine lv_aload_n hx hb gX7_look_6.2.2.1 rfl (lv_at2 hl) ?_
                  refine lv_aload_n hx hb gX7_look_6.2.2.2.1 rfl (lv_at2 hl) ?_
                  refine gf_X7_12 hC rfl hK hP 0 rfl rfl gX7_look_6.2.2.2.2.1 ?_
                  refine lv_aload_n hx hb gX7_look_6.2.2.2.2.2.1 rfl (lv_at2 hl) ?_
                  refine gf_X7_37 hC rfl hK hP 0 rfl rfl gX7_look_6.2.2.2.2.2.2.1 ?_
                  refine gf_X7_48 hC rfl hK hP 7 rfl rfl gX7_look_6.2.2.2.2.2.2.2.1 ?_
                  refine lv_aload_n hx hb gX7_look_6.2.2.2.2.2.2.2.2.1 rfl (lv_at2 hl) ?_
                  refine gf_X7_22 hC rfl hK hP 0 rfl rfl gX7_look_6.2.2.2.2.2.2.2.2.2 ?_
                  refine lv_iload_n hx hb gX7_look_7.1 rfl (lv_at0 hl) ?_
                  refine aldN hC hK hP 2 rfl (k := jp) (by omega) (Nat.le_of_ble_eq_true rfl) (v := wla jp) rfl gX7_look_7.2.1 ?_
                  refine eqi (x1 := nI js) ejs ?_
                  refine lv_iload_n hx hb gX7_look_7.2.2.1 rfl (lv_at1 hl) ?_
                  refine lv_aload_n hx hb gX7_look_7.2.2.2.1 rfl (lv_at2 hl) ?_
                  refine gf_X7_37 hC rfl hK hP 0 rfl rfl gX7_look_7.2.2.2.2.1 ?_
                  refine gf_X7_72 hC rfl hK hP 7 rfl rfl gX7_look_7.2.2.2.2.2.1 ?_
                  refine iV (wr := [(h0, oX7 bb clk fi la ml mm sl sm wcl), (fi, iA G 12 wfi), (la, iA G 12 wla), (ml, iA G 12 fml), (mm, iA G 12 fmm), (sl, iA G 12 fsl), (sm, iA G 12 fsm), (bb, oX0 bpersons bpapers bstamps bversions blines bsteps bsayings bfindings bwarnings bquestions td vd vl gp)]) hC hK hl hP hD hS hA (c_followX l G (KST fbstamps (VPP pp) gp.toInt kQ) clk bstamps js kQ gp clm wclm bstampsc kbstamps fbstamps (hCB) (hSV) (hgp) (by omega) (by omega) (hkbstamps)) si_X7_76 [10, 11, 8, 9] [0, 1, 2, 3, 4, 5, 6, 7] sm_10_11_8_9 fm_10_11_8_9 nd_10_11_8_9 sm_0_1_2_3_4_5_6_7 nd_0_1_2_3_4_5_6_7 dj_10_11_8_9__0_1_2_3_4_5_6_7 rfl rfl rfl rfl rfl (Nat.le_of_ble_eq_true rfl) rm_5_3_8 ⟨Nat.le_of_ble_eq_true rfl, Nat.le_of_ble_eq_true rfl⟩ gX7_look_7.2.2.2.2.2.2.1 (fun r415 f1417 H locs hr415 hP hD hS => ?_)
                  try dsimp only at hr415
                  refine Kpdr (ws := [(h0, oX7 bb clk fi la ml mm sl sm wcl), (fi, iA G 12 wfi), (la, iA G 12 wla), (ml, iA G 12 fml), (mm, iA G 12 fmm), (sl, iA G 12 fsl), (sm, iA G 12 fsm), (bb, oX0 bpersons bpapers bstamps bversions blines bsteps bsayings bfindings bwarnings bquestions td vd vl gp), (clk, oX1 clm), (clm, iA G 36 f1417), (bstamps, oX8 24 3 bstampsc (nI kbstamps)), (bstampsc, iA G 72 fbstamps)]) hP hD (fun hP hD => ?_)
                  rcases hr415 with ⟨rfl, a418⟩ | ⟨rfl, a418⟩
                  · refine lv_if_ne (tgt := 152) hx hb gX7_look_7.2.2.2.2.2.2.2.1 (by decide) (fun _ => ?_) (fun c9 => absurd c9 (by decide))
                    refine lv_iconst (v := 0) hx hb gX7_look_8.1 (by decide) ?_
                    refine pf_X7_41 hC rfl hK hP hD hS 0 (ws' := [(h0, oX7 bb clk fi la ml mm sl sm 0), (fi, iA G 12 wfi), (la, iA G 12 wla), (ml, iA G 12 fml), (mm, iA G 12 fmm), (sl, iA G 12 fsl), (sm, iA G 12 fsm), (bb, oX0 bpersons bpapers bstamps bversions blines bsteps bsayings bfindings bwarnings bquestions td vd vl gp), (clk, oX1 clm), (clm, iA G 36 f1417), (bstamps, oX8 24 3 bstampsc (nI kbstamps)), (bstampsc, iA G 72 fbstamps)]) rfl (Nat.le_of_ble_eq_true rfl) rfl (by decide +kernel) (by decide +kernel) gX7_look_8.2.1 (fun H locs hP hD hS => ?_)
                    refine lv_aload_n hx hb gX7_look_8.2.2.1 rfl (lv_at2 hl) ?_
                    refine gf_X7_22 hC rfl hK hP 0 rfl rfl gX7_look_8.2.2.2.1 ?_
                    refine lv_iload_n hx hb gX7_look_8.2.2.2.2.1 rfl (lv_at0 hl) ?_
                    refine lv_iload_n hx hb gX7_look_8.2.2.2.2.2.1 rfl (lv_at1 hl) ?_
                    refine astN hC hK hP hD hS 2 (ws' := [(h0, oX7 bb clk fi la ml mm sl sm 0), (fi, iA G 12 wfi), (la, iA G 12 (upd wla jp (nI kQ))), (ml, iA G 12 fml), (mm, iA G 12 fmm), (sl, iA G 12 fsl), (sm, iA G 12 fsm), (bb, oX0 bpersons bpapers bstamps bversions blines bsteps bsayings bfindings bwarnings bquestions td vd vl gp), (clk, oX1 clm), (clm, iA G 36 f1417), (bstamps, oX8 24 3 bstampsc (nI kbstamps)), (bstampsc, iA G 72 fbstamps)]) rfl (k := jp) (by omega) (Nat.le_of_ble_eq_true rfl) (rfl) gX7_look_8.2.2.2.2.2.2.1 (fun H locs hP hD hS => ?_)
                    refine lv_iinc (v := nI (kQ + 1)) (lv' := [(2, .int (nI (kQ + 1))), (3, .int (nI jp)), (0, .ref h0), (1, .int pp)]) hx hb gX7_look_8.2.2.2.2.2.2.2.1 hl (k := 1) rfl (nI_1 _) (by decide) rfl (fun ls hl => ?_)
                    refine lv_goto (tgt := 42) hx hb gX7_look_8.2.2.2.2.2.2.2.2.1 (by decide) ?_
                    refine Kpds (ws' := [(h0, oX7 bb clk fi la ml mm sl sm 0), (fi, iA G 12 wfi), (la, iA G 12 (upd wla jp (nI kQ))), (ml, iA G 12 fml), (mm, iA G 12 fmm), (sl, iA G 12 fsl), (sm, iA G 12 fsm), (bb, oX0 bpersons bpapers bstamps bversions blines bsteps bsayings bfindings bwarnings bquestions td vd vl gp), (bstamps, oX8 24 3 bstampsc (nI kbstamps)), (bstampsc, iA G 72 fbstamps), (clk, oX1 clm), (clm, iA G 36 f1417)]) hP hD [0, 1, 2, 3, 4, 5, 6, 7, 10, 11, 8, 9] fm_0_1_2_3_4_5_6_7_10_11_8_9 nd_0_1_2_3_4_5_6_7_10_11_8_9 sm_0_1_2_3_4_5_6_7_10_11_8_9 (fun hP hD => ?_)
                    have hst6 : CCS 0 (KST fbstamps (VPP pp) gp.toInt (kQ + 1)) (MAT f1417) := CCS.yes1 hpc a418
                    have hst5 := CCS.b hst6
                    have hst7 : AFI fbstamps (VPP pp) (kQ + 1) wfi := hfi.keep hla (Int32.not_lt.mpr c_96_413) (by omega) ejp hjp
                    have hst8 : ALA fbstamps (VPP pp) (kQ + 1) (upd wla jp (nI kQ)) := hla.put ejp hjp a412
                    exact ihQ (kQ + 1) 0 wfi (upd wla jp (nI kQ)) f1417 _ _ _ (by omega) (by first | assumption | exact Or.inl rfl | exact Or.inr rfl) (by first | assumption | exact Or.inl rfl | exact Or.inr rfl) (by first | assumption | exact Or.inl rfl | exact Or.inr rfl) (by first | assumption | exact Or.inl rfl | exact Or.inr rfl) (And.intro hP hD) hS (lv_sub hl [0, 2, 3] rfl)
                  · refine lv_if_ne (tgt := 152) hx hb gX7_look_7.2.2.2.2.2.2.2.1 (by decide) (fun c9 => absurd (by decide) c9) (fun _ => ?_)
                    refine lv_iconst (v := 1) hx hb gX7_look_7.2.2.2.2.2.2.2.2.1 (by decide) ?_
                    refine lv_goto (tgt := 153) hx hb gX7_look_7.2.2.2.2.2.2.2.2.2 (by decide) ?_
                    refine pf_X7_41 hC rfl hK hP hD hS 0 (ws' := [(h0, oX7 bb clk fi la ml mm sl sm 1), (fi, iA G 12 wfi), (la, iA G 12 wla), (ml, iA G 12 fml), (mm, iA G 12 fmm), (sl, iA G 12 fsl), (sm, iA G 12 fsm), (bb, oX0 bpersons bpapers bstamps bversions blines bsteps bsayings bfindings bwarnings bquestions td vd vl gp), (clk, oX1 clm), (clm, iA G 36 f1417), (bstamps, oX8 24 3 bstampsc (nI kbstamps)), (bstampsc, iA G 72 fbstamps)]) rfl (Nat.le_of_ble_eq_true rfl) rfl (by decide +kernel) (by decide +kernel) gX7_look_8.2.1 (fun H locs hP hD hS => ?_)
                    refine lv_aload_n hx hb gX7_look_8.2.2.1 rfl (lv_at2 hl) ?_
                    refine gf_X7_22 hC rfl hK hP 0 rfl rfl gX7_look_8.2.2.2.1 ?_
                    refine lv_iload_n hx hb gX7_look_8.2.2.2.2.1 rfl (lv_at0 hl) ?_
                    refine lv_iload_n hx hb gX7_look_8.2.2.2.2.2.1 rfl (lv_at1 hl) ?_
                    refine astN hC hK hP hD hS 2 (ws' := [(h0, oX7 bb clk fi la ml mm sl sm 1), (fi, iA G 12 wfi), (la, iA G 12 (upd wla jp (nI kQ))), (ml, iA G 12 fml), (mm, iA G 12 fmm), (sl, iA G 12 fsl), (sm, iA G 12 fsm), (bb, oX0 bpersons bpapers bstamps bversions blines bsteps bsayings bfindings bwarnings bquestions td vd vl gp), (clk, oX1 clm), (clm, iA G 36 f1417), (bstamps, oX8 24 3 bstampsc (nI kbstamps)), (bstampsc, iA G 72 fbstamps)]) rfl (k := jp) (by omega) (Nat.le_of_ble_eq_true rfl) (rfl) gX7_look_8.2.2.2.2.2.2.1 (fun H locs hP hD hS => ?_)
                    refine lv_iinc (v := nI (kQ + 1)) (lv' := [(2, .int (nI (kQ + 1))), (3, .int (nI jp)), (0, .ref h0), (1, .int pp)]) hx hb gX7_look_8.2.2.2.2.2.2.2.1 hl (k := 1) rfl (nI_1 _) (by decide) rfl (fun ls hl => ?_)
                    refine lv_goto (tgt := 42) hx hb gX7_look_8.2.2.2.2.2.2.2.2.1 (by decide) ?_
                    refine Kpds (ws' := [(h0, oX7 bb clk fi la ml mm sl sm 1), (fi, iA G 12 wfi), (la, iA G 12 (upd wla jp (nI kQ))), (ml, iA G 12 fml), (mm, iA G 12 fmm), (sl, iA G 12 fsl), (sm, iA G 12 fsm), (bb, oX0 bpersons bpapers bstamps bversions blines bsteps bsayings bfindings bwarnings bquestions td vd vl gp), (bstamps, oX8 24 3 bstampsc (nI kbstamps)), (bstampsc, iA G 72 fbstamps), (clk, oX1 clm), (clm, iA G 36 f1417)]) hP hD [0, 1, 2, 3, 4, 5, 6, 7, 10, 11, 8, 9] fm_0_1_2_3_4_5_6_7_10_11_8_9 nd_0_1_2_3_4_5_6_7_10_11_8_9 sm_0_1_2_3_4_5_6_7_10_11_8_9 (fun hP hD => ?_)
                    have hst6 : CCS 1 (KST fbstamps (VPP pp) gp.toInt (kQ + 1)) (MAT f1417) := CCS.yes0 hpc a418
                    have hst5 := CCS.b hst6
                    have hst7 : AFI fbstamps (VPP pp) (kQ + 1) wfi := hfi.keep hla (Int32.not_lt.mpr c_96_413) (by omega) ejp hjp
                    have hst8 : ALA fbstamps (VPP pp) (kQ + 1) (upd wla jp (nI kQ)) := hla.put ejp hjp a412
                    exact ihQ (kQ + 1) 1 wfi (upd wla jp (nI kQ)) f1417 _ _ _ (by omega) (by first | assumption | exact Or.inl rfl | exact Or.inr rfl) (by first | assumption | exact Or.inl rfl | exact Or.inr rfl) (by first | assumption | exact Or.inl rfl | exact Or.inr rfl) (by first | assumption | exact Or.inl rfl | exact Or.inr rfl) (And.intro hP hD) hS (lv_sub hl [0, 2, 3] rfl)
              · refine lv_aload_n hx hb gX7_look_5.2.2.2.1 rfl (lv_at2 hl) ?_
                refine gf_X7_18 hC rfl hK hP 0 rfl rfl gX7_look_5.2.2.2.2.1 ?_
                refine lv_iload_n hx hb gX7_look_5.2.2.2.2.2.1 rfl (lv_at0 hl) ?_
                refine lv_iload_n hx hb gX7_look_5.2.2.2.2.2.2.1 rfl (lv_at1 hl) ?_
                refine astN hC hK hP hD hS 1 (ws' := [(h0, oX7 bb clk fi la ml mm sl sm wcl), (fi, iA G 12 (upd wfi jp (nI kQ))), (la, iA G 12 wla), (ml, iA G 12 fml), (mm, iA G 12 fmm), (sl, iA G 12 fsl), (sm, iA G 12 fsm), (bb, oX0 bpersons bpapers bstamps bversions blines bsteps bsayings bfindings bwarnings bquestions td vd vl gp), (bstamps, oX8 24 3 bstampsc (nI kbstamps)), (bstampsc, iA G 72 fbstamps), (clk, oX1 clm), (clm, iA G 36 wclm)]) rfl (k := jp) (by omega) (Nat.le_of_ble_eq_true rfl) (rfl) gX7_look_5.2.2.2.2.2.2.2.1 (fun H locs hP hD hS => ?_)
                refine lv_goto (tgt := 156) hx hb gX7_look_5.2.2.2.2.2.2.2.2.1 (by decide) ?_
                refine lv_aload_n hx hb gX7_look_8.2.2.1 rfl (lv_at2 hl) ?_
                refine gf_X7_22 hC rfl hK hP 0 rfl rfl gX7_look_8.2.2.2.1 ?_
                refine lv_iload_n hx hb gX7_look_8.2.2.2.2.1 rfl (lv_at0 hl) ?_
                refine lv_iload_n hx hb gX7_look_8.2.2.2.2.2.1 rfl (lv_at1 hl) ?_
                refine astN hC hK hP hD hS 2 (ws' := [(h0, oX7 bb clk fi la ml mm sl sm wcl), (fi, iA G 12 (upd wfi jp (nI kQ))), (la, iA G 12 (upd wla jp (nI kQ))), (ml, iA G 12 fml), (mm, iA G 12 fmm), (sl, iA G 12 fsl), (sm, iA G 12 fsm), (bb, oX0 bpersons bpapers bstamps bversions blines bsteps bsayings bfindings bwarnings bquestions td vd vl gp), (bstamps, oX8 24 3 bstampsc (nI kbstamps)), (bstampsc, iA G 72 fbstamps), (clk, oX1 clm), (clm, iA G 36 wclm)]) rfl (k := jp) (by omega) (Nat.le_of_ble_eq_true rfl) (rfl) gX7_look_8.2.2.2.2.2.2.1 (fun H locs hP hD hS => ?_)
                refine lv_iinc (v := nI (kQ + 1)) (lv' := [(2, .int (nI (kQ + 1))), (3, .int (nI jp)), (0, .ref h0), (1, .int pp)]) hx hb gX7_look_8.2.2.2.2.2.2.2.1 hl (k := 1) rfl (nI_1 _) (by decide) rfl (fun ls hl => ?_)
                refine lv_goto (tgt := 42) hx hb gX7_look_8.2.2.2.2.2.2.2.2.1 (by decide) ?_
                have hst6 : CCS wcl (KST fbstamps (VPP pp) gp.toInt (kQ + 1)) (MAT wclm) := CCS.no hcc ((hla jp hjp).nop ((hla jp hjp).neg (Int32.not_le.mp c_96_413) (by omega)) (by omega) (by omega) ejp)
                have hst5 := CCS.b hst6
                have hst7 : AFI fbstamps (VPP pp) (kQ + 1) (upd wfi jp (nI kQ)) := hfi.put hla (Int32.not_le.mp c_96_413) (by omega) ejp hjp a412
                have hst8 : ALA fbstamps (VPP pp) (kQ + 1) (upd wla jp (nI kQ)) := hla.put ejp hjp a412
                exact ihQ (kQ + 1) wcl (upd wfi jp (nI kQ)) (upd wla jp (nI kQ)) wclm _ _ _ (by omega) (by first | assumption | exact Or.inl rfl | exact Or.inr rfl) (by first | assumption | exact Or.inl rfl | exact Or.inr rfl) (by first | assumption | exact Or.inl rfl | exact Or.inr rfl) (by first | assumption | exact Or.inl rfl | exact Or.inr rfl) (And.intro hP hD) hS (lv_sub hl [0, 2, 3] rfl)
            · refine lv_if_ne (tgt := 90) hx hb gX7_look_4.2.2.2.2.2.2.1 (by decide) (fun c9 => absurd (by decide) c9) (fun _ => ?_)
              refine lv_goto (tgt := 163) hx hb gX7_look_4.2.2.2.2.2.2.2.1 (by decide) ?_
              refine lv_iinc (v := nI (kQ + 1)) (lv' := [(2, .int (nI (kQ + 1))), (3, .int (nI jp)), (0, .ref h0), (1, .int pp)]) hx hb gX7_look_8.2.2.2.2.2.2.2.1 hl (k := 1) rfl (nI_1 _) (by decide) rfl (fun ls hl => ?_)
              refine lv_goto (tgt := 42) hx hb gX7_look_8.2.2.2.2.2.2.2.2.1 (by decide) ?_
              have hst6 : CCS wcl (KST fbstamps (VPP pp) gp.toInt (kQ + 1)) (MAT wclm) := CCS.no hcc (PRC.unseen (p := jp) (by omega) ejp a412)
              have hst5 := CCS.b hst6
              have hst7 : AFI fbstamps (VPP pp) (kQ + 1) wfi := hfi.skip ejp hjp a412
              have hst8 : ALA fbstamps (VPP pp) (kQ + 1) wla := hla.skip ejp hjp a412
              exact ihQ (kQ + 1) wcl wfi wla wclm _ _ _ (by omega) (by first | assumption | exact Or.inl rfl | exact Or.inr rfl) (by first | assumption | exact Or.inl rfl | exact Or.inr rfl) (by first | assumption | exact Or.inl rfl | exact Or.inr rfl) (by first | assumption | exact Or.inl rfl | exact Or.inr rfl) (And.intro hP hD) hS (lv_sub hl [0, 2, 3] rfl)
          · exact absurd wjp a410
      exact keyQ kbstamps 0 0 vfi vla f1394 _ _ _ (by omega) (by first | assumption | exact Or.inl rfl | exact Or.inr rfl) (by first | assumption | exact Or.inl rfl | exact Or.inr rfl) (by first | assumption | exact Or.inl rfl | exact Or.inr rfl) (by first | assumption | exact Or.inl rfl | exact Or.inr rfl) (And.intro hP hD) hS (lv_sub hl [0, 1, 2] rfl)
    | succ nP ihP =>
      intro kP vfi vla H locs ls hkP hm1 hPD hS hl
      refine Kan2 hPD (fun hP hD => ?_)
      refine lv_iload_n hx hb gX7_look_0.2.2.2.2.2.2.2.2.1 rfl (lv_at0 hl) ?_
      refine lv_bipush (v := 12) hx hb gX7_look_0.2.2.2.2.2.2.2.2.2 (by decide) ?_
      refine lv_icmp_ge (tgt := 40) hx hb gX7_look_1.1 (by decide) (fun c9 => absurd c9 (nI_ge (a := kP) (b := 12) (by omega) (by omega))) (fun _ => ?_)
      refine lv_aload_n hx hb gX7_look_1.2.1 rfl (lv_at1 hl) ?_
      refine gf_X7_18 hC rfl hK hP 0 rfl rfl gX7_look_1.2.2.1 ?_
      refine lv_iload_n hx hb gX7_look_1.2.2.2.1 rfl (lv_at0 hl) ?_
      refine lv_iconst (v := (-1)) hx hb gX7_look_1.2.2.2.2.1 (by decide) ?_
      refine astN hC hK hP hD hS 1 (ws' := [(h0, oX7 bb clk fi la ml mm sl sm 0), (fi, iA G 12 (upd vfi kP (-1))), (la, iA G 12 vla), (ml, iA G 12 fml), (mm, iA G 12 fmm), (sl, iA G 12 fsl), (sm, iA G 12 fsm), (bb, oX0 bpersons bpapers bstamps bversions blines bsteps bsayings bfindings bwarnings bquestions td vd vl gp), (bstamps, oX8 24 3 bstampsc (nI kbstamps)), (bstampsc, iA G 72 fbstamps), (clk, oX1 clm), (clm, iA G 36 f1394)]) rfl (k := kP) (by omega) (Nat.le_of_ble_eq_true rfl) (rfl) gX7_look_1.2.2.2.2.2.1 (fun H locs hP hD hS => ?_)
      refine lv_aload_n hx hb gX7_look_1.2.2.2.2.2.2.1 rfl (lv_at1 hl) ?_
      refine gf_X7_22 hC rfl hK hP 0 rfl rfl gX7_look_1.2.2.2.2.2.2.2.1 ?_
      refine lv_iload_n hx hb gX7_look_1.2.2.2.2.2.2.2.2.1 rfl (lv_at0 hl) ?_
      refine lv_iconst (v := (-1)) hx hb gX7_look_1.2.2.2.2.2.2.2.2.2 (by decide) ?_
      refine astN hC hK hP hD hS 2 (ws' := [(h0, oX7 bb clk fi la ml mm sl sm 0), (fi, iA G 12 (upd vfi kP (-1))), (la, iA G 12 (upd vla kP (-1))), (ml, iA G 12 fml), (mm, iA G 12 fmm), (sl, iA G 12 fsl), (sm, iA G 12 fsm), (bb, oX0 bpersons bpapers bstamps bversions blines bsteps bsayings bfindings bwarnings bquestions td vd vl gp), (bstamps, oX8 24 3 bstampsc (nI kbstamps)), (bstampsc, iA G 72 fbstamps), (clk, oX1 clm), (clm, iA G 36 f1394)]) rfl (k := kP) (by omega) (Nat.le_of_ble_eq_true rfl) (rfl) gX7_look_2.1 (fun H locs hP hD hS => ?_)
      refine lv_iinc (v := nI (kP + 1)) (lv' := [(2, .int (nI (kP + 1))), (0, .ref h0), (1, .int pp)]) hx hb gX7_look_2.2.1 hl (k := 0) rfl (nI_1 _) (by decide) rfl (fun ls hl => ?_)
      refine lv_goto (tgt := 14) hx hb gX7_look_2.2.2.1 (by decide) ?_
      exact ihP (kP + 1) (upd vfi kP (-1)) (upd vla kP (-1)) _ _ _ (by omega) (by first | assumption | exact Or.inl rfl | exact Or.inr rfl | exact M1P.zero | exact M1P.next hm1) (And.intro hP hD) hS (lv_sub hl [0, 1, 2] rfl)
  exact keyP 12 0 ffi fla _ _ _ (by omega) (by first | assumption | exact Or.inl rfl | exact Or.inr rfl | exact M1P.zero | exact M1P.next hm1) (And.intro hP hD) hS (lv_sub hl [0, 1, 2] rfl)
