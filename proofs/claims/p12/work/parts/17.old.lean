section WR
variable {p : Program} {l : Launch} {e : Env} {R : Room} {s : State} {m : MethodId} {args : Array Value} {below : List Frame} {meth : Method} {c : Code} {H : Heap} {locs : List Loc} {cells slots : Nat} {Q : State → Prop}
variable {pc : Nat} {ls : Array Slot} {rest : List Value} {G : GG} {ws : va_W} {A : Nat → Prop} {y0 : MethodName} {b0 : ByteArray} {mL0 : Nat} {rt0 : Option FieldType} {a : Nat} {H0 : Heap}
end WR
abbrev OO : Type := (Nat → Nat) × (Nat → Nat) × Nat × Nat
def STX : List String := ["if", "taken", "warn", "ask", "heard", "of", "from", "by", "o\x72", "and", "not", "person", "post", "had", "made", "slow"]
def SLEN : List Nat := [2, 5, 4, 3, 5, 2, 4, 2, 2, 3, 3, 6, 4, 3, 4, 4]
def SBY : List (List Int32) := [[105, 102], [116, 97, 107, 101, 110], [119, 97, 114, 110], [97, 115, 107], [104, 101, 97, 114, 100], [111, 102], [102, 114, 111, 109], [98, 121], [111, 114], [97, 110, 100], [110, 111, 116], [112, 101, 114, 115, 111, 110], [112, 111, 115, 116], [104, 97, 100], [109, 97, 100, 101], [115, 108, 111, 119]]
def I10 : List Nat := [119, 127, 129, 131, 133, 138, 143, 145, 150, 158, 160, 171, 173, 175, 177, 179]
def I12 : List Nat := [287, 274, 276, 278, 280, 282, 284, 285, 246, 258, 260, 40, 42, 44, 46, 48]
def ABV : List Int32 := [(-1), 0, 0, 1, 0, 4, 0]
def BDS : List Int32 := [10, 11, 12, 13, 0, 20, 0, 0, 0, 0, 30, 0, 0, 40, 0, 41, 50, 0, 51, 0, 61, 0, 60, 0, 0, 0, 0, 70]
def ST1 (K : OO) (i : Nat) (A : Nat → Prop) (U : State) (H : Heap) : Prop := va_O RJ0 (K.1 i) A U H ∧ va_OF RJ0 "code\x72" "B" (.int 0) (K.1 i) A U H ∧ va_OF RJ0 "value" "[B" (.ref (K.2.1 i)) (K.1 i) A U H ∧ va_T .byte (K.2.1 i) (SLEN.getD i 0) (fun j => .int ((SBY.getD i []).getD j 0)) A U H
/-- the String constants and the static tables, as they lay before -/
def OC (K : OO) (A : Nat → Prop) (U : State) (H : Heap) : Prop := (∀ i : Nat, i < 16 → ST1 K i A U H) ∧ va_Z RJ0 "COMPACT_STRINGS" "Z" (.int 1) A U H ∧ va_Zq RJ3 "SIOOBE_FORMATTER" "Ljava/util/function/BiFunction;" A U H ∧ va_Z RX2 "ABOVE" "[I" (.ref K.2.2.1) A U H ∧ va_T .int K.2.2.1 7 (fun j => .int (ABV.getD j 0)) A U H ∧ va_Z RX2 "BODIES" "[I" (.ref K.2.2.2) A U H ∧ va_T .int K.2.2.2 28 (fun j => .int (BDS.getD j 0)) A U H
def OR (K : OO) (U : State) : Prop := (∀ i : Nat, i < 16 → vk_R RX10 (I10.getD i 0) (STX.getD i "") (K.1 i) U) ∧ ∀ i : Nat, i < 16 → vk_R RX12 (I12.getD i 0) (STX.getD i "") (K.1 i) U
def OX (K : OO) (A : Nat → Prop) (U : State) (H : Heap) : Prop := OC K A U H ∧ OR K U
theorem OC.moved {K : OO} {A : Nat → Prop} {u U : State} {H : Heap} (hvm : u.vm.Alike U.vm) (h : OC K A u H) : OC K A U H := by
  obtain ⟨h1, h2, h3, h4, h5, h6, h7⟩ := h
  exact ⟨fun i hi => ⟨va_O.moved hvm (h1 i hi).1, va_OF.moved hvm (h1 i hi).2.1, va_OF.moved hvm (h1 i hi).2.2.1, va_T.moved hvm (h1 i hi).2.2.2⟩, va_Z.moved hvm h2, va_Zq.moved hvm h3, va_Z.moved hvm h4, va_T.moved hvm h5, va_Z.moved hvm h6, va_T.moved hvm h7⟩
theorem OC.kept {K : OO} {A : Nat → Prop} {U : State} {H H1 : Heap} (h : OC K A U H) (hq : ∀ a : Nat, a < H.size → ¬ A a → H1[a]? = H[a]?) : OC K A U H1 := by
  obtain ⟨h1, h2, h3, h4, h5, h6, h7⟩ := h
  exact ⟨fun i hi => ⟨(h1 i hi).1.kept hq, (h1 i hi).2.1.kept hq, (h1 i hi).2.2.1.kept hq, (h1 i hi).2.2.2.kept hq⟩, h2.kept hq, h3.kept hq, h4.kept hq, h5.kept hq, h6.kept hq, h7.kept hq⟩
theorem OC.narrow {K : OO} {A B : Nat → Prop} {U : State} {H : Heap} (h : OC K A U H) (hAB : ∀ q, B q → A q) : OC K B U H := by
  obtain ⟨h1, h2, h3, h4, h5, h6, h7⟩ := h
  exact ⟨fun i hi => ⟨(h1 i hi).1.narrow hAB, (h1 i hi).2.1.narrow hAB, (h1 i hi).2.2.1.narrow hAB, (h1 i hi).2.2.2.narrow hAB⟩, h2.narrow hAB, h3.narrow hAB, h4.narrow hAB, h5.narrow hAB, h6.narrow hAB, h7.narrow hAB⟩
theorem OX.calling {K : OO} {A : Nat → Prop} {U : State} {H : Heap} {g : JFrame} {mk : MethodId} {a : Array Value} (h : OX K A U H) : OX K A (U.calling g mk a) H :=
  ⟨OC.moved (u := U) (U := U.calling g mk a) (Vm.Alike.refl U.vm) h.1, fun i hi => vk_R.same (u := U) (U := U.calling g mk a) rfl (h.2.1 i hi), fun i hi => vk_R.same (u := U) (U := U.calling g mk a) rfl (h.2.2 i hi)⟩
theorem OX.warm {K : OO} {A B : Nat → Prop} {s U : State} {H : Heap} {locs : List Loc} (hS : va_S A s.heap H locs) (hW : s.WarmedH U.vm) (hU : U.heap = H) (hB : ∀ q, B q → A q) (h : OX K A s s.heap) : OX K B U U.heap := by
  subst hU
  exact ⟨((h.1.kept hS.2.1).moved hW.alike).narrow hB, fun i hi => vk_R.warm hW (h.2.1 i hi), fun i hi => vk_R.warm hW (h.2.2 i hi)⟩
def PREo (G : GG) (K : OO) (B : Nat → Prop) (av : List Value) (ws : va_W) (sz : Nat) : Array Value → State → Prop := fun v U => PRE G av ws sz v U ∧ OX K B U U.heap
theorem PREo.blind {G : GG} {K : OO} {B : Nat → Prop} {av : List Value} {ws : va_W} {sz : Nat} : FrameBlind (PREo G K B av ws sz) := fun a U g mk q => ⟨PRE.blind a U g mk q.1, OX.calling q.2⟩
def MPo (l : Launch) (G : GG) (K : OO) (y : MethodName) (b : ByteArray) (mL : Nat) (rt : Option FieldType) (d : Nat) (av : List Value) (ws : va_W) (post : Int32 → Prop) : Prop :=
  ∀ sz : Nat, Met l y (Cond.code y b mL rt :: BW) (RM d 0 0) (PREo G K (fun _ => False) av ws sz) (QP post) 0 0 (fun _ => False)
/-- reads only, and answers nothing -/
def QW : Array Value → State → Outcome → State → Prop := fun _ st oc t => oc = .returned none ∧ t.heap = st.heap
def MWo (l : Launch) (G : GG) (K : OO) (y : MethodName) (b : ByteArray) (mL : Nat) (d : Nat) (av : List Value) (ws : va_W) : Prop :=
  ∀ sz : Nat, Met l y (Cond.code y b mL none :: BW) (RM d 0 0) (PREo G K (fun _ => False) av ws sz) QW 0 0 (fun _ => False)
def MIo (l : Launch) (G : GG) (K : OO) (y : MethodName) (b : ByteArray) (mL : Nat) (rt : Option FieldType) (d mc ms : Nat) (av : List Value) (ws : va_W) {S : Type} (post : Int32 → S → Prop) (w1 : S → va_W) : Prop :=
  ∀ sz : Nat, Met l y (Cond.code y b mL rt :: BW) (RM d mc ms) (PREo G K (va_A ws sz) av ws sz) (QI G post w1 (va_A ws sz)) mc ms (va_A ws sz)
def MVo (l : Launch) (G : GG) (K : OO) (y : MethodName) (b : ByteArray) (mL : Nat) (d mc ms : Nat) (av : List Value) (ws : va_W) {S : Type} (post : S → Prop) (w1 : S → va_W) : Prop :=
  ∀ sz : Nat, Met l y (Cond.code y b mL none :: BW) (RM d mc ms) (PREo G K (va_A ws sz) av ws sz) (QV G post w1 (va_A ws sz)) mc ms (va_A ws sz)
section SUPo
variable {l : Launch} {G : GG} {K : OO} {y : MethodName} {b : ByteArray} {mL : Nat} {rt : Option FieldType} {d mc ms : Nat} {av : List Value} {ws : va_W}
theorem MIo.start {S : Type} {post : Int32 → S → Prop} {w1 : S → va_W} (hy : plainName y.cls = true) (hlen : (lg_sl av).length ≤ mL)
    (body : ∀ (p : Program) (e : Env) (s : State) (m : MethodId) (below : List Frame) (meth : Method) (c : Code) (A : Nat → Prop) (ls : Array Slot), CX p s m meth c y b mL rt av.toArray → KK G s → va_P G.1 vwCl ws s.heap → va_D A ws → va_S A s.heap s.heap [] → (∀ q : Nat, s.heap.size ≤ q → A q) → lv_has ls mL (lv_args 0 av) → OX K A s s.heap →
      W p l e (RM d mc ms) s m av.toArray below meth c s.heap [] 0 0 (MQ below (QI G post w1 A) av.toArray s mc ms A) (F0 m 0 ls [])) : MIo l G K y b mL rt d mc ms av ws post w1 := by
  intro sz
  refine Met.ofW (cc := b) (maxL := mL) (ret := rt) hy rfl ?_
  intro p e s m args below meth c s₁ B hml hv
  obtain ⟨⟨rfl, hsz, hP, hK, hD0⟩, hO⟩ := hv
  subst hsz
  have hts := atoms_spec (ws := Cond.code y b mL rt :: BW) B.pre
  rw [lg_entry_eq]
  exact body p e s m below meth c (va_A ws s.heap.size) _ ⟨B.exec, B.bytes, B.returns, hml, fun w h => hts w (List.mem_cons_of_mem _ h), findClass_of_methodNamed B.named, B.notSynchronized, (name_of_methodNamed B.named B.method).1⟩ hK hP hD0.self va_S.rf (fun q h => Or.inr h) (lv_entry av (n := mL) hlen) hO
theorem MVo.start {S : Type} {post : S → Prop} {w1 : S → va_W} (hy : plainName y.cls = true) (hlen : (lg_sl av).length ≤ mL)
    (body : ∀ (p : Program) (e : Env) (s : State) (m : MethodId) (below : List Frame) (meth : Method) (c : Code) (A : Nat → Prop) (ls : Array Slot), CX p s m meth c y b mL none av.toArray → KK G s → va_P G.1 vwCl ws s.heap → va_D A ws → va_S A s.heap s.heap [] → (∀ q : Nat, s.heap.size ≤ q → A q) → lv_has ls mL (lv_args 0 av) → OX K A s s.heap →
      W p l e (RM d mc ms) s m av.toArray below meth c s.heap [] 0 0 (MQ below (QV G post w1 A) av.toArray s mc ms A) (F0 m 0 ls [])) : MVo l G K y b mL d mc ms av ws post w1 := by
  intro sz
  refine Met.ofW (cc := b) (maxL := mL) (ret := none) hy rfl ?_
  intro p e s m args below meth c s₁ B hml hv
  obtain ⟨⟨rfl, hsz, hP, hK, hD0⟩, hO⟩ := hv
  subst hsz
  have hts := atoms_spec (ws := Cond.code y b mL none :: BW) B.pre
  rw [lg_entry_eq]
  exact body p e s m below meth c (va_A ws s.heap.size) _ ⟨B.exec, B.bytes, B.returns, hml, fun w h => hts w (List.mem_cons_of_mem _ h), findClass_of_methodNamed B.named, B.notSynchronized, (name_of_methodNamed B.named B.method).1⟩ hK hP hD0.self va_S.rf (fun q h => Or.inr h) (lv_entry av (n := mL) hlen) hO
theorem MPo.start {post : Int32 → Prop} (hy : plainName y.cls = true) (hlen : (lg_sl av).length ≤ mL)
    (body : ∀ (p : Program) (e : Env) (s : State) (m : MethodId) (below : List Frame) (meth : Method) (c : Code) (ls : Array Slot), CX p s m meth c y b mL rt av.toArray → KK G s → va_P G.1 vwCl ws s.heap → va_D (fun _ => True) ws → lv_has ls mL (lv_args 0 av) → OX K (fun _ => False) s s.heap → va_S (fun _ => False) s.heap s.heap [] →
      W p l e (RM d 0 0) s m av.toArray below meth c s.heap [] 0 0 (MQ below (QP post) av.toArray s 0 0 (fun _ => False)) (F0 m 0 ls [])) : MPo l G K y b mL rt d av ws post := by
  intro sz
  refine Met.ofW (cc := b) (maxL := mL) (ret := rt) hy rfl ?_
  intro p e s m args below meth c s₁ B hml hv
  obtain ⟨⟨rfl, hsz, hP, hK, hD0⟩, hO⟩ := hv
  have hts := atoms_spec (ws := Cond.code y b mL rt :: BW) B.pre
  rw [lg_entry_eq]
  exact body p e s m below meth c _ ⟨B.exec, B.bytes, B.returns, hml, fun w h => hts w (List.mem_cons_of_mem _ h), findClass_of_methodNamed B.named, B.notSynchronized, (name_of_methodNamed B.named B.method).1⟩ hK hP hD0 (lv_entry av (n := mL) hlen) hO va_S.rf
theorem MWo.start (hy : plainName y.cls = true) (hlen : (lg_sl av).length ≤ mL)
    (body : ∀ (p : Program) (e : Env) (s : State) (m : MethodId) (below : List Frame) (meth : Method) (c : Code) (ls : Array Slot), CX p s m meth c y b mL none av.toArray → KK G s → va_P G.1 vwCl ws s.heap → va_D (fun _ => True) ws → lv_has ls mL (lv_args 0 av) → OX K (fun _ => False) s s.heap → va_S (fun _ => False) s.heap s.heap [] →
      W p l e (RM d 0 0) s m av.toArray below meth c s.heap [] 0 0 (MQ below QW av.toArray s 0 0 (fun _ => False)) (F0 m 0 ls [])) : MWo l G K y b mL d av ws := by
  intro sz
  refine Met.ofW (cc := b) (maxL := mL) (ret := none) hy rfl ?_
  intro p e s m args below meth c s₁ B hml hv
  obtain ⟨⟨rfl, hsz, hP, hK, hD0⟩, hO⟩ := hv
  have hts := atoms_spec (ws := Cond.code y b mL none :: BW) B.pre
  rw [lg_entry_eq]
  exact body p e s m below meth c _ ⟨B.exec, B.bytes, B.returns, hml, fun w h => hts w (List.mem_cons_of_mem _ h), findClass_of_methodNamed B.named, B.notSynchronized, (name_of_methodNamed B.named B.method).1⟩ hK hP hD0 (lv_entry av (n := mL) hlen) hO va_S.rf
end SUPo
section SUCo
variable {p : Program} {l : Launch} {e : Env} {R : Room} {s : State} {m : MethodId} {args : Array Value} {below : List Frame} {meth : Method} {c : Code} {H : Heap} {locs : List Loc} {cells slots : Nat} {Q : State → Prop}
variable {pc : Nat} {ls : Array Slot} {rest st : List Value} {G : GG} {K : OO} {ws wc wr : va_W} {A A0 A1 : Nat → Prop} {y y0 : MethodName} {b b0 : ByteArray} {mL mL0 : Nat} {rt rt0 : Option FieldType} {d mc ms n idx : Nat} {C host : String} {a ci : Nat} {As : List Value} {fs : List Value} {q9 : vw_C} {H0 : Heap} {lv : List (Nat × Value)}
theorem RWo (hC : CX p s m meth c y b mL none args) (hdg : decode b pc = .ok (.return_, 1)) : W p l e R s m args below meth c s.heap [] 0 0 (MQ below QW args s 0 0 (fun _ => False)) (F0 m pc ls []) := by
  obtain ⟨hx, hb, hr, hml, hB, hown, hlocks, hnm⟩ := hC
  exact W.vret hx hb hr (fun t ht hW => ⟨rfl, ht⟩) (fun q h => by cases h) hdg hlocks
theorem preSo_of {B : Nat → Prop} {av : List Value} (hO : OX K A s s.heap) (hS : va_S A s.heap H locs) (hB : ∀ q, B q → A q) (hK : KK G s) (hPc : va_P G.1 vwCl wc H) (hDc : va_D (fun _ => True) wc) : PreS s H (PREo G K B av wc H.size) av :=
  ⟨PREo.blind, fun U hU hW => ⟨⟨rfl, by rw [hU], by rw [hU]; exact hPc, KK.warm hW hK, hDc⟩, OX.warm hS hW hU hB hO⟩⟩
theorem preVo_of {B : Nat → Prop} (hO : OX K A s s.heap) (hS : va_S A s.heap H locs) (hB : ∀ q, B q → A q) (hK : KK G s) (hPc : va_P G.1 vwCl wc H) (hDc : va_D (fun _ => True) wc) (hcl : vwCl[ci]? = some q9) (hC : q9.1 = C) (he : wc[0]? = some (a, .inr (ci, fs))) : PreV s H C a (PREo G K B (.ref a :: As) wc H.size) As :=
  ⟨PREo.blind, by subst hC; exact va_recv hK.1 hPc hcl he, fun U hU hW => ⟨⟨rfl, by rw [hU], by rw [hU]; exact hPc, KK.warm hW hK, hDc⟩, OX.warm hS hW hU hB hO⟩⟩
theorem preTo_of {B : Nat → Prop} {i : Nat} (hi : i < 16) (hO : OX K A s s.heap) (hS : va_S A s.heap H locs) (hB : ∀ q, B q → A q) (hK : KK G s) : PreV s H RJ0 (K.1 i) (PREo G K B (.ref (K.1 i) :: As) [] H.size) As := by
  refine ⟨PREo.blind, ?_, fun U hU hW => ⟨⟨rfl, by rw [hU], fun k q h => by simp at h, KK.warm hW hK, ⟨fun i j p q h => by simp at h, fun k q h => by simp at h⟩⟩, OX.warm hS hW hU hB hO⟩⟩
  obtain ⟨cell, h1, h2, h3, -⟩ := (hO.1.1 i hi).1.kept hS.2.1
  exact ⟨cell, h1, h2, h3⟩
theorem pcallw {aa : Array Value} (hr : va_Run p l e R s m args below meth c H locs cells slots 0 0 (F0 m pc ls st) rest (QW aa) (fun _ => False))
    (kk : W p l e R s m args below meth c H locs cells slots Q (F0 m (pc + 3) ls rest)) : W p l e R s m args below meth c H locs cells slots Q (F0 m pc ls st) := by
  intro T hT X
  obtain ⟨v, st₀, t, T', L, h0, X', hL, e1, e2, ⟨hv, hh⟩, st⟩ := hr T hT X
  cases hv
  obtain ⟨t2, a1, b1⟩ := kk T' (by rw [e1, hh, h0]) (Stand.forget X' (fun q h => (hL q h).elim))
  exact ⟨t2, st t2 a1, b1⟩
theorem pVo {post : Int32 → Prop} (hO : OX K A0 s s.heap) (hS : va_S A0 s.heap H locs) (hC : CX p s m meth c y0 b0 mL0 rt0 args) (hK : KK G s) (hl : lv_has ls mL0 lv) (hP : va_P G.1 vwCl ws H) (hD : va_D A1 ws) (hM : MPo l G K y b mL rt d (.ref a :: As) wc post) (hsite : SV y0.cls C idx y b mL rt n) (isC : List Nat) (hw : isC.map (fun i => ws[i]?) = wc.map some) (hw2 : isC.filterMap (fun i => ws[i]?) = wc) (hn : va_nd isC = true) (hcl : vwCl[ci]? = some q9) (hCl : q9.1 = C) (he : wc[0]? = some (a, .inr (ci, fs)))
    (hAs : As.length = n) (hst : st = As.reverse ++ .ref a :: rest) (hrm : (rest.map fun v => v.category).sum ≤ 8) (hR : d + 1 ≤ R.frames ∧ 8 + (mL + 11) + 40 * d ≤ R.locals) (hcs : cells + 0 ≤ R.cells ∧ slots + 0 ≤ R.slots) (hdg : decode b0 pc = .ok (.invokevirtual idx, 3))
    (kk : ∀ r : Int32, post r → W p l e R s m args below meth c H locs cells slots Q (F0 m (pc + 3) ls (.int r :: rest))) : W p l e R s m args below meth c H locs cells slots Q (F0 m pc ls st) := by
  obtain ⟨hx, hb, hr, hml, hB, hown, hlocks, hnm⟩ := hC
  obtain ⟨⟨h1, h2, h3, h4, h5⟩, hy⟩ := hsite
  exact pcall (va_runV (As := As) (rest := rest) ⟨hx, hb, hml, hown, hB⟩ (hM H.size) (cwV n hB (gV h1 h2 h3 h4 h5) rfl rfl rfl hy hR) (preVo_of hO hS (fun q h => h.elim) hK (hP.sub isC hw2) ((hD.sub isC hn hw).weaken (fun _ _ _ _ => trivial)) hcl hCl he) rfl hAs hl.1 hst (lv_room hrm) hdg hcs) kk
/-- a String constant is asked -/
theorem pTo {post : Int32 → Prop} {i : Nat} (hi : i < 16) (hO : OX K A0 s s.heap) (hS : va_S A0 s.heap H locs) (hC : CX p s m meth c y0 b0 mL0 rt0 args) (hK : KK G s) (hl : lv_has ls mL0 lv) (hM : MPo l G K y b mL rt d (.ref (K.1 i) :: As) [] post) (hsite : SV y0.cls RJ0 idx y b mL rt n)
    (hAs : As.length = n) (hst : st = As.reverse ++ .ref (K.1 i) :: rest) (hrm : (rest.map fun v => v.category).sum ≤ 8) (hR : d + 1 ≤ R.frames ∧ 8 + (mL + 11) + 40 * d ≤ R.locals) (hcs : cells + 0 ≤ R.cells ∧ slots + 0 ≤ R.slots) (hdg : decode b0 pc = .ok (.invokevirtual idx, 3))
    (kk : ∀ r : Int32, post r → W p l e R s m args below meth c H locs cells slots Q (F0 m (pc + 3) ls (.int r :: rest))) : W p l e R s m args below meth c H locs cells slots Q (F0 m pc ls st) := by
  obtain ⟨hx, hb, hr, hml, hB, hown, hlocks, hnm⟩ := hC
  obtain ⟨⟨h1, h2, h3, h4, h5⟩, hy⟩ := hsite
  exact pcall (va_runV (As := As) (rest := rest) ⟨hx, hb, hml, hown, hB⟩ (hM H.size) (cwV n hB (gV h1 h2 h3 h4 h5) rfl rfl rfl hy hR) (preTo_of hi hO hS (fun q h => h.elim) hK) rfl hAs hl.1 hst (lv_room hrm) hdg hcs) kk
theorem pSo {post : Int32 → Prop} {av : List Value} (hO : OX K A0 s s.heap) (hS : va_S A0 s.heap H locs) (hC : CX p s m meth c y0 b0 mL0 rt0 args) (hK : KK G s) (hl : lv_has ls mL0 lv) (hM : MPo l G K y b mL rt d av [] post) (hsite : SS y0.cls idx y b mL rt n)
    (hAs : av.length = n) (hst : st = av.reverse ++ rest) (hrm : (rest.map fun v => v.category).sum ≤ 8) (hR : d + 1 ≤ R.frames ∧ 8 + (mL + 11) + 40 * d ≤ R.locals) (hcs : cells + 0 ≤ R.cells ∧ slots + 0 ≤ R.slots) (hdg : decode b0 pc = .ok (.invokestatic idx, 3))
    (kk : ∀ r : Int32, post r → W p l e R s m args below meth c H locs cells slots Q (F0 m (pc + 3) ls (.int r :: rest))) : W p l e R s m args below meth c H locs cells slots Q (F0 m pc ls st) := by
  obtain ⟨hx, hb, hr, hml, hB, hown, hlocks, hnm⟩ := hC
  obtain ⟨⟨h1, h2, h4, h5⟩, hy⟩ := hsite
  exact pcall (va_runS (As := av) (rest := rest) ⟨hx, hb, hml, hown, hB⟩ (hM H.size) ⟨callB_of n hB (gCode h5) rfl rfl rfl (hB _ h4) (hB _ h1) hy hR, hB _ h2⟩ (preSo_of hO hS (fun q h => h.elim) hK (fun k q h => by simp at h) ⟨fun i j p q h => by simp at h, fun k q h => by simp at h⟩) rfl hAs hl.1 hst (lv_room hrm) hdg hcs) kk
theorem pWo {av : List Value} (hO : OX K A0 s s.heap) (hS : va_S A0 s.heap H locs) (hC : CX p s m meth c y0 b0 mL0 rt0 args) (hK : KK G s) (hl : lv_has ls mL0 lv) (hM : MWo l G K y b mL d av []) (hsite : SS y0.cls idx y b mL none n)
    (hAs : av.length = n) (hst : st = av.reverse ++ rest) (hrm : (rest.map fun v => v.category).sum ≤ 8) (hR : d + 1 ≤ R.frames ∧ 8 + (mL + 11) + 40 * d ≤ R.locals) (hcs : cells + 0 ≤ R.cells ∧ slots + 0 ≤ R.slots) (hdg : decode b0 pc = .ok (.invokestatic idx, 3))
    (kk : W p l e R s m args below meth c H locs cells slots Q (F0 m (pc + 3) ls rest)) : W p l e R s m args below meth c H locs cells slots Q (F0 m pc ls st) := by
  obtain ⟨hx, hb, hr, hml, hB, hown, hlocks, hnm⟩ := hC
  obtain ⟨⟨h1, h2, h4, h5⟩, hy⟩ := hsite
  exact pcallw (va_runS (As := av) (rest := rest) ⟨hx, hb, hml, hown, hB⟩ (hM H.size) ⟨callB_of n hB (gCode h5) rfl rfl rfl (hB _ h4) (hB _ h1) hy hR, hB _ h2⟩ (preSo_of hO hS (fun q h => h.elim) hK (fun k q h => by simp at h) ⟨fun i j p q h => by simp at h, fun k q h => by simp at h⟩) rfl hAs hl.1 hst (lv_room hrm) hdg hcs) kk
theorem iVo {S : Type} {post : Int32 → S → Prop} {w1 : S → va_W} (hO : OX K A s s.heap) (hC : CX p s m meth c y0 b0 mL0 rt0 args) (hK : KK G s) (hl : lv_has ls mL0 lv) (hP : va_P G.1 vwCl ws H) (hD : va_D A ws) (hS : va_S A s.heap H locs) (hA : ∀ q : Nat, s.heap.size ≤ q → A q) (hM : MIo l G K y b mL rt d mc ms (.ref a :: As) wc post w1) (hsite : SV y0.cls C idx y b mL rt n) (isC isR : List Nat) (hw : isC.map (fun i => ws[i]?) = wc.map some) (hw2 : isC.filterMap (fun i => ws[i]?) = wc) (hn : va_nd isC = true) (hwr : isR.map (fun i => ws[i]?) = wr.map some) (hnr : va_nd isR = true) (hdis : ∀ i ∈ isR, i ∉ isC) (hcl : vwCl[ci]? = some q9) (hCl : q9.1 = C) (he : wc[0]? = some (a, .inr (ci, fs)))
    (hAs : As.length = n) (hst : st = As.reverse ++ .ref a :: rest) (hrm : (rest.map fun v => v.category).sum ≤ 8) (hR : d + 1 ≤ R.frames ∧ 8 + (mL + 11) + 40 * d ≤ R.locals) (hcs : cells + mc ≤ R.cells ∧ slots + ms ≤ R.slots) (hdg : decode b0 pc = .ok (.invokevirtual idx, 3))
    (kk : ∀ (r : Int32) (u : S) (H1 : Heap) (locs1 : List Loc), post r u → va_P G.1 vwCl (wr ++ w1 u) H1 → va_D A (wr ++ w1 u) → va_S A s.heap H1 locs1 → W p l e R s m args below meth c H1 locs1 (cells + mc) (slots + ms) Q (F0 m (pc + 3) ls (.int r :: rest))) : W p l e R s m args below meth c H locs cells slots Q (F0 m pc ls st) := by
  obtain ⟨hx, hb, hr, hml, hB, hown, hlocks, hnm⟩ := hC
  obtain ⟨⟨h1, h2, h3, h4, h5⟩, hy⟩ := hsite
  have hFc := va_free (wc := wc) hD hS hA isC hw
  refine va_calli (va_runV (As := As) (rest := rest) ⟨hx, hb, hml, hown, hB⟩ (hM H.size) (cwV n hB (gV h1 h2 h3 h4 h5) rfl rfl rfl hy hR) (preVo_of hO hS (fun q h => hFc q h) hK (hP.sub isC hw2) ((hD.sub isC hn hw).weaken (fun _ _ _ _ => trivial)) hcl hCl he) rfl hAs hl.1 hst (lv_room hrm) hdg hcs) hS (fun q _ h => hFc q h) hFc (fun r u t H1 locs1 ht hvm hp hBt hz hk hS1 => ?_)
  obtain ⟨hP1, hD1⟩ := hBt
  rw [ht] at hP1
  obtain ⟨hP2, hD2⟩ := va_join hP hD isC isR hw hwr hnr hdis hk hFc hP1 hD1
  exact kk r u H1 locs1 hp hP2 hD2 hS1
theorem vVo {S : Type} {post : S → Prop} {w1 : S → va_W} (hO : OX K A s s.heap) (hC : CX p s m meth c y0 b0 mL0 rt0 args) (hK : KK G s) (hl : lv_has ls mL0 lv) (hP : va_P G.1 vwCl ws H) (hD : va_D A ws) (hS : va_S A s.heap H locs) (hA : ∀ q : Nat, s.heap.size ≤ q → A q) (hM : MVo l G K y b mL d mc ms (.ref a :: As) wc post w1) (hsite : SV y0.cls C idx y b mL none n) (isC isR : List Nat) (hw : isC.map (fun i => ws[i]?) = wc.map some) (hw2 : isC.filterMap (fun i => ws[i]?) = wc) (hn : va_nd isC = true) (hwr : isR.map (fun i => ws[i]?) = wr.map some) (hnr : va_nd isR = true) (hdis : ∀ i ∈ isR, i ∉ isC) (hcl : vwCl[ci]? = some q9) (hCl : q9.1 = C) (he : wc[0]? = some (a, .inr (ci, fs)))
    (hAs : As.length = n) (hst : st = As.reverse ++ .ref a :: rest) (hrm : (rest.map fun v => v.category).sum ≤ 8) (hR : d + 1 ≤ R.frames ∧ 8 + (mL + 11) + 40 * d ≤ R.locals) (hcs : cells + mc ≤ R.cells ∧ slots + ms ≤ R.slots) (hdg : decode b0 pc = .ok (.invokevirtual idx, 3))
    (kk : ∀ (u : S) (H1 : Heap) (locs1 : List Loc), post u → va_P G.1 vwCl (wr ++ w1 u) H1 → va_D A (wr ++ w1 u) → va_S A s.heap H1 locs1 → W p l e R s m args below meth c H1 locs1 (cells + mc) (slots + ms) Q (F0 m (pc + 3) ls rest)) : W p l e R s m args below meth c H locs cells slots Q (F0 m pc ls st) := by
  obtain ⟨hx, hb, hr, hml, hB, hown, hlocks, hnm⟩ := hC
  obtain ⟨⟨h1, h2, h3, h4, h5⟩, hy⟩ := hsite
  have hFc := va_free (wc := wc) hD hS hA isC hw
  refine va_callv (va_runV (As := As) (rest := rest) ⟨hx, hb, hml, hown, hB⟩ (hM H.size) (cwV n hB (gV h1 h2 h3 h4 h5) rfl rfl rfl hy hR) (preVo_of hO hS (fun q h => hFc q h) hK (hP.sub isC hw2) ((hD.sub isC hn hw).weaken (fun _ _ _ _ => trivial)) hcl hCl he) rfl hAs hl.1 hst (lv_room hrm) hdg hcs) hS (fun q _ h => hFc q h) hFc (fun u t H1 locs1 ht hvm hp hBt hz hk hS1 => ?_)
  obtain ⟨hP1, hD1⟩ := hBt
  rw [ht] at hP1
  obtain ⟨hP2, hD2⟩ := va_join hP hD isC isR hw hwr hnr hdis hk hFc hP1 hD1
  exact kk u H1 locs1 hp hP2 hD2 hS1
end SUCo
theorem slen6 : ∀ i : Nat, i < 16 → SLEN.getD i 0 ≤ 6 := by decide
theorem slen_sh : ∀ i : Nat, i < 16 → nI (SLEN.getD i 0) >>> ((0 : Int32) &&& 31) = nI (SLEN.getD i 0) := by decide +kernel
theorem sby_and : ∀ i : Nat, i < 16 → ∀ j : Nat, j < 6 → (SBY.getD i []).getD j 0 &&& 255 = (SBY.getD i []).getD j 0 := by decide +kernel
theorem sby_ch : ∀ i : Nat, i < 16 → ∀ j : Nat, j < 6 → (((SBY.getD i []).getD j 0).toUInt32 % 65536).toInt32 = (SBY.getD i []).getD j 0 := by decide +kernel
theorem sby_nar : ∀ i : Nat, i < 16 → ∀ j : Nat, j < 6 → ((SBY.getD i []).getD j 0).toUInt32.toUInt16.toUInt32.toInt32 = (SBY.getD i []).getD j 0 := by decide +kernel
section WR
variable {p : Program} {l : Launch} {e : Env} {R : Room} {s : State} {m : MethodId} {args : Array Value} {below : List Frame} {meth : Method} {c : Code} {H : Heap} {locs : List Loc} {cells slots : Nat} {Q : State → Prop}
variable {pc : Nat} {ls : Array Slot} {rest : List Value} {G : GG} {K : OO} {ws : va_W} {A : Nat → Prop} {y0 : MethodName} {b0 : ByteArray} {mL0 : Nat} {rt0 : Option FieldType} {a : Nat} {H0 : Heap}
theorem gJ0_coder_7d493_0 : (decode cJ0_coder_7d493 0 = .ok (.getstatic 38, 3)) ∧ (decode cJ0_coder_7d493 3 = .ok (.ifCond .eq 10, 3)) ∧ (decode cJ0_coder_7d493 6 = .ok (.aload_n 0, 1)) ∧ (decode cJ0_coder_7d493 7 = .ok (.getfield 15, 3)) ∧ (decode cJ0_coder_7d493 10 = .ok (.goto 4, 3)) ∧ (decode cJ0_coder_7d493 13 = .ok (.iconst 1, 1)) ∧ (decode cJ0_coder_7d493 14 = .ok (.ireturn, 1)) := by decide +kernel
theorem m_659 : Cond.fieldLink RJ0 38 "java/lang/String" "COMPACT_STRINGS" "Z" ∈ BW := iB_BW35 _ (List.mem_of_getElem? (i := 19) rfl)
theorem m_1428 : Cond.fieldLink RJ0 15 "java/lang/String" "code\x72" "B" ∈ BW := iB_BW76 _ (List.mem_of_getElem? (i := 4) rfl)
theorem gJ0_isLatin1_aae02_0 : (decode cJ0_isLatin1_aae02 0 = .ok (.getstatic 38, 3)) ∧ (decode cJ0_isLatin1_aae02 3 = .ok (.ifCond .eq 14, 3)) ∧ (decode cJ0_isLatin1_aae02 6 = .ok (.aload_n 0, 1)) ∧ (decode cJ0_isLatin1_aae02 7 = .ok (.getfield 15, 3)) ∧ (decode cJ0_isLatin1_aae02 10 = .ok (.ifCond .ne 7, 3)) ∧ (decode cJ0_isLatin1_aae02 13 = .ok (.iconst 1, 1)) ∧ (decode cJ0_isLatin1_aae02 14 = .ok (.goto 4, 3)) ∧ (decode cJ0_isLatin1_aae02 17 = .ok (.iconst 0, 1)) ∧ (decode cJ0_isLatin1_aae02 18 = .ok (.ireturn, 1)) := by decide +kernel
theorem gJ0_length_8abf5_0 : (decode cJ0_length_8abf5 0 = .ok (.aload_n 0, 1)) ∧ (decode cJ0_length_8abf5 1 = .ok (.getfield 9, 3)) ∧ (decode cJ0_length_8abf5 4 = .ok (.arraylength, 1)) ∧ (decode cJ0_length_8abf5 5 = .ok (.aload_n 0, 1)) ∧ (decode cJ0_length_8abf5 6 = .ok (.invokevirtual 335, 3)) ∧ (decode cJ0_length_8abf5 9 = .ok (.ishr, 1)) ∧ (decode cJ0_length_8abf5 10 = .ok (.ireturn, 1)) := by decide +kernel
theorem m_1427 : Cond.fieldLink RJ0 9 "java/lang/String" "value" "[B" ∈ BW := iB_BW76 _ (List.mem_of_getElem? (i := 3) rfl)
theorem m_658 : Cond.code yJ0_coder_7d493 cJ0_coder_7d493 1 (some .byte) ∈ BW := iB_BW35 _ (List.mem_of_getElem? (i := 18) rfl)
theorem m_118 : Cond.initialized RJ0 ∈ BW := iB_BW6 _ (List.mem_of_getElem? (i := 16) rfl)
theorem nK_RJ0 : RJ0 ≠ "java/lang/invoke/MethodHandle" ∧ RJ0 ≠ "java/lang/invoke/VarHandle" := ⟨by decide +kernel, by decide +kernel⟩
theorem pd_22 : (parseMethodDescriptor "()B").map (fun d => d.parameters.length) = some 0 := by decide +kernel
theorem m_655 : Cond.methodLink RJ0 335 yJ0_coder_7d493 ∈ BW := iB_BW35 _ (List.mem_of_getElem? (i := 15) rfl)
theorem m_656 : Cond.instanceMethod yJ0_coder_7d493 ∈ BW := iB_BW35 _ (List.mem_of_getElem? (i := 16) rfl)
theorem m_657 : Cond.selects RJ0 yJ0_coder_7d493 yJ0_coder_7d493 ∈ BW := iB_BW35 _ (List.mem_of_getElem? (i := 17) rfl)
theorem si_J0_335 : SV RJ0 RJ0 335 yJ0_coder_7d493 cJ0_coder_7d493 1 (some .byte) 0 := ⟨⟨m_655, m_656, m_657, m_118, m_658⟩, rfl, nK_RJ0.1, nK_RJ0.2, pd_22⟩
theorem gJ3_checkIndex_8e157_0 : (decode cJ3_checkIndex_8e157 0 = .ok (.iload_n 0, 1)) ∧ (decode cJ3_checkIndex_8e157 1 = .ok (.ifCond .lt 8, 3)) ∧ (decode cJ3_checkIndex_8e157 4 = .ok (.iload_n 0, 1)) ∧ (decode cJ3_checkIndex_8e157 5 = .ok (.iload_n 1, 1)) ∧ (decode cJ3_checkIndex_8e157 6 = .ok (.if_icmp .lt 10, 3)) ∧ (decode cJ3_checkIndex_8e157 9 = .ok (.aload_n 2, 1)) ∧ (decode cJ3_checkIndex_8e157 10 = .ok (.iload_n 0, 1)) ∧ (decode cJ3_checkIndex_8e157 11 = .ok (.iload_n 1, 1)) ∧ (decode cJ3_checkIndex_8e157 12 = .ok (.invokestatic 95, 3)) ∧ (decode cJ3_checkIndex_8e157 15 = .ok (.athrow, 1)) := by decide +kernel
theorem gJ3_checkIndex_8e157_1 : (decode cJ3_checkIndex_8e157 16 = .ok (.iload_n 0, 1)) ∧ (decode cJ3_checkIndex_8e157 17 = .ok (.ireturn, 1)) := by decide +kernel
theorem gJ0_checkIndex_df160_0 : (decode cJ0_checkIndex_df160 0 = .ok (.iload_n 0, 1)) ∧ (decode cJ0_checkIndex_df160 1 = .ok (.iload_n 1, 1)) ∧ (decode cJ0_checkIndex_df160 2 = .ok (.getstatic 1053, 3)) ∧ (decode cJ0_checkIndex_df160 5 = .ok (.invokestatic 1059, 3)) ∧ (decode cJ0_checkIndex_df160 8 = .ok (.pop, 1)) ∧ (decode cJ0_checkIndex_df160 9 = .ok (.return_, 1)) := by decide +kernel
theorem m_674 : Cond.fieldLink RJ0 1053 "jdk/internal/util/Preconditions" "SIOOBE_FORMATTER" "Ljava/util/function/BiFunction;" ∈ BW := iB_BW36 _ (List.mem_of_getElem? (i := 14) rfl)
theorem m_677 : Cond.code yJ3_checkIndex_8e157 cJ3_checkIndex_8e157 3 (some .int) ∈ BW := iB_BW36 _ (List.mem_of_getElem? (i := 17) rfl)
theorem m_120 : Cond.initialized RJ3 ∈ BW := iB_BW6 _ (List.mem_of_getElem? (i := 18) rfl)
theorem nK_RJ3 : RJ3 ≠ "java/lang/invoke/MethodHandle" ∧ RJ3 ≠ "java/lang/invoke/VarHandle" := ⟨by decide +kernel, by decide +kernel⟩
theorem pd_23 : (parseMethodDescriptor "(IILjava/util/function/BiFunction;)I").map (fun d => d.parameters.length) = some 3 := by decide +kernel
theorem m_675 : Cond.methodLink RJ0 1059 yJ3_checkIndex_8e157 ∈ BW := iB_BW36 _ (List.mem_of_getElem? (i := 15) rfl)
theorem m_676 : Cond.static yJ3_checkIndex_8e157 ∈ BW := iB_BW36 _ (List.mem_of_getElem? (i := 16) rfl)
theorem si_J0_1059 : SS RJ0 1059 yJ3_checkIndex_8e157 cJ3_checkIndex_8e157 3 (some .int) 3 := ⟨⟨m_675, m_676, m_120, m_677⟩, ⟨nK_RJ3.1, nK_RJ3.2, pd_23⟩⟩
theorem gJ1_charAt_3b067_0 : (decode cJ1_charAt_3b067 0 = .ok (.iload_n 1, 1)) ∧ (decode cJ1_charAt_3b067 1 = .ok (.aload_n 0, 1)) ∧ (decode cJ1_charAt_3b067 2 = .ok (.arraylength, 1)) ∧ (decode cJ1_charAt_3b067 3 = .ok (.invokestatic 9, 3)) ∧ (decode cJ1_charAt_3b067 6 = .ok (.aload_n 0, 1)) ∧ (decode cJ1_charAt_3b067 7 = .ok (.iload_n 1, 1)) ∧ (decode cJ1_charAt_3b067 8 = .ok (.baload, 1)) ∧ (decode cJ1_charAt_3b067 9 = .ok (.sipush 255, 3)) ∧ (decode cJ1_charAt_3b067 12 = .ok (.iand, 1)) ∧ (decode cJ1_charAt_3b067 13 = .ok (.i2c, 1)) := by decide +kernel
theorem m_673 : Cond.code yJ0_checkIndex_df160 cJ0_checkIndex_df160 2 none ∈ BW := iB_BW36 _ (List.mem_of_getElem? (i := 13) rfl)
theorem m_671 : Cond.methodLink RJ1 9 yJ0_checkIndex_df160 ∈ BW := iB_BW36 _ (List.mem_of_getElem? (i := 11) rfl)
theorem m_672 : Cond.static yJ0_checkIndex_df160 ∈ BW := iB_BW36 _ (List.mem_of_getElem? (i := 12) rfl)
theorem si_J1_9 : SS RJ1 9 yJ0_checkIndex_df160 cJ0_checkIndex_df160 2 none 2 := ⟨⟨m_671, m_672, m_118, m_673⟩, ⟨nK_RJ0.1, nK_RJ0.2, pd_14⟩⟩
theorem gJ1_charAt_3b067_1 : (decode cJ1_charAt_3b067 14 = .ok (.ireturn, 1)) := by decide +kernel
theorem gJ0_charAt_5068e_0 : (decode cJ0_charAt_5068e 0 = .ok (.aload_n 0, 1)) ∧ (decode cJ0_charAt_5068e 1 = .ok (.invokevirtual 492, 3)) ∧ (decode cJ0_charAt_5068e 4 = .ok (.ifCond .eq 12, 3)) ∧ (decode cJ0_charAt_5068e 7 = .ok (.aload_n 0, 1)) ∧ (decode cJ0_charAt_5068e 8 = .ok (.getfield 9, 3)) ∧ (decode cJ0_charAt_5068e 11 = .ok (.iload_n 1, 1)) ∧ (decode cJ0_charAt_5068e 12 = .ok (.invokestatic 495, 3)) ∧ (decode cJ0_charAt_5068e 15 = .ok (.ireturn, 1)) ∧ (decode cJ0_charAt_5068e 16 = .ok (.aload_n 0, 1)) ∧ (decode cJ0_charAt_5068e 17 = .ok (.getfield 9, 3)) := by decide +kernel
theorem m_667 : Cond.code yJ0_isLatin1_aae02 cJ0_isLatin1_aae02 1 (some .boolean) ∈ BW := iB_BW36 _ (List.mem_of_getElem? (i := 7) rfl)
theorem m_664 : Cond.methodLink RJ0 492 yJ0_isLatin1_aae02 ∈ BW := iB_BW36 _ (List.mem_of_getElem? (i := 4) rfl)
theorem m_665 : Cond.instanceMethod yJ0_isLatin1_aae02 ∈ BW := iB_BW36 _ (List.mem_of_getElem? (i := 5) rfl)
theorem m_666 : Cond.selects RJ0 yJ0_isLatin1_aae02 yJ0_isLatin1_aae02 ∈ BW := iB_BW36 _ (List.mem_of_getElem? (i := 6) rfl)
theorem si_J0_492 : SV RJ0 RJ0 492 yJ0_isLatin1_aae02 cJ0_isLatin1_aae02 1 (some .boolean) 0 := ⟨⟨m_664, m_665, m_666, m_118, m_667⟩, rfl, nK_RJ0.1, nK_RJ0.2, pd_15⟩
theorem m_670 : Cond.code yJ1_charAt_3b067 cJ1_charAt_3b067 2 (some .char) ∈ BW := iB_BW36 _ (List.mem_of_getElem? (i := 10) rfl)
theorem m_119 : Cond.initialized RJ1 ∈ BW := iB_BW6 _ (List.mem_of_getElem? (i := 17) rfl)
theorem nK_RJ1 : RJ1 ≠ "java/lang/invoke/MethodHandle" ∧ RJ1 ≠ "java/lang/invoke/VarHandle" := ⟨by decide +kernel, by decide +kernel⟩
theorem pd_24 : (parseMethodDescriptor "([BI)C").map (fun d => d.parameters.length) = some 2 := by decide +kernel
theorem m_668 : Cond.methodLink RJ0 495 yJ1_charAt_3b067 ∈ BW := iB_BW36 _ (List.mem_of_getElem? (i := 8) rfl)
theorem m_669 : Cond.static yJ1_charAt_3b067 ∈ BW := iB_BW36 _ (List.mem_of_getElem? (i := 9) rfl)
theorem si_J0_495 : SS RJ0 495 yJ1_charAt_3b067 cJ1_charAt_3b067 2 (some .char) 2 := ⟨⟨m_668, m_669, m_119, m_670⟩, ⟨nK_RJ1.1, nK_RJ1.2, pd_24⟩⟩
end WR
theorem rm_2_1_1 {mc ms : Nat} : 1 + 1 ≤ (RM 2 mc ms).frames ∧ 8 + (1 + 11) + 40 * 1 ≤ (RM 2 mc ms).locals := ⟨by show 1 + 1 ≤ 2; decide, by show 8 + (1 + 11) + 40 * 1 ≤ 40 * 2; decide⟩
theorem rm_3_2_2 {mc ms : Nat} : 2 + 1 ≤ (RM 3 mc ms).frames ∧ 8 + (2 + 11) + 40 * 2 ≤ (RM 3 mc ms).locals := ⟨by show 2 + 1 ≤ 3; decide, by show 8 + (2 + 11) + 40 * 2 ≤ 40 * 3; decide⟩
def K_j_coder (l : Launch) (G : GG) (K : OO) (i9 : Nat) : Prop := MPo l G K yJ0_coder_7d493 cJ0_coder_7d493 1 (some .byte) 1 [.ref (K.1 i9)] [] (fun r : Int32 => r = 0)
set_option maxHeartbeats 4000000 in
set_option maxRecDepth 100000 in
theorem j_coder (l : Launch) (G : GG) (K : OO) (i9 : Nat) (hi9 : i9 < 16) : K_j_coder l G K i9 := by
  refine MPo.start (by decide +kernel) (Nat.le_of_ble_eq_true rfl) ?_
  intro p e s m below meth c ls hC hK hP hD hl hO hS
  refine absQ (fun Q0 hQ0 => ?_)
  have hl : lv_has ls 1 [(0, .ref (K.1 i9))] := hl
  refine Kan8 hC (fun hx hb hr hml hB hown hlocks hnm => ?_)
  refine va_gets hx hb hO.1.2.1 hS hown (hB _ m_659) (fun _ h => h) gJ0_coder_7d493_0.1 ?_
  refine lv_if_eq (tgt := 13) hx hb gJ0_coder_7d493_0.2.1 (by decide) (fun c9 => absurd c9 (by decide)) (fun _ => ?_)
  refine lv_aload_n hx hb gJ0_coder_7d493_0.2.2.1 rfl (lv_at0 hl) ?_
  refine vk_getf hx hb (hO.1.1 i9 (hi9)).2.1 hS hown (hB _ m_1428) (fun _ h => h) gJ0_coder_7d493_0.2.2.2.1 ?_
  refine lv_goto (tgt := 14) hx hb gJ0_coder_7d493_0.2.2.2.2.1 (by decide) ?_
  refine toQ hQ0 ?_
  exact RP (v := 0) hC (rfl) rfl gJ0_coder_7d493_0.2.2.2.2.2.2
def K_j_latin (l : Launch) (G : GG) (K : OO) (i9 : Nat) : Prop := MPo l G K yJ0_isLatin1_aae02 cJ0_isLatin1_aae02 1 (some .boolean) 1 [.ref (K.1 i9)] [] (fun r : Int32 => r = 1)
set_option maxHeartbeats 4000000 in
set_option maxRecDepth 100000 in
theorem j_latin (l : Launch) (G : GG) (K : OO) (i9 : Nat) (hi9 : i9 < 16) : K_j_latin l G K i9 := by
  refine MPo.start (by decide +kernel) (Nat.le_of_ble_eq_true rfl) ?_
  intro p e s m below meth c ls hC hK hP hD hl hO hS
  refine absQ (fun Q0 hQ0 => ?_)
  have hl : lv_has ls 1 [(0, .ref (K.1 i9))] := hl
  refine Kan8 hC (fun hx hb hr hml hB hown hlocks hnm => ?_)
  refine va_gets hx hb hO.1.2.1 hS hown (hB _ m_659) (fun _ h => h) gJ0_isLatin1_aae02_0.1 ?_
  refine lv_if_eq (tgt := 17) hx hb gJ0_isLatin1_aae02_0.2.1 (by decide) (fun c9 => absurd c9 (by decide)) (fun _ => ?_)
  refine lv_aload_n hx hb gJ0_isLatin1_aae02_0.2.2.1 rfl (lv_at0 hl) ?_
  refine vk_getf hx hb (hO.1.1 i9 (hi9)).2.1 hS hown (hB _ m_1428) (fun _ h => h) gJ0_isLatin1_aae02_0.2.2.2.1 ?_
  refine lv_if_ne (tgt := 17) hx hb gJ0_isLatin1_aae02_0.2.2.2.2.1 (by decide) (fun c9 => absurd (by decide) c9) (fun _ => ?_)
  refine lv_iconst (v := 1) hx hb gJ0_isLatin1_aae02_0.2.2.2.2.2.1 (by decide) ?_
  refine lv_goto (tgt := 18) hx hb gJ0_isLatin1_aae02_0.2.2.2.2.2.2.1 (by decide) ?_
  refine toQ hQ0 ?_
  exact RP (v := 1) hC (rfl) (by decide +kernel) gJ0_isLatin1_aae02_0.2.2.2.2.2.2.2.2
def K_j_len (l : Launch) (G : GG) (K : OO) (i9 : Nat) : Prop := MPo l G K yJ0_length_8abf5 cJ0_length_8abf5 1 (some .int) 2 [.ref (K.1 i9)] [] (fun r : Int32 => r = nI (SLEN.getD i9 0))
set_option maxHeartbeats 4000000 in
set_option maxRecDepth 100000 in
theorem j_len (l : Launch) (G : GG) (K : OO) (i9 : Nat) (hi9 : i9 < 16) : K_j_len l G K i9 := by
  refine MPo.start (by decide +kernel) (Nat.le_of_ble_eq_true rfl) ?_
  intro p e s m below meth c ls hC hK hP hD hl hO hS
  refine absQ (fun Q0 hQ0 => ?_)
  have hl : lv_has ls 1 [(0, .ref (K.1 i9))] := hl
  refine Kan8 hC (fun hx hb hr hml hB hown hlocks hnm => ?_)
  refine lv_aload_n hx hb gJ0_length_8abf5_0.1 rfl (lv_at0 hl) ?_
  refine vk_getf hx hb (hO.1.1 i9 (hi9)).2.2.1 hS hown (hB _ m_1427) (fun _ h => h) gJ0_length_8abf5_0.2.1 ?_
  refine va_tlen hx hb (hO.1.1 i9 (hi9)).2.2.2 hS (v := nI (SLEN.getD i9 0)) rfl gJ0_length_8abf5_0.2.2.1 ?_
  refine lv_aload_n hx hb gJ0_length_8abf5_0.2.2.2.1 rfl (lv_at0 hl) ?_
  refine pTo (i := i9) (hi9) hO hS hC hK hl (j_coder l G K i9 ((hi9))) si_J0_335 rfl rfl (Nat.le_of_ble_eq_true rfl) rm_2_1_1 ⟨by first | exact Nat.le_of_ble_eq_true rfl | exact Nat.zero_le _, by first | exact Nat.le_of_ble_eq_true rfl | exact Nat.zero_le _⟩ gJ0_length_8abf5_0.2.2.2.2.1 (fun r3809 hr3809 => ?_)
  obtain rfl := hr3809
  refine lv_ishr hx hb gJ0_length_8abf5_0.2.2.2.2.2.1 ?_
  refine eqi (x1 := nI (SLEN.getD i9 0)) (slen_sh i9 hi9) ?_
  refine toQ hQ0 ?_
  exact RP (v := nI (SLEN.getD i9 0)) hC (rfl) rfl gJ0_length_8abf5_0.2.2.2.2.2.2
def K_j_ck3n (l : Launch) (G : GG) (j9 : Nat) (n9 : Nat) : Prop := MP l G yJ3_checkIndex_8e157 cJ3_checkIndex_8e157 3 (some .int) 1 [.int (nI j9), .int (nI n9), .null] [] (fun r : Int32 => True)
set_option maxHeartbeats 4000000 in
set_option maxRecDepth 100000 in
theorem j_ck3n (l : Launch) (G : GG) (j9 : Nat) (n9 : Nat) (hjn : j9 < n9) (hn9 : n9 < 2 ^ 31) : K_j_ck3n l G j9 n9 := by
  refine MP.start (by decide +kernel) (Nat.le_of_ble_eq_true rfl) ?_
  intro p e s m below meth c ls hC hK hP hD hl
  refine absQ (fun Q0 hQ0 => ?_)
  have hl : lv_has ls 3 [(0, .int (nI j9)), (1, .int (nI n9)), (2, .null)] := hl
  refine Kan8 hC (fun hx hb hr hml hB hown hlocks hnm => ?_)
  refine lv_iload_n hx hb gJ3_checkIndex_8e157_0.1 rfl (lv_at0 hl) ?_
  refine lv_if_lt (tgt := 9) hx hb gJ3_checkIndex_8e157_0.2.1 (by decide) (fun c9 => absurd c9 (nI_pos (by omega))) (fun _ => ?_)
  refine lv_iload_n hx hb gJ3_checkIndex_8e157_0.2.2.1 rfl (lv_at0 hl) ?_
  refine lv_iload_n hx hb gJ3_checkIndex_8e157_0.2.2.2.1 rfl (lv_at1 hl) ?_
  refine lv_icmp_lt (tgt := 16) hx hb gJ3_checkIndex_8e157_0.2.2.2.2.1 (by decide) (fun _ => ?_) (fun c9 => absurd (nI_lt hjn hn9) c9)
  refine lv_iload_n hx hb gJ3_checkIndex_8e157_1.1 rfl (lv_at0 hl) ?_
  refine toQ hQ0 ?_
  exact RP (v := nI j9) hC (trivial) rfl gJ3_checkIndex_8e157_1.2
def K_j_ck3r (l : Launch) (G : GG) (j9 : Nat) (n9 : Nat) (zt9 : Nat) : Prop := MP l G yJ3_checkIndex_8e157 cJ3_checkIndex_8e157 3 (some .int) 1 [.int (nI j9), .int (nI n9), .ref zt9] [] (fun r : Int32 => True)
set_option maxHeartbeats 4000000 in
set_option maxRecDepth 100000 in
theorem j_ck3r (l : Launch) (G : GG) (j9 : Nat) (n9 : Nat) (zt9 : Nat) (hjn : j9 < n9) (hn9 : n9 < 2 ^ 31) : K_j_ck3r l G j9 n9 zt9 := by
  refine MP.start (by decide +kernel) (Nat.le_of_ble_eq_true rfl) ?_
  intro p e s m below meth c ls hC hK hP hD hl
  refine absQ (fun Q0 hQ0 => ?_)
  have hl : lv_has ls 3 [(0, .int (nI j9)), (1, .int (nI n9)), (2, .ref zt9)] := hl
  refine Kan8 hC (fun hx hb hr hml hB hown hlocks hnm => ?_)
  refine lv_iload_n hx hb gJ3_checkIndex_8e157_0.1 rfl (lv_at0 hl) ?_
  refine lv_if_lt (tgt := 9) hx hb gJ3_checkIndex_8e157_0.2.1 (by decide) (fun c9 => absurd c9 (nI_pos (by omega))) (fun _ => ?_)
  refine lv_iload_n hx hb gJ3_checkIndex_8e157_0.2.2.1 rfl (lv_at0 hl) ?_
  refine lv_iload_n hx hb gJ3_checkIndex_8e157_0.2.2.2.1 rfl (lv_at1 hl) ?_
  refine lv_icmp_lt (tgt := 16) hx hb gJ3_checkIndex_8e157_0.2.2.2.2.1 (by decide) (fun _ => ?_) (fun c9 => absurd (nI_lt hjn hn9) c9)
  refine lv_iload_n hx hb gJ3_checkIndex_8e157_1.1 rfl (lv_at0 hl) ?_
  refine toQ hQ0 ?_
  exact RP (v := nI j9) hC (trivial) rfl gJ3_checkIndex_8e157_1.2
def K_j_ck (l : Launch) (G : GG) (K : OO) (j9 : Nat) (n9 : Nat) : Prop := MWo l G K yJ0_checkIndex_df160 cJ0_checkIndex_df160 2 2 [.int (nI j9), .int (nI n9)] []
set_option maxHeartbeats 4000000 in
set_option maxRecDepth 100000 in
theorem j_ck (l : Launch) (G : GG) (K : OO) (j9 : Nat) (n9 : Nat) (hjn : j9 < n9) (hn9 : n9 < 2 ^ 31) : K_j_ck l G K j9 n9 := by
  refine MWo.start (by decide +kernel) (Nat.le_of_ble_eq_true rfl) ?_
  intro p e s m below meth c ls hC hK hP hD hl hO hS
  refine absQ (fun Q0 hQ0 => ?_)
  have hl : lv_has ls 2 [(0, .int (nI j9)), (1, .int (nI n9))] := hl
  refine Kan8 hC (fun hx hb hr hml hB hown hlocks hnm => ?_)
  refine lv_iload_n hx hb gJ0_checkIndex_df160_0.1 rfl (lv_at0 hl) ?_
  refine lv_iload_n hx hb gJ0_checkIndex_df160_0.2.1 rfl (lv_at1 hl) ?_
  rcases hO.1.2.2.1 with hz9 | ⟨zt9, hz9⟩
  · refine va_gets hx hb hz9 hS hown (hB _ m_674) (fun _ h => h) gJ0_checkIndex_df160_0.2.2.1 ?_
    refine pS hC hK hl (j_ck3n l G j9 n9 (hjn) (hn9)) si_J0_1059 rfl rfl (Nat.le_of_ble_eq_true rfl) rm_2_1_3 ⟨by first | exact Nat.le_of_ble_eq_true rfl | exact Nat.zero_le _, by first | exact Nat.le_of_ble_eq_true rfl | exact Nat.zero_le _⟩ gJ0_checkIndex_df160_0.2.2.2.1 (fun r3811 hr3811 => ?_)
    refine lv_pop hx hb gJ0_checkIndex_df160_0.2.2.2.2.1 rfl ?_
    refine toQ hQ0 ?_
    exact RWo hC gJ0_checkIndex_df160_0.2.2.2.2.2
  · refine va_gets hx hb hz9 hS hown (hB _ m_674) (fun _ h => h) gJ0_checkIndex_df160_0.2.2.1 ?_
    refine pS hC hK hl (j_ck3r l G j9 n9 zt9 (hjn) (hn9)) si_J0_1059 rfl rfl (Nat.le_of_ble_eq_true rfl) rm_2_1_3 ⟨by first | exact Nat.le_of_ble_eq_true rfl | exact Nat.zero_le _, by first | exact Nat.le_of_ble_eq_true rfl | exact Nat.zero_le _⟩ gJ0_checkIndex_df160_0.2.2.2.1 (fun r3812 hr3812 => ?_)
    refine lv_pop hx hb gJ0_checkIndex_df160_0.2.2.2.2.1 rfl ?_
    refine toQ hQ0 ?_
    exact RWo hC gJ0_checkIndex_df160_0.2.2.2.2.2
def K_j_chr1 (l : Launch) (G : GG) (K : OO) (i9 : Nat) (j9 : Nat) : Prop := MPo l G K yJ1_charAt_3b067 cJ1_charAt_3b067 2 (some .char) 3 [.ref (K.2.1 i9), .int (nI j9)] [] (fun r : Int32 => r = ((SBY.getD i9 []).getD j9 0))
set_option maxHeartbeats 4000000 in
set_option maxRecDepth 100000 in
theorem j_chr1 (l : Launch) (G : GG) (K : OO) (i9 : Nat) (j9 : Nat) (hi9 : i9 < 16) (hj9 : j9 < SLEN.getD i9 0) : K_j_chr1 l G K i9 j9 := by
  refine MPo.start (by decide +kernel) (Nat.le_of_ble_eq_true rfl) ?_
  intro p e s m below meth c ls hC hK hP hD hl hO hS
  refine absQ (fun Q0 hQ0 => ?_)
  have hl : lv_has ls 2 [(0, .ref (K.2.1 i9)), (1, .int (nI j9))] := hl
  refine Kan8 hC (fun hx hb hr hml hB hown hlocks hnm => ?_)
  have hs6 := slen6 i9 hi9
  refine lv_iload_n hx hb gJ1_charAt_3b067_0.1 rfl (lv_at1 hl) ?_
  refine lv_aload_n hx hb gJ1_charAt_3b067_0.2.1 rfl (lv_at0 hl) ?_
  refine va_tlen hx hb (hO.1.1 i9 (hi9)).2.2.2 hS (v := nI (SLEN.getD i9 0)) rfl gJ1_charAt_3b067_0.2.2.1 ?_
  refine pWo hO hS hC hK hl (j_ck l G K j9 (SLEN.getD i9 0) (by omega) (by omega)) si_J1_9 rfl rfl (Nat.le_of_ble_eq_true rfl) rm_3_2_2 ⟨by first | exact Nat.le_of_ble_eq_true rfl | exact Nat.zero_le _, by first | exact Nat.le_of_ble_eq_true rfl | exact Nat.zero_le _⟩ gJ1_charAt_3b067_0.2.2.2.1 ?_
  refine lv_aload_n hx hb gJ1_charAt_3b067_0.2.2.2.2.1 rfl (lv_at0 hl) ?_
  refine lv_iload_n hx hb gJ1_charAt_3b067_0.2.2.2.2.2.1 rfl (lv_at1 hl) ?_
  refine va_tb hx hb (hO.1.1 i9 (hi9)).2.2.2 hS (vp_in_nI (by omega) (by omega)) (v := .int ((SBY.getD i9 []).getD j9 0)) (congrArg (fun z9 => Value.int ((SBY.getD i9 []).getD z9 0)) (nI_clamp (by omega))) gJ1_charAt_3b067_0.2.2.2.2.2.2.1 ?_
  refine lv_sipush (v := 255) hx hb gJ1_charAt_3b067_0.2.2.2.2.2.2.2.1 (by decide) ?_
  refine lv_iand hx hb gJ1_charAt_3b067_0.2.2.2.2.2.2.2.2.1 ?_
  refine eqi (x1 := ((SBY.getD i9 []).getD j9 0)) (sby_and i9 hi9 j9 (by omega)) ?_
  refine lv_i2c hx hb gJ1_charAt_3b067_0.2.2.2.2.2.2.2.2.2 (v := ((SBY.getD i9 []).getD j9 0)) (sby_ch i9 hi9 j9 (by omega)) ?_
  refine toQ hQ0 ?_
  exact RP (v := ((SBY.getD i9 []).getD j9 0)) hC (rfl) (congrArg Value.int (sby_nar i9 hi9 j9 (by omega))) gJ1_charAt_3b067_1
def K_j_chr (l : Launch) (G : GG) (K : OO) (i9 : Nat) (j9 : Nat) : Prop := MPo l G K yJ0_charAt_5068e cJ0_charAt_5068e 2 (some .char) 4 [.ref (K.1 i9), .int (nI j9)] [] (fun r : Int32 => r = ((SBY.getD i9 []).getD j9 0))
set_option maxHeartbeats 4000000 in
set_option maxRecDepth 100000 in
theorem j_chr (l : Launch) (G : GG) (K : OO) (i9 : Nat) (j9 : Nat) (hi9 : i9 < 16) (hj9 : j9 < SLEN.getD i9 0) : K_j_chr l G K i9 j9 := by
  refine MPo.start (by decide +kernel) (Nat.le_of_ble_eq_true rfl) ?_
  intro p e s m below meth c ls hC hK hP hD hl hO hS
  refine absQ (fun Q0 hQ0 => ?_)
  have hl : lv_has ls 2 [(0, .ref (K.1 i9)), (1, .int (nI j9))] := hl
  refine Kan8 hC (fun hx hb hr hml hB hown hlocks hnm => ?_)
  have hs6 := slen6 i9 hi9
  refine lv_aload_n hx hb gJ0_charAt_5068e_0.1 rfl (lv_at0 hl) ?_
  refine pTo (i := i9) (hi9) hO hS hC hK hl (j_latin l G K i9 ((hi9))) si_J0_492 rfl rfl (Nat.le_of_ble_eq_true rfl) rm_4_1_1 ⟨by first | exact Nat.le_of_ble_eq_true rfl | exact Nat.zero_le _, by first | exact Nat.le_of_ble_eq_true rfl | exact Nat.zero_le _⟩ gJ0_charAt_5068e_0.2.1 (fun r3814 hr3814 => ?_)
  obtain rfl := hr3814
  refine lv_if_eq (tgt := 16) hx hb gJ0_charAt_5068e_0.2.2.1 (by decide) (fun c9 => absurd c9 (by decide)) (fun _ => ?_)
  refine lv_aload_n hx hb gJ0_charAt_5068e_0.2.2.2.1 rfl (lv_at0 hl) ?_
  refine vk_getf hx hb (hO.1.1 i9 (hi9)).2.2.1 hS hown (hB _ m_1427) (fun _ h => h) gJ0_charAt_5068e_0.2.2.2.2.1 ?_
  refine lv_iload_n hx hb gJ0_charAt_5068e_0.2.2.2.2.2.1 rfl (lv_at1 hl) ?_
  refine pSo hO hS hC hK hl (j_chr1 l G K i9 j9 ((hi9)) (hj9)) si_J0_495 rfl rfl (Nat.le_of_ble_eq_true rfl) rm_4_3_2 ⟨by first | exact Nat.le_of_ble_eq_true rfl | exact Nat.zero_le _, by first | exact Nat.le_of_ble_eq_true rfl | exact Nat.zero_le _⟩ gJ0_charAt_5068e_0.2.2.2.2.2.2.1 (Keqr ?_)
  refine toQ hQ0 ?_
  exact RP (v := ((SBY.getD i9 []).getD j9 0)) hC (rfl) (congrArg Value.int (sby_nar i9 hi9 j9 (by omega))) gJ0_charAt_5068e_0.2.2.2.2.2.2.2.1
