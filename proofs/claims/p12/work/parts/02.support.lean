/-! the contracts' common shape, and one row a call -/
abbrev GG : Type := va_G × ClassId × ClassId × ClassId
abbrev TYS (G : GG) : List (ClassId × FieldType) := [(G.2.1, .int), (G.2.2.1, .object RX1), (G.2.2.2, .object RJ0)]
def RM (d mc ms : Nat) : Room := { frames := d, cells := mc, slots := ms, locals := 40 * d }
def isNest : Cond → Bool
  | .fieldLinkNest _ _ _ _ _ _ => true
  | .methodLinkNest _ _ _ _ => true
  | _ => false
theorem nest_all : NestW.all isNest = true := by decide +kernel
def NW (U : State) : Prop := ∀ w ∈ NestW, va_Nw w U
theorem NW.warm {s U : State} (hW : s.WarmedH U.vm) (h : NW s) : NW U := by
  intro w hw
  have hs := h w hw
  have hk : isNest w = true := List.all_eq_true.mp nest_all w hw
  cases w <;> first | (exact va_Nw.warmF hW hs) | (exact va_Nw.warmM hW hs) | (exact absurd hk (by simp [isNest]))
theorem NW.same {u U : State} (hv : u.vm = U.vm) (h : NW u) : NW U := by
  intro w hw
  have hs := h w hw
  have hk : isNest w = true := List.all_eq_true.mp nest_all w hw
  cases w <;> first | (exact va_Nw.same rfl hv hs) | (exact absurd hk (by simp [isNest]))
def KK (G : GG) (s : State) : Prop := va_K G.1 vwCl (TYS G) s ∧ NW s ∧ va_AO RX1 s ∧ va_AO RJ0 s
theorem KK.warm {G : GG} {s U : State} (hW : s.WarmedH U.vm) (h : KK G s) : KK G U := ⟨va_K.moved hW.alike h.1, NW.warm hW h.2.1, va_AO.moved hW.alike h.2.2.1, va_AO.moved hW.alike h.2.2.2⟩
theorem KK.calling {G : GG} {U : State} {g : JFrame} {mk : MethodId} {a : Array Value} (h : KK G U) : KK G (U.calling g mk a) := ⟨va_K.moved (u := U) (U := U.calling g mk a) (Vm.Alike.refl U.vm) h.1, NW.same (u := U) (U := U.calling g mk a) rfl h.2.1, va_AO.moved (u := U) (U := U.calling g mk a) (Vm.Alike.refl U.vm) h.2.2.1, va_AO.moved (u := U) (U := U.calling g mk a) (Vm.Alike.refl U.vm) h.2.2.2⟩
def PRE (G : GG) (av : List Value) (ws : va_W) (sz : Nat) : Array Value → State → Prop := va_Pc av (fun U => U.heap.size = sz ∧ va_P G.1 vwCl ws U.heap ∧ KK G U ∧ va_D (fun _ => True) ws)
theorem PRE.blind {G : GG} {av : List Value} {ws : va_W} {sz : Nat} : FrameBlind (PRE G av ws sz) := fun a U g mk q => by
  obtain ⟨q0, q1, qP, qK, qD⟩ := q
  exact ⟨q0, q1, qP, KK.calling qK, qD⟩
/-- a method that may write its world: what it answers, what its world is then -/
def QI (G : GG) {S : Type} (post : Int32 → S → Prop) (w1 : S → va_W) (A : Nat → Prop) : Array Value → State → Outcome → State → Prop := va_Qi post (fun u t => va_P G.1 vwCl (w1 u) t.heap ∧ va_D A (w1 u)) A
def QV (G : GG) {S : Type} (post : S → Prop) (w1 : S → va_W) (A : Nat → Prop) : Array Value → State → Outcome → State → Prop := va_Qv post (fun u t => va_P G.1 vwCl (w1 u) t.heap ∧ va_D A (w1 u)) A
/-- a method that only reads -/
def QP (post : Int32 → Prop) : Array Value → State → Outcome → State → Prop := fun _ st oc t => ∃ r : Int32, oc = .returned (some (.int r)) ∧ post r ∧ t.heap = st.heap
def MI (l : Launch) (G : GG) (y : MethodName) (b : ByteArray) (mL : Nat) (rt : Option FieldType) (d mc ms : Nat) (av : List Value) (ws : va_W) {S : Type} (post : Int32 → S → Prop) (w1 : S → va_W) : Prop :=
  ∀ sz : Nat, Met l y (Cond.code y b mL rt :: BW) (RM d mc ms) (PRE G av ws sz) (QI G post w1 (va_A ws sz)) mc ms (va_A ws sz)
def MV (l : Launch) (G : GG) (y : MethodName) (b : ByteArray) (mL : Nat) (d mc ms : Nat) (av : List Value) (ws : va_W) {S : Type} (post : S → Prop) (w1 : S → va_W) : Prop :=
  ∀ sz : Nat, Met l y (Cond.code y b mL none :: BW) (RM d mc ms) (PRE G av ws sz) (QV G post w1 (va_A ws sz)) mc ms (va_A ws sz)
def MP (l : Launch) (G : GG) (y : MethodName) (b : ByteArray) (mL : Nat) (rt : Option FieldType) (d : Nat) (av : List Value) (ws : va_W) (post : Int32 → Prop) : Prop :=
  ∀ sz : Nat, Met l y (Cond.code y b mL rt :: BW) (RM d 0 0) (PRE G av ws sz) (QP post) 0 0 (fun _ => False)
/-- what a walk knows of its method -/
def CX (p : Program) (s : State) (m : MethodId) (meth : Method) (c : Code) (y : MethodName) (b : ByteArray) (mL : Nat) (rt : Option FieldType) (args : Array Value) : Prop :=
  p.tables.exec = Jvm.exec ∧ c.code = b ∧ meth.sig.returnType = rt ∧ c.maxLocals = mL ∧ (∀ w ∈ BW, w.before args s = true) ∧ s.vm.findClass y.cls = some m.cls ∧ meth.locks = false ∧ meth.name = y.name
section SUP
variable {l : Launch} {G : GG} {y : MethodName} {b : ByteArray} {mL : Nat} {rt : Option FieldType} {d mc ms : Nat} {av : List Value} {ws : va_W}
theorem MI.start {S : Type} {post : Int32 → S → Prop} {w1 : S → va_W} (hy : plainName y.cls = true) (hlen : (lg_sl av).length ≤ mL)
    (body : ∀ (p : Program) (e : Env) (s : State) (m : MethodId) (below : List Frame) (meth : Method) (c : Code) (A : Nat → Prop) (ls : Array Slot), CX p s m meth c y b mL rt av.toArray → KK G s → va_P G.1 vwCl ws s.heap → va_D A ws → va_S A s.heap s.heap [] → (∀ q : Nat, s.heap.size ≤ q → A q) → lv_has ls mL (lv_args 0 av) →
      W p l e (RM d mc ms) s m av.toArray below meth c s.heap [] 0 0 (MQ below (QI G post w1 A) av.toArray s mc ms A) (F0 m 0 ls [])) : MI l G y b mL rt d mc ms av ws post w1 := by
  intro sz
  refine Met.ofW (cc := b) (maxL := mL) (ret := rt) hy rfl ?_
  intro p e s m args below meth c s₁ B hml hv
  obtain ⟨rfl, hsz, hP, hK, hD0⟩ := hv
  subst hsz
  have hts := atoms_spec (ws := Cond.code y b mL rt :: BW) B.pre
  rw [lg_entry_eq]
  exact body p e s m below meth c (va_A ws s.heap.size) _ ⟨B.exec, B.bytes, B.returns, hml, fun w h => hts w (List.mem_cons_of_mem _ h), findClass_of_methodNamed B.named, B.notSynchronized, (name_of_methodNamed B.named B.method).1⟩ hK hP hD0.self va_S.rf (fun q h => Or.inr h) (lv_entry av (n := mL) hlen)
theorem MV.start {S : Type} {post : S → Prop} {w1 : S → va_W} (hy : plainName y.cls = true) (hlen : (lg_sl av).length ≤ mL)
    (body : ∀ (p : Program) (e : Env) (s : State) (m : MethodId) (below : List Frame) (meth : Method) (c : Code) (A : Nat → Prop) (ls : Array Slot), CX p s m meth c y b mL none av.toArray → KK G s → va_P G.1 vwCl ws s.heap → va_D A ws → va_S A s.heap s.heap [] → (∀ q : Nat, s.heap.size ≤ q → A q) → lv_has ls mL (lv_args 0 av) →
      W p l e (RM d mc ms) s m av.toArray below meth c s.heap [] 0 0 (MQ below (QV G post w1 A) av.toArray s mc ms A) (F0 m 0 ls [])) : MV l G y b mL d mc ms av ws post w1 := by
  intro sz
  refine Met.ofW (cc := b) (maxL := mL) (ret := none) hy rfl ?_
  intro p e s m args below meth c s₁ B hml hv
  obtain ⟨rfl, hsz, hP, hK, hD0⟩ := hv
  subst hsz
  have hts := atoms_spec (ws := Cond.code y b mL none :: BW) B.pre
  rw [lg_entry_eq]
  exact body p e s m below meth c (va_A ws s.heap.size) _ ⟨B.exec, B.bytes, B.returns, hml, fun w h => hts w (List.mem_cons_of_mem _ h), findClass_of_methodNamed B.named, B.notSynchronized, (name_of_methodNamed B.named B.method).1⟩ hK hP hD0.self va_S.rf (fun q h => Or.inr h) (lv_entry av (n := mL) hlen)
theorem MP.start {post : Int32 → Prop} (hy : plainName y.cls = true) (hlen : (lg_sl av).length ≤ mL)
    (body : ∀ (p : Program) (e : Env) (s : State) (m : MethodId) (below : List Frame) (meth : Method) (c : Code) (ls : Array Slot), CX p s m meth c y b mL rt av.toArray → KK G s → va_P G.1 vwCl ws s.heap → va_D (fun _ => True) ws → lv_has ls mL (lv_args 0 av) →
      W p l e (RM d 0 0) s m av.toArray below meth c s.heap [] 0 0 (MQ below (QP post) av.toArray s 0 0 (fun _ => False)) (F0 m 0 ls [])) : MP l G y b mL rt d av ws post := by
  intro sz
  refine Met.ofW (cc := b) (maxL := mL) (ret := rt) hy rfl ?_
  intro p e s m args below meth c s₁ B hml hv
  obtain ⟨rfl, hsz, hP, hK, hD0⟩ := hv
  have hts := atoms_spec (ws := Cond.code y b mL rt :: BW) B.pre
  rw [lg_entry_eq]
  exact body p e s m below meth c _ ⟨B.exec, B.bytes, B.returns, hml, fun w h => hts w (List.mem_cons_of_mem _ h), findClass_of_methodNamed B.named, B.notSynchronized, (name_of_methodNamed B.named B.method).1⟩ hK hP hD0 (lv_entry av (n := mL) hlen)
end SUP
section SUR
variable {p : Program} {l : Launch} {e : Env} {R : Room} {s : State} {m : MethodId} {args : Array Value} {below : List Frame} {meth : Method} {c : Code} {H : Heap} {locs : List Loc} {mc ms : Nat}
variable {pc : Nat} {ls : Array Slot} {G : GG} {ws : va_W} {A : Nat → Prop} {y : MethodName} {b : ByteArray} {mL : Nat} {rt : Option FieldType}
theorem RI {S : Type} {post : Int32 → S → Prop} {w1 : S → va_W} {v : Int32} {ty : FieldType} (hC : CX p s m meth c y b mL (some ty) args) (hP : va_P G.1 vwCl ws H) (hD : va_D A ws) (hS : va_S A s.heap H locs) (is : List Nat) (u : S) (hw : is.map (fun i => ws[i]?) = (w1 u).map some) (hw2 : is.filterMap (fun i => ws[i]?) = w1 u) (hn : va_nd is = true) (hp : post v u) (hnar : narrow ty (.int v) = .int v) (hdg : decode b pc = .ok (.ireturn, 1)) : W p l e R s m args below meth c H locs mc ms (MQ below (QI G post w1 A) args s mc ms A) (F0 m pc ls [.int v]) := by
  obtain ⟨hx, hb, hr, hml, hB, hown, hlocks, hnm⟩ := hC
  exact W.zret hx hb hr hnar (fun t ht hW => ⟨⟨v, u, rfl, hp, by rw [ht]; exact hP.sub is hw2, hD.sub is hn hw⟩, hS.F ht⟩) hS.2.2 hdg hlocks
theorem RV {S : Type} {post : S → Prop} {w1 : S → va_W} (hC : CX p s m meth c y b mL none args) (hP : va_P G.1 vwCl ws H) (hD : va_D A ws) (hS : va_S A s.heap H locs) (is : List Nat) (u : S) (hw : is.map (fun i => ws[i]?) = (w1 u).map some) (hw2 : is.filterMap (fun i => ws[i]?) = w1 u) (hn : va_nd is = true) (hp : post u) (hdg : decode b pc = .ok (.return_, 1)) : W p l e R s m args below meth c H locs mc ms (MQ below (QV G post w1 A) args s mc ms A) (F0 m pc ls []) := by
  obtain ⟨hx, hb, hr, hml, hB, hown, hlocks, hnm⟩ := hC
  exact W.vret hx hb hr (fun t ht hW => ⟨⟨u, rfl, hp, by rw [ht]; exact hP.sub is hw2, hD.sub is hn hw⟩, hS.F ht⟩) hS.2.2 hdg hlocks
theorem RP {post : Int32 → Prop} {v : Int32} {ty : FieldType} (hC : CX p s m meth c y b mL (some ty) args) (hp : post v) (hnar : narrow ty (.int v) = .int v) (hdg : decode b pc = .ok (.ireturn, 1)) : W p l e R s m args below meth c s.heap [] 0 0 (MQ below (QP post) args s 0 0 (fun _ => False)) (F0 m pc ls [.int v]) := by
  obtain ⟨hx, hb, hr, hml, hB, hown, hlocks, hnm⟩ := hC
  exact W.zret hx hb hr hnar (fun t ht hW => ⟨v, rfl, hp, ht⟩) (fun q h => by cases h) hdg hlocks
end SUR
/-- words of a call, all in BW -/
theorem gCode {y : MethodName} {b : ByteArray} {mL : Nat} {rt : Option FieldType} (h : Cond.code y b mL rt ∈ BW) : GoodIn BW (Cond.code y b mL rt :: BW) := fun w hw => by
  rcases List.mem_cons.mp hw with rfl | hw
  · exact gBB _ h
  · exact gBB w hw
theorem gV {own C : String} {idx : Nat} {y : MethodName} {b : ByteArray} {mL : Nat} {rt : Option FieldType} (h1 : Cond.methodLink own idx y ∈ BW) (h2 : Cond.instanceMethod y ∈ BW) (h3 : Cond.selects C y y ∈ BW) (h4 : Cond.initialized C ∈ BW) (h5 : Cond.code y b mL rt ∈ BW) : GoodIn BW (wsV own idx C y (Cond.code y b mL rt :: BW)) := fun w hw => by
  rcases List.mem_append.mp hw with hw | hw
  · rcases List.mem_cons.mp hw with rfl | hw
    · exact gBB _ h1
    · rcases List.mem_cons.mp hw with rfl | hw
      · exact gBB _ h2
      · rcases List.mem_cons.mp hw with rfl | hw
        · exact gBB _ h3
        · rcases List.mem_cons.mp hw with rfl | hw
          · exact gBB _ h4
          · exact absurd hw List.not_mem_nil
  · exact gCode h5 w hw
/-- the site of a call: how its method is reached -/
def SV (own C : String) (idx : Nat) (y : MethodName) (b : ByteArray) (mL : Nat) (rt : Option FieldType) (n : Nat) : Prop :=
  (Cond.methodLink own idx y ∈ BW ∧ Cond.instanceMethod y ∈ BW ∧ Cond.selects C y y ∈ BW ∧ Cond.initialized C ∈ BW ∧ Cond.code y b mL rt ∈ BW) ∧ (y.cls = C ∧ y.cls ≠ "java/lang/invoke/MethodHandle" ∧ y.cls ≠ "java/lang/invoke/VarHandle" ∧ (parseMethodDescriptor y.desc).map (fun d => d.parameters.length) = some n)
def SS (own : String) (idx : Nat) (y : MethodName) (b : ByteArray) (mL : Nat) (rt : Option FieldType) (n : Nat) : Prop :=
  (Cond.methodLink own idx y ∈ BW ∧ Cond.static y ∈ BW ∧ Cond.initialized y.cls ∈ BW ∧ Cond.code y b mL rt ∈ BW) ∧ (y.cls ≠ "java/lang/invoke/MethodHandle" ∧ y.cls ≠ "java/lang/invoke/VarHandle" ∧ (parseMethodDescriptor y.desc).map (fun d => d.parameters.length) = some n)
def SSN (own host : String) (idx : Nat) (y : MethodName) (b : ByteArray) (mL : Nat) (rt : Option FieldType) (n : Nat) : Prop :=
  (Cond.methodLinkNest own idx y host ∈ NestW ∧ Cond.static y ∈ BW ∧ Cond.initialized y.cls ∈ BW ∧ Cond.code y b mL rt ∈ BW) ∧ (y.cls ≠ "java/lang/invoke/MethodHandle" ∧ y.cls ≠ "java/lang/invoke/VarHandle" ∧ (parseMethodDescriptor y.desc).map (fun d => d.parameters.length) = some n)
def SI (own : String) (idx : Nat) (y : MethodName) (b : ByteArray) (mL : Nat) (n : Nat) : Prop :=
  (Cond.methodLink own idx y ∈ BW ∧ Cond.instanceMethod y ∈ BW ∧ Cond.initialized y.cls ∈ BW ∧ Cond.code y b mL none ∈ BW) ∧ y.name = "<init>" ∧ (y.cls ≠ "java/lang/invoke/MethodHandle" ∧ y.cls ≠ "java/lang/invoke/VarHandle" ∧ (parseMethodDescriptor y.desc).map (fun d => d.parameters.length) = some n)
def SIN (own host : String) (idx : Nat) (y : MethodName) (b : ByteArray) (mL : Nat) (n : Nat) : Prop :=
  (Cond.methodLinkNest own idx y host ∈ NestW ∧ Cond.instanceMethod y ∈ BW ∧ Cond.initialized y.cls ∈ BW ∧ Cond.code y b mL none ∈ BW) ∧ y.name = "<init>" ∧ (y.cls ≠ "java/lang/invoke/MethodHandle" ∧ y.cls ≠ "java/lang/invoke/VarHandle" ∧ (parseMethodDescriptor y.desc).map (fun d => d.parameters.length) = some n)
section SUC
variable {p : Program} {l : Launch} {e : Env} {R : Room} {s : State} {m : MethodId} {args : Array Value} {below : List Frame} {meth : Method} {c : Code} {H : Heap} {locs : List Loc} {cells slots : Nat} {Q : State → Prop}
variable {pc : Nat} {ls : Array Slot} {rest st : List Value} {G : GG} {ws wc wr : va_W} {A : Nat → Prop} {y y0 : MethodName} {b b0 : ByteArray} {mL mL0 : Nat} {rt rt0 : Option FieldType} {d mc ms n idx : Nat} {C host : String} {a ci : Nat} {As : List Value} {fs : List Value} {q9 : vw_C} {H0 : Heap} {lv : List (Nat × Value)}
theorem preS_of {av : List Value} (hK : KK G s) (hPc : va_P G.1 vwCl wc H) (hDc : va_D (fun _ => True) wc) : PreS s H (PRE G av wc H.size) av :=
  ⟨PRE.blind, fun U hU hW => ⟨rfl, by rw [hU], by rw [hU]; exact hPc, KK.warm hW hK, hDc⟩⟩
theorem preV_of (hK : KK G s) (hPc : va_P G.1 vwCl wc H) (hDc : va_D (fun _ => True) wc) (hcl : vwCl[ci]? = some q9) (hC : q9.1 = C) (he : wc[0]? = some (a, .inr (ci, fs))) : PreV s H C a (PRE G (.ref a :: As) wc H.size) As :=
  ⟨PRE.blind, by subst hC; exact va_recv hK.1 hPc hcl he, fun U hU hW => ⟨rfl, by rw [hU], by rw [hU]; exact hPc, KK.warm hW hK, hDc⟩⟩
/-- a call of a method that only reads: nothing is changed -/
theorem pcall {post : Int32 → Prop} {aa : Array Value} (hr : va_Run p l e R s m args below meth c H locs cells slots 0 0 (F0 m pc ls st) rest (QP post aa) (fun _ => False))
    (kk : ∀ r : Int32, post r → W p l e R s m args below meth c H locs cells slots Q (F0 m (pc + 3) ls (.int r :: rest))) : W p l e R s m args below meth c H locs cells slots Q (F0 m pc ls st) := by
  intro T hT X
  obtain ⟨v, st₀, t, T', L, h0, X', hL, e1, e2, ⟨r, hv, hp, hh⟩, st⟩ := hr T hT X
  cases hv
  obtain ⟨t2, a1, b1⟩ := kk r hp T' (by rw [e1, hh, h0]) (Stand.forget X' (fun q h => (hL q h).elim))
  exact ⟨t2, st t2 a1, b1⟩
theorem pV {post : Int32 → Prop} (hC : CX p s m meth c y0 b0 mL0 rt0 args) (hK : KK G s) (hl : lv_has ls mL0 lv) (hP : va_P G.1 vwCl ws H) (hD : va_D A ws) (hM : MP l G y b mL rt d (.ref a :: As) wc post) (hsite : SV y0.cls C idx y b mL rt n) (isC : List Nat) (hw : isC.map (fun i => ws[i]?) = wc.map some) (hw2 : isC.filterMap (fun i => ws[i]?) = wc) (hn : va_nd isC = true) (hcl : vwCl[ci]? = some q9) (hCl : q9.1 = C) (he : wc[0]? = some (a, .inr (ci, fs)))
    (hAs : As.length = n) (hst : st = As.reverse ++ .ref a :: rest) (hrm : (rest.map fun v => v.category).sum ≤ 8) (hR : d + 1 ≤ R.frames ∧ 8 + (mL + 11) + 40 * d ≤ R.locals) (hcs : cells + 0 ≤ R.cells ∧ slots + 0 ≤ R.slots) (hdg : decode b0 pc = .ok (.invokevirtual idx, 3))
    (kk : ∀ r : Int32, post r → W p l e R s m args below meth c H locs cells slots Q (F0 m (pc + 3) ls (.int r :: rest))) : W p l e R s m args below meth c H locs cells slots Q (F0 m pc ls st) := by
  obtain ⟨hx, hb, hr, hml, hB, hown, hlocks, hnm⟩ := hC
  obtain ⟨⟨h1, h2, h3, h4, h5⟩, hy⟩ := hsite
  exact pcall (va_runV (As := As) (rest := rest) ⟨hx, hb, hml, hown, hB⟩ (hM H.size) (cwV n hB (gV h1 h2 h3 h4 h5) rfl rfl rfl hy hR) (preV_of hK (hP.sub isC hw2) ((hD.sub isC hn hw).weaken (fun _ _ _ _ => trivial)) hcl hCl he) rfl hAs hl.1 hst (lv_room hrm) hdg hcs) kk
theorem pS {post : Int32 → Prop} {av : List Value} (hC : CX p s m meth c y0 b0 mL0 rt0 args) (hK : KK G s) (hl : lv_has ls mL0 lv) (hM : MP l G y b mL rt d av [] post) (hsite : SS y0.cls idx y b mL rt n)
    (hAs : av.length = n) (hst : st = av.reverse ++ rest) (hrm : (rest.map fun v => v.category).sum ≤ 8) (hR : d + 1 ≤ R.frames ∧ 8 + (mL + 11) + 40 * d ≤ R.locals) (hcs : cells + 0 ≤ R.cells ∧ slots + 0 ≤ R.slots) (hdg : decode b0 pc = .ok (.invokestatic idx, 3))
    (kk : ∀ r : Int32, post r → W p l e R s m args below meth c H locs cells slots Q (F0 m (pc + 3) ls (.int r :: rest))) : W p l e R s m args below meth c H locs cells slots Q (F0 m pc ls st) := by
  obtain ⟨hx, hb, hr, hml, hB, hown, hlocks, hnm⟩ := hC
  obtain ⟨⟨h1, h2, h4, h5⟩, hy⟩ := hsite
  exact pcall (va_runS (As := av) (rest := rest) ⟨hx, hb, hml, hown, hB⟩ (hM H.size) ⟨callB_of n hB (gCode h5) rfl rfl rfl (hB _ h4) (hB _ h1) hy hR, hB _ h2⟩ (preS_of hK (fun k q h => by simp at h) ⟨fun i j p q h => by simp at h, fun k q h => by simp at h⟩) rfl hAs hl.1 hst (lv_room hrm) hdg hcs) kk
theorem pSN {post : Int32 → Prop} {av : List Value} (hC : CX p s m meth c y0 b0 mL0 rt0 args) (hK : KK G s) (hl : lv_has ls mL0 lv) (hM : MP l G y b mL rt d av [] post) (hsite : SSN y0.cls host idx y b mL rt n)
    (hAs : av.length = n) (hst : st = av.reverse ++ rest) (hrm : (rest.map fun v => v.category).sum ≤ 8) (hR : d + 1 ≤ R.frames ∧ 8 + (mL + 11) + 40 * d ≤ R.locals) (hcs : cells + 0 ≤ R.cells ∧ slots + 0 ≤ R.slots) (hdg : decode b0 pc = .ok (.invokestatic idx, 3))
    (kk : ∀ r : Int32, post r → W p l e R s m args below meth c H locs cells slots Q (F0 m (pc + 3) ls (.int r :: rest))) : W p l e R s m args below meth c H locs cells slots Q (F0 m pc ls st) := by
  obtain ⟨hx, hb, hr, hml, hB, hown, hlocks, hnm⟩ := hC
  obtain ⟨⟨h1, h2, h4, h5⟩, hy⟩ := hsite
  exact pcall (va_runSN (As := av) (rest := rest) ⟨hx, hb, hml, hown, hB⟩ (hM H.size) ⟨va_cnB n hB (gCode h5) rfl rfl rfl (hK.2.1 _ h1) (hB _ h4) hy hR, hB _ h2, trivial⟩ (preS_of hK (fun k q h => by simp at h) ⟨fun i j p q h => by simp at h, fun k q h => by simp at h⟩) rfl hAs hl.1 hst (lv_room hrm) hdg hcs) kk
/-- a call of a method that may write: its cells come back behind the rest -/
theorem iV {S : Type} {post : Int32 → S → Prop} {w1 : S → va_W} (hC : CX p s m meth c y0 b0 mL0 rt0 args) (hK : KK G s) (hl : lv_has ls mL0 lv) (hP : va_P G.1 vwCl ws H) (hD : va_D A ws) (hS : va_S A H0 H locs) (hA : ∀ q : Nat, H0.size ≤ q → A q) (hM : MI l G y b mL rt d mc ms (.ref a :: As) wc post w1) (hsite : SV y0.cls C idx y b mL rt n) (isC isR : List Nat) (hw : isC.map (fun i => ws[i]?) = wc.map some) (hw2 : isC.filterMap (fun i => ws[i]?) = wc) (hn : va_nd isC = true) (hwr : isR.map (fun i => ws[i]?) = wr.map some) (hnr : va_nd isR = true) (hdis : ∀ i ∈ isR, i ∉ isC) (hcl : vwCl[ci]? = some q9) (hCl : q9.1 = C) (he : wc[0]? = some (a, .inr (ci, fs)))
    (hAs : As.length = n) (hst : st = As.reverse ++ .ref a :: rest) (hrm : (rest.map fun v => v.category).sum ≤ 8) (hR : d + 1 ≤ R.frames ∧ 8 + (mL + 11) + 40 * d ≤ R.locals) (hcs : cells + mc ≤ R.cells ∧ slots + ms ≤ R.slots) (hdg : decode b0 pc = .ok (.invokevirtual idx, 3))
    (kk : ∀ (r : Int32) (u : S) (H1 : Heap) (locs1 : List Loc), post r u → va_P G.1 vwCl (wr ++ w1 u) H1 → va_D A (wr ++ w1 u) → va_S A H0 H1 locs1 → W p l e R s m args below meth c H1 locs1 (cells + mc) (slots + ms) Q (F0 m (pc + 3) ls (.int r :: rest))) : W p l e R s m args below meth c H locs cells slots Q (F0 m pc ls st) := by
  obtain ⟨hx, hb, hr, hml, hB, hown, hlocks, hnm⟩ := hC
  obtain ⟨⟨h1, h2, h3, h4, h5⟩, hy⟩ := hsite
  have hFc := va_free (wc := wc) hD hS hA isC hw
  refine va_calli (va_runV (As := As) (rest := rest) ⟨hx, hb, hml, hown, hB⟩ (hM H.size) (cwV n hB (gV h1 h2 h3 h4 h5) rfl rfl rfl hy hR) (preV_of hK (hP.sub isC hw2) ((hD.sub isC hn hw).weaken (fun _ _ _ _ => trivial)) hcl hCl he) rfl hAs hl.1 hst (lv_room hrm) hdg hcs) hS (fun q _ h => hFc q h) hFc (fun r u t H1 locs1 ht hvm hp hBt hz hk hS1 => ?_)
  obtain ⟨hP1, hD1⟩ := hBt
  rw [ht] at hP1
  obtain ⟨hP2, hD2⟩ := va_join hP hD isC isR hw hwr hnr hdis hk hFc hP1 hD1
  exact kk r u H1 locs1 hp hP2 hD2 hS1
theorem vV {S : Type} {post : S → Prop} {w1 : S → va_W} (hC : CX p s m meth c y0 b0 mL0 rt0 args) (hK : KK G s) (hl : lv_has ls mL0 lv) (hP : va_P G.1 vwCl ws H) (hD : va_D A ws) (hS : va_S A H0 H locs) (hA : ∀ q : Nat, H0.size ≤ q → A q) (hM : MV l G y b mL d mc ms (.ref a :: As) wc post w1) (hsite : SV y0.cls C idx y b mL none n) (isC isR : List Nat) (hw : isC.map (fun i => ws[i]?) = wc.map some) (hw2 : isC.filterMap (fun i => ws[i]?) = wc) (hn : va_nd isC = true) (hwr : isR.map (fun i => ws[i]?) = wr.map some) (hnr : va_nd isR = true) (hdis : ∀ i ∈ isR, i ∉ isC) (hcl : vwCl[ci]? = some q9) (hCl : q9.1 = C) (he : wc[0]? = some (a, .inr (ci, fs)))
    (hAs : As.length = n) (hst : st = As.reverse ++ .ref a :: rest) (hrm : (rest.map fun v => v.category).sum ≤ 8) (hR : d + 1 ≤ R.frames ∧ 8 + (mL + 11) + 40 * d ≤ R.locals) (hcs : cells + mc ≤ R.cells ∧ slots + ms ≤ R.slots) (hdg : decode b0 pc = .ok (.invokevirtual idx, 3))
    (kk : ∀ (u : S) (H1 : Heap) (locs1 : List Loc), post u → va_P G.1 vwCl (wr ++ w1 u) H1 → va_D A (wr ++ w1 u) → va_S A H0 H1 locs1 → W p l e R s m args below meth c H1 locs1 (cells + mc) (slots + ms) Q (F0 m (pc + 3) ls rest)) : W p l e R s m args below meth c H locs cells slots Q (F0 m pc ls st) := by
  obtain ⟨hx, hb, hr, hml, hB, hown, hlocks, hnm⟩ := hC
  obtain ⟨⟨h1, h2, h3, h4, h5⟩, hy⟩ := hsite
  have hFc := va_free (wc := wc) hD hS hA isC hw
  refine va_callv (va_runV (As := As) (rest := rest) ⟨hx, hb, hml, hown, hB⟩ (hM H.size) (cwV n hB (gV h1 h2 h3 h4 h5) rfl rfl rfl hy hR) (preV_of hK (hP.sub isC hw2) ((hD.sub isC hn hw).weaken (fun _ _ _ _ => trivial)) hcl hCl he) rfl hAs hl.1 hst (lv_room hrm) hdg hcs) hS (fun q _ h => hFc q h) hFc (fun u t H1 locs1 ht hvm hp hBt hz hk hS1 => ?_)
  obtain ⟨hP1, hD1⟩ := hBt
  rw [ht] at hP1
  obtain ⟨hP2, hD2⟩ := va_join hP hD isC isR hw hwr hnr hdis hk hFc hP1 hD1
  exact kk u H1 locs1 hp hP2 hD2 hS1
theorem vI {S : Type} {post : S → Prop} {w1 : S → va_W} (hC : CX p s m meth c y0 b0 mL0 rt0 args) (hK : KK G s) (hl : lv_has ls mL0 lv) (hP : va_P G.1 vwCl ws H) (hD : va_D A ws) (hS : va_S A H0 H locs) (hA : ∀ q : Nat, H0.size ≤ q → A q) (hM : MV l G y b mL d mc ms (.ref a :: As) wc post w1) (hsite : SI y0.cls idx y b mL n) (isC isR : List Nat) (hw : isC.map (fun i => ws[i]?) = wc.map some) (hw2 : isC.filterMap (fun i => ws[i]?) = wc) (hn : va_nd isC = true) (hwr : isR.map (fun i => ws[i]?) = wr.map some) (hnr : va_nd isR = true) (hdis : ∀ i ∈ isR, i ∉ isC)
    (hAs : As.length = n) (hst : st = As.reverse ++ .ref a :: rest) (hrm : (rest.map fun v => v.category).sum ≤ 8) (hR : d + 1 ≤ R.frames ∧ 8 + (mL + 11) + 40 * d ≤ R.locals) (hcs : cells + mc ≤ R.cells ∧ slots + ms ≤ R.slots) (hdg : decode b0 pc = .ok (.invokespecial idx, 3))
    (kk : ∀ (u : S) (H1 : Heap) (locs1 : List Loc), post u → va_P G.1 vwCl (wr ++ w1 u) H1 → va_D A (wr ++ w1 u) → va_S A H0 H1 locs1 → W p l e R s m args below meth c H1 locs1 (cells + mc) (slots + ms) Q (F0 m (pc + 3) ls rest)) : W p l e R s m args below meth c H locs cells slots Q (F0 m pc ls st) := by
  obtain ⟨hx, hb, hr, hml, hB, hown, hlocks, hnm⟩ := hC
  obtain ⟨⟨h1, h2, h4, h5⟩, hyn, hy⟩ := hsite
  have hFc := va_free (wc := wc) hD hS hA isC hw
  refine va_callv (va_runI (As := As) (rest := rest) ⟨hx, hb, hml, hown, hB⟩ (hM H.size) (cwI n hB (gCode h5) rfl rfl rfl (hB _ h4) (hB _ h1) (hB _ h2) hyn hy hR) (preS_of hK (hP.sub isC hw2) ((hD.sub isC hn hw).weaken (fun _ _ _ _ => trivial))) rfl hAs hl.1 hst (lv_room hrm) hdg hcs) hS (fun q _ h => hFc q h) hFc (fun u t H1 locs1 ht hvm hp hBt hz hk hS1 => ?_)
  obtain ⟨hP1, hD1⟩ := hBt
  rw [ht] at hP1
  obtain ⟨hP2, hD2⟩ := va_join hP hD isC isR hw hwr hnr hdis hk hFc hP1 hD1
  exact kk u H1 locs1 hp hP2 hD2 hS1
theorem vIN {S : Type} {post : S → Prop} {w1 : S → va_W} (hC : CX p s m meth c y0 b0 mL0 rt0 args) (hK : KK G s) (hl : lv_has ls mL0 lv) (hP : va_P G.1 vwCl ws H) (hD : va_D A ws) (hS : va_S A H0 H locs) (hA : ∀ q : Nat, H0.size ≤ q → A q) (hM : MV l G y b mL d mc ms (.ref a :: As) wc post w1) (hsite : SIN y0.cls host idx y b mL n) (isC isR : List Nat) (hw : isC.map (fun i => ws[i]?) = wc.map some) (hw2 : isC.filterMap (fun i => ws[i]?) = wc) (hn : va_nd isC = true) (hwr : isR.map (fun i => ws[i]?) = wr.map some) (hnr : va_nd isR = true) (hdis : ∀ i ∈ isR, i ∉ isC)
    (hAs : As.length = n) (hst : st = As.reverse ++ .ref a :: rest) (hrm : (rest.map fun v => v.category).sum ≤ 8) (hR : d + 1 ≤ R.frames ∧ 8 + (mL + 11) + 40 * d ≤ R.locals) (hcs : cells + mc ≤ R.cells ∧ slots + ms ≤ R.slots) (hdg : decode b0 pc = .ok (.invokespecial idx, 3))
    (kk : ∀ (u : S) (H1 : Heap) (locs1 : List Loc), post u → va_P G.1 vwCl (wr ++ w1 u) H1 → va_D A (wr ++ w1 u) → va_S A H0 H1 locs1 → W p l e R s m args below meth c H1 locs1 (cells + mc) (slots + ms) Q (F0 m (pc + 3) ls rest)) : W p l e R s m args below meth c H locs cells slots Q (F0 m pc ls st) := by
  obtain ⟨hx, hb, hr, hml, hB, hown, hlocks, hnm⟩ := hC
  obtain ⟨⟨h1, h2, h4, h5⟩, hyn, hy⟩ := hsite
  have hFc := va_free (wc := wc) hD hS hA isC hw
  refine va_callv (va_runIN (As := As) (rest := rest) ⟨hx, hb, hml, hown, hB⟩ (hM H.size) ⟨va_cnB n hB (gCode h5) rfl rfl rfl (hK.2.1 _ h1) (hB _ h4) hy hR, hyn, hB _ h2⟩ (preS_of hK (hP.sub isC hw2) ((hD.sub isC hn hw).weaken (fun _ _ _ _ => trivial))) rfl hAs hl.1 hst (lv_room hrm) hdg hcs) hS (fun q _ h => hFc q h) hFc (fun u t H1 locs1 ht hvm hp hBt hz hk hS1 => ?_)
  obtain ⟨hP1, hD1⟩ := hBt
  rw [ht] at hP1
  obtain ⟨hP2, hD2⟩ := va_join hP hD isC isR hw hwr hnr hdis hk hFc hP1 hD1
  exact kk u H1 locs1 hp hP2 hD2 hS1
/-- a new row of ints, or of Clocks, or of Strings: its class is the one that G names -/
theorem newI (hC : CX p s m meth c y0 b0 mL0 rt0 args) (hK : KK G s) (hP : va_P G.1 vwCl ws H) (hD : va_D A ws) (hS : va_S A H0 H locs) (hA : ∀ q : Nat, H0.size ≤ q → A q) (harr : Cond.arrayClass .int ∈ BW) {k : Int32} {N : Nat} (hn : ¬ k < 0) (hN : k.toNatClampNeg = N) (hbytes : N * 4 ≤ 536870912) (hcells : cells + 1 ≤ R.cells) (hslots : slots + N ≤ R.slots) (hdg : decode b0 pc = .ok (.newarray .int, 2))
    (kk : ∀ (q : Nat) (H1 : Heap), va_P G.1 vwCl (ws ++ [(q, .inl (G.2.1, N, .inl (fun _ => 0)))]) H1 → va_D A (ws ++ [(q, .inl (G.2.1, N, .inl (fun _ => 0)))]) → va_S A H0 H1 locs → W p l e R s m args below meth c H1 locs (cells + 1) (slots + N) Q (F0 m (pc + 2) ls (.ref q :: rest))) : W p l e R s m args below meth c H locs cells slots Q (F0 m pc ls (.int k :: rest)) := by
  obtain ⟨hx, hb, hr, hml, hB, hown, hlocks, hnm⟩ := hC
  refine va_newa (atype := .int) (ty := .int) (a0 := (N, .inl (fun _ => 0))) hx hb (hB _ harr) rfl hK.1 hP hD hS hA (fun cA => rfl) hn hN hbytes hcells hslots hdg (fun q cA H1 hK1 hP1 hD1 hS1 => ?_)
  have e1 : s.vm.findClass ("[" ++ (FieldType.int).toString) = some cA := (hK1.2 3 (cA, .int) rfl).2
  have e2 : s.vm.findClass ("[" ++ (FieldType.int).toString) = some G.2.1 := (hK.1.2 0 (G.2.1, .int) rfl).2
  have e3 : cA = G.2.1 := Option.some.inj (e1.symm.trans e2)
  subst e3
  exact kk q H1 hP1 hD1 hS1
theorem newQ {E : String} {cE : ClassId} (t0 : Nat) (ht : (TYS G)[t0]? = some (cE, .object E)) (hC : CX p s m meth c y0 b0 mL0 rt0 args) (hK : KK G s) (hP : va_P G.1 vwCl ws H) (hD : va_D A ws) (hS : va_S A H0 H locs) (hA : ∀ q : Nat, H0.size ≤ q → A q) (hcl : Cond.classLink y0.cls idx E ∈ BW) (hAO : va_AO E s) {k : Int32} {N : Nat} (hn : ¬ k < 0) (hN : k.toNatClampNeg = N) (hbytes : N * 4 ≤ 536870912) (hcells : cells + 1 ≤ R.cells) (hslots : slots + N ≤ R.slots) (hdg : decode b0 pc = .ok (.anewarray idx, 3))
    (kk : ∀ (q : Nat) (H1 : Heap), va_P G.1 vwCl (ws ++ [(q, .inl (cE, N, .inr (.inr (.inr (.inr (fun _ => none))))))]) H1 → va_D A (ws ++ [(q, .inl (cE, N, .inr (.inr (.inr (.inr (fun _ => none))))))]) → va_S A H0 H1 locs → W p l e R s m args below meth c H1 locs (cells + 1) (slots + N) Q (F0 m (pc + 3) ls (.ref q :: rest))) : W p l e R s m args below meth c H locs cells slots Q (F0 m pc ls (.int k :: rest)) := by
  obtain ⟨hx, hb, hr, hml, hB, hown, hlocks, hnm⟩ := hC
  refine va_newq (C := E) hx hb hown (hB _ hcl) hAO hK.1 hP hD hS hA hn hN hbytes hcells hslots hdg (fun q cA H1 hK1 hP1 hD1 hS1 => ?_)
  obtain ⟨k1, p1, -, -, -, e1⟩ := (hK1.2 3 (cA, .object E) rfl).2
  obtain ⟨k2, p2, -, -, -, e2⟩ := (hK.1.2 t0 (cE, .object E) ht).2
  have e3 : cA = cE := Option.some.inj (e1.symm.trans e2)
  subst e3
  exact kk q H1 hP1 hD1 hS1
/-- the int on top is another way of writing one -/
theorem eqi {x x1 : Int32} {g : Nat} (h : x = x1) (k : W p l e R s m args below meth c H locs cells slots Q (F0 m g ls (.int x1 :: rest))) : W p l e R s m args below meth c H locs cells slots Q (F0 m g ls (.int x :: rest)) := by subst h; exact k
theorem Wcast {g : JFrame} {c1 s1 : Nat} (h1 : cells = c1) (h2 : slots = s1) (k : W p l e R s m args below meth c H locs c1 s1 Q g) : W p l e R s m args below meth c H locs cells slots Q g := by subst h1; subst h2; exact k
end SUC
theorem vin {i : Int32} {n : Nat} (h : decide (¬ (i < 0 ∨ n ≤ i.toNatClampNeg)) = true) : vp_in i n := by
  show ¬ (i < 0 ∨ n ≤ i.toNatClampNeg)
  exact of_decide_eq_true h
/-- a choice of two, by any proposition -/
noncomputable def ifc (q : Prop) (a b : Int32) : Int32 := @ite _ q (Classical.propDecidable q) a b
theorem ifc_t {q : Prop} {a b : Int32} (h : q) : ifc q a b = a := @if_pos q (Classical.propDecidable q) h _ a b
theorem ifc_f {q : Prop} {a b : Int32} (h : ¬ q) : ifc q a b = b := @if_neg q (Classical.propDecidable q) h _ a b
/-- v lies within two bounds, as both sides test it -/
def Wi (v a b : Int32) : Prop := ¬ v < a ∧ ¬ b < v
theorem Wi_iff {v a b : Int32} : Wi v a b ↔ a.toInt ≤ v.toInt ∧ v.toInt ≤ b.toInt := by
  unfold Wi
  rw [Int32.lt_iff_toInt_lt, Int32.lt_iff_toInt_lt]
  omega
theorem Wi_none (v : Int32) : ¬ Wi v 0 (-1) := by
  rw [Wi_iff]
  have h0 : (0 : Int32).toInt = 0 := by decide
  have h1 : (-1 : Int32).toInt = -1 := by decide
  omega
