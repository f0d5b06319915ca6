section WR
variable {p : Program} {l : Launch} {e : Env} {R : Room} {s : State} {m : MethodId} {args : Array Value} {below : List Frame} {meth : Method} {c : Code} {H : Heap} {locs : List Loc} {cells slots : Nat} {Q : State → Prop}
variable {pc : Nat} {ls : Array Slot} {rest : List Value} {G : GG} {ws : va_W} {A : Nat → Prop} {y0 : MethodName} {b0 : ByteArray} {mL0 : Nat} {rt0 : Option FieldType} {a : Nat} {H0 : Heap}
theorem gX11_within_0 : (decode cX11_within 0 = .ok (.iload_n 0, 1)) ∧ (decode cX11_within 1 = .ok (.iload_n 1, 1)) ∧ (decode cX11_within 2 = .ok (.if_icmp .lt 12, 3)) ∧ (decode cX11_within 5 = .ok (.iload_n 0, 1)) ∧ (decode cX11_within 6 = .ok (.iload_n 2, 1)) ∧ (decode cX11_within 7 = .ok (.if_icmp .gt 7, 3)) ∧ (decode cX11_within 10 = .ok (.iconst 1, 1)) ∧ (decode cX11_within 11 = .ok (.goto 4, 3)) ∧ (decode cX11_within 14 = .ok (.iconst 0, 1)) ∧ (decode cX11_within 15 = .ok (.ireturn, 1)) := by decide +kernel
theorem gX12_within_0 : (decode cX12_within 0 = .ok (.iload_n 0, 1)) ∧ (decode cX12_within 1 = .ok (.iload_n 1, 1)) ∧ (decode cX12_within 2 = .ok (.if_icmp .lt 12, 3)) ∧ (decode cX12_within 5 = .ok (.iload_n 0, 1)) ∧ (decode cX12_within 6 = .ok (.iload_n 2, 1)) ∧ (decode cX12_within 7 = .ok (.if_icmp .gt 7, 3)) ∧ (decode cX12_within 10 = .ok (.iconst 1, 1)) ∧ (decode cX12_within 11 = .ok (.goto 4, 3)) ∧ (decode cX12_within 14 = .ok (.iconst 0, 1)) ∧ (decode cX12_within 15 = .ok (.ireturn, 1)) := by decide +kernel
theorem gX11_isThing_0 : (decode cX11_isThing 0 = .ok (.iload_n 0, 1)) ∧ (decode cX11_isThing 1 = .ok (.iconst 0, 1)) ∧ (decode cX11_isThing 2 = .ok (.bipush 7, 2)) ∧ (decode cX11_isThing 4 = .ok (.invokestatic 83, 3)) ∧ (decode cX11_isThing 7 = .ok (.ireturn, 1)) := by decide +kernel
theorem m_294 : Cond.code yX11_within cX11_within 3 (some .boolean) ∈ BW := iB_BW16 _ (List.mem_of_getElem? (i := 0) rfl)
theorem m_102 : Cond.initialized RX11 ∈ BW := iB_BW6 _ (List.mem_of_getElem? (i := 0) rfl)
theorem nK_RX11 : RX11 ≠ "java/lang/invoke/MethodHandle" ∧ RX11 ≠ "java/lang/invoke/VarHandle" := ⟨by decide +kernel, by decide +kernel⟩
theorem pd_0 : (parseMethodDescriptor "(III)Z").map (fun d => d.parameters.length) = some 3 := by decide +kernel
theorem m_292 : Cond.methodLink RX11 83 yX11_within ∈ BW := iB_BW15 _ (List.mem_of_getElem? (i := 18) rfl)
theorem m_293 : Cond.static yX11_within ∈ BW := iB_BW15 _ (List.mem_of_getElem? (i := 19) rfl)
theorem si_X11_83 : SS RX11 83 yX11_within cX11_within 3 (some .boolean) 3 := ⟨⟨m_292, m_293, m_102, m_294⟩, ⟨nK_RX11.1, nK_RX11.2, pd_0⟩⟩
theorem gX11_isWay_0 : (decode cX11_isWay 0 = .ok (.iload_n 0, 1)) ∧ (decode cX11_isWay 1 = .ok (.iconst 0, 1)) ∧ (decode cX11_isWay 2 = .ok (.iconst 2, 1)) ∧ (decode cX11_isWay 3 = .ok (.invokestatic 83, 3)) ∧ (decode cX11_isWay 6 = .ok (.ireturn, 1)) := by decide +kernel
theorem gX11_isSheet_0 : (decode cX11_isSheet 0 = .ok (.iload_n 0, 1)) ∧ (decode cX11_isSheet 1 = .ok (.iconst 0, 1)) ∧ (decode cX11_isSheet 2 = .ok (.iconst 3, 1)) ∧ (decode cX11_isSheet 3 = .ok (.invokestatic 83, 3)) ∧ (decode cX11_isSheet 6 = .ok (.ireturn, 1)) := by decide +kernel
theorem gX11_isShelf_0 : (decode cX11_isShelf 0 = .ok (.iload_n 0, 1)) ∧ (decode cX11_isShelf 1 = .ok (.iconst 0, 1)) ∧ (decode cX11_isShelf 2 = .ok (.iconst 3, 1)) ∧ (decode cX11_isShelf 3 = .ok (.invokestatic 83, 3)) ∧ (decode cX11_isShelf 6 = .ok (.ireturn, 1)) := by decide +kernel
theorem gX11_isSort_0 : (decode cX11_isSort 0 = .ok (.iload_n 0, 1)) ∧ (decode cX11_isSort 1 = .ok (.iconst 0, 1)) ∧ (decode cX11_isSort 2 = .ok (.iconst 4, 1)) ∧ (decode cX11_isSort 3 = .ok (.invokestatic 83, 3)) ∧ (decode cX11_isSort 6 = .ok (.ireturn, 1)) := by decide +kernel
theorem gX12_isFour_0 : (decode cX12_isFour 0 = .ok (.iload_n 0, 1)) ∧ (decode cX12_isFour 1 = .ok (.iconst 0, 1)) ∧ (decode cX12_isFour 2 = .ok (.iconst 3, 1)) ∧ (decode cX12_isFour 3 = .ok (.invokestatic 84, 3)) ∧ (decode cX12_isFour 6 = .ok (.ireturn, 1)) := by decide +kernel
theorem m_1077 : Cond.code yX12_within cX12_within 3 (some .boolean) ∈ BW := iB_BW57 _ (List.mem_of_getElem? (i := 6) rfl)
theorem m_115 : Cond.initialized RX12 ∈ BW := iB_BW6 _ (List.mem_of_getElem? (i := 13) rfl)
theorem nK_RX12 : RX12 ≠ "java/lang/invoke/MethodHandle" ∧ RX12 ≠ "java/lang/invoke/VarHandle" := ⟨by decide +kernel, by decide +kernel⟩
theorem m_1075 : Cond.methodLink RX12 84 yX12_within ∈ BW := iB_BW57 _ (List.mem_of_getElem? (i := 4) rfl)
theorem m_1076 : Cond.static yX12_within ∈ BW := iB_BW57 _ (List.mem_of_getElem? (i := 5) rfl)
theorem si_X12_84 : SS RX12 84 yX12_within cX12_within 3 (some .boolean) 3 := ⟨⟨m_1075, m_1076, m_115, m_1077⟩, ⟨nK_RX12.1, nK_RX12.2, pd_0⟩⟩
end WR
/-- the world and its parts' being apart, at once -/
abbrev va_PD (G : GG) (A : Nat → Prop) (ws : va_W) (H : Heap) : Prop := va_P G.1 vwCl ws H ∧ va_D A ws
theorem PD_sub {G : GG} {A : Nat → Prop} {ws ws' : va_W} {H : Heap} (hP : va_P G.1 vwCl ws H) (hD : va_D A ws) (is : List Nat) (h2 : is.filterMap (fun i => ws[i]?) = ws') (hn : va_nd is = true) (hw : is.map (fun i => ws[i]?) = ws'.map some) : va_P G.1 vwCl ws' H ∧ va_D A ws' := And.intro (hP.sub is h2) (hD.sub is hn hw)
/-- steps that hand on what they find: no cases on what the goal already holds -/
theorem Kan2 {a b g : Prop} (w : a ∧ b) (k : a → b → g) : g := k w.1 w.2
theorem Kan8 {a1 a2 a3 a4 a5 a6 a7 a8 g : Prop} (w : a1 ∧ a2 ∧ a3 ∧ a4 ∧ a5 ∧ a6 ∧ a7 ∧ a8) (k : a1 → a2 → a3 → a4 → a5 → a6 → a7 → a8 → g) : g := k w.1 w.2.1 w.2.2.1 w.2.2.2.1 w.2.2.2.2.1 w.2.2.2.2.2.1 w.2.2.2.2.2.2.1 w.2.2.2.2.2.2.2
theorem Kpdr {G : GG} {A : Nat → Prop} {ws : va_W} {H : Heap} {g : Prop} (hP : va_P G.1 vwCl ws H) (hD : va_D A ws) (k : va_P G.1 vwCl ws H → va_D A ws → g) : g := k hP hD
theorem Kpds {G : GG} {A : Nat → Prop} {ws ws' : va_W} {H : Heap} {g : Prop} (hP : va_P G.1 vwCl ws H) (hD : va_D A ws) (is : List Nat) (h2 : is.filterMap (fun i => ws[i]?) = ws') (hn : va_nd is = true) (hw : is.map (fun i => ws[i]?) = ws'.map some) (k : va_P G.1 vwCl ws' H → va_D A ws' → g) : g := k (hP.sub is h2) (hD.sub is hn hw)
theorem Keqr {X : Type} {P : X → Prop} {v : X} (h : P v) : ∀ r : X, r = v → P r := fun _ e => e ▸ h
theorem Keqa {X : Type} {P : X → Prop} {v : X} {a : X → Prop} (h : a v → P v) : ∀ r : X, (r = v ∧ a r) → P r := fun r w => by
  obtain ⟨rfl, hh⟩ := w
  exact h hh
theorem Kors {X : Type} {P A B : X → Prop} (h1 : ∀ r : X, A r → P r) (h2 : ∀ r : X, B r → P r) : ∀ r : X, (A r ∨ B r) → P r := fun r w => w.elim (h1 r) (h2 r)
theorem Ktu2 {A B : Type} {P : A × B → Prop} (h : ∀ (a : A) (b : B), P (a, b)) : ∀ u, P u := fun u => h u.1 u.2
theorem Ktu3 {A B C : Type} {P : A × B × C → Prop} (h : ∀ (a : A) (b : B) (c : C), P (a, b, c)) : ∀ u, P u := fun u => h u.1 u.2.1 u.2.2
theorem Ktu4 {A0 A1 A2 A3 : Type} {P : A0 × A1 × A2 × A3 → Prop} (h : ∀ (a0 : A0) (a1 : A1) (a2 : A2) (a3 : A3), P (a0, a1, a2, a3)) : ∀ u, P u := fun u => h u.1 u.2.1 u.2.2.1 u.2.2.2
theorem Ktu5 {A0 A1 A2 A3 A4 : Type} {P : A0 × A1 × A2 × A3 × A4 → Prop} (h : ∀ (a0 : A0) (a1 : A1) (a2 : A2) (a3 : A3) (a4 : A4), P (a0, a1, a2, a3, a4)) : ∀ u, P u := fun u => h u.1 u.2.1 u.2.2.1 u.2.2.2.1 u.2.2.2.2
theorem Ktu6 {A0 A1 A2 A3 A4 A5 : Type} {P : A0 × A1 × A2 × A3 × A4 × A5 → Prop} (h : ∀ (a0 : A0) (a1 : A1) (a2 : A2) (a3 : A3) (a4 : A4) (a5 : A5), P (a0, a1, a2, a3, a4, a5)) : ∀ u, P u := fun u => h u.1 u.2.1 u.2.2.1 u.2.2.2.1 u.2.2.2.2.1 u.2.2.2.2.2
theorem Ktu7 {A0 A1 A2 A3 A4 A5 A6 : Type} {P : A0 × A1 × A2 × A3 × A4 × A5 × A6 → Prop} (h : ∀ (a0 : A0) (a1 : A1) (a2 : A2) (a3 : A3) (a4 : A4) (a5 : A5) (a6 : A6), P (a0, a1, a2, a3, a4, a5, a6)) : ∀ u, P u := fun u => h u.1 u.2.1 u.2.2.1 u.2.2.2.1 u.2.2.2.2.1 u.2.2.2.2.2.1 u.2.2.2.2.2.2
theorem Ktu8 {A0 A1 A2 A3 A4 A5 A6 A7 : Type} {P : A0 × A1 × A2 × A3 × A4 × A5 × A6 × A7 → Prop} (h : ∀ (a0 : A0) (a1 : A1) (a2 : A2) (a3 : A3) (a4 : A4) (a5 : A5) (a6 : A6) (a7 : A7), P (a0, a1, a2, a3, a4, a5, a6, a7)) : ∀ u, P u := fun u => h u.1 u.2.1 u.2.2.1 u.2.2.2.1 u.2.2.2.2.1 u.2.2.2.2.2.1 u.2.2.2.2.2.2.1 u.2.2.2.2.2.2.2
theorem Ktu9 {A0 A1 A2 A3 A4 A5 A6 A7 A8 : Type} {P : A0 × A1 × A2 × A3 × A4 × A5 × A6 × A7 × A8 → Prop} (h : ∀ (a0 : A0) (a1 : A1) (a2 : A2) (a3 : A3) (a4 : A4) (a5 : A5) (a6 : A6) (a7 : A7) (a8 : A8), P (a0, a1, a2, a3, a4, a5, a6, a7, a8)) : ∀ u, P u := fun u => h u.1 u.2.1 u.2.2.1 u.2.2.2.1 u.2.2.2.2.1 u.2.2.2.2.2.1 u.2.2.2.2.2.2.1 u.2.2.2.2.2.2.2.1 u.2.2.2.2.2.2.2.2
theorem Ktu10 {A0 A1 A2 A3 A4 A5 A6 A7 A8 A9 : Type} {P : A0 × A1 × A2 × A3 × A4 × A5 × A6 × A7 × A8 × A9 → Prop} (h : ∀ (a0 : A0) (a1 : A1) (a2 : A2) (a3 : A3) (a4 : A4) (a5 : A5) (a6 : A6) (a7 : A7) (a8 : A8) (a9 : A9), P (a0, a1, a2, a3, a4, a5, a6, a7, a8, a9)) : ∀ u, P u := fun u => h u.1 u.2.1 u.2.2.1 u.2.2.2.1 u.2.2.2.2.1 u.2.2.2.2.2.1 u.2.2.2.2.2.2.1 u.2.2.2.2.2.2.2.1 u.2.2.2.2.2.2.2.2.1 u.2.2.2.2.2.2.2.2.2
theorem Ktu11 {A0 A1 A2 A3 A4 A5 A6 A7 A8 A9 A10 : Type} {P : A0 × A1 × A2 × A3 × A4 × A5 × A6 × A7 × A8 × A9 × A10 → Prop} (h : ∀ (a0 : A0) (a1 : A1) (a2 : A2) (a3 : A3) (a4 : A4) (a5 : A5) (a6 : A6) (a7 : A7) (a8 : A8) (a9 : A9) (a10 : A10), P (a0, a1, a2, a3, a4, a5, a6, a7, a8, a9, a10)) : ∀ u, P u := fun u => h u.1 u.2.1 u.2.2.1 u.2.2.2.1 u.2.2.2.2.1 u.2.2.2.2.2.1 u.2.2.2.2.2.2.1 u.2.2.2.2.2.2.2.1 u.2.2.2.2.2.2.2.2.1 u.2.2.2.2.2.2.2.2.2.1 u.2.2.2.2.2.2.2.2.2.2
theorem Ktu12 {A0 A1 A2 A3 A4 A5 A6 A7 A8 A9 A10 A11 : Type} {P : A0 × A1 × A2 × A3 × A4 × A5 × A6 × A7 × A8 × A9 × A10 × A11 → Prop} (h : ∀ (a0 : A0) (a1 : A1) (a2 : A2) (a3 : A3) (a4 : A4) (a5 : A5) (a6 : A6) (a7 : A7) (a8 : A8) (a9 : A9) (a10 : A10) (a11 : A11), P (a0, a1, a2, a3, a4, a5, a6, a7, a8, a9, a10, a11)) : ∀ u, P u := fun u => h u.1 u.2.1 u.2.2.1 u.2.2.2.1 u.2.2.2.2.1 u.2.2.2.2.2.1 u.2.2.2.2.2.2.1 u.2.2.2.2.2.2.2.1 u.2.2.2.2.2.2.2.2.1 u.2.2.2.2.2.2.2.2.2.1 u.2.2.2.2.2.2.2.2.2.2.1 u.2.2.2.2.2.2.2.2.2.2.2
theorem Ktu13 {A0 A1 A2 A3 A4 A5 A6 A7 A8 A9 A10 A11 A12 : Type} {P : A0 × A1 × A2 × A3 × A4 × A5 × A6 × A7 × A8 × A9 × A10 × A11 × A12 → Prop} (h : ∀ (a0 : A0) (a1 : A1) (a2 : A2) (a3 : A3) (a4 : A4) (a5 : A5) (a6 : A6) (a7 : A7) (a8 : A8) (a9 : A9) (a10 : A10) (a11 : A11) (a12 : A12), P (a0, a1, a2, a3, a4, a5, a6, a7, a8, a9, a10, a11, a12)) : ∀ u, P u := fun u => h u.1 u.2.1 u.2.2.1 u.2.2.2.1 u.2.2.2.2.1 u.2.2.2.2.2.1 u.2.2.2.2.2.2.1 u.2.2.2.2.2.2.2.1 u.2.2.2.2.2.2.2.2.1 u.2.2.2.2.2.2.2.2.2.1 u.2.2.2.2.2.2.2.2.2.2.1 u.2.2.2.2.2.2.2.2.2.2.2.1 u.2.2.2.2.2.2.2.2.2.2.2.2
theorem Ktu14 {A0 A1 A2 A3 A4 A5 A6 A7 A8 A9 A10 A11 A12 A13 : Type} {P : A0 × A1 × A2 × A3 × A4 × A5 × A6 × A7 × A8 × A9 × A10 × A11 × A12 × A13 → Prop} (h : ∀ (a0 : A0) (a1 : A1) (a2 : A2) (a3 : A3) (a4 : A4) (a5 : A5) (a6 : A6) (a7 : A7) (a8 : A8) (a9 : A9) (a10 : A10) (a11 : A11) (a12 : A12) (a13 : A13), P (a0, a1, a2, a3, a4, a5, a6, a7, a8, a9, a10, a11, a12, a13)) : ∀ u, P u := fun u => h u.1 u.2.1 u.2.2.1 u.2.2.2.1 u.2.2.2.2.1 u.2.2.2.2.2.1 u.2.2.2.2.2.2.1 u.2.2.2.2.2.2.2.1 u.2.2.2.2.2.2.2.2.1 u.2.2.2.2.2.2.2.2.2.1 u.2.2.2.2.2.2.2.2.2.2.1 u.2.2.2.2.2.2.2.2.2.2.2.1 u.2.2.2.2.2.2.2.2.2.2.2.2.1 u.2.2.2.2.2.2.2.2.2.2.2.2.2
theorem Ktu15 {A0 A1 A2 A3 A4 A5 A6 A7 A8 A9 A10 A11 A12 A13 A14 : Type} {P : A0 × A1 × A2 × A3 × A4 × A5 × A6 × A7 × A8 × A9 × A10 × A11 × A12 × A13 × A14 → Prop} (h : ∀ (a0 : A0) (a1 : A1) (a2 : A2) (a3 : A3) (a4 : A4) (a5 : A5) (a6 : A6) (a7 : A7) (a8 : A8) (a9 : A9) (a10 : A10) (a11 : A11) (a12 : A12) (a13 : A13) (a14 : A14), P (a0, a1, a2, a3, a4, a5, a6, a7, a8, a9, a10, a11, a12, a13, a14)) : ∀ u, P u := fun u => h u.1 u.2.1 u.2.2.1 u.2.2.2.1 u.2.2.2.2.1 u.2.2.2.2.2.1 u.2.2.2.2.2.2.1 u.2.2.2.2.2.2.2.1 u.2.2.2.2.2.2.2.2.1 u.2.2.2.2.2.2.2.2.2.1 u.2.2.2.2.2.2.2.2.2.2.1 u.2.2.2.2.2.2.2.2.2.2.2.1 u.2.2.2.2.2.2.2.2.2.2.2.2.1 u.2.2.2.2.2.2.2.2.2.2.2.2.2.1 u.2.2.2.2.2.2.2.2.2.2.2.2.2.2
theorem Ktu16 {A0 A1 A2 A3 A4 A5 A6 A7 A8 A9 A10 A11 A12 A13 A14 A15 : Type} {P : A0 × A1 × A2 × A3 × A4 × A5 × A6 × A7 × A8 × A9 × A10 × A11 × A12 × A13 × A14 × A15 → Prop} (h : ∀ (a0 : A0) (a1 : A1) (a2 : A2) (a3 : A3) (a4 : A4) (a5 : A5) (a6 : A6) (a7 : A7) (a8 : A8) (a9 : A9) (a10 : A10) (a11 : A11) (a12 : A12) (a13 : A13) (a14 : A14) (a15 : A15), P (a0, a1, a2, a3, a4, a5, a6, a7, a8, a9, a10, a11, a12, a13, a14, a15)) : ∀ u, P u := fun u => h u.1 u.2.1 u.2.2.1 u.2.2.2.1 u.2.2.2.2.1 u.2.2.2.2.2.1 u.2.2.2.2.2.2.1 u.2.2.2.2.2.2.2.1 u.2.2.2.2.2.2.2.2.1 u.2.2.2.2.2.2.2.2.2.1 u.2.2.2.2.2.2.2.2.2.2.1 u.2.2.2.2.2.2.2.2.2.2.2.1 u.2.2.2.2.2.2.2.2.2.2.2.2.1 u.2.2.2.2.2.2.2.2.2.2.2.2.2.1 u.2.2.2.2.2.2.2.2.2.2.2.2.2.2.1 u.2.2.2.2.2.2.2.2.2.2.2.2.2.2.2
/-- what a walk ends with, by a name -/
theorem absQ {p : Program} {l : Launch} {e : Env} {R : Room} {s : State} {m : MethodId} {args : Array Value} {below : List Frame} {meth : Method} {c : Code} {H : Heap} {locs : List Loc} {cells slots : Nat} {Q : State → Prop} {pc : Nat} {ls : Array Slot} {st : List Value} (k : ∀ Q0 : State → Prop, Q0 = Q → W p l e R s m args below meth c H locs cells slots Q0 (F0 m pc ls st)) : W p l e R s m args below meth c H locs cells slots Q (F0 m pc ls st) := k Q rfl
theorem toQ {p : Program} {l : Launch} {e : Env} {R : Room} {s : State} {m : MethodId} {args : Array Value} {below : List Frame} {meth : Method} {c : Code} {H : Heap} {locs : List Loc} {cells slots : Nat} {Q Q0 : State → Prop} {pc : Nat} {ls : Array Slot} {st : List Value} (h : Q0 = Q) (k : W p l e R s m args below meth c H locs cells slots Q (F0 m pc ls st)) : W p l e R s m args below meth c H locs cells slots Q0 (F0 m pc ls st) := by subst h; exact k
theorem lv_at0 {ls : Array Slot} {nL : Nat} {l : List (Nat × Value)} {i : Nat} {v : Value} (h : lv_has ls nL ((i, v) :: l)) : ls[i]? = some (.val v) := lv_at h 0 rfl
theorem lv_at1 {ls : Array Slot} {nL : Nat} {l : List (Nat × Value)} {i : Nat} {v : Value} {a0 : Nat × Value} (h : lv_has ls nL (a0 :: (i, v) :: l)) : ls[i]? = some (.val v) := lv_at h 1 rfl
theorem lv_at2 {ls : Array Slot} {nL : Nat} {l : List (Nat × Value)} {i : Nat} {v : Value} {a0 : Nat × Value} {a1 : Nat × Value} (h : lv_has ls nL (a0 :: a1 :: (i, v) :: l)) : ls[i]? = some (.val v) := lv_at h 2 rfl
theorem lv_at3 {ls : Array Slot} {nL : Nat} {l : List (Nat × Value)} {i : Nat} {v : Value} {a0 : Nat × Value} {a1 : Nat × Value} {a2 : Nat × Value} (h : lv_has ls nL (a0 :: a1 :: a2 :: (i, v) :: l)) : ls[i]? = some (.val v) := lv_at h 3 rfl
theorem lv_at4 {ls : Array Slot} {nL : Nat} {l : List (Nat × Value)} {i : Nat} {v : Value} {a0 : Nat × Value} {a1 : Nat × Value} {a2 : Nat × Value} {a3 : Nat × Value} (h : lv_has ls nL (a0 :: a1 :: a2 :: a3 :: (i, v) :: l)) : ls[i]? = some (.val v) := lv_at h 4 rfl
theorem lv_at5 {ls : Array Slot} {nL : Nat} {l : List (Nat × Value)} {i : Nat} {v : Value} {a0 : Nat × Value} {a1 : Nat × Value} {a2 : Nat × Value} {a3 : Nat × Value} {a4 : Nat × Value} (h : lv_has ls nL (a0 :: a1 :: a2 :: a3 :: a4 :: (i, v) :: l)) : ls[i]? = some (.val v) := lv_at h 5 rfl
theorem lv_at6 {ls : Array Slot} {nL : Nat} {l : List (Nat × Value)} {i : Nat} {v : Value} {a0 : Nat × Value} {a1 : Nat × Value} {a2 : Nat × Value} {a3 : Nat × Value} {a4 : Nat × Value} {a5 : Nat × Value} (h : lv_has ls nL (a0 :: a1 :: a2 :: a3 :: a4 :: a5 :: (i, v) :: l)) : ls[i]? = some (.val v) := lv_at h 6 rfl
theorem lv_at7 {ls : Array Slot} {nL : Nat} {l : List (Nat × Value)} {i : Nat} {v : Value} {a0 : Nat × Value} {a1 : Nat × Value} {a2 : Nat × Value} {a3 : Nat × Value} {a4 : Nat × Value} {a5 : Nat × Value} {a6 : Nat × Value} (h : lv_has ls nL (a0 :: a1 :: a2 :: a3 :: a4 :: a5 :: a6 :: (i, v) :: l)) : ls[i]? = some (.val v) := lv_at h 7 rfl
theorem lv_at8 {ls : Array Slot} {nL : Nat} {l : List (Nat × Value)} {i : Nat} {v : Value} {a0 : Nat × Value} {a1 : Nat × Value} {a2 : Nat × Value} {a3 : Nat × Value} {a4 : Nat × Value} {a5 : Nat × Value} {a6 : Nat × Value} {a7 : Nat × Value} (h : lv_has ls nL (a0 :: a1 :: a2 :: a3 :: a4 :: a5 :: a6 :: a7 :: (i, v) :: l)) : ls[i]? = some (.val v) := lv_at h 8 rfl
theorem lv_at9 {ls : Array Slot} {nL : Nat} {l : List (Nat × Value)} {i : Nat} {v : Value} {a0 : Nat × Value} {a1 : Nat × Value} {a2 : Nat × Value} {a3 : Nat × Value} {a4 : Nat × Value} {a5 : Nat × Value} {a6 : Nat × Value} {a7 : Nat × Value} {a8 : Nat × Value} (h : lv_has ls nL (a0 :: a1 :: a2 :: a3 :: a4 :: a5 :: a6 :: a7 :: a8 :: (i, v) :: l)) : ls[i]? = some (.val v) := lv_at h 9 rfl
theorem lv_at10 {ls : Array Slot} {nL : Nat} {l : List (Nat × Value)} {i : Nat} {v : Value} {a0 : Nat × Value} {a1 : Nat × Value} {a2 : Nat × Value} {a3 : Nat × Value} {a4 : Nat × Value} {a5 : Nat × Value} {a6 : Nat × Value} {a7 : Nat × Value} {a8 : Nat × Value} {a9 : Nat × Value} (h : lv_has ls nL (a0 :: a1 :: a2 :: a3 :: a4 :: a5 :: a6 :: a7 :: a8 :: a9 :: (i, v) :: l)) : ls[i]? = some (.val v) := lv_at h 10 rfl
theorem lv_at11 {ls : Array Slot} {nL : Nat} {l : List (Nat × Value)} {i : Nat} {v : Value} {a0 : Nat × Value} {a1 : Nat × Value} {a2 : Nat × Value} {a3 : Nat × Value} {a4 : Nat × Value} {a5 : Nat × Value} {a6 : Nat × Value} {a7 : Nat × Value} {a8 : Nat × Value} {a9 : Nat × Value} {a10 : Nat × Value} (h : lv_has ls nL (a0 :: a1 :: a2 :: a3 :: a4 :: a5 :: a6 :: a7 :: a8 :: a9 :: a10 :: (i, v) :: l)) : ls[i]? = some (.val v) := lv_at h 11 rfl
theorem lv_at12 {ls : Array Slot} {nL : Nat} {l : List (Nat × Value)} {i : Nat} {v : Value} {a0 : Nat × Value} {a1 : Nat × Value} {a2 : Nat × Value} {a3 : Nat × Value} {a4 : Nat × Value} {a5 : Nat × Value} {a6 : Nat × Value} {a7 : Nat × Value} {a8 : Nat × Value} {a9 : Nat × Value} {a10 : Nat × Value} {a11 : Nat × Value} (h : lv_has ls nL (a0 :: a1 :: a2 :: a3 :: a4 :: a5 :: a6 :: a7 :: a8 :: a9 :: a10 :: a11 :: (i, v) :: l)) : ls[i]? = some (.val v) := lv_at h 12 rfl
theorem lv_at13 {ls : Array Slot} {nL : Nat} {l : List (Nat × Value)} {i : Nat} {v : Value} {a0 : Nat × Value} {a1 : Nat × Value} {a2 : Nat × Value} {a3 : Nat × Value} {a4 : Nat × Value} {a5 : Nat × Value} {a6 : Nat × Value} {a7 : Nat × Value} {a8 : Nat × Value} {a9 : Nat × Value} {a10 : Nat × Value} {a11 : Nat × Value} {a12 : Nat × Value} (h : lv_has ls nL (a0 :: a1 :: a2 :: a3 :: a4 :: a5 :: a6 :: a7 :: a8 :: a9 :: a10 :: a11 :: a12 :: (i, v) :: l)) : ls[i]? = some (.val v) := lv_at h 13 rfl
theorem lv_at14 {ls : Array Slot} {nL : Nat} {l : List (Nat × Value)} {i : Nat} {v : Value} {a0 : Nat × Value} {a1 : Nat × Value} {a2 : Nat × Value} {a3 : Nat × Value} {a4 : Nat × Value} {a5 : Nat × Value} {a6 : Nat × Value} {a7 : Nat × Value} {a8 : Nat × Value} {a9 : Nat × Value} {a10 : Nat × Value} {a11 : Nat × Value} {a12 : Nat × Value} {a13 : Nat × Value} (h : lv_has ls nL (a0 :: a1 :: a2 :: a3 :: a4 :: a5 :: a6 :: a7 :: a8 :: a9 :: a10 :: a11 :: a12 :: a13 :: (i, v) :: l)) : ls[i]? = some (.val v) := lv_at h 14 rfl
theorem lv_at15 {ls : Array Slot} {nL : Nat} {l : List (Nat × Value)} {i : Nat} {v : Value} {a0 : Nat × Value} {a1 : Nat × Value} {a2 : Nat × Value} {a3 : Nat × Value} {a4 : Nat × Value} {a5 : Nat × Value} {a6 : Nat × Value} {a7 : Nat × Value} {a8 : Nat × Value} {a9 : Nat × Value} {a10 : Nat × Value} {a11 : Nat × Value} {a12 : Nat × Value} {a13 : Nat × Value} {a14 : Nat × Value} (h : lv_has ls nL (a0 :: a1 :: a2 :: a3 :: a4 :: a5 :: a6 :: a7 :: a8 :: a9 :: a10 :: a11 :: a12 :: a13 :: a14 :: (i, v) :: l)) : ls[i]? = some (.val v) := lv_at h 15 rfl
abbrev oX0 (a0 : Nat) (a1 : Nat) (a2 : Nat) (a3 : Nat) (a4 : Nat) (a5 : Nat) (a6 : Nat) (a7 : Nat) (a8 : Nat) (a9 : Nat) (a10 : Int32) (a11 : Int32) (a12 : Int32) (a13 : Int32) : va_E := .inr (0, [.ref a0, .ref a1, .ref a2, .ref a3, .ref a4, .ref a5, .ref a6, .ref a7, .ref a8, .ref a9, .int a10, .int a11, .int a12, .int a13])
abbrev oX1 (a0 : Nat) : va_E := .inr (1, [.ref a0])
abbrev oX2 (a0 : Nat) (a1 : Nat) (a2 : Int32) (a3 : Int32) (a4 : Int32) (a5 : Int32) (a6 : Int32) (a7 : Int32) : va_E := .inr (2, [.ref a0, .ref a1, .int a2, .int a3, .int a4, .int a5, .int a6, .int a7])
abbrev oX3 (a0 : Nat) (a1 : Nat) (a2 : Int32) (a3 : Int32) (a4 : Int32) : va_E := .inr (3, [.ref a0, .ref a1, .int a2, .int a3, .int a4])
abbrev oX4 (a0 : Nat) (a1 : Nat) (a2 : Nat) (a3 : Nat) (a4 : Nat) (a5 : Nat) : va_E := .inr (4, [.ref a0, .ref a1, .ref a2, .ref a3, .ref a4, .ref a5])
abbrev oX5 (a0 : Nat) (a1 : Nat) (a2 : Nat) (a3 : Int32) (a4 : Int32) (a5 : Int32) : va_E := .inr (5, [.ref a0, .ref a1, .ref a2, .int a3, .int a4, .int a5])
abbrev oX6 (a0 : Nat) (a1 : Nat) (a2 : Nat) (a3 : Nat) (a4 : Int32) (a5 : Int32) (a6 : Int32) : va_E := .inr (6, [.ref a0, .ref a1, .ref a2, .ref a3, .int a4, .int a5, .int a6])
abbrev oX7 (a0 : Nat) (a1 : Nat) (a2 : Nat) (a3 : Nat) (a4 : Nat) (a5 : Nat) (a6 : Nat) (a7 : Nat) (a8 : Int32) : va_E := .inr (7, [.ref a0, .ref a1, .ref a2, .ref a3, .ref a4, .ref a5, .ref a6, .ref a7, .int a8])
abbrev oX8 (a0 : Int32) (a1 : Int32) (a2 : Nat) (a3 : Int32) : va_E := .inr (8, [.int a0, .int a1, .ref a2, .int a3])
abbrev oX9 (a0 : Nat) (a1 : Nat) (a2 : Int32) (a3 : Int32) (a4 : Int32) (a5 : Int32) : va_E := .inr (9, [.ref a0, .ref a1, .int a2, .int a3, .int a4, .int a5])
abbrev oX10 (a0 : Nat) (a1 : Int32) (a2 : Nat) (a3 : Nat) (a4 : Int32) (a5 : Int32) (a6 : Int32) (a7 : Int32) : va_E := .inr (10, [.ref a0, .int a1, .ref a2, .ref a3, .int a4, .int a5, .int a6, .int a7])
abbrev oX11 (a0 : Nat) (a1 : Nat) (a2 : Int32) (a3 : Nat) (a4 : Nat) (a5 : Nat) (a6 : Nat) (a7 : Nat) (a8 : Nat) (a9 : Nat) (a10 : Nat) : va_E := .inr (11, [.ref a0, .ref a1, .int a2, .ref a3, .ref a4, .ref a5, .ref a6, .ref a7, .ref a8, .ref a9, .ref a10])
abbrev oX12 (a0 : Nat) (a1 : Nat) (a2 : Int32) (a3 : Nat) (a4 : Int32) (a5 : Nat) (a6 : Int32) (a7 : Int32) (a8 : Int32) (a9 : Int32) (a10 : Nat) (a11 : Int32) (a12 : Int32) (a13 : Nat) (a14 : Int32) (a15 : Int32) (a16 : Int32) (a17 : Int32) (a18 : Int32) (a19 : Int32) (a20 : Int32) (a21 : Nat) (a22 : Nat) (a23 : Nat) (a24 : Nat) (a25 : Nat) (a26 : Nat) (a27 : Int32) (a28 : Nat) (a29 : Nat) (a30 : Nat) (a31 : Nat) (a32 : Nat) (a33 : Nat) (a34 : Nat) (a35 : Int32) (a36 : Int32) (a37 : Int32) (a38 : Int32) (a39 : Int32) (a40 : Int32) : va_E := .inr (12, [.ref a0, .ref a1, .int a2, .ref a3, .int a4, .ref a5, .int a6, .int a7, .int a8, .int a9, .ref a10, .int a11, .int a12, .ref a13, .int a14, .int a15, .int a16, .int a17, .int a18, .int a19, .int a20, .ref a21, .ref a22, .ref a23, .ref a24, .ref a25, .ref a26, .int a27, .ref a28, .ref a29, .ref a30, .ref a31, .ref a32, .ref a33, .ref a34, .int a35, .int a36, .int a37, .int a38, .int a39, .int a40])
abbrev iA (G : GG) (n : Nat) (f : Nat → Int32) : va_E := .inl (G.2.1, n, .inl f)
abbrev cA (G : GG) (n : Nat) (f : Nat → Option Nat) : va_E := .inl (G.2.2.1, n, .inr (.inr (.inr (.inr f))))
abbrev sA (G : GG) (n : Nat) (f : Nat → Option Nat) : va_E := .inl (G.2.2.2, n, .inr (.inr (.inr (.inr f))))
/-- a row of a table of k rows -/
def Hs (row : Int32) (k : Nat) : Prop := ¬ row < 0 ∧ ¬ nI k ≤ row
theorem Hs_nat {row : Int32} {k : Nat} (hk : k < 2 ^ 31) (h : Hs row k) : ∃ j, j < k ∧ row = nI j := by
  obtain ⟨j, hj, rfl⟩ := nI_of h.1
  refine ⟨j, ?_, rfl⟩
  have h2 := h.2
  rw [nI_leI hk hj] at h2
  omega
/-- a bit that is there -/
def HB (bits i : Int32) : Prop := ¬ i < 0 ∧ ¬ 31 ≤ i ∧ (bits >>> (i &&& 31)) &&& 1 = 1
theorem Wi_of {v a b : Int32} (h1 : a ≤ v) (h2 : v ≤ b) : Wi v a b := ⟨Int32.not_lt.mpr h1, Int32.not_lt.mpr h2⟩
theorem Wi_nat {v : Int32} {N : Nat} (hN : N < 2 ^ 31) (h : Wi v 0 (nI N)) : ∃ j, j ≤ N ∧ v = nI j := by
  obtain ⟨j, hj, rfl⟩ := nI_of h.1
  refine ⟨j, ?_, rfl⟩
  have h2 := h.2
  rw [nI_ltI hN hj] at h2
  omega
theorem nI_mul (a b : Nat) : nI a * nI b = nI (a * b) := (Int32.ofNat_mul a b).symm
theorem nI_sub1 (a : Nat) : nI (a + 1) - 1 = nI a := nI_pred a
theorem ge_nat {R k : Nat} (hR : R < 2 ^ 31) (hk : k < 2 ^ 31) (h : nI R ≤ nI k) : R ≤ k := (nI_leI hR hk).mp h
theorem nge_nat {R k : Nat} (hR : R < 2 ^ 31) (hk : k < 2 ^ 31) (h : ¬ nI R ≤ nI k) : k < R := by
  rw [nI_leI hR hk] at h
  omega
theorem nlt_nat {R k : Nat} (hR : R < 2 ^ 31) (hk : k < 2 ^ 31) (h : ¬ nI k < nI R) : R ≤ k := by
  rw [nI_ltI hk hR] at h
  omega
/-- the place of a row and a column -/
theorem tidx {R W k : Nat} {row col : Int32} (hk : k ≤ R) (hRW : R * W < 2 ^ 31) (hW : W < 2 ^ 31) (h1 : ¬ row < 0) (h2 : ¬ nI k ≤ row) (h3 : ¬ col < 0) (h4 : col < nI W) : vp_in (row * nI W + col) (R * W) ∧ (row * nI W + col).toNatClampNeg = row.toNatClampNeg * W + col.toNatClampNeg := by
  obtain ⟨j, hj, rfl⟩ := nI_of h1
  obtain ⟨c, hc, rfl⟩ := nI_of h3
  rw [nI_ltI hc hW] at h4
  have hW0 : 0 < W := by omega
  have hRle : R ≤ R * W := Nat.le_mul_of_pos_right R hW0
  have hk2 : k < 2 ^ 31 := by omega
  rw [nI_leI hk2 hj] at h2
  have hjR : j + 1 ≤ R := by omega
  have h5 : (j + 1) * W ≤ R * W := Nat.mul_le_mul_right W hjR
  rw [Nat.succ_mul] at h5
  rw [nI_mul, nI_add, nI_clamp hj, nI_clamp hc]
  exact ⟨vp_in_nI (by omega) hRW, nI_clamp (by omega)⟩
/-- what a table holds at a row and a column -/
noncomputable def tat (W : Nat) (f : Nat → Int32) (k : Nat) (row col : Int32) : Int32 := ifc (¬ row < 0 ∧ ¬ nI k ≤ row ∧ ¬ col < 0 ∧ col < nI W) (f (row.toNatClampNeg * W + col.toNatClampNeg)) 0
section WR
variable {p : Program} {l : Launch} {e : Env} {R : Room} {s : State} {m : MethodId} {args : Array Value} {below : List Frame} {meth : Method} {c : Code} {H : Heap} {locs : List Loc} {cells slots : Nat} {Q : State → Prop}
variable {pc : Nat} {ls : Array Slot} {rest : List Value} {G : GG} {ws : va_W} {A : Nat → Prop} {y0 : MethodName} {b0 : ByteArray} {mL0 : Nat} {rt0 : Option FieldType} {a : Nat} {H0 : Heap}
theorem gX8_count_0 : (decode cX8_count 0 = .ok (.aload_n 0, 1)) ∧ (decode cX8_count 1 = .ok (.getfield 28, 3)) ∧ (decode cX8_count 4 = .ok (.ireturn, 1)) := by decide +kernel
theorem in_X8 : ∀ w ∈ wsX80, w ∈ BW := iB_wsX80
theorem m_147 : Cond.fieldLink RX8 28 "InquiryBench$Table" "count" "I" ∈ BW := iB_BW8 _ (List.mem_of_getElem? (i := 5) rfl)
theorem gf_X8_28 (hC : CX p s m meth c y0 b0 mL0 rt0 args) (hy0 : y0.cls = RX8) (hK : KK G s) (hP : va_P G.1 vwCl ws H) (q0 : Nat) {fs : List Value} {v : Value} (he : ws[q0]? = some (a, .inr (8, fs))) (hv : fs[3]? = some v) (hdg : decode b0 pc = .ok (.getfield 28, 3)) (kk : W p l e R s m args below meth c H locs cells slots Q (F0 m (pc + 3) ls (v :: rest))) : W p l e R s m args below meth c H locs cells slots Q (F0 m pc ls (.ref a :: rest)) := by
  obtain ⟨hx, hb, hr, hml, hB, hown, hlocks, hnm⟩ := hC
  rw [hy0] at hown
  exact va_get (ci := 8) (C := RX8) (T := TX8) (N := 4) hx hb hB in_X8 hown hK.1 hP q0 he rfl 3 (by decide) (hB _ m_147) (fun _ h => h) hv hdg kk
theorem gX8_isFull_0 : (decode cX8_isFull 0 = .ok (.aload_n 0, 1)) ∧ (decode cX8_isFull 1 = .ok (.getfield 28, 3)) ∧ (decode cX8_isFull 4 = .ok (.aload_n 0, 1)) ∧ (decode cX8_isFull 5 = .ok (.getfield 15, 3)) ∧ (decode cX8_isFull 8 = .ok (.if_icmp .lt 7, 3)) ∧ (decode cX8_isFull 11 = .ok (.iconst 1, 1)) ∧ (decode cX8_isFull 12 = .ok (.goto 4, 3)) ∧ (decode cX8_isFull 15 = .ok (.iconst 0, 1)) ∧ (decode cX8_isFull 16 = .ok (.ireturn, 1)) := by decide +kernel
theorem m_144 : Cond.fieldLink RX8 15 "InquiryBench$Table" "room" "I" ∈ BW := iB_BW8 _ (List.mem_of_getElem? (i := 2) rfl)
theorem gf_X8_15 (hC : CX p s m meth c y0 b0 mL0 rt0 args) (hy0 : y0.cls = RX8) (hK : KK G s) (hP : va_P G.1 vwCl ws H) (q0 : Nat) {fs : List Value} {v : Value} (he : ws[q0]? = some (a, .inr (8, fs))) (hv : fs[0]? = some v) (hdg : decode b0 pc = .ok (.getfield 15, 3)) (kk : W p l e R s m args below meth c H locs cells slots Q (F0 m (pc + 3) ls (v :: rest))) : W p l e R s m args below meth c H locs cells slots Q (F0 m pc ls (.ref a :: rest)) := by
  obtain ⟨hx, hb, hr, hml, hB, hown, hlocks, hnm⟩ := hC
  rw [hy0] at hown
  exact va_get (ci := 8) (C := RX8) (T := TX8) (N := 4) hx hb hB in_X8 hown hK.1 hP q0 he rfl 0 (by decide) (hB _ m_144) (fun _ h => h) hv hdg kk
theorem gX8_has_0 : (decode cX8_has 0 = .ok (.iload_n 1, 1)) ∧ (decode cX8_has 1 = .ok (.ifCond .lt 15, 3)) ∧ (decode cX8_has 4 = .ok (.iload_n 1, 1)) ∧ (decode cX8_has 5 = .ok (.aload_n 0, 1)) ∧ (decode cX8_has 6 = .ok (.getfield 28, 3)) ∧ (decode cX8_has 9 = .ok (.if_icmp .ge 7, 3)) ∧ (decode cX8_has 12 = .ok (.iconst 1, 1)) ∧ (decode cX8_has 13 = .ok (.goto 4, 3)) ∧ (decode cX8_has 16 = .ok (.iconst 0, 1)) ∧ (decode cX8_has 17 = .ok (.ireturn, 1)) := by decide +kernel
theorem gX8_at_0 : (decode cX8_at 0 = .ok (.iload_n 1, 1)) ∧ (decode cX8_at 1 = .ok (.ifCond .lt 23, 3)) ∧ (decode cX8_at 4 = .ok (.iload_n 1, 1)) ∧ (decode cX8_at 5 = .ok (.aload_n 0, 1)) ∧ (decode cX8_at 6 = .ok (.getfield 28, 3)) ∧ (decode cX8_at 9 = .ok (.if_icmp .ge 15, 3)) ∧ (decode cX8_at 12 = .ok (.iload_n 2, 1)) ∧ (decode cX8_at 13 = .ok (.ifCond .lt 11, 3)) ∧ (decode cX8_at 16 = .ok (.iload_n 2, 1)) ∧ (decode cX8_at 17 = .ok (.aload_n 0, 1)) := by decide +kernel
theorem gX8_at_1 : (decode cX8_at 18 = .ok (.getfield 21, 3)) ∧ (decode cX8_at 21 = .ok (.if_icmp .lt 5, 3)) ∧ (decode cX8_at 24 = .ok (.iconst 0, 1)) ∧ (decode cX8_at 25 = .ok (.ireturn, 1)) ∧ (decode cX8_at 26 = .ok (.aload_n 0, 1)) ∧ (decode cX8_at 27 = .ok (.getfield 24, 3)) ∧ (decode cX8_at 30 = .ok (.iload_n 1, 1)) ∧ (decode cX8_at 31 = .ok (.aload_n 0, 1)) ∧ (decode cX8_at 32 = .ok (.getfield 21, 3)) ∧ (decode cX8_at 35 = .ok (.imul, 1)) := by decide +kernel
theorem m_145 : Cond.fieldLink RX8 21 "InquiryBench$Table" "width" "I" ∈ BW := iB_BW8 _ (List.mem_of_getElem? (i := 3) rfl)
theorem gf_X8_21 (hC : CX p s m meth c y0 b0 mL0 rt0 args) (hy0 : y0.cls = RX8) (hK : KK G s) (hP : va_P G.1 vwCl ws H) (q0 : Nat) {fs : List Value} {v : Value} (he : ws[q0]? = some (a, .inr (8, fs))) (hv : fs[1]? = some v) (hdg : decode b0 pc = .ok (.getfield 21, 3)) (kk : W p l e R s m args below meth c H locs cells slots Q (F0 m (pc + 3) ls (v :: rest))) : W p l e R s m args below meth c H locs cells slots Q (F0 m pc ls (.ref a :: rest)) := by
  obtain ⟨hx, hb, hr, hml, hB, hown, hlocks, hnm⟩ := hC
  rw [hy0] at hown
  exact va_get (ci := 8) (C := RX8) (T := TX8) (N := 4) hx hb hB in_X8 hown hK.1 hP q0 he rfl 1 (by decide) (hB _ m_145) (fun _ h => h) hv hdg kk
theorem m_146 : Cond.fieldLink RX8 24 "InquiryBench$Table" "cells" "[I" ∈ BW := iB_BW8 _ (List.mem_of_getElem? (i := 4) rfl)
theorem gf_X8_24 (hC : CX p s m meth c y0 b0 mL0 rt0 args) (hy0 : y0.cls = RX8) (hK : KK G s) (hP : va_P G.1 vwCl ws H) (q0 : Nat) {fs : List Value} {v : Value} (he : ws[q0]? = some (a, .inr (8, fs))) (hv : fs[2]? = some v) (hdg : decode b0 pc = .ok (.getfield 24, 3)) (kk : W p l e R s m args below meth c H locs cells slots Q (F0 m (pc + 3) ls (v :: rest))) : W p l e R s m args below meth c H locs cells slots Q (F0 m pc ls (.ref a :: rest)) := by
  obtain ⟨hx, hb, hr, hml, hB, hown, hlocks, hnm⟩ := hC
  rw [hy0] at hown
  exact va_get (ci := 8) (C := RX8) (T := TX8) (N := 4) hx hb hB in_X8 hown hK.1 hP q0 he rfl 2 (by decide) (hB _ m_146) (fun _ h => h) hv hdg kk
theorem gX8_at_2 : (decode cX8_at 36 = .ok (.iload_n 2, 1)) ∧ (decode cX8_at 37 = .ok (.iadd, 1)) ∧ (decode cX8_at 38 = .ok (.iaload, 1)) ∧ (decode cX8_at 39 = .ok (.ireturn, 1)) := by decide +kernel
theorem ald (hC : CX p s m meth c y0 b0 mL0 rt0 args) (hK : KK G s) (hP : va_P G.1 vwCl ws H) (q0 : Nat) {n : Nat} {f : Nat → Int32} (ha : ws[q0]? = some (a, .inl (G.2.1, n, .inl f))) {i : Int32} (hin : vp_in i n) {k : Nat} (hk : i.toNatClampNeg = k) {v : Int32} (hv : f k = v) (hdg : decode b0 pc = .ok (.iaload, 1)) (kk : W p l e R s m args below meth c H locs cells slots Q (F0 m (pc + 1) ls (.int v :: rest))) : W p l e R s m args below meth c H locs cells slots Q (F0 m pc ls (.int i :: .ref a :: rest)) := by
  obtain ⟨hx, hb, hr, hml, hB, hown, hlocks, hnm⟩ := hC
  refine va_iald hx hb hK.1 hP q0 0 ha rfl hin hdg ?_
  rw [hk, hv]
  exact kk
theorem aldN (hC : CX p s m meth c y0 b0 mL0 rt0 args) (hK : KK G s) (hP : va_P G.1 vwCl ws H) (q0 : Nat) {n : Nat} {f : Nat → Int32} (ha : ws[q0]? = some (a, .inl (G.2.1, n, .inl f))) {k : Nat} (hk : k < n) (hn : n ≤ 2147483647) {v : Int32} (hv : f k = v) (hdg : decode b0 pc = .ok (.iaload, 1)) (kk : W p l e R s m args below meth c H locs cells slots Q (F0 m (pc + 1) ls (.int v :: rest))) : W p l e R s m args below meth c H locs cells slots Q (F0 m pc ls (.int (nI k) :: .ref a :: rest)) := ald hC hK hP q0 ha (vp_in_nI hk (Nat.lt_of_le_of_lt hn (by decide))) (nI_clamp (Nat.lt_of_lt_of_le hk (Nat.le_trans hn (by decide)))) hv hdg kk
end WR
noncomputable def tset (W : Nat) (f : Nat → Int32) (k : Nat) (row col v : Int32) : Nat → Int32 := fun j => ifc ((¬ row < 0 ∧ ¬ nI k ≤ row ∧ ¬ col < 0 ∧ col < nI W) ∧ j = row.toNatClampNeg * W + col.toNatClampNeg) v (f j)
theorem tset_f {W : Nat} {f : Nat → Int32} {k : Nat} {row col v : Int32} (h : ¬ (¬ row < 0 ∧ ¬ nI k ≤ row ∧ ¬ col < 0 ∧ col < nI W)) : tset W f k row col v = f := funext fun j => ifc_f (fun h9 => h h9.1)
theorem tset_t {W : Nat} {f : Nat → Int32} {k : Nat} {row col v : Int32} (h : ¬ row < 0 ∧ ¬ nI k ≤ row ∧ ¬ col < 0 ∧ col < nI W) : tset W f k row col v = upd f (row.toNatClampNeg * W + col.toNatClampNeg) v := by
  funext j
  unfold upd
  by_cases e : j = row.toNatClampNeg * W + col.toNatClampNeg
  · rw [if_pos e]; exact ifc_t ⟨h, e⟩
  · rw [if_neg e]; exact ifc_f (fun h9 => e h9.2)
section WR
variable {p : Program} {l : Launch} {e : Env} {R : Room} {s : State} {m : MethodId} {args : Array Value} {below : List Frame} {meth : Method} {c : Code} {H : Heap} {locs : List Loc} {cells slots : Nat} {Q : State → Prop}
variable {pc : Nat} {ls : Array Slot} {rest : List Value} {G : GG} {ws : va_W} {A : Nat → Prop} {y0 : MethodName} {b0 : ByteArray} {mL0 : Nat} {rt0 : Option FieldType} {a : Nat} {H0 : Heap}
theorem gX8_set_0 : (decode cX8_set 0 = .ok (.iload_n 1, 1)) ∧ (decode cX8_set 1 = .ok (.ifCond .lt 23, 3)) ∧ (decode cX8_set 4 = .ok (.iload_n 1, 1)) ∧ (decode cX8_set 5 = .ok (.aload_n 0, 1)) ∧ (decode cX8_set 6 = .ok (.getfield 28, 3)) ∧ (decode cX8_set 9 = .ok (.if_icmp .ge 15, 3)) ∧ (decode cX8_set 12 = .ok (.iload_n 2, 1)) ∧ (decode cX8_set 13 = .ok (.ifCond .lt 11, 3)) ∧ (decode cX8_set 16 = .ok (.iload_n 2, 1)) ∧ (decode cX8_set 17 = .ok (.aload_n 0, 1)) := by decide +kernel
theorem gX8_set_1 : (decode cX8_set 18 = .ok (.getfield 21, 3)) ∧ (decode cX8_set 21 = .ok (.if_icmp .lt 4, 3)) ∧ (decode cX8_set 24 = .ok (.return_, 1)) ∧ (decode cX8_set 25 = .ok (.aload_n 0, 1)) ∧ (decode cX8_set 26 = .ok (.getfield 24, 3)) ∧ (decode cX8_set 29 = .ok (.iload_n 1, 1)) ∧ (decode cX8_set 30 = .ok (.aload_n 0, 1)) ∧ (decode cX8_set 31 = .ok (.getfield 21, 3)) ∧ (decode cX8_set 34 = .ok (.imul, 1)) ∧ (decode cX8_set 35 = .ok (.iload_n 2, 1)) := by decide +kernel
theorem gX8_set_2 : (decode cX8_set 36 = .ok (.iadd, 1)) ∧ (decode cX8_set 37 = .ok (.iload_n 3, 1)) ∧ (decode cX8_set 38 = .ok (.iastore, 1)) ∧ (decode cX8_set 39 = .ok (.return_, 1)) := by decide +kernel
theorem ast (hC : CX p s m meth c y0 b0 mL0 rt0 args) (hK : KK G s) (hP : va_P G.1 vwCl ws H) (hD : va_D A ws) (hS : va_S A H0 H locs) (q0 : Nat) {n : Nat} {f : Nat → Int32} {ws' : va_W} (ha : ws[q0]? = some (a, .inl (G.2.1, n, .inl f))) {i x : Int32} (hin : vp_in i n) {k : Nat} (hk : i.toNatClampNeg = k) (hws : ws.set q0 (a, .inl (G.2.1, n, .inl (upd f k x))) = ws') (hdg : decode b0 pc = .ok (.iastore, 1)) (kk : ∀ (H1 : Heap) (locs1 : List Loc), va_P G.1 vwCl ws' H1 → va_D A ws' → va_S A H0 H1 locs1 → W p l e R s m args below meth c H1 locs1 cells slots Q (F0 m (pc + 1) ls rest)) : W p l e R s m args below meth c H locs cells slots Q (F0 m pc ls (.int x :: .int i :: .ref a :: rest)) := by
  obtain ⟨hx, hb, hr, hml, hB, hown, hlocks, hnm⟩ := hC
  refine va_iast hx hb hK.1 hP hD hS q0 0 ha rfl hin hdg ?_
  rw [hk, hws]
  exact kk
theorem astN (hC : CX p s m meth c y0 b0 mL0 rt0 args) (hK : KK G s) (hP : va_P G.1 vwCl ws H) (hD : va_D A ws) (hS : va_S A H0 H locs) (q0 : Nat) {n : Nat} {f : Nat → Int32} {ws' : va_W} (ha : ws[q0]? = some (a, .inl (G.2.1, n, .inl f))) {x : Int32} {k : Nat} (hk : k < n) (hn : n ≤ 2147483647) (hws : ws.set q0 (a, .inl (G.2.1, n, .inl (upd f k x))) = ws') (hdg : decode b0 pc = .ok (.iastore, 1)) (kk : ∀ (H1 : Heap) (locs1 : List Loc), va_P G.1 vwCl ws' H1 → va_D A ws' → va_S A H0 H1 locs1 → W p l e R s m args below meth c H1 locs1 cells slots Q (F0 m (pc + 1) ls rest)) : W p l e R s m args below meth c H locs cells slots Q (F0 m pc ls (.int x :: .int (nI k) :: .ref a :: rest)) := ast hC hK hP hD hS q0 ha (vp_in_nI hk (Nat.lt_of_le_of_lt hn (by decide))) (nI_clamp (Nat.lt_of_lt_of_le hk (Nat.le_trans hn (by decide)))) hws hdg kk
theorem gX8_append_0 : (decode cX8_append 0 = .ok (.aload_n 0, 1)) ∧ (decode cX8_append 1 = .ok (.getfield 28, 3)) ∧ (decode cX8_append 4 = .ok (.aload_n 0, 1)) ∧ (decode cX8_append 5 = .ok (.getfield 15, 3)) ∧ (decode cX8_append 8 = .ok (.if_icmp .lt 6, 3)) ∧ (decode cX8_append 11 = .ok (.bipush (-2), 2)) ∧ (decode cX8_append 13 = .ok (.ireturn, 1)) ∧ (decode cX8_append 14 = .ok (.aload_n 0, 1)) ∧ (decode cX8_append 15 = .ok (.dup, 1)) ∧ (decode cX8_append 16 = .ok (.getfield 28, 3)) := by decide +kernel
theorem gX8_append_1 : (decode cX8_append 19 = .ok (.iconst 1, 1)) ∧ (decode cX8_append 20 = .ok (.iadd, 1)) ∧ (decode cX8_append 21 = .ok (.putfield 28, 3)) ∧ (decode cX8_append 24 = .ok (.aload_n 0, 1)) ∧ (decode cX8_append 25 = .ok (.getfield 28, 3)) ∧ (decode cX8_append 28 = .ok (.iconst 1, 1)) ∧ (decode cX8_append 29 = .ok (.isub, 1)) ∧ (decode cX8_append 30 = .ok (.ireturn, 1)) := by decide +kernel
theorem pf_X8_28 (hC : CX p s m meth c y0 b0 mL0 rt0 args) (hy0 : y0.cls = RX8) (hK : KK G s) (hP : va_P G.1 vwCl ws H) (hD : va_D A ws) (hS : va_S A H0 H locs) (q0 : Nat) {fs : List Value} {v : Value} {ws' : va_W} (he : ws[q0]? = some (a, .inr (8, fs))) (hl : 3 < fs.length) (hws : ws.set q0 (a, .inr (8, fs.set 3 v)) = ws') (hn : narrow .int v = v) (hfit : fits .int v = true) (hdg : decode b0 pc = .ok (.putfield 28, 3)) (kk : ∀ (H1 : Heap) (locs1 : List Loc), va_P G.1 vwCl ws' H1 → va_D A ws' → va_S A H0 H1 locs1 → W p l e R s m args below meth c H1 locs1 cells slots Q (F0 m (pc + 3) ls rest)) : W p l e R s m args below meth c H locs cells slots Q (F0 m pc ls (v :: .ref a :: rest)) := by
  obtain ⟨hx, hb, hr, hml, hB, hown, hlocks, hnm⟩ := hC
  rw [hy0] at hown
  subst hws
  exact va_put (ci := 8) (ty := .int) (C := RX8) (T := TX8) (N := 4) hx hb hB in_X8 tyX8 tyX8_ok nmX8 hown hK.1 hP hD hS q0 he rfl 3 (by decide) (hB _ m_147) (fun _ h => h) rfl (by decide +kernel) hn hfit hl hdg kk
end WR
theorem rm_2_1_3 {mc ms : Nat} : 1 + 1 ≤ (RM 2 mc ms).frames ∧ 8 + (3 + 11) + 40 * 1 ≤ (RM 2 mc ms).locals := ⟨by show 1 + 1 ≤ 2; decide, by show 8 + (3 + 11) + 40 * 1 ≤ 40 * 2; decide⟩
def K_c_within (l : Launch) (G : GG) (v : Int32) (a : Int32) (b : Int32) : Prop := MP l G yX11_within cX11_within 3 (some .boolean) 1 [.int v, .int a, .int b] [] (fun r : Int32 => (r = 1 ∧ Wi v a b) ∨ (r = 0 ∧ ¬ Wi v a b))
set_option maxHeartbeats 4000000 in
set_option maxRecDepth 100000 in
theorem c_within (l : Launch) (G : GG) (v : Int32) (a : Int32) (b : Int32) : K_c_within l G v a b := by
  refine MP.start (by decide +kernel) (Nat.le_of_ble_eq_true rfl) ?_
  intro p e s m below meth c ls hC hK hP hD hl
  refine absQ (fun Q0 hQ0 => ?_)
  have hl : lv_has ls 3 [(0, .int v), (1, .int a), (2, .int b)] := hl
  refine Kan8 hC (fun hx hb hr hml hB hown hlocks hnm => ?_)
  refine lv_iload_n hx hb gX11_within_0.1 rfl (lv_at0 hl) ?_
  refine lv_iload_n hx hb gX11_within_0.2.1 rfl (lv_at1 hl) ?_
  refine lv_icmp_lt (tgt := 14) hx hb gX11_within_0.2.2.1 (by decide) (fun c_2_1 => ?_) (fun c_2_1 => ?_)
  · refine lv_iconst (v := 0) hx hb gX11_within_0.2.2.2.2.2.2.2.2.1 (by decide) ?_
    refine toQ hQ0 ?_
    exact RP (v := 0) hC (Or.inr ⟨rfl, fun h9 => h9.1 c_2_1⟩) (by decide +kernel) gX11_within_0.2.2.2.2.2.2.2.2.2
  · refine lv_iload_n hx hb gX11_within_0.2.2.2.1 rfl (lv_at0 hl) ?_
    refine lv_iload_n hx hb gX11_within_0.2.2.2.2.1 rfl (lv_at2 hl) ?_
    refine lv_icmp_gt (tgt := 14) hx hb gX11_within_0.2.2.2.2.2.1 (by decide) (fun c_7_2 => ?_) (fun c_7_2 => ?_)
    · refine lv_iconst (v := 0) hx hb gX11_within_0.2.2.2.2.2.2.2.2.1 (by decide) ?_
      refine toQ hQ0 ?_
      exact RP (v := 0) hC (Or.inr ⟨rfl, fun h9 => h9.2 c_7_2⟩) (by decide +kernel) gX11_within_0.2.2.2.2.2.2.2.2.2
    · refine lv_iconst (v := 1) hx hb gX11_within_0.2.2.2.2.2.2.1 (by decide) ?_
      refine lv_goto (tgt := 15) hx hb gX11_within_0.2.2.2.2.2.2.2.1 (by decide) ?_
      refine toQ hQ0 ?_
      exact RP (v := 1) hC (Or.inl ⟨rfl, c_2_1, c_7_2⟩) (by decide +kernel) gX11_within_0.2.2.2.2.2.2.2.2.2
def K_m_within (l : Launch) (G : GG) (v : Int32) (a : Int32) (b : Int32) : Prop := MP l G yX12_within cX12_within 3 (some .boolean) 1 [.int v, .int a, .int b] [] (fun r : Int32 => (r = 1 ∧ Wi v a b) ∨ (r = 0 ∧ ¬ Wi v a b))
set_option maxHeartbeats 4000000 in
set_option maxRecDepth 100000 in
theorem m_within (l : Launch) (G : GG) (v : Int32) (a : Int32) (b : Int32) : K_m_within l G v a b := by
  refine MP.start (by decide +kernel) (Nat.le_of_ble_eq_true rfl) ?_
  intro p e s m below meth c ls hC hK hP hD hl
  refine absQ (fun Q0 hQ0 => ?_)
  have hl : lv_has ls 3 [(0, .int v), (1, .int a), (2, .int b)] := hl
  refine Kan8 hC (fun hx hb hr hml hB hown hlocks hnm => ?_)
  refine lv_iload_n hx hb gX12_within_0.1 rfl (lv_at0 hl) ?_
  refine lv_iload_n hx hb gX12_within_0.2.1 rfl (lv_at1 hl) ?_
  refine lv_icmp_lt (tgt := 14) hx hb gX12_within_0.2.2.1 (by decide) (fun c_2_3 => ?_) (fun c_2_3 => ?_)
  · refine lv_iconst (v := 0) hx hb gX12_within_0.2.2.2.2.2.2.2.2.1 (by decide) ?_
    refine toQ hQ0 ?_
    exact RP (v := 0) hC (Or.inr ⟨rfl, fun h9 => h9.1 c_2_3⟩) (by decide +kernel) gX12_within_0.2.2.2.2.2.2.2.2.2
  · refine lv_iload_n hx hb gX12_within_0.2.2.2.1 rfl (lv_at0 hl) ?_
    refine lv_iload_n hx hb gX12_within_0.2.2.2.2.1 rfl (lv_at2 hl) ?_
    refine lv_icmp_gt (tgt := 14) hx hb gX12_within_0.2.2.2.2.2.1 (by decide) (fun c_7_4 => ?_) (fun c_7_4 => ?_)
    · refine lv_iconst (v := 0) hx hb gX12_within_0.2.2.2.2.2.2.2.2.1 (by decide) ?_
      refine toQ hQ0 ?_
      exact RP (v := 0) hC (Or.inr ⟨rfl, fun h9 => h9.2 c_7_4⟩) (by decide +kernel) gX12_within_0.2.2.2.2.2.2.2.2.2
    · refine lv_iconst (v := 1) hx hb gX12_within_0.2.2.2.2.2.2.1 (by decide) ?_
      refine lv_goto (tgt := 15) hx hb gX12_within_0.2.2.2.2.2.2.2.1 (by decide) ?_
      refine toQ hQ0 ?_
      exact RP (v := 1) hC (Or.inl ⟨rfl, c_2_3, c_7_4⟩) (by decide +kernel) gX12_within_0.2.2.2.2.2.2.2.2.2
def K_c_isThing (l : Launch) (G : GG) (v : Int32) : Prop := MP l G yX11_isThing cX11_isThing 1 (some .boolean) 2 [.int v] [] (fun r : Int32 => (r = 1 ∧ Wi v 0 7) ∨ (r = 0 ∧ ¬ Wi v 0 7))
set_option maxHeartbeats 4000000 in
set_option maxRecDepth 100000 in
theorem c_isThing (l : Launch) (G : GG) (v : Int32) : K_c_isThing l G v := by
  refine MP.start (by decide +kernel) (Nat.le_of_ble_eq_true rfl) ?_
  intro p e s m below meth c ls hC hK hP hD hl
  refine absQ (fun Q0 hQ0 => ?_)
  have hl : lv_has ls 1 [(0, .int v)] := hl
  refine Kan8 hC (fun hx hb hr hml hB hown hlocks hnm => ?_)
  refine lv_iload_n hx hb gX11_isThing_0.1 rfl (lv_at0 hl) ?_
  refine lv_iconst (v := 0) hx hb gX11_isThing_0.2.1 (by decide) ?_
  refine lv_bipush (v := 7) hx hb gX11_isThing_0.2.2.1 (by decide) ?_
  refine pS hC hK hl (c_within l G v 0 7) si_X11_83 rfl rfl (Nat.le_of_ble_eq_true rfl) rm_2_1_3 ⟨by first | exact Nat.le_of_ble_eq_true rfl | exact Nat.zero_le _, by first | exact Nat.le_of_ble_eq_true rfl | exact Nat.zero_le _⟩ gX11_isThing_0.2.2.2.1 (Kors (Keqa fun a6 => ?_) (Keqa fun a6 => ?_))
  · refine toQ hQ0 ?_
    exact RP (v := 1) hC (Or.inl (⟨rfl, (by first | assumption | (simp_all; done))⟩)) (by decide +kernel) gX11_isThing_0.2.2.2.2
  · refine toQ hQ0 ?_
    exact RP (v := 0) hC (Or.inr (⟨rfl, (by first | assumption | (simp_all; done))⟩)) (by decide +kernel) gX11_isThing_0.2.2.2.2
def K_c_isWay (l : Launch) (G : GG) (v : Int32) : Prop := MP l G yX11_isWay cX11_isWay 1 (some .boolean) 2 [.int v] [] (fun r : Int32 => (r = 1 ∧ Wi v 0 2) ∨ (r = 0 ∧ ¬ Wi v 0 2))
set_option maxHeartbeats 4000000 in
set_option maxRecDepth 100000 in
theorem c_isWay (l : Launch) (G : GG) (v : Int32) : K_c_isWay l G v := by
  refine MP.start (by decide +kernel) (Nat.le_of_ble_eq_true rfl) ?_
  intro p e s m below meth c ls hC hK hP hD hl
  refine absQ (fun Q0 hQ0 => ?_)
  have hl : lv_has ls 1 [(0, .int v)] := hl
  refine Kan8 hC (fun hx hb hr hml hB hown hlocks hnm => ?_)
  refine lv_iload_n hx hb gX11_isWay_0.1 rfl (lv_at0 hl) ?_
  refine lv_iconst (v := 0) hx hb gX11_isWay_0.2.1 (by decide) ?_
  refine lv_iconst (v := 2) hx hb gX11_isWay_0.2.2.1 (by decide) ?_
  refine pS hC hK hl (c_within l G v 0 2) si_X11_83 rfl rfl (Nat.le_of_ble_eq_true rfl) rm_2_1_3 ⟨by first | exact Nat.le_of_ble_eq_true rfl | exact Nat.zero_le _, by first | exact Nat.le_of_ble_eq_true rfl | exact Nat.zero_le _⟩ gX11_isWay_0.2.2.2.1 (Kors (Keqa fun a8 => ?_) (Keqa fun a8 => ?_))
  · refine toQ hQ0 ?_
    exact RP (v := 1) hC (Or.inl (⟨rfl, (by first | assumption | (simp_all; done))⟩)) (by decide +kernel) gX11_isWay_0.2.2.2.2
  · refine toQ hQ0 ?_
    exact RP (v := 0) hC (Or.inr (⟨rfl, (by first | assumption | (simp_all; done))⟩)) (by decide +kernel) gX11_isWay_0.2.2.2.2
def K_c_isSheet (l : Launch) (G : GG) (v : Int32) : Prop := MP l G yX11_isSheet cX11_isSheet 1 (some .boolean) 2 [.int v] [] (fun r : Int32 => (r = 1 ∧ Wi v 0 3) ∨ (r = 0 ∧ ¬ Wi v 0 3))
set_option maxHeartbeats 4000000 in
set_option maxRecDepth 100000 in
theorem c_isSheet (l : Launch) (G : GG) (v : Int32) : K_c_isSheet l G v := by
  refine MP.start (by decide +kernel) (Nat.le_of_ble_eq_true rfl) ?_
  intro p e s m below meth c ls hC hK hP hD hl
  refine absQ (fun Q0 hQ0 => ?_)
  have hl : lv_has ls 1 [(0, .int v)] := hl
  refine Kan8 hC (fun hx hb hr hml hB hown hlocks hnm => ?_)
  refine lv_iload_n hx hb gX11_isSheet_0.1 rfl (lv_at0 hl) ?_
  refine lv_iconst (v := 0) hx hb gX11_isSheet_0.2.1 (by decide) ?_
  refine lv_iconst (v := 3) hx hb gX11_isSheet_0.2.2.1 (by decide) ?_
  refine pS hC hK hl (c_within l G v 0 3) si_X11_83 rfl rfl (Nat.le_of_ble_eq_true rfl) rm_2_1_3 ⟨by first | exact Nat.le_of_ble_eq_true rfl | exact Nat.zero_le _, by first | exact Nat.le_of_ble_eq_true rfl | exact Nat.zero_le _⟩ gX11_isSheet_0.2.2.2.1 (Kors (Keqa fun a10 => ?_) (Keqa fun a10 => ?_))
  · refine toQ hQ0 ?_
    exact RP (v := 1) hC (Or.inl (⟨rfl, (by first | assumption | (simp_all; done))⟩)) (by decide +kernel) gX11_isSheet_0.2.2.2.2
  · refine toQ hQ0 ?_
    exact RP (v := 0) hC (Or.inr (⟨rfl, (by first | assumption | (simp_all; done))⟩)) (by decide +kernel) gX11_isSheet_0.2.2.2.2
def K_c_isShelf (l : Launch) (G : GG) (v : Int32) : Prop := MP l G yX11_isShelf cX11_isShelf 1 (some .boolean) 2 [.int v] [] (fun r : Int32 => (r = 1 ∧ Wi v 0 3) ∨ (r = 0 ∧ ¬ Wi v 0 3))
set_option maxHeartbeats 4000000 in
set_option maxRecDepth 100000 in
theorem c_isShelf (l : Launch) (G : GG) (v : Int32) : K_c_isShelf l G v := by
  refine MP.start (by decide +kernel) (Nat.le_of_ble_eq_true rfl) ?_
  intro p e s m below meth c ls hC hK hP hD hl
  refine absQ (fun Q0 hQ0 => ?_)
  have hl : lv_has ls 1 [(0, .int v)] := hl
  refine Kan8 hC (fun hx hb hr hml hB hown hlocks hnm => ?_)
  refine lv_iload_n hx hb gX11_isShelf_0.1 rfl (lv_at0 hl) ?_
  refine lv_iconst (v := 0) hx hb gX11_isShelf_0.2.1 (by decide) ?_
  refine lv_iconst (v := 3) hx hb gX11_isShelf_0.2.2.1 (by decide) ?_
  refine pS hC hK hl (c_within l G v 0 3) si_X11_83 rfl rfl (Nat.le_of_ble_eq_true rfl) rm_2_1_3 ⟨by first | exact Nat.le_of_ble_eq_true rfl | exact Nat.zero_le _, by first | exact Nat.le_of_ble_eq_true rfl | exact Nat.zero_le _⟩ gX11_isShelf_0.2.2.2.1 (Kors (Keqa fun a12 => ?_) (Keqa fun a12 => ?_))
  · refine toQ hQ0 ?_
    exact RP (v := 1) hC (Or.inl (⟨rfl, (by first | assumption | (simp_all; done))⟩)) (by decide +kernel) gX11_isShelf_0.2.2.2.2
  · refine toQ hQ0 ?_
    exact RP (v := 0) hC (Or.inr (⟨rfl, (by first | assumption | (simp_all; done))⟩)) (by decide +kernel) gX11_isShelf_0.2.2.2.2
def K_c_isSort (l : Launch) (G : GG) (v : Int32) : Prop := MP l G yX11_isSort cX11_isSort 1 (some .boolean) 2 [.int v] [] (fun r : Int32 => (r = 1 ∧ Wi v 0 4) ∨ (r = 0 ∧ ¬ Wi v 0 4))
set_option maxHeartbeats 4000000 in
set_option maxRecDepth 100000 in
theorem c_isSort (l : Launch) (G : GG) (v : Int32) : K_c_isSort l G v := by
  refine MP.start (by decide +kernel) (Nat.le_of_ble_eq_true rfl) ?_
  intro p e s m below meth c ls hC hK hP hD hl
  refine absQ (fun Q0 hQ0 => ?_)
  have hl : lv_has ls 1 [(0, .int v)] := hl
  refine Kan8 hC (fun hx hb hr hml hB hown hlocks hnm => ?_)
  refine lv_iload_n hx hb gX11_isSort_0.1 rfl (lv_at0 hl) ?_
  refine lv_iconst (v := 0) hx hb gX11_isSort_0.2.1 (by decide) ?_
  refine lv_iconst (v := 4) hx hb gX11_isSort_0.2.2.1 (by decide) ?_
  refine pS hC hK hl (c_within l G v 0 4) si_X11_83 rfl rfl (Nat.le_of_ble_eq_true rfl) rm_2_1_3 ⟨by first | exact Nat.le_of_ble_eq_true rfl | exact Nat.zero_le _, by first | exact Nat.le_of_ble_eq_true rfl | exact Nat.zero_le _⟩ gX11_isSort_0.2.2.2.1 (Kors (Keqa fun a14 => ?_) (Keqa fun a14 => ?_))
  · refine toQ hQ0 ?_
    exact RP (v := 1) hC (Or.inl (⟨rfl, (by first | assumption | (simp_all; done))⟩)) (by decide +kernel) gX11_isSort_0.2.2.2.2
  · refine toQ hQ0 ?_
    exact RP (v := 0) hC (Or.inr (⟨rfl, (by first | assumption | (simp_all; done))⟩)) (by decide +kernel) gX11_isSort_0.2.2.2.2
def K_m_isFour (l : Launch) (G : GG) (v : Int32) : Prop := MP l G yX12_isFour cX12_isFour 1 (some .boolean) 2 [.int v] [] (fun r : Int32 => (r = 1 ∧ Wi v 0 3) ∨ (r = 0 ∧ ¬ Wi v 0 3))
set_option maxHeartbeats 4000000 in
set_option maxRecDepth 100000 in
theorem m_isFour (l : Launch) (G : GG) (v : Int32) : K_m_isFour l G v := by
  refine MP.start (by decide +kernel) (Nat.le_of_ble_eq_true rfl) ?_
  intro p e s m below meth c ls hC hK hP hD hl
  refine absQ (fun Q0 hQ0 => ?_)
  have hl : lv_has ls 1 [(0, .int v)] := hl
  refine Kan8 hC (fun hx hb hr hml hB hown hlocks hnm => ?_)
  refine lv_iload_n hx hb gX12_isFour_0.1 rfl (lv_at0 hl) ?_
  refine lv_iconst (v := 0) hx hb gX12_isFour_0.2.1 (by decide) ?_
  refine lv_iconst (v := 3) hx hb gX12_isFour_0.2.2.1 (by decide) ?_
  refine pS hC hK hl (m_within l G v 0 3) si_X12_84 rfl rfl (Nat.le_of_ble_eq_true rfl) rm_2_1_3 ⟨by first | exact Nat.le_of_ble_eq_true rfl | exact Nat.zero_le _, by first | exact Nat.le_of_ble_eq_true rfl | exact Nat.zero_le _⟩ gX12_isFour_0.2.2.2.1 (Kors (Keqa fun a16 => ?_) (Keqa fun a16 => ?_))
  · refine toQ hQ0 ?_
    exact RP (v := 1) hC (Or.inl (⟨rfl, (by first | assumption | (simp_all; done))⟩)) (by decide +kernel) gX12_isFour_0.2.2.2.2
  · refine toQ hQ0 ?_
    exact RP (v := 0) hC (Or.inr (⟨rfl, (by first | assumption | (simp_all; done))⟩)) (by decide +kernel) gX12_isFour_0.2.2.2.2
def K_c_T_count (l : Launch) (G : GG) (h0 : Nat) (R : Nat) (W : Nat) (ca : Nat) (k : Nat) : Prop := MP l G yX8_count cX8_count 1 (some .int) 1 [.ref h0] [(h0, oX8 (nI R) (nI W) ca (nI k))] (fun r : Int32 => r = nI k)
set_option maxHeartbeats 4000000 in
set_option maxRecDepth 100000 in
theorem c_T_count (l : Launch) (G : GG) (h0 : Nat) (R : Nat) (W : Nat) (ca : Nat) (k : Nat) : K_c_T_count l G h0 R W ca k := by
  refine MP.start (by decide +kernel) (Nat.le_of_ble_eq_true rfl) ?_
  intro p e s m below meth c ls hC hK hP hD hl
  refine absQ (fun Q0 hQ0 => ?_)
  have hl : lv_has ls 1 [(0, .ref h0)] := hl
  refine Kan8 hC (fun hx hb hr hml hB hown hlocks hnm => ?_)
  refine lv_aload_n hx hb gX8_count_0.1 rfl (lv_at0 hl) ?_
  refine gf_X8_28 hC rfl hK hP 0 rfl rfl gX8_count_0.2.1 ?_
  refine toQ hQ0 ?_
  exact RP (v := nI k) hC (rfl) rfl gX8_count_0.2.2
def K_c_T_isFull (l : Launch) (G : GG) (h0 : Nat) (R : Nat) (W : Nat) (ca : Nat) (k : Nat) : Prop := MP l G yX8_isFull cX8_isFull 1 (some .boolean) 1 [.ref h0] [(h0, oX8 (nI R) (nI W) ca (nI k))] (fun r : Int32 => (r = 1 ∧ R ≤ k) ∨ (r = 0 ∧ k < R))
set_option maxHeartbeats 4000000 in
set_option maxRecDepth 100000 in
theorem c_T_isFull (l : Launch) (G : GG) (h0 : Nat) (R : Nat) (W : Nat) (ca : Nat) (k : Nat) (hk : k ≤ R) (hR : R < 2 ^ 31) : K_c_T_isFull l G h0 R W ca k := by
  refine MP.start (by decide +kernel) (Nat.le_of_ble_eq_true rfl) ?_
  intro p e s m below meth c ls hC hK hP hD hl
  refine absQ (fun Q0 hQ0 => ?_)
  have hl : lv_has ls 1 [(0, .ref h0)] := hl
  refine Kan8 hC (fun hx hb hr hml hB hown hlocks hnm => ?_)
  refine lv_aload_n hx hb gX8_isFull_0.1 rfl (lv_at0 hl) ?_
  refine gf_X8_28 hC rfl hK hP 0 rfl rfl gX8_isFull_0.2.1 ?_
  refine lv_aload_n hx hb gX8_isFull_0.2.2.1 rfl (lv_at0 hl) ?_
  refine gf_X8_15 hC rfl hK hP 0 rfl rfl gX8_isFull_0.2.2.2.1 ?_
  refine lv_icmp_lt (tgt := 15) hx hb gX8_isFull_0.2.2.2.2.1 (by decide) (fun c_8_17 => ?_) (fun c_8_17 => ?_)
  · refine lv_iconst (v := 0) hx hb gX8_isFull_0.2.2.2.2.2.2.2.1 (by decide) ?_
    refine toQ hQ0 ?_
    exact RP (v := 0) hC (Or.inr ⟨rfl, (nI_ltI (by omega) (by omega)).mp c_8_17⟩) (by decide +kernel) gX8_isFull_0.2.2.2.2.2.2.2.2
  · refine lv_iconst (v := 1) hx hb gX8_isFull_0.2.2.2.2.2.1 (by decide) ?_
    refine lv_goto (tgt := 16) hx hb gX8_isFull_0.2.2.2.2.2.2.1 (by decide) ?_
    refine toQ hQ0 ?_
    exact RP (v := 1) hC (Or.inl ⟨rfl, nlt_nat (by omega) (by omega) c_8_17⟩) (by decide +kernel) gX8_isFull_0.2.2.2.2.2.2.2.2
def K_c_T_has (l : Launch) (G : GG) (h0 : Nat) (row : Int32) (R : Nat) (W : Nat) (ca : Nat) (k : Nat) : Prop := MP l G yX8_has cX8_has 2 (some .boolean) 1 [.ref h0, .int row] [(h0, oX8 (nI R) (nI W) ca (nI k))] (fun r : Int32 => (r = 1 ∧ Hs row k) ∨ (r = 0 ∧ ¬ Hs row k))
set_option maxHeartbeats 4000000 in
set_option maxRecDepth 100000 in
theorem c_T_has (l : Launch) (G : GG) (h0 : Nat) (row : Int32) (R : Nat) (W : Nat) (ca : Nat) (k : Nat) : K_c_T_has l G h0 row R W ca k := by
  refine MP.start (by decide +kernel) (Nat.le_of_ble_eq_true rfl) ?_
  intro p e s m below meth c ls hC hK hP hD hl
  refine absQ (fun Q0 hQ0 => ?_)
  have hl : lv_has ls 2 [(0, .ref h0), (1, .int row)] := hl
  refine Kan8 hC (fun hx hb hr hml hB hown hlocks hnm => ?_)
  refine lv_iload_n hx hb gX8_has_0.1 rfl (lv_at1 hl) ?_
  refine lv_if_lt (tgt := 16) hx hb gX8_has_0.2.1 (by decide) (fun c_1_18 => ?_) (fun c_1_18 => ?_)
  · refine lv_iconst (v := 0) hx hb gX8_has_0.2.2.2.2.2.2.2.2.1 (by decide) ?_
    refine toQ hQ0 ?_
    exact RP (v := 0) hC (Or.inr ⟨rfl, fun h9 => h9.1 c_1_18⟩) (by decide +kernel) gX8_has_0.2.2.2.2.2.2.2.2.2
  · refine lv_iload_n hx hb gX8_has_0.2.2.1 rfl (lv_at1 hl) ?_
    refine lv_aload_n hx hb gX8_has_0.2.2.2.1 rfl (lv_at0 hl) ?_
    refine gf_X8_28 hC rfl hK hP 0 rfl rfl gX8_has_0.2.2.2.2.1 ?_
    refine lv_icmp_ge (tgt := 16) hx hb gX8_has_0.2.2.2.2.2.1 (by decide) (fun c_9_19 => ?_) (fun c_9_19 => ?_)
    · refine lv_iconst (v := 0) hx hb gX8_has_0.2.2.2.2.2.2.2.2.1 (by decide) ?_
      refine toQ hQ0 ?_
      exact RP (v := 0) hC (Or.inr ⟨rfl, fun h9 => h9.2 c_9_19⟩) (by decide +kernel) gX8_has_0.2.2.2.2.2.2.2.2.2
    · refine lv_iconst (v := 1) hx hb gX8_has_0.2.2.2.2.2.2.1 (by decide) ?_
      refine lv_goto (tgt := 17) hx hb gX8_has_0.2.2.2.2.2.2.2.1 (by decide) ?_
      refine toQ hQ0 ?_
      exact RP (v := 1) hC (Or.inl ⟨rfl, c_1_18, c_9_19⟩) (by decide +kernel) gX8_has_0.2.2.2.2.2.2.2.2.2
def K_c_T_at (l : Launch) (G : GG) (h0 : Nat) (row : Int32) (col : Int32) (R : Nat) (W : Nat) (ca : Nat) (k : Nat) (f : Nat → Int32) : Prop := MP l G yX8_at cX8_at 3 (some .int) 1 [.ref h0, .int row, .int col] [(h0, oX8 (nI R) (nI W) ca (nI k)), (ca, iA G (R * W) f)] (fun r : Int32 => r = tat W f k row col)
set_option maxHeartbeats 4000000 in
set_option maxRecDepth 100000 in
theorem c_T_at (l : Launch) (G : GG) (h0 : Nat) (row : Int32) (col : Int32) (R : Nat) (W : Nat) (ca : Nat) (k : Nat) (f : Nat → Int32) (hk : k ≤ R) (hRW : R * W < 2 ^ 31) (hW : W < 2 ^ 31) : K_c_T_at l G h0 row col R W ca k f := by
  refine MP.start (by decide +kernel) (Nat.le_of_ble_eq_true rfl) ?_
  intro p e s m below meth c ls hC hK hP hD hl
  refine absQ (fun Q0 hQ0 => ?_)
  have hl : lv_has ls 3 [(0, .ref h0), (1, .int row), (2, .int col)] := hl
  refine Kan8 hC (fun hx hb hr hml hB hown hlocks hnm => ?_)
  refine lv_iload_n hx hb gX8_at_0.1 rfl (lv_at1 hl) ?_
  refine lv_if_lt (tgt := 24) hx hb gX8_at_0.2.1 (by decide) (fun c_1_20 => ?_) (fun c_1_20 => ?_)
  · refine lv_iconst (v := 0) hx hb gX8_at_1.2.2.1 (by decide) ?_
    refine toQ hQ0 ?_
    exact RP (v := 0) hC ((ifc_f (fun h9 => h9.1 c_1_20)).symm) rfl gX8_at_1.2.2.2.1
  · refine lv_iload_n hx hb gX8_at_0.2.2.1 rfl (lv_at1 hl) ?_
    refine lv_aload_n hx hb gX8_at_0.2.2.2.1 rfl (lv_at0 hl) ?_
    refine gf_X8_28 hC rfl hK hP 0 rfl rfl gX8_at_0.2.2.2.2.1 ?_
    refine lv_icmp_ge (tgt := 24) hx hb gX8_at_0.2.2.2.2.2.1 (by decide) (fun c_9_21 => ?_) (fun c_9_21 => ?_)
    · refine lv_iconst (v := 0) hx hb gX8_at_1.2.2.1 (by decide) ?_
      refine toQ hQ0 ?_
      exact RP (v := 0) hC ((ifc_f (fun h9 => h9.2.1 c_9_21)).symm) rfl gX8_at_1.2.2.2.1
    · refine lv_iload_n hx hb gX8_at_0.2.2.2.2.2.2.1 rfl (lv_at2 hl) ?_
      refine lv_if_lt (tgt := 24) hx hb gX8_at_0.2.2.2.2.2.2.2.1 (by decide) (fun c_13_22 => ?_) (fun c_13_22 => ?_)
      · refine lv_iconst (v := 0) hx hb gX8_at_1.2.2.1 (by decide) ?_
        refine toQ hQ0 ?_
        exact RP (v := 0) hC ((ifc_f (fun h9 => h9.2.2.1 c_13_22)).symm) rfl gX8_at_1.2.2.2.1
      · refine lv_iload_n hx hb gX8_at_0.2.2.2.2.2.2.2.2.1 rfl (lv_at2 hl) ?_
        refine lv_aload_n hx hb gX8_at_0.2.2.2.2.2.2.2.2.2 rfl (lv_at0 hl) ?_
        refine gf_X8_21 hC rfl hK hP 0 rfl rfl gX8_at_1.1 ?_
        refine lv_icmp_lt (tgt := 26) hx hb gX8_at_1.2.1 (by decide) (fun c_21_23 => ?_) (fun c_21_23 => ?_)
        · refine lv_aload_n hx hb gX8_at_1.2.2.2.2.1 rfl (lv_at0 hl) ?_
          refine gf_X8_24 hC rfl hK hP 0 rfl rfl gX8_at_1.2.2.2.2.2.1 ?_
          refine lv_iload_n hx hb gX8_at_1.2.2.2.2.2.2.1 rfl (lv_at1 hl) ?_
          refine lv_aload_n hx hb gX8_at_1.2.2.2.2.2.2.2.1 rfl (lv_at0 hl) ?_
          refine gf_X8_21 hC rfl hK hP 0 rfl rfl gX8_at_1.2.2.2.2.2.2.2.2.1 ?_
          refine lv_imul hx hb gX8_at_1.2.2.2.2.2.2.2.2.2 ?_
          refine lv_iload_n hx hb gX8_at_2.1 rfl (lv_at2 hl) ?_
          refine lv_iadd hx hb gX8_at_2.2.1 ?_
          refine ald hC hK hP 1 rfl ((tidx hk hRW hW c_1_20 c_9_21 c_13_22 c_21_23).1) (k := row.toNatClampNeg * W + col.toNatClampNeg) (tidx hk hRW hW c_1_20 c_9_21 c_13_22 c_21_23).2 (v := f (row.toNatClampNeg * W + col.toNatClampNeg)) (rfl) gX8_at_2.2.2.1 ?_
          refine toQ hQ0 ?_
          exact RP (v := f (row.toNatClampNeg * W + col.toNatClampNeg)) hC ((ifc_t ⟨c_1_20, c_9_21, c_13_22, c_21_23⟩).symm) rfl gX8_at_2.2.2.2
        · refine lv_iconst (v := 0) hx hb gX8_at_1.2.2.1 (by decide) ?_
          refine toQ hQ0 ?_
          exact RP (v := 0) hC ((ifc_f (fun h9 => c_21_23 h9.2.2.2)).symm) rfl gX8_at_1.2.2.2.1
def K_c_T_set (l : Launch) (G : GG) (h0 : Nat) (row : Int32) (col : Int32) (v : Int32) (R : Nat) (W : Nat) (ca : Nat) (k : Nat) (f : Nat → Int32) : Prop := MV l G yX8_set cX8_set 4 1 0 0 [.ref h0, .int row, .int col, .int v] [(h0, oX8 (nI R) (nI W) ca (nI k)), (ca, iA G (R * W) f)] (fun u : (Nat → Int32) => tset W f k row col v = u) (fun u : (Nat → Int32) => [(h0, oX8 (nI R) (nI W) ca (nI k)), (ca, iA G (R * W) u)])
set_option maxHeartbeats 4000000 in
set_option maxRecDepth 100000 in
theorem c_T_set (l : Launch) (G : GG) (h0 : Nat) (row : Int32) (col : Int32) (v : Int32) (R : Nat) (W : Nat) (ca : Nat) (k : Nat) (f : Nat → Int32) (hk : k ≤ R) (hRW : R * W < 2 ^ 31) (hW : W < 2 ^ 31) : K_c_T_set l G h0 row col v R W ca k f := by
  refine MV.start (by decide +kernel) (Nat.le_of_ble_eq_true rfl) ?_
  intro p e s m below meth c A ls hC hK hP hD hS hA hl
  refine absQ (fun Q0 hQ0 => ?_)
  have hl : lv_has ls 4 [(0, .ref h0), (1, .int row), (2, .int col), (3, .int v)] := hl
  refine Kan8 hC (fun hx hb hr hml hB hown hlocks hnm => ?_)
  refine lv_iload_n hx hb gX8_set_0.1 rfl (lv_at1 hl) ?_
  refine lv_if_lt (tgt := 24) hx hb gX8_set_0.2.1 (by decide) (fun c_1_24 => ?_) (fun c_1_24 => ?_)
  · refine toQ hQ0 ?_
    exact RV hC hP hD hS [0, 1] f rfl rfl (by decide) (tset_f (fun h9 => h9.1 c_1_24)) gX8_set_1.2.2.1
  · refine lv_iload_n hx hb gX8_set_0.2.2.1 rfl (lv_at1 hl) ?_
    refine lv_aload_n hx hb gX8_set_0.2.2.2.1 rfl (lv_at0 hl) ?_
    refine gf_X8_28 hC rfl hK hP 0 rfl rfl gX8_set_0.2.2.2.2.1 ?_
    refine lv_icmp_ge (tgt := 24) hx hb gX8_set_0.2.2.2.2.2.1 (by decide) (fun c_9_25 => ?_) (fun c_9_25 => ?_)
    · refine toQ hQ0 ?_
      exact RV hC hP hD hS [0, 1] f rfl rfl (by decide) (tset_f (fun h9 => h9.2.1 c_9_25)) gX8_set_1.2.2.1
    · refine lv_iload_n hx hb gX8_set_0.2.2.2.2.2.2.1 rfl (lv_at2 hl) ?_
      refine lv_if_lt (tgt := 24) hx hb gX8_set_0.2.2.2.2.2.2.2.1 (by decide) (fun c_13_26 => ?_) (fun c_13_26 => ?_)
      · refine toQ hQ0 ?_
        exact RV hC hP hD hS [0, 1] f rfl rfl (by decide) (tset_f (fun h9 => h9.2.2.1 c_13_26)) gX8_set_1.2.2.1
      · refine lv_iload_n hx hb gX8_set_0.2.2.2.2.2.2.2.2.1 rfl (lv_at2 hl) ?_
        refine lv_aload_n hx hb gX8_set_0.2.2.2.2.2.2.2.2.2 rfl (lv_at0 hl) ?_
        refine gf_X8_21 hC rfl hK hP 0 rfl rfl gX8_set_1.1 ?_
        refine lv_icmp_lt (tgt := 25) hx hb gX8_set_1.2.1 (by decide) (fun c_21_27 => ?_) (fun c_21_27 => ?_)
        · refine lv_aload_n hx hb gX8_set_1.2.2.2.1 rfl (lv_at0 hl) ?_
          refine gf_X8_24 hC rfl hK hP 0 rfl rfl gX8_set_1.2.2.2.2.1 ?_
          refine lv_iload_n hx hb gX8_set_1.2.2.2.2.2.1 rfl (lv_at1 hl) ?_
          refine lv_aload_n hx hb gX8_set_1.2.2.2.2.2.2.1 rfl (lv_at0 hl) ?_
          refine gf_X8_21 hC rfl hK hP 0 rfl rfl gX8_set_1.2.2.2.2.2.2.2.1 ?_
          refine lv_imul hx hb gX8_set_1.2.2.2.2.2.2.2.2.1 ?_
          refine lv_iload_n hx hb gX8_set_1.2.2.2.2.2.2.2.2.2 rfl (lv_at2 hl) ?_
          refine lv_iadd hx hb gX8_set_2.1 ?_
          refine lv_iload_n hx hb gX8_set_2.2.1 rfl (lv_at3 hl) ?_
          refine ast hC hK hP hD hS 1 (ws' := [(h0, oX8 (nI R) (nI W) ca (nI k)), (ca, iA G (R * W) (upd f (row.toNatClampNeg * W + col.toNatClampNeg) v))]) rfl ((tidx hk hRW hW c_1_24 c_9_25 c_13_26 c_21_27).1) (k := row.toNatClampNeg * W + col.toNatClampNeg) (tidx hk hRW hW c_1_24 c_9_25 c_13_26 c_21_27).2 (rfl) gX8_set_2.2.2.1 (fun H locs hP hD hS => ?_)
          refine toQ hQ0 ?_
          exact RV hC hP hD hS [0, 1] (upd f (row.toNatClampNeg * W + col.toNatClampNeg) v) rfl rfl (by decide) (tset_t ⟨c_1_24, c_9_25, c_13_26, c_21_27⟩) gX8_set_2.2.2.2
        · refine toQ hQ0 ?_
          exact RV hC hP hD hS [0, 1] f rfl rfl (by decide) (tset_f (fun h9 => c_21_27 h9.2.2.2)) gX8_set_1.2.2.1
def K_c_T_append (l : Launch) (G : GG) (h0 : Nat) (R : Nat) (W : Nat) (ca : Nat) (k : Nat) : Prop := MI l G yX8_append cX8_append 1 (some .int) 1 0 0 [.ref h0] [(h0, oX8 (nI R) (nI W) ca (nI k))] (fun (r : Int32) (u : Unit) => (r = nI k)) (fun u : Unit => [(h0, oX8 (nI R) (nI W) ca (nI (k + 1)))])
set_option maxHeartbeats 4000000 in
set_option maxRecDepth 100000 in
theorem c_T_append (l : Launch) (G : GG) (h0 : Nat) (R : Nat) (W : Nat) (ca : Nat) (k : Nat) (hkR : k < R) (hR : R < 2 ^ 31) : K_c_T_append l G h0 R W ca k := by
  refine MI.start (by decide +kernel) (Nat.le_of_ble_eq_true rfl) ?_
  intro p e s m below meth c A ls hC hK hP hD hS hA hl
  refine absQ (fun Q0 hQ0 => ?_)
  have hl : lv_has ls 1 [(0, .ref h0)] := hl
  refine Kan8 hC (fun hx hb hr hml hB hown hlocks hnm => ?_)
  refine lv_aload_n hx hb gX8_append_0.1 rfl (lv_at0 hl) ?_
  refine gf_X8_28 hC rfl hK hP 0 rfl rfl gX8_append_0.2.1 ?_
  refine lv_aload_n hx hb gX8_append_0.2.2.1 rfl (lv_at0 hl) ?_
  refine gf_X8_15 hC rfl hK hP 0 rfl rfl gX8_append_0.2.2.2.1 ?_
  refine lv_icmp_lt (tgt := 14) hx hb gX8_append_0.2.2.2.2.1 (by decide) (fun _ => ?_) (fun c9 => absurd (nI_lt hkR hR) c9)
  refine lv_aload_n hx hb gX8_append_0.2.2.2.2.2.2.2.1 rfl (lv_at0 hl) ?_
  refine lv_dup hx hb gX8_append_0.2.2.2.2.2.2.2.2.1 rfl ?_
  refine gf_X8_28 hC rfl hK hP 0 rfl rfl gX8_append_0.2.2.2.2.2.2.2.2.2 ?_
  refine lv_iconst (v := 1) hx hb gX8_append_1.1 (by decide) ?_
  refine lv_iadd hx hb gX8_append_1.2.1 ?_
  refine eqi (x1 := nI (k + 1)) (nI_1 k) ?_
  refine pf_X8_28 hC rfl hK hP hD hS 0 (ws' := [(h0, oX8 (nI R) (nI W) ca (nI (k + 1)))]) rfl (Nat.le_of_ble_eq_true rfl) rfl rfl rfl gX8_append_1.2.2.1 (fun H locs hP hD hS => ?_)
  refine lv_aload_n hx hb gX8_append_1.2.2.2.1 rfl (lv_at0 hl) ?_
  refine gf_X8_28 hC rfl hK hP 0 rfl rfl gX8_append_1.2.2.2.2.1 ?_
  refine lv_iconst (v := 1) hx hb gX8_append_1.2.2.2.2.2.1 (by decide) ?_
  refine lv_isub hx hb gX8_append_1.2.2.2.2.2.2.1 ?_
  refine eqi (x1 := nI k) (nI_sub1 k) ?_
  refine toQ hQ0 ?_
  exact RI (v := nI k) hC hP hD hS [0] () rfl rfl (by decide) (rfl) rfl gX8_append_1.2.2.2.2.2.2.2
def K_c_T_appendF (l : Launch) (G : GG) (h0 : Nat) (R : Nat) (W : Nat) (ca : Nat) (k : Nat) : Prop := MI l G yX8_append cX8_append 1 (some .int) 1 0 0 [.ref h0] [(h0, oX8 (nI R) (nI W) ca (nI k))] (fun (r : Int32) (u : Unit) => (r = (-2))) (fun u : Unit => [(h0, oX8 (nI R) (nI W) ca (nI k))])
set_option maxHeartbeats 4000000 in
set_option maxRecDepth 100000 in
theorem c_T_appendF (l : Launch) (G : GG) (h0 : Nat) (R : Nat) (W : Nat) (ca : Nat) (k : Nat) (hkR : R ≤ k) (hR : k < 2 ^ 31) : K_c_T_appendF l G h0 R W ca k := by
  refine MI.start (by decide +kernel) (Nat.le_of_ble_eq_true rfl) ?_
  intro p e s m below meth c A ls hC hK hP hD hS hA hl
  refine absQ (fun Q0 hQ0 => ?_)
  have hl : lv_has ls 1 [(0, .ref h0)] := hl
  refine Kan8 hC (fun hx hb hr hml hB hown hlocks hnm => ?_)
  refine lv_aload_n hx hb gX8_append_0.1 rfl (lv_at0 hl) ?_
  refine gf_X8_28 hC rfl hK hP 0 rfl rfl gX8_append_0.2.1 ?_
  refine lv_aload_n hx hb gX8_append_0.2.2.1 rfl (lv_at0 hl) ?_
  refine gf_X8_15 hC rfl hK hP 0 rfl rfl gX8_append_0.2.2.2.1 ?_
  refine lv_icmp_lt (tgt := 14) hx hb gX8_append_0.2.2.2.2.1 (by decide) (fun c9 => absurd c9 (nI_nlt hkR hR)) (fun _ => ?_)
  refine lv_bipush (v := (-2)) hx hb gX8_append_0.2.2.2.2.2.1 (by decide) ?_
  refine toQ hQ0 ?_
  exact RI (v := (-2)) hC hP hD hS [0] () rfl rfl (by decide) (rfl) rfl gX8_append_0.2.2.2.2.2.2.1
