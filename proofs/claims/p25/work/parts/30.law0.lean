section WR
variable {p : Program} {l : Launch} {e : Env} {R : Room} {s : State} {m : MethodId} {args : Array Value} {below : List Frame} {meth : Method} {c : Code} {H : Heap} {locs : List Loc} {cells slots : Nat} {Q : State → Prop}
variable {pc : Nat} {ls : Array Slot} {rest : List Value} {G : GG} {ws : va_W} {A : Nat → Prop} {y0 : MethodName} {b0 : ByteArray} {mL0 : Nat} {rt0 : Option FieldType} {a : Nat} {H0 : Heap}
end WR
abbrev WLW (G : GG) (K : OO) (hf : Nat → Option Nat) (xb bb cc sg do9 ru9 ta9 tp9 ro9 ho9 de9 bpersons bpapers bstamps bversions blines bsteps bsayings bfindings bwarnings bquestions bpersonsc bpapersc bstampsc bversionsc blinesc bstepsc bsayingsc bfindingsc bwarningsc bquestionsc cpersons cpapers cstamps cversions clines csteps csayings cfindings cwarnings cquestions cpersonsc cpapersc cstampsc cversionsc clinesc cstepsc csayingsc cfindingsc cwarningsc cquestionsc tby tln tsp tlnc tspc hs hz hi hw hn ht tr9 clk fi la ml mm sl sm clm hd kc0 km0 kc1 km1 kc2 km2 kc3 km3 kc4 km4 kc5 km5 kc6 km6 kc7 km7 kc8 km8 kc9 km9 kc10 km10 kc11 km11 kc12 km12 fc sh rr tc rrc xm nw nk nt nr nm ns nl nc nF np ntr nb nso nsi nit nsh nsf nss nrc : Nat) (kbpersons kbpapers kbstamps kbversions kblines kbsteps kbsayings kbfindings kbwarnings kbquestions kcpersons kcpapers kcstamps kcversions kclines kcsteps kcsayings kcfindings kcwarnings kcquestions kt ks kn kln ksp jr kr ytp yrm yjr : Nat) (ikp td vd vl gp ktd kvd kvl kgp tkd tf9 dk dn dp da dq cl bo le bi r1 rc rh tf tt9 tl tbv asd st9 tol mroundOf mroundFrom mfromHour mtoHour mfrom mto msort misFault mdeep mcoded mlines mbestCost mdealer mnumber mwhose msize misParted : Int32) (fbpersons fbpapers fbstamps fbversions fblines fbsteps fbsayings fbfindings fbwarnings fbquestions fcpersons fcpapers fcstamps fcversions fclines fcsteps fcsayings fcfindings fcwarnings fcquestions fby ftln ftsp fhw fhn ftr fhs fhz fhi fclm ffi fla fml fmm fsl fsm fk0 fk1 fk2 fk3 fk4 fk5 fk6 fk7 fk8 fk9 fk10 fk11 fk12 ffc fsh frr ftc fht y_nw y_nk y_nt y_nr y_nm y_ns y_nl y_nc y_np y_ntr y_nb y_nso y_nsi y_nit y_nsh y_nsf y_nss y_nrc : Nat → Int32) : va_W := [(xb, oX11 bb cc ikp sg do9 ru9 ta9 tp9 ro9 ho9 de9), (bb, oX0 bpersons bpapers bstamps bversions blines bsteps bsayings bfindings bwarnings bquestions td vd vl gp), (bpersons, oX8 10 2 bpersonsc (nI kbpersons)), (bpersonsc, iA G 20 fbpersons), (bpapers, oX8 12 6 bpapersc (nI kbpapers)), (bpapersc, iA G 72 fbpapers), (bstamps, oX8 24 3 bstampsc (nI kbstamps)), (bstampsc, iA G 72 fbstamps), (bversions, oX8 8 3 bversionsc (nI kbversions)), (bversionsc, iA G 24 fbversions), (blines, oX8 72 7 blinesc (nI kblines)), (blinesc, iA G 504 fblines), (bsteps, oX8 960 1 bstepsc (nI kbsteps)), (bstepsc, iA G 960 fbsteps), (bsayings, oX8 16 8 bsayingsc (nI kbsayings)), (bsayingsc, iA G 128 fbsayings), (bfindings, oX8 12 4 bfindingsc (nI kbfindings)), (bfindingsc, iA G 48 fbfindings), (bwarnings, oX8 16 3 bwarningsc (nI kbwarnings)), (bwarningsc, iA G 48 fbwarnings), (bquestions, oX8 7 2 bquestionsc (nI kbquestions)), (bquestionsc, iA G 14 fbquestions), (cc, oX0 cpersons cpapers cstamps cversions clines csteps csayings cfindings cwarnings cquestions ktd kvd kvl kgp), (cpersons, oX8 10 2 cpersonsc (nI kcpersons)), (cpersonsc, iA G 20 fcpersons), (cpapers, oX8 12 6 cpapersc (nI kcpapers)), (cpapersc, iA G 72 fcpapers), (cstamps, oX8 24 3 cstampsc (nI kcstamps)), (cstampsc, iA G 72 fcstamps), (cversions, oX8 8 3 cversionsc (nI kcversions)), (cversionsc, iA G 24 fcversions), (clines, oX8 72 7 clinesc (nI kclines)), (clinesc, iA G 504 fclines), (csteps, oX8 960 1 cstepsc (nI kcsteps)), (cstepsc, iA G 960 fcsteps), (csayings, oX8 16 8 csayingsc (nI kcsayings)), (csayingsc, iA G 128 fcsayings), (cfindings, oX8 12 4 cfindingsc (nI kcfindings)), (cfindingsc, iA G 48 fcfindings), (cwarnings, oX8 16 3 cwarningsc (nI kcwarnings)), (cwarningsc, iA G 48 fcwarnings), (cquestions, oX8 7 2 cquestionsc (nI kcquestions)), (cquestionsc, iA G 14 fcquestions), (tp9, oX10 tby (nI kt) tln tsp tkd (nI ks) (nI kn) tf9), (tby, iA G 240 fby), (tln, oX8 9 7 tlnc (nI kln)), (tlnc, iA G 63 ftln), (tsp, oX8 120 1 tspc (nI ksp)), (tspc, iA G 120 ftsp), (ho9, oX4 hs hz hi hw hn ht), (hw, iA G 4 fhw), (hn, iA G 4 fhn), (de9, oX2 bb tr9 (nI jr) dk dn dp da dq), (tr9, iA G 30 ftr), (hs, iA G 4 fhs), (hz, iA G 4 fhz), (hi, iA G 160 fhi), (sg, oX7 bb clk fi la ml mm sl sm cl), (clk, oX1 clm), (clm, iA G 36 fclm), (fi, iA G 12 ffi), (la, iA G 12 fla), (ml, iA G 12 fml), (mm, iA G 12 fmm), (sl, iA G 12 fsl), (sm, iA G 12 fsm), (do9, oX3 bb hd bo le bi), (hd, cA G 13 hf), (kc0, oX1 km0), (km0, iA G 36 fk0), (kc1, oX1 km1), (km1, iA G 36 fk1), (kc2, oX1 km2), (km2, iA G 36 fk2), (kc3, oX1 km3), (km3, iA G 36 fk3), (kc4, oX1 km4), (km4, iA G 36 fk4), (kc5, oX1 km5), (km5, iA G 36 fk5), (kc6, oX1 km6), (km6, iA G 36 fk6), (kc7, oX1 km7), (km7, iA G 36 fk7), (kc8, oX1 km8), (km8, iA G 36 fk8), (kc9, oX1 km9), (km9, iA G 36 fk9), (kc10, oX1 km10), (km10, iA G 36 fk10), (kc11, oX1 km11), (km11, iA G 36 fk11), (kc12, oX1 km12), (km12, iA G 36 fk12), (ru9, oX6 bb sg fc sh r1 rc rh), (fc, iA G 5 ffc), (sh, iA G 8 fsh), (ta9, oX9 bb sg tf tt9 tl tbv), (ro9, oX5 bb rr tc asd st9 tol), (rr, oX8 7 2 rrc (nI kr)), (rrc, iA G 14 frr), (tc, iA G 128 ftc), (ht, iA G 4 fht), (xm, oX12 nw nk ikp nt (nI ytp) nr (nI yrm) mroundOf mroundFrom 0 nm mfromHour mtoHour ns mfrom mto msort misFault mdeep mcoded mlines nl nc nF np ntr nb mbestCost nso nsi nit nsh nsf nss nrc (nI yjr) mdealer mnumber mwhose msize misParted), (nw, iA G 1662 y_nw), (nk, iA G 1662 y_nk), (nt, iA G 240 y_nt), (nr, iA G 14 y_nr), (nm, iA G 36 y_nm), (ns, iA G 8 y_ns), (nl, iA G 54 y_nl), (nc, iA G 100 y_nc), (np, iA G 100 y_np), (ntr, iA G 7 y_ntr), (nb, iA G 7 y_nb), (nso, iA G 4 y_nso), (nsi, iA G 4 y_nsi), (nit, iA G 160 y_nit), (nsh, iA G 4 y_nsh), (nsf, iA G 4 y_nsf), (nss, iA G 4 y_nss), (nrc, iA G 30 y_nrc), (nF, sA G 5 (FCT K))]
section WR
variable {p : Program} {l : Launch} {e : Env} {R : Room} {s : State} {m : MethodId} {args : Array Value} {below : List Frame} {meth : Method} {c : Code} {H : Heap} {locs : List Loc} {cells slots : Nat} {Q : State → Prop}
variable {pc : Nat} {ls : Array Slot} {rest : List Value} {G : GG} {K : OO} {ws : va_W} {A : Nat → Prop} {y0 : MethodName} {b0 : ByteArray} {mL0 : Nat} {rt0 : Option FieldType} {a : Nat} {H0 : Heap}
end WR
/-- the world with some cells put anew -/
def mk_p : List Bool → va_W → va_W → va_W
  | [], _, _ => []
  | b :: m, ws, cs => match ws with
    | [] => []
    | w :: ws => match b with
      | false => w :: mk_p m ws cs
      | true => match cs with
        | [] => []
        | c :: cs => c :: mk_p m ws cs
theorem mk_p_mem : ∀ (m : List Bool) (ws cs : va_W) (q : Nat × va_E), q ∈ mk_p m ws cs → q ∈ cs ∨ ∃ i : Nat, ws[i]? = some q ∧ m[i]? = some false := by
  intro m
  induction m with
  | nil =>
    intro ws cs q h
    have h : q ∈ ([] : va_W) := h
    cases h
  | cons b m ih =>
    intro ws cs q h
    cases ws with
    | nil =>
      have h : q ∈ ([] : va_W) := h
      cases h
    | cons w ws =>
      cases b with
      | false =>
        have h : q ∈ w :: mk_p m ws cs := h
        rcases List.mem_cons.mp h with h | h
        · subst h; exact Or.inr ⟨0, rfl, rfl⟩
        · rcases ih ws cs q h with h | ⟨i, h1, h2⟩
          · exact Or.inl h
          · exact Or.inr ⟨i + 1, by rw [List.getElem?_cons_succ]; exact h1, by rw [List.getElem?_cons_succ]; exact h2⟩
      | true =>
        cases cs with
        | nil =>
          have h : q ∈ ([] : va_W) := h
          cases h
        | cons c cs =>
          have h : q ∈ c :: mk_p m ws cs := h
          rcases List.mem_cons.mp h with h | h
          · exact Or.inl (List.mem_cons.mpr (Or.inl h))
          · rcases ih ws cs q h with h | ⟨i, h1, h2⟩
            · exact Or.inl (List.mem_cons.mpr (Or.inr h))
            · exact Or.inr ⟨i + 1, by rw [List.getElem?_cons_succ]; exact h1, by rw [List.getElem?_cons_succ]; exact h2⟩
theorem lk_P {A0 : Nat → Prop} {D : va_G} {cl : List vw_C} {ws wc w1 : va_W} {H H1 : Heap} (isB : List Nat) (mm : List Bool) (hP : va_P D cl ws H) (hD : va_D A0 ws) (isC : List Nat) (hC : isC.map (fun i => ws[i]?) = wc.map some) (hm : isC.all (fun i => mm[i]? == some true) = true)
    (hk : ∀ q : Nat, q < H.size → ¬ va_A wc H.size q → H1[q]? = H[q]?) (hP1 : va_P D cl w1 H1) : va_P D cl (mk_p mm ws (isB.filterMap (fun i => w1[i]?))) H1 := by
  intro k q hq
  rcases mk_p_mem mm ws _ q (List.mem_of_getElem? hq) with h | ⟨i, h1, h2⟩
  · obtain ⟨j, -, hj⟩ := List.mem_filterMap.mp h
    exact hP1 j q hj
  · have hl := (hP i q h1).lt
    refine (hP i q h1).kept (hk q.1 hl (fun h => ?_))
    rcases h with ⟨k2, e, h⟩ | h
    · have h3 : (isC.map (fun i => ws[i]?))[k2]? = some (some (q.1, e)) := by rw [hC, List.getElem?_map, h]; rfl
      rw [List.getElem?_map] at h3
      cases hi : isC[k2]? with
      | none => rw [hi] at h3; cases h3
      | some j =>
        rw [hi] at h3
        have hij := hD.1 i j q (q.1, e) h1 (Option.some.inj h3) rfl
        subst hij
        have h4 : (mm[i]? == some true) = true := List.all_eq_true.mp hm i (List.mem_of_getElem? hi)
        rw [h2] at h4
        exact absurd h4 (by decide)
    · omega
theorem lk_D {A : Nat → Prop} {ws ws' : va_W} (h : va_D A ws) (e : ws'.map (fun x => x.1) = ws.map (fun x => x.1)) : va_D A ws' := by
  have key : ∀ (k : Nat) (q : Nat × va_E), ws'[k]? = some q → ∃ q2 : Nat × va_E, ws[k]? = some q2 ∧ q2.1 = q.1 := by
    intro k q hq
    have h1 : (ws'.map (fun x => x.1))[k]? = some q.1 := by rw [List.getElem?_map, hq]; rfl
    rw [e, List.getElem?_map] at h1
    cases hw : ws[k]? with
    | none => rw [hw] at h1; cases h1
    | some q2 => rw [hw] at h1; exact ⟨q2, rfl, Option.some.inj h1⟩
  refine ⟨fun i j p q hi hj hpq => ?_, fun k q hk => ?_⟩
  · obtain ⟨p2, a1, a2⟩ := key i p hi
    obtain ⟨q2, b1, b2⟩ := key j q hj
    exact h.1 i j p2 q2 a1 b1 (a2.trans (hpq.trans b2.symm))
  · obtain ⟨q2, a1, a2⟩ := key k q hk
    rw [← a2]
    exact h.2 k q2 a1
section LWS
variable {p : Program} {l : Launch} {e : Env} {R : Room} {s : State} {m : MethodId} {args : Array Value} {below : List Frame} {meth : Method} {c : Code} {H : Heap} {locs : List Loc} {cells slots : Nat} {Q : State → Prop}
variable {rest st : List Value} {G : GG} {K : OO} {ws wc : va_W} {A A0 : Nat → Prop} {y y0 : MethodName} {b b0 : ByteArray} {mL mL0 : Nat} {rt rt0 : Option FieldType} {d mc ms n idx pc : Nat} {C : String} {a ci : Nat} {As : List Value} {fs : List Value} {q9 : vw_C} {H0 : Heap} {lv : List (Nat × Value)} {ls : Array Slot}
theorem lk_iV {S : Type} {post : Int32 → S → Prop} {w1 : S → va_W} (hC : CX p s m meth c y0 b0 mL0 rt0 args) (hK : KK G s) (hl : lv_has ls mL0 lv) (hP : va_P G.1 vwCl ws H) (hD : va_D A ws) (hS : va_S A H0 H locs) (hA : ∀ q : Nat, H0.size ≤ q → A q) (hM : MI l G y b mL rt d mc ms (.ref a :: As) wc post w1) (hsite : SV y0.cls C idx y b mL rt n) (isC isB : List Nat) (mm : List Bool) (hw : isC.map (fun i => ws[i]?) = wc.map some) (hw2 : isC.filterMap (fun i => ws[i]?) = wc) (hn : va_nd isC = true) (hm : isC.all (fun i => mm[i]? == some true) = true) (hcl : vwCl[ci]? = some q9) (hCl : q9.1 = C) (he : wc[0]? = some (a, .inr (ci, fs)))
    (hAs : As.length = n) (hst : st = As.reverse ++ .ref a :: rest) (hrm : (rest.map fun v => v.category).sum ≤ 8) (hR : d + 1 ≤ R.frames ∧ 8 + (mL + 11) + 40 * d ≤ R.locals) (hcs : cells + mc ≤ R.cells ∧ slots + ms ≤ R.slots) (hdg : decode b0 pc = .ok (.invokevirtual idx, 3))
    (kk : ∀ (r : Int32) (u : S) (H1 : Heap) (locs1 : List Loc), post r u → va_P G.1 vwCl (mk_p mm ws (isB.filterMap (fun i => (w1 u)[i]?))) H1 → va_S A H0 H1 locs1 → W p l e R s m args below meth c H1 locs1 (cells + mc) (slots + ms) Q (F0 m (pc + 3) ls (.int r :: rest))) : W p l e R s m args below meth c H locs cells slots Q (F0 m pc ls st) := by
  obtain ⟨hx, hb, hr, hml, hB, hown, hlocks, hnm⟩ := hC
  obtain ⟨⟨h1, h2, h3, h4, h5⟩, hy⟩ := hsite
  have hFc := va_free (wc := wc) hD hS hA isC hw
  refine va_calli (va_runV (As := As) (rest := rest) ⟨hx, hb, hml, hown, hB⟩ (hM H.size) (cwV n hB (gV h1 h2 h3 h4 h5) rfl rfl rfl hy hR) (preV_of hK (hP.sub isC hw2) ((hD.sub isC hn hw).weaken (fun _ _ _ _ => trivial)) hcl hCl he) rfl hAs hl.1 hst (lv_room hrm) hdg hcs) hS (fun q _ h => hFc q h) hFc (fun r u t H1 locs1 ht hvm hp hBt hz hk hS1 => ?_)
  obtain ⟨hP1, hD1⟩ := hBt
  rw [ht] at hP1
  exact kk r u H1 locs1 hp (lk_P isB mm hP hD isC hw hm hk hP1) hS1
theorem lk_iVo {S : Type} {post : Int32 → S → Prop} {w1 : S → va_W} (hO : OX K A s s.heap) (hC : CX p s m meth c y0 b0 mL0 rt0 args) (hK : KK G s) (hl : lv_has ls mL0 lv) (hP : va_P G.1 vwCl ws H) (hD : va_D A ws) (hS : va_S A s.heap H locs) (hA : ∀ q : Nat, s.heap.size ≤ q → A q) (hM : MIo l G K y b mL rt d mc ms (.ref a :: As) wc post w1) (hsite : SV y0.cls C idx y b mL rt n) (isC isB : List Nat) (mm : List Bool) (hw : isC.map (fun i => ws[i]?) = wc.map some) (hw2 : isC.filterMap (fun i => ws[i]?) = wc) (hn : va_nd isC = true) (hm : isC.all (fun i => mm[i]? == some true) = true) (hcl : vwCl[ci]? = some q9) (hCl : q9.1 = C) (he : wc[0]? = some (a, .inr (ci, fs)))
    (hAs : As.length = n) (hst : st = As.reverse ++ .ref a :: rest) (hrm : (rest.map fun v => v.category).sum ≤ 8) (hR : d + 1 ≤ R.frames ∧ 8 + (mL + 11) + 40 * d ≤ R.locals) (hcs : cells + mc ≤ R.cells ∧ slots + ms ≤ R.slots) (hdg : decode b0 pc = .ok (.invokevirtual idx, 3))
    (kk : ∀ (r : Int32) (u : S) (H1 : Heap) (locs1 : List Loc), post r u → va_P G.1 vwCl (mk_p mm ws (isB.filterMap (fun i => (w1 u)[i]?))) H1 → va_S A s.heap H1 locs1 → W p l e R s m args below meth c H1 locs1 (cells + mc) (slots + ms) Q (F0 m (pc + 3) ls (.int r :: rest))) : W p l e R s m args below meth c H locs cells slots Q (F0 m pc ls st) := by
  obtain ⟨hx, hb, hr, hml, hB, hown, hlocks, hnm⟩ := hC
  obtain ⟨⟨h1, h2, h3, h4, h5⟩, hy⟩ := hsite
  have hFc := va_free (wc := wc) hD hS hA isC hw
  refine va_calli (va_runV (As := As) (rest := rest) ⟨hx, hb, hml, hown, hB⟩ (hM H.size) (cwV n hB (gV h1 h2 h3 h4 h5) rfl rfl rfl hy hR) (preVo_of hO hS (fun q h => hFc q h) hK (hP.sub isC hw2) ((hD.sub isC hn hw).weaken (fun _ _ _ _ => trivial)) hcl hCl he) rfl hAs hl.1 hst (lv_room hrm) hdg hcs) hS (fun q _ h => hFc q h) hFc (fun r u t H1 locs1 ht hvm hp hBt hz hk hS1 => ?_)
  obtain ⟨hP1, hD1⟩ := hBt
  rw [ht] at hP1
  exact kk r u H1 locs1 hp (lk_P isB mm hP hD isC hw hm hk hP1) hS1
end LWS
section WR
variable {p : Program} {l : Launch} {e : Env} {R : Room} {s : State} {m : MethodId} {args : Array Value} {below : List Frame} {meth : Method} {c : Code} {H : Heap} {locs : List Loc} {cells slots : Nat} {Q : State → Prop}
variable {pc : Nat} {ls : Array Slot} {rest : List Value} {G : GG} {K : OO} {ws : va_W} {A : Nat → Prop} {y0 : MethodName} {b0 : ByteArray} {mL0 : Nat} {rt0 : Option FieldType} {a : Nat} {H0 : Heap}
end WR
/-! THE CLAIM OUT OF ONE WALK OF THE LAW'S BODY. Your part is whole_start (and what it stands on); all else here is the same for every law, but numbers. -/
def R_law : String := "InquiryBenchLaw"
def lw_P (b : Addr) (xs : List Int32) (args : Array Value) (s : State) : Prop := args = #[.ref b] ∧ s.IntsAt b xs ∧ xs.length ≤ 448 ∧ (Jvm.Cond.and given_1 narrow_1).before args s = true
def lw_Q (_ : Array Value) (s : State) (o : Outcome) (t : State) : Prop := o = .returned (some (.int 1)) ∧ Framed s o t [] 600000 7302250
def lw_Z (below : List Frame) (a : Array Value) (s : State) : State → Prop := fun t => ∃ o, t.status = .running ∧ Ended t below o ∧ lw_Q a s o t
/-- the law's own end, with 1 on the stack, nothing written that was there before, its room as the claim has it -/
theorem lw_ret {p : Program} {l : Launch} {e : Env} {s : State} {m : MethodId} {below : List Frame} {meth : Method} {c : Code} {b : Nat} (hx : p.tables.exec = Jvm.exec) (hb : c.code = code) (hr : meth.sig.returnType = ret) (hlocks : meth.locks = false) {pc : Nat} {H : Heap} {ls : Array Slot} (hdg : decode code pc = .ok (.ireturn, 1)) : W p l e room_1 s m #[Value.ref b] below meth c H [] 600000 7302250 (lw_Z below #[Value.ref b] s) (F0 m pc ls [.int 1]) := by
  intro T hT X
  obtain ⟨fs, hret, hrun, hended, hW, hframe⟩ := X.leave (v := some (.int 1)) (hlocks := hlocks) (fun h => by rw [hr] at h; cases h)
  have hmeth' : T.vm.method? m = some meth := X.method'
  refine ⟨T.setFrames fs, ?_, .returned (some (.int 1)), hrun, hended, rfl, ⟨_, rfl⟩, hW, hframe⟩
  jvm_step X.here [X.here.top, hx, hb, hdg, hmeth', hr, ret, narrow_b1]
  (try refine ⟨rfl, ?_⟩); (try refine ⟨rfl, ?_⟩)
  first | (intro acts; rw [hret _ acts rfl rfl rfl]) | rw [hret _ _ rfl rfl rfl]
  exact Steps.refl _
/-- what holds at the law's entry: the machine, the code, the tables' words (any of lw_tbl by 'hts w (by decide +kernel)'), the script of L ints xs at the cell b, what the Statement gives of the start (any of its parts by flat_of_before) -/
def lw_At (p : Program) (s : State) (m : MethodId) (meth : Method) (c : Code) (b L : Nat) (xs : Nat → Int32) : Prop :=
  p.tables.exec = Jvm.exec ∧ c.code = code ∧ meth.sig.returnType = ret ∧ c.maxLocals = 4 ∧ s.vm.findClass R_law = some m.cls ∧ (∀ w ∈ lw_tbl, w.before #[Value.ref b] s = true) ∧ va_X b L xs s s.heap ∧ b < s.heap.size ∧ meth.locks = false ∧ (Jvm.Cond.and given_1 narrow_1).before #[Value.ref b] s = true
theorem lw_in {L ki k : Nat} (hL : L ≤ 448) (hki : ki + 7 ≤ L) (hk : k < 7) : vp_in (nI (ki + k)) L := vp_in_nI (by omega) (by omega)
theorem lw_cl {L ki k : Nat} (hL : L ≤ 448) (hki : ki + 7 ≤ L) (hk : k < 7) : (nI (ki + k)).toNatClampNeg = ki + k := nI_clamp (by omega)
theorem lw_in0 {L ki : Nat} (hL : L ≤ 448) (hki : ki + 7 ≤ L) : vp_in (nI ki) L := vp_in_nI (by omega) (by omega)
theorem lw_cl0 {L ki : Nat} (hL : L ≤ 448) (hki : ki + 7 ≤ L) : (nI ki).toNatClampNeg = ki := nI_clamp (by omega)
theorem law_lt {L k : Nat} (hL : L ≤ 448) (hk : k ≤ 448) : (nI L - 7 < nI k) ↔ L < k + 7 := by
  have e7 : (7 : Int32).toInt = 7 := by decide
  rw [Int32.lt_iff_toInt_lt, Int32.toInt_sub, nI_ti (by omega), nI_ti (by omega), e7, bmod32 (by omega) (by omega)]
  omega
section WR
variable {p : Program} {l : Launch} {e : Env} {R : Room} {s : State} {m : MethodId} {args : Array Value} {below : List Frame} {meth : Method} {c : Code} {H : Heap} {locs : List Loc} {cells slots : Nat} {Q : State → Prop}
variable {pc : Nat} {ls : Array Slot} {rest : List Value} {G : GG} {K : OO} {ws : va_W} {A : Nat → Prop} {y0 : MethodName} {b0 : ByteArray} {mL0 : Nat} {rt0 : Option FieldType} {a : Nat} {H0 : Heap}
end WR
def LAWC (pc : Nat) : Prop := ∀ {p : Program} {l : Launch} {e : Env} {s : State} {m : MethodId} {below : List Frame} {meth : Method} {c : Code} {b L : Nat} {xs : Nat → Int32} {G : GG} {K : OO} {A : Nat → Prop} {hf : Nat → Option Nat} {xb bb cc sg do9 ru9 ta9 tp9 ro9 ho9 de9 bpersons bpapers bstamps bversions blines bsteps bsayings bfindings bwarnings bquestions bpersonsc bpapersc bstampsc bversionsc blinesc bstepsc bsayingsc bfindingsc bwarningsc bquestionsc cpersons cpapers cstamps cversions clines csteps csayings cfindings cwarnings cquestions cpersonsc cpapersc cstampsc cversionsc clinesc cstepsc csayingsc cfindingsc cwarningsc cquestionsc tby tln tsp tlnc tspc hs hz hi hw hn ht tr9 clk fi la ml mm sl sm clm hd kc0 km0 kc1 km1 kc2 km2 kc3 km3 kc4 km4 kc5 km5 kc6 km6 kc7 km7 kc8 km8 kc9 km9 kc10 km10 kc11 km11 kc12 km12 fc sh rr tc rrc xm nw nk nt nr nm ns nl nc nF np ntr nb nso nsi nit nsh nsf nss nrc : Nat} {kbpersons kbpapers kbstamps kbversions kblines kbsteps kbsayings kbfindings kbwarnings kbquestions kcpersons kcpapers kcstamps kcversions kclines kcsteps kcsayings kcfindings kcwarnings kcquestions kt ks kn kln ksp jr kr ytp yrm yjr : Nat} {ikp td vd vl gp ktd kvd kvl kgp tkd tf9 dk dn dp da dq cl bo le bi r1 rc rh tf tt9 tl tbv asd st9 tol mroundOf mroundFrom mfromHour mtoHour mfrom mto msort misFault mdeep mcoded mlines mbestCost mdealer mnumber mwhose msize misParted : Int32} {fbpersons fbpapers fbstamps fbversions fblines fbsteps fbsayings fbfindings fbwarnings fbquestions fcpersons fcpapers fcstamps fcversions fclines fcsteps fcsayings fcfindings fcwarnings fcquestions fby ftln ftsp fhw fhn ftr fhs fhz fhi fclm ffi fla fml fmm fsl fsm fk0 fk1 fk2 fk3 fk4 fk5 fk6 fk7 fk8 fk9 fk10 fk11 fk12 ffc fsh frr ftc fht y_nw y_nk y_nt y_nr y_nm y_ns y_nl y_nc y_np y_ntr y_nb y_nso y_nsi y_nit y_nsh y_nsf y_nss y_nrc : Nat → Int32} {H : Heap} {locs : List Loc} {ls : Array Slot} {ki : Nat} (hC : CX p s m meth c ⟨RL, meth.name, ""⟩ cL_law 4 ret #[Value.ref b]) (hK : KK G s) (hO : OX K A s s.heap) (hX : va_X b L xs s s.heap) (hL : L ≤ 448) (hbl : b < s.heap.size) (hbA : ¬ A b) (hA : ∀ q : Nat, s.heap.size ≤ q → A q) (hA2 : ∀ q : Nat, A q → s.heap.size ≤ q) (hki : ki + 7 ≤ L) (hf0 : hf 0 = some kc0) (hf1 : hf 1 = some kc1) (hf2 : hf 2 = some kc2) (hf3 : hf 3 = some kc3) (hf4 : hf 4 = some kc4) (hf5 : hf 5 = some kc5) (hf6 : hf 6 = some kc6) (hf7 : hf 7 = some kc7) (hf8 : hf 8 = some kc8) (hf9 : hf 9 = some kc9) (hf10 : hf 10 = some kc10) (hf11 : hf 11 = some kc11) (hf12 : hf 12 = some kc12) (i_kbpersons : kbpersons ≤ 10) (i_kbpapers : kbpapers ≤ 12) (i_kbstamps : kbstamps ≤ 24) (i_kbversions : kbversions ≤ 8) (i_kblines : kblines ≤ 72) (i_kbsteps : kbsteps ≤ 960) (i_kbsayings : kbsayings ≤ 16) (i_kbfindings : kbfindings ≤ 12) (i_kbwarnings : kbwarnings ≤ 16) (i_kbquestions : kbquestions ≤ 7) (i_kcpersons : kcpersons ≤ 10) (i_kcpapers : kcpapers ≤ 12) (i_kcstamps : kcstamps ≤ 24) (i_kcversions : kcversions ≤ 8) (i_kclines : kclines ≤ 72) (i_kcsteps : kcsteps ≤ 960) (i_kcsayings : kcsayings ≤ 16) (i_kcfindings : kcfindings ≤ 12) (i_kcwarnings : kcwarnings ≤ 16) (i_kcquestions : kcquestions ≤ 7) (i_kt : kt ≤ 240) (i_ks : ks ≤ 240) (i_kn : kn ≤ 240) (i_kln : kln ≤ 9) (i_ksp : ksp ≤ 120) (i_jr : jr ≤ 30) (i_kr : kr ≤ 7) (i_ytp : ytp ≤ 240) (i_yrm : yrm ≤ 7) (i_yjr : yjr ≤ 30) (i_tp : ytp = kt) (i_cl : cl = 0 ∨ cl = 1) (i_tol : tol = 0 ∨ tol = 1) (i_ikp : ikp = 0 ∨ ikp = 1) (i_nw : NI y_nw) (i_vw : VI y_nw) (i_nk : NI y_nk) (i_vk : VI y_nk) (i_mb : MB y_nm) (i_b6 : B66 y_ntr y_nb) (i_sz : SZ y_nsi) (i_sh : SHR fhs fhz fhi y_nso y_nsi y_nit) (i_sl : SLR fhw fhn fht y_nsh y_nsf y_nss) (i_sp : SPI fbsayings kbsayings kbpapers) (i_sq : SPI fcsayings kcsayings kcpapers) (i_sc : SCX y_nw td vd vl gp (nI kbpersons) (nI kbpapers) (nI kbstamps) (nI kbsayings) (nI kbfindings) (nI kbwarnings) (nI kbquestions)) (i_sk : ikp = 0 ∨ SCX y_nk ktd kvd kvl kgp (nI kcpersons) (nI kcpapers) (nI kcstamps) (nI kcsayings) (nI kcfindings) (nI kcwarnings) (nI kcquestions)) (i_epersons : EQT y_nw 12 20 fbpersons) (i_epapers : EQT y_nw 32 72 fbpapers) (i_estamps : EQT y_nw 104 72 fbstamps) (i_esayings : EQT y_nw 1424 128 fbsayings) (i_efindings : EQT y_nw 1552 48 fbfindings) (i_ewarnings : EQT y_nw 1600 48 fbwarnings) (i_equestions : EQT y_nw 1648 14 fbquestions) (i_kpersons : EQT y_nk 12 20 fcpersons) (i_kpapers : EQT y_nk 32 72 fcpapers) (i_kstamps : EQT y_nk 104 72 fcstamps) (i_ksayings : EQT y_nk 1424 128 fcsayings) (i_kfindings : EQT y_nk 1552 48 fcfindings) (i_kwarnings : EQT y_nk 1600 48 fcwarnings) (i_kquestions : EQT y_nk 1648 14 fcquestions) (hback : ∀ (kbpersons kbpapers kbstamps kbversions kblines kbsteps kbsayings kbfindings kbwarnings kbquestions kcpersons kcpapers kcstamps kcversions kclines kcsteps kcsayings kcfindings kcwarnings kcquestions kt ks kn kln ksp jr kr ytp yrm yjr : Nat) (ikp td vd vl gp ktd kvd kvl kgp tkd tf9 dk dn dp da dq cl bo le bi r1 rc rh tf tt9 tl tbv asd st9 tol mroundOf mroundFrom mfromHour mtoHour mfrom mto msort misFault mdeep mcoded mlines mbestCost mdealer mnumber mwhose msize misParted : Int32) (fbpersons fbpapers fbstamps fbversions fblines fbsteps fbsayings fbfindings fbwarnings fbquestions fcpersons fcpapers fcstamps fcversions fclines fcsteps fcsayings fcfindings fcwarnings fcquestions fby ftln ftsp fhw fhn ftr fhs fhz fhi fclm ffi fla fml fmm fsl fsm fk0 fk1 fk2 fk3 fk4 fk5 fk6 fk7 fk8 fk9 fk10 fk11 fk12 ffc fsh frr ftc fht y_nw y_nk y_nt y_nr y_nm y_ns y_nl y_nc y_np y_ntr y_nb y_nso y_nsi y_nit y_nsh y_nsf y_nss y_nrc : Nat → Int32) (H : Heap) (locs : List Loc) (ls : Array Slot), (kbpersons ≤ 10) → (kbpapers ≤ 12) → (kbstamps ≤ 24) → (kbversions ≤ 8) → (kblines ≤ 72) → (kbsteps ≤ 960) → (kbsayings ≤ 16) → (kbfindings ≤ 12) → (kbwarnings ≤ 16) → (kbquestions ≤ 7) → (kcpersons ≤ 10) → (kcpapers ≤ 12) → (kcstamps ≤ 24) → (kcversions ≤ 8) → (kclines ≤ 72) → (kcsteps ≤ 960) → (kcsayings ≤ 16) → (kcfindings ≤ 12) → (kcwarnings ≤ 16) → (kcquestions ≤ 7) → (kt ≤ 240) → (ks ≤ 240) → (kn ≤ 240) → (kln ≤ 9) → (ksp ≤ 120) → (jr ≤ 30) → (kr ≤ 7) → (ytp ≤ 240) → (yrm ≤ 7) → (yjr ≤ 30) → (ytp = kt) → (cl = 0 ∨ cl = 1) → (tol = 0 ∨ tol = 1) → (ikp = 0 ∨ ikp = 1) → (NI y_nw) → (VI y_nw) → (NI y_nk) → (VI y_nk) → (MB y_nm) → (B66 y_ntr y_nb) → (SZ y_nsi) → (SHR fhs fhz fhi y_nso y_nsi y_nit) → (SLR fhw fhn fht y_nsh y_nsf y_nss) → (SPI fbsayings kbsayings kbpapers) → (SPI fcsayings kcsayings kcpapers) → (SCX y_nw td vd vl gp (nI kbpersons) (nI kbpapers) (nI kbstamps) (nI kbsayings) (nI kbfindings) (nI kbwarnings) (nI kbquestions)) → (ikp = 0 ∨ SCX y_nk ktd kvd kvl kgp (nI kcpersons) (nI kcpapers) (nI kcstamps) (nI kcsayings) (nI kcfindings) (nI kcwarnings) (nI kcquestions)) → (EQT y_nw 12 20 fbpersons) → (EQT y_nw 32 72 fbpapers) → (EQT y_nw 104 72 fbstamps) → (EQT y_nw 1424 128 fbsayings) → (EQT y_nw 1552 48 fbfindings) → (EQT y_nw 1600 48 fbwarnings) → (EQT y_nw 1648 14 fbquestions) → (EQT y_nk 12 20 fcpersons) → (EQT y_nk 32 72 fcpapers) → (EQT y_nk 104 72 fcstamps) → (EQT y_nk 1424 128 fcsayings) → (EQT y_nk 1552 48 fcfindings) → (EQT y_nk 1600 48 fcwarnings) → (EQT y_nk 1648 14 fcquestions) → va_P G.1 vwCl (WLW G K hf xb bb cc sg do9 ru9 ta9 tp9 ro9 ho9 de9 bpersons bpapers bstamps bversions blines bsteps bsayings bfindings bwarnings bquestions bpersonsc bpapersc bstampsc bversionsc blinesc bstepsc bsayingsc bfindingsc bwarningsc bquestionsc cpersons cpapers cstamps cversions clines csteps csayings cfindings cwarnings cquestions cpersonsc cpapersc cstampsc cversionsc clinesc cstepsc csayingsc cfindingsc cwarningsc cquestionsc tby tln tsp tlnc tspc hs hz hi hw hn ht tr9 clk fi la ml mm sl sm clm hd kc0 km0 kc1 km1 kc2 km2 kc3 km3 kc4 km4 kc5 km5 kc6 km6 kc7 km7 kc8 km8 kc9 km9 kc10 km10 kc11 km11 kc12 km12 fc sh rr tc rrc xm nw nk nt nr nm ns nl nc nF np ntr nb nso nsi nit nsh nsf nss nrc kbpersons kbpapers kbstamps kbversions kblines kbsteps kbsayings kbfindings kbwarnings kbquestions kcpersons kcpapers kcstamps kcversions kclines kcsteps kcsayings kcfindings kcwarnings kcquestions kt ks kn kln ksp jr kr ytp yrm yjr ikp td vd vl gp ktd kvd kvl kgp tkd tf9 dk dn dp da dq cl bo le bi r1 rc rh tf tt9 tl tbv asd st9 tol mroundOf mroundFrom mfromHour mtoHour mfrom mto msort misFault mdeep mcoded mlines mbestCost mdealer mnumber mwhose msize misParted fbpersons fbpapers fbstamps fbversions fblines fbsteps fbsayings fbfindings fbwarnings fbquestions fcpersons fcpapers fcstamps fcversions fclines fcsteps fcsayings fcfindings fcwarnings fcquestions fby ftln ftsp fhw fhn ftr fhs fhz fhi fclm ffi fla fml fmm fsl fsm fk0 fk1 fk2 fk3 fk4 fk5 fk6 fk7 fk8 fk9 fk10 fk11 fk12 ffc fsh frr ftc fht y_nw y_nk y_nt y_nr y_nm y_ns y_nl y_nc y_np y_ntr y_nb y_nso y_nsi y_nit y_nsh y_nsf y_nss y_nrc) H → va_D A (WLW G K hf xb bb cc sg do9 ru9 ta9 tp9 ro9 ho9 de9 bpersons bpapers bstamps bversions blines bsteps bsayings bfindings bwarnings bquestions bpersonsc bpapersc bstampsc bversionsc blinesc bstepsc bsayingsc bfindingsc bwarningsc bquestionsc cpersons cpapers cstamps cversions clines csteps csayings cfindings cwarnings cquestions cpersonsc cpapersc cstampsc cversionsc clinesc cstepsc csayingsc cfindingsc cwarningsc cquestionsc tby tln tsp tlnc tspc hs hz hi hw hn ht tr9 clk fi la ml mm sl sm clm hd kc0 km0 kc1 km1 kc2 km2 kc3 km3 kc4 km4 kc5 km5 kc6 km6 kc7 km7 kc8 km8 kc9 km9 kc10 km10 kc11 km11 kc12 km12 fc sh rr tc rrc xm nw nk nt nr nm ns nl nc nF np ntr nb nso nsi nit nsh nsf nss nrc kbpersons kbpapers kbstamps kbversions kblines kbsteps kbsayings kbfindings kbwarnings kbquestions kcpersons kcpapers kcstamps kcversions kclines kcsteps kcsayings kcfindings kcwarnings kcquestions kt ks kn kln ksp jr kr ytp yrm yjr ikp td vd vl gp ktd kvd kvl kgp tkd tf9 dk dn dp da dq cl bo le bi r1 rc rh tf tt9 tl tbv asd st9 tol mroundOf mroundFrom mfromHour mtoHour mfrom mto msort misFault mdeep mcoded mlines mbestCost mdealer mnumber mwhose msize misParted fbpersons fbpapers fbstamps fbversions fblines fbsteps fbsayings fbfindings fbwarnings fbquestions fcpersons fcpapers fcstamps fcversions fclines fcsteps fcsayings fcfindings fcwarnings fcquestions fby ftln ftsp fhw fhn ftr fhs fhz fhi fclm ffi fla fml fmm fsl fsm fk0 fk1 fk2 fk3 fk4 fk5 fk6 fk7 fk8 fk9 fk10 fk11 fk12 ffc fsh frr ftc fht y_nw y_nk y_nt y_nr y_nm y_ns y_nl y_nc y_np y_ntr y_nb y_nso y_nsi y_nit y_nsh y_nsf y_nss y_nrc) → va_S A s.heap H locs → lv_has ls 4 [(3, .int (nI ki)), (2, .ref xm), (1, .ref xb), (0, .ref b)] → W p l e room_1 s m #[Value.ref b] below meth c H locs 123 9503 (lw_Z below #[Value.ref b] s) (F0 m 1718 ls [])) (hP : va_P G.1 vwCl (WLW G K hf xb bb cc sg do9 ru9 ta9 tp9 ro9 ho9 de9 bpersons bpapers bstamps bversions blines bsteps bsayings bfindings bwarnings bquestions bpersonsc bpapersc bstampsc bversionsc blinesc bstepsc bsayingsc bfindingsc bwarningsc bquestionsc cpersons cpapers cstamps cversions clines csteps csayings cfindings cwarnings cquestions cpersonsc cpapersc cstampsc cversionsc clinesc cstepsc csayingsc cfindingsc cwarningsc cquestionsc tby tln tsp tlnc tspc hs hz hi hw hn ht tr9 clk fi la ml mm sl sm clm hd kc0 km0 kc1 km1 kc2 km2 kc3 km3 kc4 km4 kc5 km5 kc6 km6 kc7 km7 kc8 km8 kc9 km9 kc10 km10 kc11 km11 kc12 km12 fc sh rr tc rrc xm nw nk nt nr nm ns nl nc nF np ntr nb nso nsi nit nsh nsf nss nrc kbpersons kbpapers kbstamps kbversions kblines kbsteps kbsayings kbfindings kbwarnings kbquestions kcpersons kcpapers kcstamps kcversions kclines kcsteps kcsayings kcfindings kcwarnings kcquestions kt ks kn kln ksp jr kr ytp yrm yjr ikp td vd vl gp ktd kvd kvl kgp tkd tf9 dk dn dp da dq cl bo le bi r1 rc rh tf tt9 tl tbv asd st9 tol mroundOf mroundFrom mfromHour mtoHour mfrom mto msort misFault mdeep mcoded mlines mbestCost mdealer mnumber mwhose msize misParted fbpersons fbpapers fbstamps fbversions fblines fbsteps fbsayings fbfindings fbwarnings fbquestions fcpersons fcpapers fcstamps fcversions fclines fcsteps fcsayings fcfindings fcwarnings fcquestions fby ftln ftsp fhw fhn ftr fhs fhz fhi fclm ffi fla fml fmm fsl fsm fk0 fk1 fk2 fk3 fk4 fk5 fk6 fk7 fk8 fk9 fk10 fk11 fk12 ffc fsh frr ftc fht y_nw y_nk y_nt y_nr y_nm y_ns y_nl y_nc y_np y_ntr y_nb y_nso y_nsi y_nit y_nsh y_nsf y_nss y_nrc) H) (hD : va_D A (WLW G K hf xb bb cc sg do9 ru9 ta9 tp9 ro9 ho9 de9 bpersons bpapers bstamps bversions blines bsteps bsayings bfindings bwarnings bquestions bpersonsc bpapersc bstampsc bversionsc blinesc bstepsc bsayingsc bfindingsc bwarningsc bquestionsc cpersons cpapers cstamps cversions clines csteps csayings cfindings cwarnings cquestions cpersonsc cpapersc cstampsc cversionsc clinesc cstepsc csayingsc cfindingsc cwarningsc cquestionsc tby tln tsp tlnc tspc hs hz hi hw hn ht tr9 clk fi la ml mm sl sm clm hd kc0 km0 kc1 km1 kc2 km2 kc3 km3 kc4 km4 kc5 km5 kc6 km6 kc7 km7 kc8 km8 kc9 km9 kc10 km10 kc11 km11 kc12 km12 fc sh rr tc rrc xm nw nk nt nr nm ns nl nc nF np ntr nb nso nsi nit nsh nsf nss nrc kbpersons kbpapers kbstamps kbversions kblines kbsteps kbsayings kbfindings kbwarnings kbquestions kcpersons kcpapers kcstamps kcversions kclines kcsteps kcsayings kcfindings kcwarnings kcquestions kt ks kn kln ksp jr kr ytp yrm yjr ikp td vd vl gp ktd kvd kvl kgp tkd tf9 dk dn dp da dq cl bo le bi r1 rc rh tf tt9 tl tbv asd st9 tol mroundOf mroundFrom mfromHour mtoHour mfrom mto msort misFault mdeep mcoded mlines mbestCost mdealer mnumber mwhose msize misParted fbpersons fbpapers fbstamps fbversions fblines fbsteps fbsayings fbfindings fbwarnings fbquestions fcpersons fcpapers fcstamps fcversions fclines fcsteps fcsayings fcfindings fcwarnings fcquestions fby ftln ftsp fhw fhn ftr fhs fhz fhi fclm ffi fla fml fmm fsl fsm fk0 fk1 fk2 fk3 fk4 fk5 fk6 fk7 fk8 fk9 fk10 fk11 fk12 ffc fsh frr ftc fht y_nw y_nk y_nt y_nr y_nm y_ns y_nl y_nc y_np y_ntr y_nb y_nso y_nsi y_nit y_nsh y_nsf y_nss y_nrc)) (hS : va_S A s.heap H locs) (hl : lv_has ls 4 [(3, .int (nI ki)), (2, .ref xm), (1, .ref xb), (0, .ref b)]), W p l e room_1 s m #[Value.ref b] below meth c H locs 123 9503 (lw_Z below #[Value.ref b] s) (F0 m pc ls [])
section WR
variable {p : Program} {l : Launch} {e : Env} {R : Room} {s : State} {m : MethodId} {args : Array Value} {below : List Frame} {meth : Method} {c : Code} {H : Heap} {locs : List Loc} {cells slots : Nat} {Q : State → Prop}
variable {pc : Nat} {ls : Array Slot} {rest : List Value} {G : GG} {K : OO} {ws : va_W} {A : Nat → Prop} {y0 : MethodName} {b0 : ByteArray} {mL0 : Nat} {rt0 : Option FieldType} {a : Nat} {H0 : Heap}
theorem dL_law_216 : decode cL_law 216 = .ok (.aload_n 1, 1) := by decide +kernel
theorem dL_law_217 : decode cL_law 217 = .ok (.aload_n 0, 1) := by decide +kernel
theorem dL_law_218 : decode cL_law 218 = .ok (.iload_n 3, 1) := by decide +kernel
theorem dL_law_219 : decode cL_law 219 = .ok (.iconst 1, 1) := by decide +kernel
theorem dL_law_220 : decode cL_law 220 = .ok (.iadd, 1) := by decide +kernel
theorem dL_law_221 : decode cL_law 221 = .ok (.iaload, 1) := by decide +kernel
theorem dL_law_222 : decode cL_law 222 = .ok (.invokevirtual 13, 3) := by decide +kernel
theorem m_291 : Cond.code yX11_days cX11_days 2 (some .int) ∈ BW := iB_BW15 _ (List.mem_of_getElem? (i := 17) rfl)
theorem m_288 : Cond.methodLink RL 13 yX11_days ∈ BW := iB_BW15 _ (List.mem_of_getElem? (i := 14) rfl)
theorem m_289 : Cond.instanceMethod yX11_days ∈ BW := iB_BW15 _ (List.mem_of_getElem? (i := 15) rfl)
theorem m_290 : Cond.selects RX11 yX11_days yX11_days ∈ BW := iB_BW15 _ (List.mem_of_getElem? (i := 16) rfl)
theorem si_L_13 : SV RL RX11 13 yX11_days cX11_days 2 (some .int) 1 := ⟨⟨m_288, m_289, m_290, m_102, m_291⟩, rfl, nK_RX11.1, nK_RX11.2, pd_7⟩
theorem dL_law_225 : decode cL_law 225 = .ok (.pop, 1) := by decide +kernel
theorem dL_law_226 : decode cL_law 226 = .ok (.aload_n 2, 1) := by decide +kernel
theorem dL_law_227 : decode cL_law 227 = .ok (.aload_n 0, 1) := by decide +kernel
theorem dL_law_228 : decode cL_law 228 = .ok (.iload_n 3, 1) := by decide +kernel
theorem dL_law_229 : decode cL_law 229 = .ok (.iconst 1, 1) := by decide +kernel
theorem dL_law_230 : decode cL_law 230 = .ok (.iadd, 1) := by decide +kernel
theorem dL_law_231 : decode cL_law 231 = .ok (.iaload, 1) := by decide +kernel
theorem dL_law_232 : decode cL_law 232 = .ok (.invokevirtual 17, 3) := by decide +kernel
theorem m_1074 : Cond.code yX12_days cX12_days 2 (some .int) ∈ BW := iB_BW57 _ (List.mem_of_getElem? (i := 3) rfl)
theorem m_1071 : Cond.methodLink RL 17 yX12_days ∈ BW := iB_BW57 _ (List.mem_of_getElem? (i := 0) rfl)
theorem m_1072 : Cond.instanceMethod yX12_days ∈ BW := iB_BW57 _ (List.mem_of_getElem? (i := 1) rfl)
theorem m_1073 : Cond.selects RX12 yX12_days yX12_days ∈ BW := iB_BW57 _ (List.mem_of_getElem? (i := 2) rfl)
theorem si_L_17 : SV RL RX12 17 yX12_days cX12_days 2 (some .int) 1 := ⟨⟨m_1071, m_1072, m_1073, m_115, m_1074⟩, rfl, nK_RX12.1, nK_RX12.2, pd_7⟩
theorem dL_law_235 : decode cL_law 235 = .ok (.pop, 1) := by decide +kernel
theorem dL_law_236 : decode cL_law 236 = .ok (.goto 1482, 3) := by decide +kernel
theorem dL_law_239 : decode cL_law 239 = .ok (.aload_n 1, 1) := by decide +kernel
theorem dL_law_240 : decode cL_law 240 = .ok (.aload_n 0, 1) := by decide +kernel
theorem dL_law_241 : decode cL_law 241 = .ok (.iload_n 3, 1) := by decide +kernel
theorem dL_law_242 : decode cL_law 242 = .ok (.iconst 1, 1) := by decide +kernel
theorem dL_law_243 : decode cL_law 243 = .ok (.iadd, 1) := by decide +kernel
theorem dL_law_244 : decode cL_law 244 = .ok (.iaload, 1) := by decide +kernel
theorem dL_law_245 : decode cL_law 245 = .ok (.aload_n 0, 1) := by decide +kernel
theorem dL_law_246 : decode cL_law 246 = .ok (.iload_n 3, 1) := by decide +kernel
theorem dL_law_247 : decode cL_law 247 = .ok (.iconst 2, 1) := by decide +kernel
theorem dL_law_248 : decode cL_law 248 = .ok (.iadd, 1) := by decide +kernel
theorem dL_law_249 : decode cL_law 249 = .ok (.iaload, 1) := by decide +kernel
theorem dL_law_250 : decode cL_law 250 = .ok (.invokevirtual 18, 3) := by decide +kernel
theorem m_298 : Cond.code yX11_view cX11_view 3 (some .int) ∈ BW := iB_BW16 _ (List.mem_of_getElem? (i := 4) rfl)
theorem m_295 : Cond.methodLink RL 18 yX11_view ∈ BW := iB_BW16 _ (List.mem_of_getElem? (i := 1) rfl)
theorem m_296 : Cond.instanceMethod yX11_view ∈ BW := iB_BW16 _ (List.mem_of_getElem? (i := 2) rfl)
theorem m_297 : Cond.selects RX11 yX11_view yX11_view ∈ BW := iB_BW16 _ (List.mem_of_getElem? (i := 3) rfl)
theorem si_L_18 : SV RL RX11 18 yX11_view cX11_view 3 (some .int) 2 := ⟨⟨m_295, m_296, m_297, m_102, m_298⟩, rfl, nK_RX11.1, nK_RX11.2, pd_2⟩
theorem dL_law_253 : decode cL_law 253 = .ok (.pop, 1) := by decide +kernel
theorem dL_law_254 : decode cL_law 254 = .ok (.aload_n 2, 1) := by decide +kernel
theorem dL_law_255 : decode cL_law 255 = .ok (.aload_n 0, 1) := by decide +kernel
theorem dL_law_256 : decode cL_law 256 = .ok (.iload_n 3, 1) := by decide +kernel
theorem dL_law_257 : decode cL_law 257 = .ok (.iconst 1, 1) := by decide +kernel
theorem dL_law_258 : decode cL_law 258 = .ok (.iadd, 1) := by decide +kernel
theorem dL_law_259 : decode cL_law 259 = .ok (.iaload, 1) := by decide +kernel
theorem dL_law_260 : decode cL_law 260 = .ok (.aload_n 0, 1) := by decide +kernel
theorem dL_law_261 : decode cL_law 261 = .ok (.iload_n 3, 1) := by decide +kernel
theorem dL_law_262 : decode cL_law 262 = .ok (.iconst 2, 1) := by decide +kernel
theorem dL_law_263 : decode cL_law 263 = .ok (.iadd, 1) := by decide +kernel
theorem dL_law_264 : decode cL_law 264 = .ok (.iaload, 1) := by decide +kernel
theorem dL_law_265 : decode cL_law 265 = .ok (.invokevirtual 22, 3) := by decide +kernel
theorem m_1081 : Cond.code yX12_view cX12_view 3 (some .int) ∈ BW := iB_BW57 _ (List.mem_of_getElem? (i := 10) rfl)
theorem m_1078 : Cond.methodLink RL 22 yX12_view ∈ BW := iB_BW57 _ (List.mem_of_getElem? (i := 7) rfl)
theorem m_1079 : Cond.instanceMethod yX12_view ∈ BW := iB_BW57 _ (List.mem_of_getElem? (i := 8) rfl)
theorem m_1080 : Cond.selects RX12 yX12_view yX12_view ∈ BW := iB_BW57 _ (List.mem_of_getElem? (i := 9) rfl)
theorem si_L_22 : SV RL RX12 22 yX12_view cX12_view 3 (some .int) 2 := ⟨⟨m_1078, m_1079, m_1080, m_115, m_1081⟩, rfl, nK_RX12.1, nK_RX12.2, pd_2⟩
theorem dL_law_268 : decode cL_law 268 = .ok (.pop, 1) := by decide +kernel
theorem dL_law_269 : decode cL_law 269 = .ok (.goto 1449, 3) := by decide +kernel
theorem dL_law_272 : decode cL_law 272 = .ok (.aload_n 1, 1) := by decide +kernel
theorem dL_law_273 : decode cL_law 273 = .ok (.aload_n 0, 1) := by decide +kernel
theorem dL_law_274 : decode cL_law 274 = .ok (.iload_n 3, 1) := by decide +kernel
theorem dL_law_275 : decode cL_law 275 = .ok (.iconst 1, 1) := by decide +kernel
theorem dL_law_276 : decode cL_law 276 = .ok (.iadd, 1) := by decide +kernel
theorem dL_law_277 : decode cL_law 277 = .ok (.iaload, 1) := by decide +kernel
theorem dL_law_278 : decode cL_law 278 = .ok (.aload_n 0, 1) := by decide +kernel
theorem dL_law_279 : decode cL_law 279 = .ok (.iload_n 3, 1) := by decide +kernel
theorem dL_law_280 : decode cL_law 280 = .ok (.iconst 2, 1) := by decide +kernel
theorem dL_law_281 : decode cL_law 281 = .ok (.iadd, 1) := by decide +kernel
theorem dL_law_282 : decode cL_law 282 = .ok (.iaload, 1) := by decide +kernel
theorem dL_law_283 : decode cL_law 283 = .ok (.invokevirtual 23, 3) := by decide +kernel
theorem m_324 : Cond.code yX11_person cX11_person 4 (some .int) ∈ BW := iB_BW17 _ (List.mem_of_getElem? (i := 10) rfl)
theorem m_321 : Cond.methodLink RL 23 yX11_person ∈ BW := iB_BW17 _ (List.mem_of_getElem? (i := 7) rfl)
theorem m_322 : Cond.instanceMethod yX11_person ∈ BW := iB_BW17 _ (List.mem_of_getElem? (i := 8) rfl)
theorem m_323 : Cond.selects RX11 yX11_person yX11_person ∈ BW := iB_BW17 _ (List.mem_of_getElem? (i := 9) rfl)
theorem si_L_23 : SV RL RX11 23 yX11_person cX11_person 4 (some .int) 2 := ⟨⟨m_321, m_322, m_323, m_102, m_324⟩, rfl, nK_RX11.1, nK_RX11.2, pd_2⟩
theorem dL_law_286 : decode cL_law 286 = .ok (.pop, 1) := by decide +kernel
theorem dL_law_287 : decode cL_law 287 = .ok (.aload_n 2, 1) := by decide +kernel
theorem dL_law_288 : decode cL_law 288 = .ok (.aload_n 0, 1) := by decide +kernel
theorem dL_law_289 : decode cL_law 289 = .ok (.iload_n 3, 1) := by decide +kernel
theorem dL_law_290 : decode cL_law 290 = .ok (.iconst 1, 1) := by decide +kernel
theorem dL_law_291 : decode cL_law 291 = .ok (.iadd, 1) := by decide +kernel
theorem dL_law_292 : decode cL_law 292 = .ok (.iaload, 1) := by decide +kernel
theorem dL_law_293 : decode cL_law 293 = .ok (.aload_n 0, 1) := by decide +kernel
theorem dL_law_294 : decode cL_law 294 = .ok (.iload_n 3, 1) := by decide +kernel
theorem dL_law_295 : decode cL_law 295 = .ok (.iconst 2, 1) := by decide +kernel
theorem dL_law_296 : decode cL_law 296 = .ok (.iadd, 1) := by decide +kernel
theorem dL_law_297 : decode cL_law 297 = .ok (.iaload, 1) := by decide +kernel
theorem dL_law_298 : decode cL_law 298 = .ok (.invokevirtual 26, 3) := by decide +kernel
theorem m_1103 : Cond.code yX12_person cX12_person 4 (some .int) ∈ BW := iB_BW58 _ (List.mem_of_getElem? (i := 12) rfl)
theorem m_1100 : Cond.methodLink RL 26 yX12_person ∈ BW := iB_BW58 _ (List.mem_of_getElem? (i := 9) rfl)
theorem m_1101 : Cond.instanceMethod yX12_person ∈ BW := iB_BW58 _ (List.mem_of_getElem? (i := 10) rfl)
theorem m_1102 : Cond.selects RX12 yX12_person yX12_person ∈ BW := iB_BW58 _ (List.mem_of_getElem? (i := 11) rfl)
theorem si_L_26 : SV RL RX12 26 yX12_person cX12_person 4 (some .int) 2 := ⟨⟨m_1100, m_1101, m_1102, m_115, m_1103⟩, rfl, nK_RX12.1, nK_RX12.2, pd_2⟩
theorem dL_law_301 : decode cL_law 301 = .ok (.pop, 1) := by decide +kernel
theorem dL_law_302 : decode cL_law 302 = .ok (.goto 1416, 3) := by decide +kernel
theorem dL_law_305 : decode cL_law 305 = .ok (.aload_n 1, 1) := by decide +kernel
theorem dL_law_306 : decode cL_law 306 = .ok (.aload_n 0, 1) := by decide +kernel
theorem dL_law_307 : decode cL_law 307 = .ok (.iload_n 3, 1) := by decide +kernel
theorem dL_law_308 : decode cL_law 308 = .ok (.iconst 1, 1) := by decide +kernel
theorem dL_law_309 : decode cL_law 309 = .ok (.iadd, 1) := by decide +kernel
theorem dL_law_310 : decode cL_law 310 = .ok (.iaload, 1) := by decide +kernel
theorem dL_law_311 : decode cL_law 311 = .ok (.aload_n 0, 1) := by decide +kernel
theorem dL_law_312 : decode cL_law 312 = .ok (.iload_n 3, 1) := by decide +kernel
theorem dL_law_313 : decode cL_law 313 = .ok (.iconst 2, 1) := by decide +kernel
theorem dL_law_314 : decode cL_law 314 = .ok (.iadd, 1) := by decide +kernel
theorem dL_law_315 : decode cL_law 315 = .ok (.iaload, 1) := by decide +kernel
theorem dL_law_316 : decode cL_law 316 = .ok (.invokevirtual 27, 3) := by decide +kernel
theorem m_340 : Cond.code yX11_personOf cX11_personOf 3 (some .int) ∈ BW := iB_BW18 _ (List.mem_of_getElem? (i := 6) rfl)
theorem m_337 : Cond.methodLink RL 27 yX11_personOf ∈ BW := iB_BW18 _ (List.mem_of_getElem? (i := 3) rfl)
theorem m_338 : Cond.instanceMethod yX11_personOf ∈ BW := iB_BW18 _ (List.mem_of_getElem? (i := 4) rfl)
theorem m_339 : Cond.selects RX11 yX11_personOf yX11_personOf ∈ BW := iB_BW18 _ (List.mem_of_getElem? (i := 5) rfl)
theorem si_L_27 : SV RL RX11 27 yX11_personOf cX11_personOf 3 (some .int) 2 := ⟨⟨m_337, m_338, m_339, m_102, m_340⟩, rfl, nK_RX11.1, nK_RX11.2, pd_2⟩
theorem dL_law_319 : decode cL_law 319 = .ok (.pop, 1) := by decide +kernel
theorem dL_law_320 : decode cL_law 320 = .ok (.aload_n 2, 1) := by decide +kernel
theorem dL_law_321 : decode cL_law 321 = .ok (.aload_n 0, 1) := by decide +kernel
theorem dL_law_322 : decode cL_law 322 = .ok (.iload_n 3, 1) := by decide +kernel
theorem dL_law_323 : decode cL_law 323 = .ok (.iconst 1, 1) := by decide +kernel
theorem dL_law_324 : decode cL_law 324 = .ok (.iadd, 1) := by decide +kernel
theorem dL_law_325 : decode cL_law 325 = .ok (.iaload, 1) := by decide +kernel
theorem dL_law_326 : decode cL_law 326 = .ok (.aload_n 0, 1) := by decide +kernel
theorem dL_law_327 : decode cL_law 327 = .ok (.iload_n 3, 1) := by decide +kernel
theorem dL_law_328 : decode cL_law 328 = .ok (.iconst 2, 1) := by decide +kernel
theorem dL_law_329 : decode cL_law 329 = .ok (.iadd, 1) := by decide +kernel
theorem dL_law_330 : decode cL_law 330 = .ok (.iaload, 1) := by decide +kernel
theorem dL_law_331 : decode cL_law 331 = .ok (.invokevirtual 30, 3) := by decide +kernel
theorem m_1107 : Cond.code yX12_personOf cX12_personOf 3 (some .int) ∈ BW := iB_BW58 _ (List.mem_of_getElem? (i := 16) rfl)
theorem m_1104 : Cond.methodLink RL 30 yX12_personOf ∈ BW := iB_BW58 _ (List.mem_of_getElem? (i := 13) rfl)
theorem m_1105 : Cond.instanceMethod yX12_personOf ∈ BW := iB_BW58 _ (List.mem_of_getElem? (i := 14) rfl)
theorem m_1106 : Cond.selects RX12 yX12_personOf yX12_personOf ∈ BW := iB_BW58 _ (List.mem_of_getElem? (i := 15) rfl)
theorem si_L_30 : SV RL RX12 30 yX12_personOf cX12_personOf 3 (some .int) 2 := ⟨⟨m_1104, m_1105, m_1106, m_115, m_1107⟩, rfl, nK_RX12.1, nK_RX12.2, pd_2⟩
theorem dL_law_334 : decode cL_law 334 = .ok (.pop, 1) := by decide +kernel
theorem dL_law_335 : decode cL_law 335 = .ok (.goto 1383, 3) := by decide +kernel
theorem dL_law_338 : decode cL_law 338 = .ok (.aload_n 1, 1) := by decide +kernel
theorem dL_law_339 : decode cL_law 339 = .ok (.aload_n 0, 1) := by decide +kernel
theorem dL_law_340 : decode cL_law 340 = .ok (.iload_n 3, 1) := by decide +kernel
theorem dL_law_341 : decode cL_law 341 = .ok (.iconst 1, 1) := by decide +kernel
theorem dL_law_342 : decode cL_law 342 = .ok (.iadd, 1) := by decide +kernel
theorem dL_law_343 : decode cL_law 343 = .ok (.iaload, 1) := by decide +kernel
theorem dL_law_344 : decode cL_law 344 = .ok (.aload_n 0, 1) := by decide +kernel
theorem dL_law_345 : decode cL_law 345 = .ok (.iload_n 3, 1) := by decide +kernel
theorem dL_law_346 : decode cL_law 346 = .ok (.iconst 2, 1) := by decide +kernel
theorem dL_law_347 : decode cL_law 347 = .ok (.iadd, 1) := by decide +kernel
theorem dL_law_348 : decode cL_law 348 = .ok (.iaload, 1) := by decide +kernel
theorem dL_law_349 : decode cL_law 349 = .ok (.aload_n 0, 1) := by decide +kernel
theorem dL_law_350 : decode cL_law 350 = .ok (.iload_n 3, 1) := by decide +kernel
theorem dL_law_351 : decode cL_law 351 = .ok (.iconst 3, 1) := by decide +kernel
theorem dL_law_352 : decode cL_law 352 = .ok (.iadd, 1) := by decide +kernel
theorem dL_law_353 : decode cL_law 353 = .ok (.iaload, 1) := by decide +kernel
theorem dL_law_354 : decode cL_law 354 = .ok (.aload_n 0, 1) := by decide +kernel
theorem dL_law_355 : decode cL_law 355 = .ok (.iload_n 3, 1) := by decide +kernel
theorem dL_law_356 : decode cL_law 356 = .ok (.iconst 4, 1) := by decide +kernel
theorem dL_law_357 : decode cL_law 357 = .ok (.iadd, 1) := by decide +kernel
theorem dL_law_358 : decode cL_law 358 = .ok (.iaload, 1) := by decide +kernel
theorem dL_law_359 : decode cL_law 359 = .ok (.invokevirtual 31, 3) := by decide +kernel
theorem m_367 : Cond.code yX11_paper cX11_paper 6 (some .int) ∈ BW := iB_BW20 _ (List.mem_of_getElem? (i := 11) rfl)
theorem m_364 : Cond.methodLink RL 31 yX11_paper ∈ BW := iB_BW20 _ (List.mem_of_getElem? (i := 8) rfl)
theorem m_365 : Cond.instanceMethod yX11_paper ∈ BW := iB_BW20 _ (List.mem_of_getElem? (i := 9) rfl)
theorem m_366 : Cond.selects RX11 yX11_paper yX11_paper ∈ BW := iB_BW20 _ (List.mem_of_getElem? (i := 10) rfl)
theorem si_L_31 : SV RL RX11 31 yX11_paper cX11_paper 6 (some .int) 4 := ⟨⟨m_364, m_365, m_366, m_102, m_367⟩, rfl, nK_RX11.1, nK_RX11.2, pd_17⟩
theorem dL_law_362 : decode cL_law 362 = .ok (.pop, 1) := by decide +kernel
theorem dL_law_363 : decode cL_law 363 = .ok (.aload_n 2, 1) := by decide +kernel
theorem dL_law_364 : decode cL_law 364 = .ok (.aload_n 0, 1) := by decide +kernel
theorem dL_law_365 : decode cL_law 365 = .ok (.iload_n 3, 1) := by decide +kernel
theorem dL_law_366 : decode cL_law 366 = .ok (.iconst 1, 1) := by decide +kernel
theorem dL_law_367 : decode cL_law 367 = .ok (.iadd, 1) := by decide +kernel
theorem dL_law_368 : decode cL_law 368 = .ok (.iaload, 1) := by decide +kernel
theorem dL_law_369 : decode cL_law 369 = .ok (.aload_n 0, 1) := by decide +kernel
theorem dL_law_370 : decode cL_law 370 = .ok (.iload_n 3, 1) := by decide +kernel
theorem dL_law_371 : decode cL_law 371 = .ok (.iconst 2, 1) := by decide +kernel
theorem dL_law_372 : decode cL_law 372 = .ok (.iadd, 1) := by decide +kernel
theorem dL_law_373 : decode cL_law 373 = .ok (.iaload, 1) := by decide +kernel
theorem dL_law_374 : decode cL_law 374 = .ok (.aload_n 0, 1) := by decide +kernel
theorem dL_law_375 : decode cL_law 375 = .ok (.iload_n 3, 1) := by decide +kernel
theorem dL_law_376 : decode cL_law 376 = .ok (.iconst 3, 1) := by decide +kernel
theorem dL_law_377 : decode cL_law 377 = .ok (.iadd, 1) := by decide +kernel
theorem dL_law_378 : decode cL_law 378 = .ok (.iaload, 1) := by decide +kernel
theorem dL_law_379 : decode cL_law 379 = .ok (.aload_n 0, 1) := by decide +kernel
theorem dL_law_380 : decode cL_law 380 = .ok (.iload_n 3, 1) := by decide +kernel
theorem dL_law_381 : decode cL_law 381 = .ok (.iconst 4, 1) := by decide +kernel
theorem dL_law_382 : decode cL_law 382 = .ok (.iadd, 1) := by decide +kernel
theorem dL_law_383 : decode cL_law 383 = .ok (.iaload, 1) := by decide +kernel
theorem dL_law_384 : decode cL_law 384 = .ok (.invokevirtual 35, 3) := by decide +kernel
theorem m_1126 : Cond.code yX12_paper_ cX12_paper_ 7 (some .int) ∈ BW := iB_BW59 _ (List.mem_of_getElem? (i := 15) rfl)
theorem m_1123 : Cond.methodLink RL 35 yX12_paper_ ∈ BW := iB_BW59 _ (List.mem_of_getElem? (i := 12) rfl)
theorem m_1124 : Cond.instanceMethod yX12_paper_ ∈ BW := iB_BW59 _ (List.mem_of_getElem? (i := 13) rfl)
theorem m_1125 : Cond.selects RX12 yX12_paper_ yX12_paper_ ∈ BW := iB_BW59 _ (List.mem_of_getElem? (i := 14) rfl)
theorem si_L_35 : SV RL RX12 35 yX12_paper_ cX12_paper_ 7 (some .int) 4 := ⟨⟨m_1123, m_1124, m_1125, m_115, m_1126⟩, rfl, nK_RX12.1, nK_RX12.2, pd_17⟩
theorem dL_law_387 : decode cL_law 387 = .ok (.pop, 1) := by decide +kernel
theorem dL_law_388 : decode cL_law 388 = .ok (.goto 1330, 3) := by decide +kernel
theorem dL_law_391 : decode cL_law 391 = .ok (.aload_n 1, 1) := by decide +kernel
theorem dL_law_392 : decode cL_law 392 = .ok (.aload_n 0, 1) := by decide +kernel
theorem dL_law_393 : decode cL_law 393 = .ok (.iload_n 3, 1) := by decide +kernel
theorem dL_law_394 : decode cL_law 394 = .ok (.iconst 1, 1) := by decide +kernel
theorem dL_law_395 : decode cL_law 395 = .ok (.iadd, 1) := by decide +kernel
theorem dL_law_396 : decode cL_law 396 = .ok (.iaload, 1) := by decide +kernel
theorem dL_law_397 : decode cL_law 397 = .ok (.invokevirtual 36, 3) := by decide +kernel
theorem m_378 : Cond.code yX11_lose cX11_lose 2 (some .int) ∈ BW := iB_BW21 _ (List.mem_of_getElem? (i := 2) rfl)
theorem m_375 : Cond.methodLink RL 36 yX11_lose ∈ BW := iB_BW20 _ (List.mem_of_getElem? (i := 19) rfl)
theorem m_376 : Cond.instanceMethod yX11_lose ∈ BW := iB_BW21 _ (List.mem_of_getElem? (i := 0) rfl)
theorem m_377 : Cond.selects RX11 yX11_lose yX11_lose ∈ BW := iB_BW21 _ (List.mem_of_getElem? (i := 1) rfl)
theorem si_L_36 : SV RL RX11 36 yX11_lose cX11_lose 2 (some .int) 1 := ⟨⟨m_375, m_376, m_377, m_102, m_378⟩, rfl, nK_RX11.1, nK_RX11.2, pd_7⟩
theorem dL_law_400 : decode cL_law 400 = .ok (.pop, 1) := by decide +kernel
theorem dL_law_401 : decode cL_law 401 = .ok (.aload_n 2, 1) := by decide +kernel
theorem dL_law_402 : decode cL_law 402 = .ok (.aload_n 0, 1) := by decide +kernel
theorem dL_law_403 : decode cL_law 403 = .ok (.iload_n 3, 1) := by decide +kernel
theorem dL_law_404 : decode cL_law 404 = .ok (.iconst 1, 1) := by decide +kernel
theorem dL_law_405 : decode cL_law 405 = .ok (.iadd, 1) := by decide +kernel
theorem dL_law_406 : decode cL_law 406 = .ok (.iaload, 1) := by decide +kernel
theorem dL_law_407 : decode cL_law 407 = .ok (.invokevirtual 39, 3) := by decide +kernel
theorem m_1130 : Cond.code yX12_lose cX12_lose 2 (some .int) ∈ BW := iB_BW59 _ (List.mem_of_getElem? (i := 19) rfl)
theorem m_1127 : Cond.methodLink RL 39 yX12_lose ∈ BW := iB_BW59 _ (List.mem_of_getElem? (i := 16) rfl)
theorem m_1128 : Cond.instanceMethod yX12_lose ∈ BW := iB_BW59 _ (List.mem_of_getElem? (i := 17) rfl)
theorem m_1129 : Cond.selects RX12 yX12_lose yX12_lose ∈ BW := iB_BW59 _ (List.mem_of_getElem? (i := 18) rfl)
theorem si_L_39 : SV RL RX12 39 yX12_lose cX12_lose 2 (some .int) 1 := ⟨⟨m_1127, m_1128, m_1129, m_115, m_1130⟩, rfl, nK_RX12.1, nK_RX12.2, pd_7⟩
theorem dL_law_410 : decode cL_law 410 = .ok (.pop, 1) := by decide +kernel
theorem dL_law_411 : decode cL_law 411 = .ok (.goto 1307, 3) := by decide +kernel
theorem dL_law_414 : decode cL_law 414 = .ok (.aload_n 1, 1) := by decide +kernel
theorem dL_law_415 : decode cL_law 415 = .ok (.aload_n 0, 1) := by decide +kernel
theorem dL_law_416 : decode cL_law 416 = .ok (.iload_n 3, 1) := by decide +kernel
theorem dL_law_417 : decode cL_law 417 = .ok (.iconst 1, 1) := by decide +kernel
theorem dL_law_418 : decode cL_law 418 = .ok (.iadd, 1) := by decide +kernel
theorem dL_law_419 : decode cL_law 419 = .ok (.iaload, 1) := by decide +kernel
theorem dL_law_420 : decode cL_law 420 = .ok (.aload_n 0, 1) := by decide +kernel
theorem dL_law_421 : decode cL_law 421 = .ok (.iload_n 3, 1) := by decide +kernel
theorem dL_law_422 : decode cL_law 422 = .ok (.iconst 2, 1) := by decide +kernel
theorem dL_law_423 : decode cL_law 423 = .ok (.iadd, 1) := by decide +kernel
theorem dL_law_424 : decode cL_law 424 = .ok (.iaload, 1) := by decide +kernel
theorem dL_law_425 : decode cL_law 425 = .ok (.invokevirtual 40, 3) := by decide +kernel
theorem m_382 : Cond.code yX11_paperOf cX11_paperOf 3 (some .int) ∈ BW := iB_BW21 _ (List.mem_of_getElem? (i := 6) rfl)
theorem m_379 : Cond.methodLink RL 40 yX11_paperOf ∈ BW := iB_BW21 _ (List.mem_of_getElem? (i := 3) rfl)
theorem m_380 : Cond.instanceMethod yX11_paperOf ∈ BW := iB_BW21 _ (List.mem_of_getElem? (i := 4) rfl)
theorem m_381 : Cond.selects RX11 yX11_paperOf yX11_paperOf ∈ BW := iB_BW21 _ (List.mem_of_getElem? (i := 5) rfl)
theorem si_L_40 : SV RL RX11 40 yX11_paperOf cX11_paperOf 3 (some .int) 2 := ⟨⟨m_379, m_380, m_381, m_102, m_382⟩, rfl, nK_RX11.1, nK_RX11.2, pd_2⟩
theorem dL_law_428 : decode cL_law 428 = .ok (.pop, 1) := by decide +kernel
theorem dL_law_429 : decode cL_law 429 = .ok (.aload_n 2, 1) := by decide +kernel
theorem dL_law_430 : decode cL_law 430 = .ok (.aload_n 0, 1) := by decide +kernel
theorem dL_law_431 : decode cL_law 431 = .ok (.iload_n 3, 1) := by decide +kernel
theorem dL_law_432 : decode cL_law 432 = .ok (.iconst 1, 1) := by decide +kernel
theorem dL_law_433 : decode cL_law 433 = .ok (.iadd, 1) := by decide +kernel
theorem dL_law_434 : decode cL_law 434 = .ok (.iaload, 1) := by decide +kernel
theorem dL_law_435 : decode cL_law 435 = .ok (.aload_n 0, 1) := by decide +kernel
theorem dL_law_436 : decode cL_law 436 = .ok (.iload_n 3, 1) := by decide +kernel
theorem dL_law_437 : decode cL_law 437 = .ok (.iconst 2, 1) := by decide +kernel
theorem dL_law_438 : decode cL_law 438 = .ok (.iadd, 1) := by decide +kernel
theorem dL_law_439 : decode cL_law 439 = .ok (.iaload, 1) := by decide +kernel
theorem dL_law_440 : decode cL_law 440 = .ok (.invokevirtual 43, 3) := by decide +kernel
theorem m_1134 : Cond.code yX12_paperOf cX12_paperOf 3 (some .int) ∈ BW := iB_BW61 _ (List.mem_of_getElem? (i := 2) rfl)
theorem m_1131 : Cond.methodLink RL 43 yX12_paperOf ∈ BW := iB_BW60 _ (List.mem_of_getElem? (i := 0) rfl)
theorem m_1132 : Cond.instanceMethod yX12_paperOf ∈ BW := iB_BW61 _ (List.mem_of_getElem? (i := 0) rfl)
theorem m_1133 : Cond.selects RX12 yX12_paperOf yX12_paperOf ∈ BW := iB_BW61 _ (List.mem_of_getElem? (i := 1) rfl)
theorem si_L_43 : SV RL RX12 43 yX12_paperOf cX12_paperOf 3 (some .int) 2 := ⟨⟨m_1131, m_1132, m_1133, m_115, m_1134⟩, rfl, nK_RX12.1, nK_RX12.2, pd_2⟩
theorem dL_law_443 : decode cL_law 443 = .ok (.pop, 1) := by decide +kernel
theorem dL_law_444 : decode cL_law 444 = .ok (.goto 1274, 3) := by decide +kernel
theorem dL_law_447 : decode cL_law 447 = .ok (.aload_n 1, 1) := by decide +kernel
theorem dL_law_448 : decode cL_law 448 = .ok (.aload_n 0, 1) := by decide +kernel
theorem dL_law_449 : decode cL_law 449 = .ok (.iload_n 3, 1) := by decide +kernel
theorem dL_law_450 : decode cL_law 450 = .ok (.iconst 1, 1) := by decide +kernel
theorem dL_law_451 : decode cL_law 451 = .ok (.iadd, 1) := by decide +kernel
theorem dL_law_452 : decode cL_law 452 = .ok (.iaload, 1) := by decide +kernel
theorem dL_law_453 : decode cL_law 453 = .ok (.aload_n 0, 1) := by decide +kernel
theorem dL_law_454 : decode cL_law 454 = .ok (.iload_n 3, 1) := by decide +kernel
theorem dL_law_455 : decode cL_law 455 = .ok (.iconst 2, 1) := by decide +kernel
theorem dL_law_456 : decode cL_law 456 = .ok (.iadd, 1) := by decide +kernel
theorem dL_law_457 : decode cL_law 457 = .ok (.iaload, 1) := by decide +kernel
theorem dL_law_458 : decode cL_law 458 = .ok (.aload_n 0, 1) := by decide +kernel
theorem dL_law_459 : decode cL_law 459 = .ok (.iload_n 3, 1) := by decide +kernel
theorem dL_law_460 : decode cL_law 460 = .ok (.iconst 3, 1) := by decide +kernel
theorem dL_law_461 : decode cL_law 461 = .ok (.iadd, 1) := by decide +kernel
theorem dL_law_462 : decode cL_law 462 = .ok (.iaload, 1) := by decide +kernel
theorem dL_law_463 : decode cL_law 463 = .ok (.invokevirtual 44, 3) := by decide +kernel
theorem m_391 : Cond.code yX11_stamp cX11_stamp 4 (some .int) ∈ BW := iB_BW21 _ (List.mem_of_getElem? (i := 15) rfl)
theorem m_388 : Cond.methodLink RL 44 yX11_stamp ∈ BW := iB_BW21 _ (List.mem_of_getElem? (i := 12) rfl)
theorem m_389 : Cond.instanceMethod yX11_stamp ∈ BW := iB_BW21 _ (List.mem_of_getElem? (i := 13) rfl)
theorem m_390 : Cond.selects RX11 yX11_stamp yX11_stamp ∈ BW := iB_BW21 _ (List.mem_of_getElem? (i := 14) rfl)
theorem si_L_44 : SV RL RX11 44 yX11_stamp cX11_stamp 4 (some .int) 3 := ⟨⟨m_388, m_389, m_390, m_102, m_391⟩, rfl, nK_RX11.1, nK_RX11.2, pd_19⟩
theorem dL_law_466 : decode cL_law 466 = .ok (.pop, 1) := by decide +kernel
theorem dL_law_467 : decode cL_law 467 = .ok (.aload_n 2, 1) := by decide +kernel
theorem dL_law_468 : decode cL_law 468 = .ok (.aload_n 0, 1) := by decide +kernel
theorem dL_law_469 : decode cL_law 469 = .ok (.iload_n 3, 1) := by decide +kernel
theorem dL_law_470 : decode cL_law 470 = .ok (.iconst 1, 1) := by decide +kernel
theorem dL_law_471 : decode cL_law 471 = .ok (.iadd, 1) := by decide +kernel
theorem dL_law_472 : decode cL_law 472 = .ok (.iaload, 1) := by decide +kernel
theorem dL_law_473 : decode cL_law 473 = .ok (.aload_n 0, 1) := by decide +kernel
theorem dL_law_474 : decode cL_law 474 = .ok (.iload_n 3, 1) := by decide +kernel
theorem dL_law_475 : decode cL_law 475 = .ok (.iconst 2, 1) := by decide +kernel
theorem dL_law_476 : decode cL_law 476 = .ok (.iadd, 1) := by decide +kernel
theorem dL_law_477 : decode cL_law 477 = .ok (.iaload, 1) := by decide +kernel
theorem dL_law_478 : decode cL_law 478 = .ok (.aload_n 0, 1) := by decide +kernel
theorem dL_law_479 : decode cL_law 479 = .ok (.iload_n 3, 1) := by decide +kernel
theorem dL_law_480 : decode cL_law 480 = .ok (.iconst 3, 1) := by decide +kernel
theorem dL_law_481 : decode cL_law 481 = .ok (.iadd, 1) := by decide +kernel
theorem dL_law_482 : decode cL_law 482 = .ok (.iaload, 1) := by decide +kernel
theorem dL_law_483 : decode cL_law 483 = .ok (.invokevirtual 48, 3) := by decide +kernel
theorem m_1141 : Cond.code yX12_stamp cX12_stamp 4 (some .int) ∈ BW := iB_BW61 _ (List.mem_of_getElem? (i := 9) rfl)
theorem m_1138 : Cond.methodLink RL 48 yX12_stamp ∈ BW := iB_BW61 _ (List.mem_of_getElem? (i := 6) rfl)
theorem m_1139 : Cond.instanceMethod yX12_stamp ∈ BW := iB_BW61 _ (List.mem_of_getElem? (i := 7) rfl)
theorem m_1140 : Cond.selects RX12 yX12_stamp yX12_stamp ∈ BW := iB_BW61 _ (List.mem_of_getElem? (i := 8) rfl)
theorem si_L_48 : SV RL RX12 48 yX12_stamp cX12_stamp 4 (some .int) 3 := ⟨⟨m_1138, m_1139, m_1140, m_115, m_1141⟩, rfl, nK_RX12.1, nK_RX12.2, pd_19⟩
theorem dL_law_486 : decode cL_law 486 = .ok (.pop, 1) := by decide +kernel
theorem dL_law_487 : decode cL_law 487 = .ok (.goto 1231, 3) := by decide +kernel
theorem dL_law_490 : decode cL_law 490 = .ok (.aload_n 1, 1) := by decide +kernel
theorem dL_law_491 : decode cL_law 491 = .ok (.aload_n 0, 1) := by decide +kernel
theorem dL_law_492 : decode cL_law 492 = .ok (.iload_n 3, 1) := by decide +kernel
theorem dL_law_493 : decode cL_law 493 = .ok (.iconst 1, 1) := by decide +kernel
theorem dL_law_494 : decode cL_law 494 = .ok (.iadd, 1) := by decide +kernel
theorem dL_law_495 : decode cL_law 495 = .ok (.iaload, 1) := by decide +kernel
theorem dL_law_496 : decode cL_law 496 = .ok (.aload_n 0, 1) := by decide +kernel
theorem dL_law_497 : decode cL_law 497 = .ok (.iload_n 3, 1) := by decide +kernel
theorem dL_law_498 : decode cL_law 498 = .ok (.iconst 2, 1) := by decide +kernel
theorem dL_law_499 : decode cL_law 499 = .ok (.iadd, 1) := by decide +kernel
theorem dL_law_500 : decode cL_law 500 = .ok (.iaload, 1) := by decide +kernel
theorem dL_law_501 : decode cL_law 501 = .ok (.aload_n 0, 1) := by decide +kernel
theorem dL_law_502 : decode cL_law 502 = .ok (.iload_n 3, 1) := by decide +kernel
theorem dL_law_503 : decode cL_law 503 = .ok (.iconst 3, 1) := by decide +kernel
theorem dL_law_504 : decode cL_law 504 = .ok (.iadd, 1) := by decide +kernel
theorem dL_law_505 : decode cL_law 505 = .ok (.iaload, 1) := by decide +kernel
theorem dL_law_506 : decode cL_law 506 = .ok (.aload_n 0, 1) := by decide +kernel
theorem dL_law_507 : decode cL_law 507 = .ok (.iload_n 3, 1) := by decide +kernel
theorem dL_law_508 : decode cL_law 508 = .ok (.iconst 4, 1) := by decide +kernel
theorem dL_law_509 : decode cL_law 509 = .ok (.iadd, 1) := by decide +kernel
theorem dL_law_510 : decode cL_law 510 = .ok (.iaload, 1) := by decide +kernel
theorem dL_law_511 : decode cL_law 511 = .ok (.invokevirtual 49, 3) := by decide +kernel
theorem m_404 : Cond.code yX11_stamps cX11_stamps 7 (some .int) ∈ BW := iB_BW22 _ (List.mem_of_getElem? (i := 8) rfl)
theorem m_401 : Cond.methodLink RL 49 yX11_stamps ∈ BW := iB_BW22 _ (List.mem_of_getElem? (i := 5) rfl)
theorem m_402 : Cond.instanceMethod yX11_stamps ∈ BW := iB_BW22 _ (List.mem_of_getElem? (i := 6) rfl)
theorem m_403 : Cond.selects RX11 yX11_stamps yX11_stamps ∈ BW := iB_BW22 _ (List.mem_of_getElem? (i := 7) rfl)
theorem si_L_49 : SV RL RX11 49 yX11_stamps cX11_stamps 7 (some .int) 4 := ⟨⟨m_401, m_402, m_403, m_102, m_404⟩, rfl, nK_RX11.1, nK_RX11.2, pd_17⟩
theorem dL_law_514 : decode cL_law 514 = .ok (.pop, 1) := by decide +kernel
theorem dL_law_515 : decode cL_law 515 = .ok (.aload_n 2, 1) := by decide +kernel
theorem dL_law_516 : decode cL_law 516 = .ok (.aload_n 0, 1) := by decide +kernel
theorem dL_law_517 : decode cL_law 517 = .ok (.iload_n 3, 1) := by decide +kernel
theorem dL_law_518 : decode cL_law 518 = .ok (.iconst 1, 1) := by decide +kernel
theorem dL_law_519 : decode cL_law 519 = .ok (.iadd, 1) := by decide +kernel
theorem dL_law_520 : decode cL_law 520 = .ok (.iaload, 1) := by decide +kernel
theorem dL_law_521 : decode cL_law 521 = .ok (.aload_n 0, 1) := by decide +kernel
theorem dL_law_522 : decode cL_law 522 = .ok (.iload_n 3, 1) := by decide +kernel
theorem dL_law_523 : decode cL_law 523 = .ok (.iconst 2, 1) := by decide +kernel
theorem dL_law_524 : decode cL_law 524 = .ok (.iadd, 1) := by decide +kernel
theorem dL_law_525 : decode cL_law 525 = .ok (.iaload, 1) := by decide +kernel
theorem dL_law_526 : decode cL_law 526 = .ok (.aload_n 0, 1) := by decide +kernel
theorem dL_law_527 : decode cL_law 527 = .ok (.iload_n 3, 1) := by decide +kernel
theorem dL_law_528 : decode cL_law 528 = .ok (.iconst 3, 1) := by decide +kernel
theorem dL_law_529 : decode cL_law 529 = .ok (.iadd, 1) := by decide +kernel
theorem dL_law_530 : decode cL_law 530 = .ok (.iaload, 1) := by decide +kernel
theorem dL_law_531 : decode cL_law 531 = .ok (.aload_n 0, 1) := by decide +kernel
theorem dL_law_532 : decode cL_law 532 = .ok (.iload_n 3, 1) := by decide +kernel
theorem dL_law_533 : decode cL_law 533 = .ok (.iconst 4, 1) := by decide +kernel
theorem dL_law_534 : decode cL_law 534 = .ok (.iadd, 1) := by decide +kernel
theorem dL_law_535 : decode cL_law 535 = .ok (.iaload, 1) := by decide +kernel
theorem dL_law_536 : decode cL_law 536 = .ok (.invokevirtual 52, 3) := by decide +kernel
theorem m_1375 : Cond.code yX12_stamps cX12_stamps 9 (some .int) ∈ BW := iB_BW73 _ (List.mem_of_getElem? (i := 11) rfl)
theorem m_1372 : Cond.methodLink RL 52 yX12_stamps ∈ BW := iB_BW73 _ (List.mem_of_getElem? (i := 8) rfl)
theorem m_1373 : Cond.instanceMethod yX12_stamps ∈ BW := iB_BW73 _ (List.mem_of_getElem? (i := 9) rfl)
theorem m_1374 : Cond.selects RX12 yX12_stamps yX12_stamps ∈ BW := iB_BW73 _ (List.mem_of_getElem? (i := 10) rfl)
theorem si_L_52 : SV RL RX12 52 yX12_stamps cX12_stamps 9 (some .int) 4 := ⟨⟨m_1372, m_1373, m_1374, m_115, m_1375⟩, rfl, nK_RX12.1, nK_RX12.2, pd_17⟩
theorem dL_law_539 : decode cL_law 539 = .ok (.pop, 1) := by decide +kernel
theorem dL_law_540 : decode cL_law 540 = .ok (.goto 1178, 3) := by decide +kernel
theorem dL_law_543 : decode cL_law 543 = .ok (.aload_n 1, 1) := by decide +kernel
theorem dL_law_544 : decode cL_law 544 = .ok (.aload_n 0, 1) := by decide +kernel
theorem dL_law_545 : decode cL_law 545 = .ok (.iload_n 3, 1) := by decide +kernel
theorem dL_law_546 : decode cL_law 546 = .ok (.iconst 1, 1) := by decide +kernel
theorem dL_law_547 : decode cL_law 547 = .ok (.iadd, 1) := by decide +kernel
theorem dL_law_548 : decode cL_law 548 = .ok (.iaload, 1) := by decide +kernel
theorem dL_law_549 : decode cL_law 549 = .ok (.invokevirtual 53, 3) := by decide +kernel
theorem m_428 : Cond.code yX11_gap cX11_gap 3 (some .int) ∈ BW := iB_BW23 _ (List.mem_of_getElem? (i := 12) rfl)
theorem m_425 : Cond.methodLink RL 53 yX11_gap ∈ BW := iB_BW23 _ (List.mem_of_getElem? (i := 9) rfl)
theorem m_426 : Cond.instanceMethod yX11_gap ∈ BW := iB_BW23 _ (List.mem_of_getElem? (i := 10) rfl)
theorem m_427 : Cond.selects RX11 yX11_gap yX11_gap ∈ BW := iB_BW23 _ (List.mem_of_getElem? (i := 11) rfl)
theorem si_L_53 : SV RL RX11 53 yX11_gap cX11_gap 3 (some .int) 1 := ⟨⟨m_425, m_426, m_427, m_102, m_428⟩, rfl, nK_RX11.1, nK_RX11.2, pd_7⟩
theorem dL_law_552 : decode cL_law 552 = .ok (.pop, 1) := by decide +kernel
theorem dL_law_553 : decode cL_law 553 = .ok (.aload_n 2, 1) := by decide +kernel
theorem dL_law_554 : decode cL_law 554 = .ok (.aload_n 0, 1) := by decide +kernel
theorem dL_law_555 : decode cL_law 555 = .ok (.iload_n 3, 1) := by decide +kernel
theorem dL_law_556 : decode cL_law 556 = .ok (.iconst 1, 1) := by decide +kernel
theorem dL_law_557 : decode cL_law 557 = .ok (.iadd, 1) := by decide +kernel
theorem dL_law_558 : decode cL_law 558 = .ok (.iaload, 1) := by decide +kernel
theorem dL_law_559 : decode cL_law 559 = .ok (.invokevirtual 56, 3) := by decide +kernel
theorem m_1148 : Cond.code yX12_gap cX12_gap 3 (some .int) ∈ BW := iB_BW61 _ (List.mem_of_getElem? (i := 16) rfl)
theorem m_1145 : Cond.methodLink RL 56 yX12_gap ∈ BW := iB_BW61 _ (List.mem_of_getElem? (i := 13) rfl)
theorem m_1146 : Cond.instanceMethod yX12_gap ∈ BW := iB_BW61 _ (List.mem_of_getElem? (i := 14) rfl)
theorem m_1147 : Cond.selects RX12 yX12_gap yX12_gap ∈ BW := iB_BW61 _ (List.mem_of_getElem? (i := 15) rfl)
theorem si_L_56 : SV RL RX12 56 yX12_gap cX12_gap 3 (some .int) 1 := ⟨⟨m_1145, m_1146, m_1147, m_115, m_1148⟩, rfl, nK_RX12.1, nK_RX12.2, pd_7⟩
theorem dL_law_562 : decode cL_law 562 = .ok (.pop, 1) := by decide +kernel
theorem dL_law_563 : decode cL_law 563 = .ok (.goto 1155, 3) := by decide +kernel
end WR
theorem sm_0_1_2_3_4_5_14_15 {a0 a1 a2 a3 a4 a5 a6 a7 a8 a9 a10 a11 a12 a13 a14 a15 : Nat × va_E} {l : va_W} : ([0, 1, 2, 3, 4, 5, 14, 15] : List Nat).map (fun i => (a0 :: a1 :: a2 :: a3 :: a4 :: a5 :: a6 :: a7 :: a8 :: a9 :: a10 :: a11 :: a12 :: a13 :: a14 :: a15 :: l : va_W)[i]?) = ([a0, a1, a2, a3, a4, a5, a14, a15] : va_W).map some := rfl
theorem fm_0_1_2_3_4_5_14_15 {a0 a1 a2 a3 a4 a5 a6 a7 a8 a9 a10 a11 a12 a13 a14 a15 : Nat × va_E} {l : va_W} : ([0, 1, 2, 3, 4, 5, 14, 15] : List Nat).filterMap (fun i => (a0 :: a1 :: a2 :: a3 :: a4 :: a5 :: a6 :: a7 :: a8 :: a9 :: a10 :: a11 :: a12 :: a13 :: a14 :: a15 :: l : va_W)[i]?) = ([a0, a1, a2, a3, a4, a5, a14, a15] : va_W) := rfl
theorem nd_0_1_2_3_4_5_14_15 : va_nd [0, 1, 2, 3, 4, 5, 14, 15] = true := by decide
theorem sm_103_104 {a0 a1 a2 a3 a4 a5 a6 a7 a8 a9 a10 a11 a12 a13 a14 a15 a16 a17 a18 a19 a20 a21 a22 a23 a24 a25 a26 a27 a28 a29 a30 a31 a32 a33 a34 a35 a36 a37 a38 a39 a40 a41 a42 a43 a44 a45 a46 a47 a48 a49 a50 a51 a52 a53 a54 a55 a56 a57 a58 a59 a60 a61 a62 a63 a64 a65 a66 a67 a68 a69 a70 a71 a72 a73 a74 a75 a76 a77 a78 a79 a80 a81 a82 a83 a84 a85 a86 a87 a88 a89 a90 a91 a92 a93 a94 a95 a96 a97 a98 a99 a100 a101 a102 a103 a104 : Nat × va_E} {l : va_W} : ([103, 104] : List Nat).map (fun i => (a0 :: a1 :: a2 :: a3 :: a4 :: a5 :: a6 :: a7 :: a8 :: a9 :: a10 :: a11 :: a12 :: a13 :: a14 :: a15 :: a16 :: a17 :: a18 :: a19 :: a20 :: a21 :: a22 :: a23 :: a24 :: a25 :: a26 :: a27 :: a28 :: a29 :: a30 :: a31 :: a32 :: a33 :: a34 :: a35 :: a36 :: a37 :: a38 :: a39 :: a40 :: a41 :: a42 :: a43 :: a44 :: a45 :: a46 :: a47 :: a48 :: a49 :: a50 :: a51 :: a52 :: a53 :: a54 :: a55 :: a56 :: a57 :: a58 :: a59 :: a60 :: a61 :: a62 :: a63 :: a64 :: a65 :: a66 :: a67 :: a68 :: a69 :: a70 :: a71 :: a72 :: a73 :: a74 :: a75 :: a76 :: a77 :: a78 :: a79 :: a80 :: a81 :: a82 :: a83 :: a84 :: a85 :: a86 :: a87 :: a88 :: a89 :: a90 :: a91 :: a92 :: a93 :: a94 :: a95 :: a96 :: a97 :: a98 :: a99 :: a100 :: a101 :: a102 :: a103 :: a104 :: l : va_W)[i]?) = ([a103, a104] : va_W).map some := rfl
theorem fm_103_104 {a0 a1 a2 a3 a4 a5 a6 a7 a8 a9 a10 a11 a12 a13 a14 a15 a16 a17 a18 a19 a20 a21 a22 a23 a24 a25 a26 a27 a28 a29 a30 a31 a32 a33 a34 a35 a36 a37 a38 a39 a40 a41 a42 a43 a44 a45 a46 a47 a48 a49 a50 a51 a52 a53 a54 a55 a56 a57 a58 a59 a60 a61 a62 a63 a64 a65 a66 a67 a68 a69 a70 a71 a72 a73 a74 a75 a76 a77 a78 a79 a80 a81 a82 a83 a84 a85 a86 a87 a88 a89 a90 a91 a92 a93 a94 a95 a96 a97 a98 a99 a100 a101 a102 a103 a104 : Nat × va_E} {l : va_W} : ([103, 104] : List Nat).filterMap (fun i => (a0 :: a1 :: a2 :: a3 :: a4 :: a5 :: a6 :: a7 :: a8 :: a9 :: a10 :: a11 :: a12 :: a13 :: a14 :: a15 :: a16 :: a17 :: a18 :: a19 :: a20 :: a21 :: a22 :: a23 :: a24 :: a25 :: a26 :: a27 :: a28 :: a29 :: a30 :: a31 :: a32 :: a33 :: a34 :: a35 :: a36 :: a37 :: a38 :: a39 :: a40 :: a41 :: a42 :: a43 :: a44 :: a45 :: a46 :: a47 :: a48 :: a49 :: a50 :: a51 :: a52 :: a53 :: a54 :: a55 :: a56 :: a57 :: a58 :: a59 :: a60 :: a61 :: a62 :: a63 :: a64 :: a65 :: a66 :: a67 :: a68 :: a69 :: a70 :: a71 :: a72 :: a73 :: a74 :: a75 :: a76 :: a77 :: a78 :: a79 :: a80 :: a81 :: a82 :: a83 :: a84 :: a85 :: a86 :: a87 :: a88 :: a89 :: a90 :: a91 :: a92 :: a93 :: a94 :: a95 :: a96 :: a97 :: a98 :: a99 :: a100 :: a101 :: a102 :: a103 :: a104 :: l : va_W)[i]?) = ([a103, a104] : va_W) := rfl
theorem nd_103_104 : va_nd [103, 104] = true := by decide
theorem sm_0_1_4_5_6_7 {a0 a1 a2 a3 a4 a5 a6 a7 : Nat × va_E} {l : va_W} : ([0, 1, 4, 5, 6, 7] : List Nat).map (fun i => (a0 :: a1 :: a2 :: a3 :: a4 :: a5 :: a6 :: a7 :: l : va_W)[i]?) = ([a0, a1, a4, a5, a6, a7] : va_W).map some := rfl
theorem fm_0_1_4_5_6_7 {a0 a1 a2 a3 a4 a5 a6 a7 : Nat × va_E} {l : va_W} : ([0, 1, 4, 5, 6, 7] : List Nat).filterMap (fun i => (a0 :: a1 :: a2 :: a3 :: a4 :: a5 :: a6 :: a7 :: l : va_W)[i]?) = ([a0, a1, a4, a5, a6, a7] : va_W) := rfl
theorem nd_0_1_4_5_6_7 : va_nd [0, 1, 4, 5, 6, 7] = true := by decide
set_option maxHeartbeats 8000000 in
set_option maxRecDepth 100000 in
theorem law_0 : LAWC 216 := by
  intro p l e s m below meth c b L xs G K A hf xb bb cc sg do9 ru9 ta9 tp9 ro9 ho9 de9 bpersons bpapers bstamps bversions blines bsteps bsayings bfindings bwarnings bquestions bpersonsc bpapersc bstampsc bversionsc blinesc bstepsc bsayingsc bfindingsc bwarningsc bquestionsc cpersons cpapers cstamps cversions clines csteps csayings cfindings cwarnings cquestions cpersonsc cpapersc cstampsc cversionsc clinesc cstepsc csayingsc cfindingsc cwarningsc cquestionsc tby tln tsp tlnc tspc hs hz hi hw hn ht tr9 clk fi la ml mm sl sm clm hd kc0 km0 kc1 km1 kc2 km2 kc3 km3 kc4 km4 kc5 km5 kc6 km6 kc7 km7 kc8 km8 kc9 km9 kc10 km10 kc11 km11 kc12 km12 fc sh rr tc rrc xm nw nk nt nr nm ns nl nc nF np ntr nb nso nsi nit nsh nsf nss nrc kbpersons kbpapers kbstamps kbversions kblines kbsteps kbsayings kbfindings kbwarnings kbquestions kcpersons kcpapers kcstamps kcversions kclines kcsteps kcsayings kcfindings kcwarnings kcquestions kt ks kn kln ksp jr kr ytp yrm yjr ikp td vd vl gp ktd kvd kvl kgp tkd tf9 dk dn dp da dq cl bo le bi r1 rc rh tf tt9 tl tbv asd st9 tol mroundOf mroundFrom mfromHour mtoHour mfrom mto msort misFault mdeep mcoded mlines mbestCost mdealer mnumber mwhose msize misParted fbpersons fbpapers fbstamps fbversions fblines fbsteps fbsayings fbfindings fbwarnings fbquestions fcpersons fcpapers fcstamps fcversions fclines fcsteps fcsayings fcfindings fcwarnings fcquestions fby ftln ftsp fhw fhn ftr fhs fhz fhi fclm ffi fla fml fmm fsl fsm fk0 fk1 fk2 fk3 fk4 fk5 fk6 fk7 fk8 fk9 fk10 fk11 fk12 ffc fsh frr ftc fht y_nw y_nk y_nt y_nr y_nm y_ns y_nl y_nc y_np y_ntr y_nb y_nso y_nsi y_nit y_nsh y_nsf y_nss y_nrc H locs ls ki hC hK hO hX hL hbl hbA hA hA2 hki hf0 hf1 hf2 hf3 hf4 hf5 hf6 hf7 hf8 hf9 hf10 hf11 hf12 i_kbpersons i_kbpapers i_kbstamps i_kbversions i_kblines i_kbsteps i_kbsayings i_kbfindings i_kbwarnings i_kbquestions i_kcpersons i_kcpapers i_kcstamps i_kcversions i_kclines i_kcsteps i_kcsayings i_kcfindings i_kcwarnings i_kcquestions i_kt i_ks i_kn i_kln i_ksp i_jr i_kr i_ytp i_yrm i_yjr i_tp i_cl i_tol i_ikp i_nw i_vw i_nk i_vk i_mb i_b6 i_sz i_sh i_sl i_sp i_sq i_sc i_sk i_epersons i_epapers i_estamps i_esayings i_efindings i_ewarnings i_equestions i_kpersons i_kpapers i_kstamps i_ksayings i_kfindings i_kwarnings i_kquestions hback hP hD hS hl
  refine Kan8 hC (fun hx hb hr hml hB hown hlocks hnm => ?_)
  refine lv_aload_n hx hb dL_law_216 rfl (lv_at2 hl) ?_
  refine lv_aload_n hx hb dL_law_217 rfl (lv_at3 hl) ?_
  refine lv_iload_n hx hb dL_law_218 rfl (lv_at0 hl) ?_
  refine lv_iconst (v := 1) hx hb dL_law_219 (by decide) ?_
  refine lv_iadd hx hb dL_law_220 ?_
  refine eqi (x1 := nI (ki + 1)) (nI_add ki 1) ?_
  refine va_sld hx hb hX hbl hbA hS (lw_in hL hki (by decide)) dL_law_221 ?_
  refine eqi (x1 := xs (ki + 1)) (congrArg xs (lw_cl hL hki (by decide))) ?_
  refine lk_iV hC hK hl hP hD hS hA (p_days l G xb (xs (ki + 1)) bb cc ikp sg do9 ru9 ta9 tp9 ro9 ho9 de9 bpersons bpapers bstamps bversions blines bsteps bsayings bfindings bwarnings bquestions td vd vl gp) si_L_13 [0, 1] [0, 1] [true, true, false, false, false, false, false, false, false, false, false, false, false, false, false, false, false, false, false, false, false, false, false, false, false, false, false, false, false, false, false, false, false, false, false, false, false, false, false, false, false, false, false, false, false, false, false, false, false, false, false, false, false, false, false, false, false, false, false, false, false, false, false, false, false, false, false, false, false, false, false, false, false, false, false, false, false, false, false, false, false, false, false, false, false, false, false, false, false, false, false, false, false, false, false, false, false, false, false, false, false, false, false, false, false, false, false, false, false, false, false, false, false, false, false, false, false, false, false, false, false, false, false] rfl rfl (by decide +kernel) (by decide +kernel) rfl rfl rfl rfl rfl (Nat.le_of_ble_eq_true rfl) ⟨Nat.le_of_ble_eq_true rfl, Nat.le_of_ble_eq_true rfl⟩ ⟨by first | exact Nat.le_of_ble_eq_true rfl | omega, by first | exact Nat.le_of_ble_eq_true rfl | omega⟩ dL_law_222 (fun r9174 td19176 H locs hr9174 hP2 hS => ?_)
  try dsimp only at hr9174
  refine Kpdr (ws := (WLW G K hf xb bb cc sg do9 ru9 ta9 tp9 ro9 ho9 de9 bpersons bpapers bstamps bversions blines bsteps bsayings bfindings bwarnings bquestions bpersonsc bpapersc bstampsc bversionsc blinesc bstepsc bsayingsc bfindingsc bwarningsc bquestionsc cpersons cpapers cstamps cversions clines csteps csayings cfindings cwarnings cquestions cpersonsc cpapersc cstampsc cversionsc clinesc cstepsc csayingsc cfindingsc cwarningsc cquestionsc tby tln tsp tlnc tspc hs hz hi hw hn ht tr9 clk fi la ml mm sl sm clm hd kc0 km0 kc1 km1 kc2 km2 kc3 km3 kc4 km4 kc5 km5 kc6 km6 kc7 km7 kc8 km8 kc9 km9 kc10 km10 kc11 km11 kc12 km12 fc sh rr tc rrc xm nw nk nt nr nm ns nl nc nF np ntr nb nso nsi nit nsh nsf nss nrc kbpersons kbpapers kbstamps kbversions kblines kbsteps kbsayings kbfindings kbwarnings kbquestions kcpersons kcpapers kcstamps kcversions kclines kcsteps kcsayings kcfindings kcwarnings kcquestions kt ks kn kln ksp jr kr ytp yrm yjr ikp td19176 vd vl gp ktd kvd kvl kgp tkd tf9 dk dn dp da dq cl bo le bi r1 rc rh tf tt9 tl tbv asd st9 tol mroundOf mroundFrom mfromHour mtoHour mfrom mto msort misFault mdeep mcoded mlines mbestCost mdealer mnumber mwhose msize misParted fbpersons fbpapers fbstamps fbversions fblines fbsteps fbsayings fbfindings fbwarnings fbquestions fcpersons fcpapers fcstamps fcversions fclines fcsteps fcsayings fcfindings fcwarnings fcquestions fby ftln ftsp fhw fhn ftr fhs fhz fhi fclm ffi fla fml fmm fsl fsm fk0 fk1 fk2 fk3 fk4 fk5 fk6 fk7 fk8 fk9 fk10 fk11 fk12 ffc fsh frr ftc fht y_nw y_nk y_nt y_nr y_nm y_ns y_nl y_nc y_np y_ntr y_nb y_nso y_nsi y_nit y_nsh y_nsf y_nss y_nrc)) hP2 (lk_D hD rfl) (fun hP hD => ?_)
  obtain ⟨hr9174, w9177⟩ := hr9174
  obtain rfl := hr9174
  refine lv_pop hx hb dL_law_225 rfl ?_
  refine lv_aload_n hx hb dL_law_226 rfl (lv_at1 hl) ?_
  refine lv_aload_n hx hb dL_law_227 rfl (lv_at3 hl) ?_
  refine lv_iload_n hx hb dL_law_228 rfl (lv_at0 hl) ?_
  refine lv_iconst (v := 1) hx hb dL_law_229 (by decide) ?_
  refine lv_iadd hx hb dL_law_230 ?_
  refine eqi (x1 := nI (ki + 1)) (nI_add ki 1) ?_
  refine va_sld hx hb hX hbl hbA hS (lw_in hL hki (by decide)) dL_law_231 ?_
  refine eqi (x1 := xs (ki + 1)) (congrArg xs (lw_cl hL hki (by decide))) ?_
  refine lk_iV hC hK hl hP hD hS hA (w_days l G xm (xs (ki + 1)) nw nk ikp nt (nI ytp) nr (nI yrm) mroundOf mroundFrom 0 nm mfromHour mtoHour ns mfrom mto msort misFault mdeep mcoded mlines nl nc nF np ntr nb mbestCost nso nsi nit nsh nsf nss nrc (nI yjr) mdealer mnumber mwhose msize misParted y_nw (i_nw) (i_vw)) si_L_17 [103, 104] [0, 1] [false, false, false, false, false, false, false, false, false, false, false, false, false, false, false, false, false, false, false, false, false, false, false, false, false, false, false, false, false, false, false, false, false, false, false, false, false, false, false, false, false, false, false, false, false, false, false, false, false, false, false, false, false, false, false, false, false, false, false, false, false, false, false, false, false, false, false, false, false, false, false, false, false, false, false, false, false, false, false, false, false, false, false, false, false, false, false, false, false, false, false, false, false, false, false, false, false, false, false, false, false, false, false, true, true, false, false, false, false, false, false, false, false, false, false, false, false, false, false, false, false, false, false] rfl rfl (by decide +kernel) (by decide +kernel) rfl rfl rfl rfl rfl (Nat.le_of_ble_eq_true rfl) ⟨Nat.le_of_ble_eq_true rfl, Nat.le_of_ble_eq_true rfl⟩ ⟨by first | exact Nat.le_of_ble_eq_true rfl | omega, by first | exact Nat.le_of_ble_eq_true rfl | omega⟩ dL_law_232 (fun r9179 gnw9181 H locs hr9179 hP2 hS => ?_)
  try dsimp only at hr9179
  refine Kpdr (ws := (WLW G K hf xb bb cc sg do9 ru9 ta9 tp9 ro9 ho9 de9 bpersons bpapers bstamps bversions blines bsteps bsayings bfindings bwarnings bquestions bpersonsc bpapersc bstampsc bversionsc blinesc bstepsc bsayingsc bfindingsc bwarningsc bquestionsc cpersons cpapers cstamps cversions clines csteps csayings cfindings cwarnings cquestions cpersonsc cpapersc cstampsc cversionsc clinesc cstepsc csayingsc cfindingsc cwarningsc cquestionsc tby tln tsp tlnc tspc hs hz hi hw hn ht tr9 clk fi la ml mm sl sm clm hd kc0 km0 kc1 km1 kc2 km2 kc3 km3 kc4 km4 kc5 km5 kc6 km6 kc7 km7 kc8 km8 kc9 km9 kc10 km10 kc11 km11 kc12 km12 fc sh rr tc rrc xm nw nk nt nr nm ns nl nc nF np ntr nb nso nsi nit nsh nsf nss nrc kbpersons kbpapers kbstamps kbversions kblines kbsteps kbsayings kbfindings kbwarnings kbquestions kcpersons kcpapers kcstamps kcversions kclines kcsteps kcsayings kcfindings kcwarnings kcquestions kt ks kn kln ksp jr kr ytp yrm yjr ikp td19176 vd vl gp ktd kvd kvl kgp tkd tf9 dk dn dp da dq cl bo le bi r1 rc rh tf tt9 tl tbv asd st9 tol mroundOf mroundFrom mfromHour mtoHour mfrom mto msort misFault mdeep mcoded mlines mbestCost mdealer mnumber mwhose msize misParted fbpersons fbpapers fbstamps fbversions fblines fbsteps fbsayings fbfindings fbwarnings fbquestions fcpersons fcpapers fcstamps fcversions fclines fcsteps fcsayings fcfindings fcwarnings fcquestions fby ftln ftsp fhw fhn ftr fhs fhz fhi fclm ffi fla fml fmm fsl fsm fk0 fk1 fk2 fk3 fk4 fk5 fk6 fk7 fk8 fk9 fk10 fk11 fk12 ffc fsh frr ftc fht gnw9181 y_nk y_nt y_nr y_nm y_ns y_nl y_nc y_np y_ntr y_nb y_nso y_nsi y_nit y_nsh y_nsf y_nss y_nrc)) hP2 (lk_D hD rfl) (fun hP hD => ?_)
  obtain ⟨hr9179, w9182⟩ := hr9179
  obtain rfl := hr9179
  refine lv_pop hx hb dL_law_235 rfl ?_
  refine lv_goto (tgt := 1718) hx hb dL_law_236 (by decide) ?_
  obtain ⟨z9184, z9185, z9186, z9187, z9188, z9189, z9190, z9191, z9192, z9193, z9194, z9195, z9196, z9197⟩ := w9182
  have hs_y_nw : SCX gnw9181 td19176 vd vl gp (nI kbpersons) (nI kbpapers) (nI kbstamps) (nI kbsayings) (nI kbfindings) (nI kbwarnings) (nI kbquestions) := ⟨(z9186.trans (by rw [i_sc.1])).trans w9177, (z9187).trans (i_sc.2.1), (z9188).trans (i_sc.2.2.1), (z9189).trans (i_sc.2.2.2.1), (z9190).trans (i_sc.2.2.2.2.1), (z9191).trans (i_sc.2.2.2.2.2.1), (z9192).trans (i_sc.2.2.2.2.2.2.1), (z9193).trans (i_sc.2.2.2.2.2.2.2.1), (z9194).trans (i_sc.2.2.2.2.2.2.2.2.1), (z9195).trans (i_sc.2.2.2.2.2.2.2.2.2.1), (z9196).trans (i_sc.2.2.2.2.2.2.2.2.2.2)⟩
  have he_persons : EQT gnw9181 12 20 fbpersons := EQT.fr i_epersons z9197 (by decide) (by decide)
  have he_papers : EQT gnw9181 32 72 fbpapers := EQT.fr i_epapers z9197 (by decide) (by decide)
  have he_stamps : EQT gnw9181 104 72 fbstamps := EQT.fr i_estamps z9197 (by decide) (by decide)
  have he_sayings : EQT gnw9181 1424 128 fbsayings := EQT.fr i_esayings z9197 (by decide) (by decide)
  have he_findings : EQT gnw9181 1552 48 fbfindings := EQT.fr i_efindings z9197 (by decide) (by decide)
  have he_warnings : EQT gnw9181 1600 48 fbwarnings := EQT.fr i_ewarnings z9197 (by decide) (by decide)
  have he_questions : EQT gnw9181 1648 14 fbquestions := EQT.fr i_equestions z9197 (by decide) (by decide)
  exact hback kbpersons kbpapers kbstamps kbversions kblines kbsteps kbsayings kbfindings kbwarnings kbquestions kcpersons kcpapers kcstamps kcversions kclines kcsteps kcsayings kcfindings kcwarnings kcquestions kt ks kn kln ksp jr kr ytp yrm yjr ikp td19176 vd vl gp ktd kvd kvl kgp tkd tf9 dk dn dp da dq cl bo le bi r1 rc rh tf tt9 tl tbv asd st9 tol mroundOf mroundFrom mfromHour mtoHour mfrom mto msort misFault mdeep mcoded mlines mbestCost mdealer mnumber mwhose msize misParted fbpersons fbpapers fbstamps fbversions fblines fbsteps fbsayings fbfindings fbwarnings fbquestions fcpersons fcpapers fcstamps fcversions fclines fcsteps fcsayings fcfindings fcwarnings fcquestions fby ftln ftsp fhw fhn ftr fhs fhz fhi fclm ffi fla fml fmm fsl fsm fk0 fk1 fk2 fk3 fk4 fk5 fk6 fk7 fk8 fk9 fk10 fk11 fk12 ffc fsh frr ftc fht gnw9181 y_nk y_nt y_nr y_nm y_ns y_nl y_nc y_np y_ntr y_nb y_nso y_nsi y_nit y_nsh y_nsf y_nss y_nrc H locs ls i_kbpersons i_kbpapers i_kbstamps i_kbversions i_kblines i_kbsteps i_kbsayings i_kbfindings i_kbwarnings i_kbquestions i_kcpersons i_kcpapers i_kcstamps i_kcversions i_kclines i_kcsteps i_kcsayings i_kcfindings i_kcwarnings i_kcquestions i_kt i_ks i_kn i_kln i_ksp i_jr i_kr i_ytp i_yrm i_yjr i_tp i_cl i_tol i_ikp (by first | assumption | omega | exact Or.inl rfl | exact Or.inr rfl) (by first | assumption | omega | exact Or.inl rfl | exact Or.inr rfl) i_nk i_vk i_mb i_b6 i_sz i_sh i_sl i_sp i_sq (by first | assumption | omega | exact Or.inl rfl | exact Or.inr rfl) i_sk (by first | assumption | omega | exact Or.inl rfl | exact Or.inr rfl) (by first | assumption | omega | exact Or.inl rfl | exact Or.inr rfl) (by first | assumption | omega | exact Or.inl rfl | exact Or.inr rfl) (by first | assumption | omega | exact Or.inl rfl | exact Or.inr rfl) (by first | assumption | omega | exact Or.inl rfl | exact Or.inr rfl) (by first | assumption | omega | exact Or.inl rfl | exact Or.inr rfl) (by first | assumption | omega | exact Or.inl rfl | exact Or.inr rfl) i_kpersons i_kpapers i_kstamps i_ksayings i_kfindings i_kwarnings i_kquestions hP hD hS (lv_sub hl [0, 1, 2, 3] rfl)
set_option maxHeartbeats 8000000 in
set_option maxRecDepth 100000 in
theorem law_1 : LAWC 239 := by
  intro p l e s m below meth c b L xs G K A hf xb bb cc sg do9 ru9 ta9 tp9 ro9 ho9 de9 bpersons bpapers bstamps bversions blines bsteps bsayings bfindings bwarnings bquestions bpersonsc bpapersc bstampsc bversionsc blinesc bstepsc bsayingsc bfindingsc bwarningsc bquestionsc cpersons cpapers cstamps cversions clines csteps csayings cfindings cwarnings cquestions cpersonsc cpapersc cstampsc cversionsc clinesc cstepsc csayingsc cfindingsc cwarningsc cquestionsc tby tln tsp tlnc tspc hs hz hi hw hn ht tr9 clk fi la ml mm sl sm clm hd kc0 km0 kc1 km1 kc2 km2 kc3 km3 kc4 km4 kc5 km5 kc6 km6 kc7 km7 kc8 km8 kc9 km9 kc10 km10 kc11 km11 kc12 km12 fc sh rr tc rrc xm nw nk nt nr nm ns nl nc nF np ntr nb nso nsi nit nsh nsf nss nrc kbpersons kbpapers kbstamps kbversions kblines kbsteps kbsayings kbfindings kbwarnings kbquestions kcpersons kcpapers kcstamps kcversions kclines kcsteps kcsayings kcfindings kcwarnings kcquestions kt ks kn kln ksp jr kr ytp yrm yjr ikp td vd vl gp ktd kvd kvl kgp tkd tf9 dk dn dp da dq cl bo le bi r1 rc rh tf tt9 tl tbv asd st9 tol mroundOf mroundFrom mfromHour mtoHour mfrom mto msort misFault mdeep mcoded mlines mbestCost mdealer mnumber mwhose msize misParted fbpersons fbpapers fbstamps fbversions fblines fbsteps fbsayings fbfindings fbwarnings fbquestions fcpersons fcpapers fcstamps fcversions fclines fcsteps fcsayings fcfindings fcwarnings fcquestions fby ftln ftsp fhw fhn ftr fhs fhz fhi fclm ffi fla fml fmm fsl fsm fk0 fk1 fk2 fk3 fk4 fk5 fk6 fk7 fk8 fk9 fk10 fk11 fk12 ffc fsh frr ftc fht y_nw y_nk y_nt y_nr y_nm y_ns y_nl y_nc y_np y_ntr y_nb y_nso y_nsi y_nit y_nsh y_nsf y_nss y_nrc H locs ls ki hC hK hO hX hL hbl hbA hA hA2 hki hf0 hf1 hf2 hf3 hf4 hf5 hf6 hf7 hf8 hf9 hf10 hf11 hf12 i_kbpersons i_kbpapers i_kbstamps i_kbversions i_kblines i_kbsteps i_kbsayings i_kbfindings i_kbwarnings i_kbquestions i_kcpersons i_kcpapers i_kcstamps i_kcversions i_kclines i_kcsteps i_kcsayings i_kcfindings i_kcwarnings i_kcquestions i_kt i_ks i_kn i_kln i_ksp i_jr i_kr i_ytp i_yrm i_yjr i_tp i_cl i_tol i_ikp i_nw i_vw i_nk i_vk i_mb i_b6 i_sz i_sh i_sl i_sp i_sq i_sc i_sk i_epersons i_epapers i_estamps i_esayings i_efindings i_ewarnings i_equestions i_kpersons i_kpapers i_kstamps i_ksayings i_kfindings i_kwarnings i_kquestions hback hP hD hS hl
  refine Kan8 hC (fun hx hb hr hml hB hown hlocks hnm => ?_)
  refine lv_aload_n hx hb dL_law_239 rfl (lv_at2 hl) ?_
  refine lv_aload_n hx hb dL_law_240 rfl (lv_at3 hl) ?_
  refine lv_iload_n hx hb dL_law_241 rfl (lv_at0 hl) ?_
  refine lv_iconst (v := 1) hx hb dL_law_242 (by decide) ?_
  refine lv_iadd hx hb dL_law_243 ?_
  refine eqi (x1 := nI (ki + 1)) (nI_add ki 1) ?_
  refine va_sld hx hb hX hbl hbA hS (lw_in hL hki (by decide)) dL_law_244 ?_
  refine eqi (x1 := xs (ki + 1)) (congrArg xs (lw_cl hL hki (by decide))) ?_
  refine lv_aload_n hx hb dL_law_245 rfl (lv_at3 hl) ?_
  refine lv_iload_n hx hb dL_law_246 rfl (lv_at0 hl) ?_
  refine lv_iconst (v := 2) hx hb dL_law_247 (by decide) ?_
  refine lv_iadd hx hb dL_law_248 ?_
  refine eqi (x1 := nI (ki + 2)) (nI_add ki 2) ?_
  refine va_sld hx hb hX hbl hbA hS (lw_in hL hki (by decide)) dL_law_249 ?_
  refine eqi (x1 := xs (ki + 2)) (congrArg xs (lw_cl hL hki (by decide))) ?_
  refine lk_iV hC hK hl hP hD hS hA (p_view l G xb (xs (ki + 1)) (xs (ki + 2)) bb cc ikp sg do9 ru9 ta9 tp9 ro9 ho9 de9 bpersons bpapers bstamps bversions blines bsteps bsayings bfindings bwarnings bquestions td vd vl gp bpapersc kbpapers fbpapers (i_kbpapers)) si_L_18 [0, 1, 4, 5] [0, 1, 2, 3] [true, true, false, false, true, true, false, false, false, false, false, false, false, false, false, false, false, false, false, false, false, false, false, false, false, false, false, false, false, false, false, false, false, false, false, false, false, false, false, false, false, false, false, false, false, false, false, false, false, false, false, false, false, false, false, false, false, false, false, false, false, false, false, false, false, false, false, false, false, false, false, false, false, false, false, false, false, false, false, false, false, false, false, false, false, false, false, false, false, false, false, false, false, false, false, false, false, false, false, false, false, false, false, false, false, false, false, false, false, false, false, false, false, false, false, false, false, false, false, false, false, false, false] rfl rfl (by decide +kernel) (by decide +kernel) rfl rfl rfl rfl rfl (Nat.le_of_ble_eq_true rfl) ⟨Nat.le_of_ble_eq_true rfl, Nat.le_of_ble_eq_true rfl⟩ ⟨by first | exact Nat.le_of_ble_eq_true rfl | omega, by first | exact Nat.le_of_ble_eq_true rfl | omega⟩ dL_law_250 (fun r9198 => Ktu2 fun vd19200 vl19201 => ?_)
  intro H locs hr9198 hP2 hS
  try dsimp only at hr9198
  refine Kpdr (ws := (WLW G K hf xb bb cc sg do9 ru9 ta9 tp9 ro9 ho9 de9 bpersons bpapers bstamps bversions blines bsteps bsayings bfindings bwarnings bquestions bpersonsc bpapersc bstampsc bversionsc blinesc bstepsc bsayingsc bfindingsc bwarningsc bquestionsc cpersons cpapers cstamps cversions clines csteps csayings cfindings cwarnings cquestions cpersonsc cpapersc cstampsc cversionsc clinesc cstepsc csayingsc cfindingsc cwarningsc cquestionsc tby tln tsp tlnc tspc hs hz hi hw hn ht tr9 clk fi la ml mm sl sm clm hd kc0 km0 kc1 km1 kc2 km2 kc3 km3 kc4 km4 kc5 km5 kc6 km6 kc7 km7 kc8 km8 kc9 km9 kc10 km10 kc11 km11 kc12 km12 fc sh rr tc rrc xm nw nk nt nr nm ns nl nc nF np ntr nb nso nsi nit nsh nsf nss nrc kbpersons kbpapers kbstamps kbversions kblines kbsteps kbsayings kbfindings kbwarnings kbquestions kcpersons kcpapers kcstamps kcversions kclines kcsteps kcsayings kcfindings kcwarnings kcquestions kt ks kn kln ksp jr kr ytp yrm yjr ikp td vd19200 vl19201 gp ktd kvd kvl kgp tkd tf9 dk dn dp da dq cl bo le bi r1 rc rh tf tt9 tl tbv asd st9 tol mroundOf mroundFrom mfromHour mtoHour mfrom mto msort misFault mdeep mcoded mlines mbestCost mdealer mnumber mwhose msize misParted fbpersons fbpapers fbstamps fbversions fblines fbsteps fbsayings fbfindings fbwarnings fbquestions fcpersons fcpapers fcstamps fcversions fclines fcsteps fcsayings fcfindings fcwarnings fcquestions fby ftln ftsp fhw fhn ftr fhs fhz fhi fclm ffi fla fml fmm fsl fsm fk0 fk1 fk2 fk3 fk4 fk5 fk6 fk7 fk8 fk9 fk10 fk11 fk12 ffc fsh frr ftc fht y_nw y_nk y_nt y_nr y_nm y_ns y_nl y_nc y_np y_ntr y_nb y_nso y_nsi y_nit y_nsh y_nsf y_nss y_nrc)) hP2 (lk_D hD rfl) (fun hP hD => ?_)
  obtain ⟨hr9198, w9202⟩ := hr9198
  obtain rfl := hr9198
  refine lv_pop hx hb dL_law_253 rfl ?_
  refine lv_aload_n hx hb dL_law_254 rfl (lv_at1 hl) ?_
  refine lv_aload_n hx hb dL_law_255 rfl (lv_at3 hl) ?_
  refine lv_iload_n hx hb dL_law_256 rfl (lv_at0 hl) ?_
  refine lv_iconst (v := 1) hx hb dL_law_257 (by decide) ?_
  refine lv_iadd hx hb dL_law_258 ?_
  refine eqi (x1 := nI (ki + 1)) (nI_add ki 1) ?_
  refine va_sld hx hb hX hbl hbA hS (lw_in hL hki (by decide)) dL_law_259 ?_
  refine eqi (x1 := xs (ki + 1)) (congrArg xs (lw_cl hL hki (by decide))) ?_
  refine lv_aload_n hx hb dL_law_260 rfl (lv_at3 hl) ?_
  refine lv_iload_n hx hb dL_law_261 rfl (lv_at0 hl) ?_
  refine lv_iconst (v := 2) hx hb dL_law_262 (by decide) ?_
  refine lv_iadd hx hb dL_law_263 ?_
  refine eqi (x1 := nI (ki + 2)) (nI_add ki 2) ?_
  refine va_sld hx hb hX hbl hbA hS (lw_in hL hki (by decide)) dL_law_264 ?_
  refine eqi (x1 := xs (ki + 2)) (congrArg xs (lw_cl hL hki (by decide))) ?_
  refine lk_iV hC hK hl hP hD hS hA (w_view l G kbpapers xm (xs (ki + 1)) (xs (ki + 2)) nw nk ikp nt (nI ytp) nr (nI yrm) mroundOf mroundFrom nm mfromHour mtoHour ns mfrom mto msort misFault mdeep mcoded mlines nl nc nF np ntr nb mbestCost nso nsi nit nsh nsf nss nrc (nI yjr) mdealer mnumber mwhose msize misParted y_nw (i_sc.2.2.2.2.2.1) (i_kbpapers) (i_nw) (i_vw)) si_L_22 [103, 104] [0, 1] [false, false, false, false, false, false, false, false, false, false, false, false, false, false, false, false, false, false, false, false, false, false, false, false, false, false, false, false, false, false, false, false, false, false, false, false, false, false, false, false, false, false, false, false, false, false, false, false, false, false, false, false, false, false, false, false, false, false, false, false, false, false, false, false, false, false, false, false, false, false, false, false, false, false, false, false, false, false, false, false, false, false, false, false, false, false, false, false, false, false, false, false, false, false, false, false, false, false, false, false, false, false, false, true, true, false, false, false, false, false, false, false, false, false, false, false, false, false, false, false, false, false, false] rfl rfl (by decide +kernel) (by decide +kernel) rfl rfl rfl rfl rfl (Nat.le_of_ble_eq_true rfl) ⟨Nat.le_of_ble_eq_true rfl, Nat.le_of_ble_eq_true rfl⟩ ⟨by first | exact Nat.le_of_ble_eq_true rfl | omega, by first | exact Nat.le_of_ble_eq_true rfl | omega⟩ dL_law_265 (fun r9204 gnw9206 H locs hr9204 hP2 hS => ?_)
  try dsimp only at hr9204
  refine Kpdr (ws := (WLW G K hf xb bb cc sg do9 ru9 ta9 tp9 ro9 ho9 de9 bpersons bpapers bstamps bversions blines bsteps bsayings bfindings bwarnings bquestions bpersonsc bpapersc bstampsc bversionsc blinesc bstepsc bsayingsc bfindingsc bwarningsc bquestionsc cpersons cpapers cstamps cversions clines csteps csayings cfindings cwarnings cquestions cpersonsc cpapersc cstampsc cversionsc clinesc cstepsc csayingsc cfindingsc cwarningsc cquestionsc tby tln tsp tlnc tspc hs hz hi hw hn ht tr9 clk fi la ml mm sl sm clm hd kc0 km0 kc1 km1 kc2 km2 kc3 km3 kc4 km4 kc5 km5 kc6 km6 kc7 km7 kc8 km8 kc9 km9 kc10 km10 kc11 km11 kc12 km12 fc sh rr tc rrc xm nw nk nt nr nm ns nl nc nF np ntr nb nso nsi nit nsh nsf nss nrc kbpersons kbpapers kbstamps kbversions kblines kbsteps kbsayings kbfindings kbwarnings kbquestions kcpersons kcpapers kcstamps kcversions kclines kcsteps kcsayings kcfindings kcwarnings kcquestions kt ks kn kln ksp jr kr ytp yrm yjr ikp td vd19200 vl19201 gp ktd kvd kvl kgp tkd tf9 dk dn dp da dq cl bo le bi r1 rc rh tf tt9 tl tbv asd st9 tol mroundOf mroundFrom mfromHour mtoHour mfrom mto msort misFault mdeep mcoded mlines mbestCost mdealer mnumber mwhose msize misParted fbpersons fbpapers fbstamps fbversions fblines fbsteps fbsayings fbfindings fbwarnings fbquestions fcpersons fcpapers fcstamps fcversions fclines fcsteps fcsayings fcfindings fcwarnings fcquestions fby ftln ftsp fhw fhn ftr fhs fhz fhi fclm ffi fla fml fmm fsl fsm fk0 fk1 fk2 fk3 fk4 fk5 fk6 fk7 fk8 fk9 fk10 fk11 fk12 ffc fsh frr ftc fht gnw9206 y_nk y_nt y_nr y_nm y_ns y_nl y_nc y_np y_ntr y_nb y_nso y_nsi y_nit y_nsh y_nsf y_nss y_nrc)) hP2 (lk_D hD rfl) (fun hP hD => ?_)
  obtain ⟨hr9204, w9207⟩ := hr9204
  obtain rfl := hr9204
  refine lv_pop hx hb dL_law_268 rfl ?_
  refine lv_goto (tgt := 1718) hx hb dL_law_269 (by decide) ?_
  obtain ⟨z9209, z9210⟩ := w9202
  obtain ⟨z9211, z9212, z9213, z9214, z9215, z9216, z9217, z9218, z9219, z9220, z9221, z9222, z9223, z9224⟩ := w9207
  have hs_y_nw : SCX gnw9206 td vd19200 vl19201 gp (nI kbpersons) (nI kbpapers) (nI kbstamps) (nI kbsayings) (nI kbfindings) (nI kbwarnings) (nI kbquestions) := ⟨(z9213).trans (i_sc.1), (z9214.trans (by rw [i_sc.2.1])).trans z9209, (z9215.trans (by rw [i_sc.2.2.1])).trans z9210, (z9216).trans (i_sc.2.2.2.1), (z9217).trans (i_sc.2.2.2.2.1), (z9218).trans (i_sc.2.2.2.2.2.1), (z9219).trans (i_sc.2.2.2.2.2.2.1), (z9220).trans (i_sc.2.2.2.2.2.2.2.1), (z9221).trans (i_sc.2.2.2.2.2.2.2.2.1), (z9222).trans (i_sc.2.2.2.2.2.2.2.2.2.1), (z9223).trans (i_sc.2.2.2.2.2.2.2.2.2.2)⟩
  have he_persons : EQT gnw9206 12 20 fbpersons := EQT.fr i_epersons z9224 (by decide) (by decide)
  have he_papers : EQT gnw9206 32 72 fbpapers := EQT.fr i_epapers z9224 (by decide) (by decide)
  have he_stamps : EQT gnw9206 104 72 fbstamps := EQT.fr i_estamps z9224 (by decide) (by decide)
  have he_sayings : EQT gnw9206 1424 128 fbsayings := EQT.fr i_esayings z9224 (by decide) (by decide)
  have he_findings : EQT gnw9206 1552 48 fbfindings := EQT.fr i_efindings z9224 (by decide) (by decide)
  have he_warnings : EQT gnw9206 1600 48 fbwarnings := EQT.fr i_ewarnings z9224 (by decide) (by decide)
  have he_questions : EQT gnw9206 1648 14 fbquestions := EQT.fr i_equestions z9224 (by decide) (by decide)
  exact hback kbpersons kbpapers kbstamps kbversions kblines kbsteps kbsayings kbfindings kbwarnings kbquestions kcpersons kcpapers kcstamps kcversions kclines kcsteps kcsayings kcfindings kcwarnings kcquestions kt ks kn kln ksp jr kr ytp yrm yjr ikp td vd19200 vl19201 gp ktd kvd kvl kgp tkd tf9 dk dn dp da dq cl bo le bi r1 rc rh tf tt9 tl tbv asd st9 tol mroundOf mroundFrom mfromHour mtoHour mfrom mto msort misFault mdeep mcoded mlines mbestCost mdealer mnumber mwhose msize misParted fbpersons fbpapers fbstamps fbversions fblines fbsteps fbsayings fbfindings fbwarnings fbquestions fcpersons fcpapers fcstamps fcversions fclines fcsteps fcsayings fcfindings fcwarnings fcquestions fby ftln ftsp fhw fhn ftr fhs fhz fhi fclm ffi fla fml fmm fsl fsm fk0 fk1 fk2 fk3 fk4 fk5 fk6 fk7 fk8 fk9 fk10 fk11 fk12 ffc fsh frr ftc fht gnw9206 y_nk y_nt y_nr y_nm y_ns y_nl y_nc y_np y_ntr y_nb y_nso y_nsi y_nit y_nsh y_nsf y_nss y_nrc H locs ls i_kbpersons i_kbpapers i_kbstamps i_kbversions i_kblines i_kbsteps i_kbsayings i_kbfindings i_kbwarnings i_kbquestions i_kcpersons i_kcpapers i_kcstamps i_kcversions i_kclines i_kcsteps i_kcsayings i_kcfindings i_kcwarnings i_kcquestions i_kt i_ks i_kn i_kln i_ksp i_jr i_kr i_ytp i_yrm i_yjr i_tp i_cl i_tol i_ikp (by first | assumption | omega | exact Or.inl rfl | exact Or.inr rfl) (by first | assumption | omega | exact Or.inl rfl | exact Or.inr rfl) i_nk i_vk i_mb i_b6 i_sz i_sh i_sl i_sp i_sq (by first | assumption | omega | exact Or.inl rfl | exact Or.inr rfl) i_sk (by first | assumption | omega | exact Or.inl rfl | exact Or.inr rfl) (by first | assumption | omega | exact Or.inl rfl | exact Or.inr rfl) (by first | assumption | omega | exact Or.inl rfl | exact Or.inr rfl) (by first | assumption | omega | exact Or.inl rfl | exact Or.inr rfl) (by first | assumption | omega | exact Or.inl rfl | exact Or.inr rfl) (by first | assumption | omega | exact Or.inl rfl | exact Or.inr rfl) (by first | assumption | omega | exact Or.inl rfl | exact Or.inr rfl) i_kpersons i_kpapers i_kstamps i_ksayings i_kfindings i_kwarnings i_kquestions hP hD hS (lv_sub hl [0, 1, 2, 3] rfl)
set_option maxHeartbeats 8000000 in
set_option maxRecDepth 100000 in
theorem law_2 : LAWC 272 := by
  intro p l e s m below meth c b L xs G K A hf xb bb cc sg do9 ru9 ta9 tp9 ro9 ho9 de9 bpersons bpapers bstamps bversions blines bsteps bsayings bfindings bwarnings bquestions bpersonsc bpapersc bstampsc bversionsc blinesc bstepsc bsayingsc bfindingsc bwarningsc bquestionsc cpersons cpapers cstamps cversions clines csteps csayings cfindings cwarnings cquestions cpersonsc cpapersc cstampsc cversionsc clinesc cstepsc csayingsc cfindingsc cwarningsc cquestionsc tby tln tsp tlnc tspc hs hz hi hw hn ht tr9 clk fi la ml mm sl sm clm hd kc0 km0 kc1 km1 kc2 km2 kc3 km3 kc4 km4 kc5 km5 kc6 km6 kc7 km7 kc8 km8 kc9 km9 kc10 km10 kc11 km11 kc12 km12 fc sh rr tc rrc xm nw nk nt nr nm ns nl nc nF np ntr nb nso nsi nit nsh nsf nss nrc kbpersons kbpapers kbstamps kbversions kblines kbsteps kbsayings kbfindings kbwarnings kbquestions kcpersons kcpapers kcstamps kcversions kclines kcsteps kcsayings kcfindings kcwarnings kcquestions kt ks kn kln ksp jr kr ytp yrm yjr ikp td vd vl gp ktd kvd kvl kgp tkd tf9 dk dn dp da dq cl bo le bi r1 rc rh tf tt9 tl tbv asd st9 tol mroundOf mroundFrom mfromHour mtoHour mfrom mto msort misFault mdeep mcoded mlines mbestCost mdealer mnumber mwhose msize misParted fbpersons fbpapers fbstamps fbversions fblines fbsteps fbsayings fbfindings fbwarnings fbquestions fcpersons fcpapers fcstamps fcversions fclines fcsteps fcsayings fcfindings fcwarnings fcquestions fby ftln ftsp fhw fhn ftr fhs fhz fhi fclm ffi fla fml fmm fsl fsm fk0 fk1 fk2 fk3 fk4 fk5 fk6 fk7 fk8 fk9 fk10 fk11 fk12 ffc fsh frr ftc fht y_nw y_nk y_nt y_nr y_nm y_ns y_nl y_nc y_np y_ntr y_nb y_nso y_nsi y_nit y_nsh y_nsf y_nss y_nrc H locs ls ki hC hK hO hX hL hbl hbA hA hA2 hki hf0 hf1 hf2 hf3 hf4 hf5 hf6 hf7 hf8 hf9 hf10 hf11 hf12 i_kbpersons i_kbpapers i_kbstamps i_kbversions i_kblines i_kbsteps i_kbsayings i_kbfindings i_kbwarnings i_kbquestions i_kcpersons i_kcpapers i_kcstamps i_kcversions i_kclines i_kcsteps i_kcsayings i_kcfindings i_kcwarnings i_kcquestions i_kt i_ks i_kn i_kln i_ksp i_jr i_kr i_ytp i_yrm i_yjr i_tp i_cl i_tol i_ikp i_nw i_vw i_nk i_vk i_mb i_b6 i_sz i_sh i_sl i_sp i_sq i_sc i_sk i_epersons i_epapers i_estamps i_esayings i_efindings i_ewarnings i_equestions i_kpersons i_kpapers i_kstamps i_ksayings i_kfindings i_kwarnings i_kquestions hback hP hD hS hl
  refine Kan8 hC (fun hx hb hr hml hB hown hlocks hnm => ?_)
  refine lv_aload_n hx hb dL_law_272 rfl (lv_at2 hl) ?_
  refine lv_aload_n hx hb dL_law_273 rfl (lv_at3 hl) ?_
  refine lv_iload_n hx hb dL_law_274 rfl (lv_at0 hl) ?_
  refine lv_iconst (v := 1) hx hb dL_law_275 (by decide) ?_
  refine lv_iadd hx hb dL_law_276 ?_
  refine eqi (x1 := nI (ki + 1)) (nI_add ki 1) ?_
  refine va_sld hx hb hX hbl hbA hS (lw_in hL hki (by decide)) dL_law_277 ?_
  refine eqi (x1 := xs (ki + 1)) (congrArg xs (lw_cl hL hki (by decide))) ?_
  refine lv_aload_n hx hb dL_law_278 rfl (lv_at3 hl) ?_
  refine lv_iload_n hx hb dL_law_279 rfl (lv_at0 hl) ?_
  refine lv_iconst (v := 2) hx hb dL_law_280 (by decide) ?_
  refine lv_iadd hx hb dL_law_281 ?_
  refine eqi (x1 := nI (ki + 2)) (nI_add ki 2) ?_
  refine va_sld hx hb hX hbl hbA hS (lw_in hL hki (by decide)) dL_law_282 ?_
  refine eqi (x1 := xs (ki + 2)) (congrArg xs (lw_cl hL hki (by decide))) ?_
  refine lk_iV hC hK hl hP hD hS hA (p_person l G xb (xs (ki + 1)) (xs (ki + 2)) bb cc ikp sg do9 ru9 ta9 tp9 ro9 ho9 de9 bpersons bpapers bstamps bversions blines bsteps bsayings bfindings bwarnings bquestions td vd vl gp bpersonsc kbpersons fbpersons (i_kbpersons)) si_L_23 [0, 1, 2, 3] [0, 1, 2, 3] [true, true, true, true, false, false, false, false, false, false, false, false, false, false, false, false, false, false, false, false, false, false, false, false, false, false, false, false, false, false, false, false, false, false, false, false, false, false, false, false, false, false, false, false, false, false, false, false, false, false, false, false, false, false, false, false, false, false, false, false, false, false, false, false, false, false, false, false, false, false, false, false, false, false, false, false, false, false, false, false, false, false, false, false, false, false, false, false, false, false, false, false, false, false, false, false, false, false, false, false, false, false, false, false, false, false, false, false, false, false, false, false, false, false, false, false, false, false, false, false, false, false, false] rfl rfl (by decide +kernel) (by decide +kernel) rfl rfl rfl rfl rfl (Nat.le_of_ble_eq_true rfl) ⟨Nat.le_of_ble_eq_true rfl, Nat.le_of_ble_eq_true rfl⟩ ⟨by first | exact Nat.le_of_ble_eq_true rfl | omega, by first | exact Nat.le_of_ble_eq_true rfl | omega⟩ dL_law_283 (fun r9225 => Ktu2 fun k19227 gpersons9228 => ?_)
  intro H locs hr9225 hP2 hS
  try dsimp only at hr9225
  refine Kpdr (ws := (WLW G K hf xb bb cc sg do9 ru9 ta9 tp9 ro9 ho9 de9 bpersons bpapers bstamps bversions blines bsteps bsayings bfindings bwarnings bquestions bpersonsc bpapersc bstampsc bversionsc blinesc bstepsc bsayingsc bfindingsc bwarningsc bquestionsc cpersons cpapers cstamps cversions clines csteps csayings cfindings cwarnings cquestions cpersonsc cpapersc cstampsc cversionsc clinesc cstepsc csayingsc cfindingsc cwarningsc cquestionsc tby tln tsp tlnc tspc hs hz hi hw hn ht tr9 clk fi la ml mm sl sm clm hd kc0 km0 kc1 km1 kc2 km2 kc3 km3 kc4 km4 kc5 km5 kc6 km6 kc7 km7 kc8 km8 kc9 km9 kc10 km10 kc11 km11 kc12 km12 fc sh rr tc rrc xm nw nk nt nr nm ns nl nc nF np ntr nb nso nsi nit nsh nsf nss nrc k19227 kbpapers kbstamps kbversions kblines kbsteps kbsayings kbfindings kbwarnings kbquestions kcpersons kcpapers kcstamps kcversions kclines kcsteps kcsayings kcfindings kcwarnings kcquestions kt ks kn kln ksp jr kr ytp yrm yjr ikp td vd vl gp ktd kvd kvl kgp tkd tf9 dk dn dp da dq cl bo le bi r1 rc rh tf tt9 tl tbv asd st9 tol mroundOf mroundFrom mfromHour mtoHour mfrom mto msort misFault mdeep mcoded mlines mbestCost mdealer mnumber mwhose msize misParted gpersons9228 fbpapers fbstamps fbversions fblines fbsteps fbsayings fbfindings fbwarnings fbquestions fcpersons fcpapers fcstamps fcversions fclines fcsteps fcsayings fcfindings fcwarnings fcquestions fby ftln ftsp fhw fhn ftr fhs fhz fhi fclm ffi fla fml fmm fsl fsm fk0 fk1 fk2 fk3 fk4 fk5 fk6 fk7 fk8 fk9 fk10 fk11 fk12 ffc fsh frr ftc fht y_nw y_nk y_nt y_nr y_nm y_ns y_nl y_nc y_np y_ntr y_nb y_nso y_nsi y_nit y_nsh y_nsf y_nss y_nrc)) hP2 (lk_D hD rfl) (fun hP hD => ?_)
  obtain ⟨hr9225, w9229⟩ := hr9225
  obtain rfl := hr9225
  refine lv_pop hx hb dL_law_286 rfl ?_
  refine lv_aload_n hx hb dL_law_287 rfl (lv_at1 hl) ?_
  refine lv_aload_n hx hb dL_law_288 rfl (lv_at3 hl) ?_
  refine lv_iload_n hx hb dL_law_289 rfl (lv_at0 hl) ?_
  refine lv_iconst (v := 1) hx hb dL_law_290 (by decide) ?_
  refine lv_iadd hx hb dL_law_291 ?_
  refine eqi (x1 := nI (ki + 1)) (nI_add ki 1) ?_
  refine va_sld hx hb hX hbl hbA hS (lw_in hL hki (by decide)) dL_law_292 ?_
  refine eqi (x1 := xs (ki + 1)) (congrArg xs (lw_cl hL hki (by decide))) ?_
  refine lv_aload_n hx hb dL_law_293 rfl (lv_at3 hl) ?_
  refine lv_iload_n hx hb dL_law_294 rfl (lv_at0 hl) ?_
  refine lv_iconst (v := 2) hx hb dL_law_295 (by decide) ?_
  refine lv_iadd hx hb dL_law_296 ?_
  refine eqi (x1 := nI (ki + 2)) (nI_add ki 2) ?_
  refine va_sld hx hb hX hbl hbA hS (lw_in hL hki (by decide)) dL_law_297 ?_
  refine eqi (x1 := xs (ki + 2)) (congrArg xs (lw_cl hL hki (by decide))) ?_
  refine lk_iV hC hK hl hP hD hS hA (w_person l G kbpersons xm (xs (ki + 1)) (xs (ki + 2)) nw nk ikp nt (nI ytp) nr (nI yrm) mroundOf mroundFrom 0 nm mfromHour mtoHour ns mfrom mto msort misFault mdeep mcoded mlines nl nc nF np ntr nb mbestCost nso nsi nit nsh nsf nss nrc (nI yjr) mdealer mnumber mwhose msize misParted y_nw (i_sc.2.2.2.2.1) (i_kbpersons) (i_nw) (i_vw)) si_L_26 [103, 104] [0, 1] [false, false, false, false, false, false, false, false, false, false, false, false, false, false, false, false, false, false, false, false, false, false, false, false, false, false, false, false, false, false, false, false, false, false, false, false, false, false, false, false, false, false, false, false, false, false, false, false, false, false, false, false, false, false, false, false, false, false, false, false, false, false, false, false, false, false, false, false, false, false, false, false, false, false, false, false, false, false, false, false, false, false, false, false, false, false, false, false, false, false, false, false, false, false, false, false, false, false, false, false, false, false, false, true, true, false, false, false, false, false, false, false, false, false, false, false, false, false, false, false, false, false, false] rfl rfl (by decide +kernel) (by decide +kernel) rfl rfl rfl rfl rfl (Nat.le_of_ble_eq_true rfl) ⟨Nat.le_of_ble_eq_true rfl, Nat.le_of_ble_eq_true rfl⟩ ⟨by first | exact Nat.le_of_ble_eq_true rfl | omega, by first | exact Nat.le_of_ble_eq_true rfl | omega⟩ dL_law_298 (fun r9231 gnw9233 H locs hr9231 hP2 hS => ?_)
  try dsimp only at hr9231
  refine Kpdr (ws := (WLW G K hf xb bb cc sg do9 ru9 ta9 tp9 ro9 ho9 de9 bpersons bpapers bstamps bversions blines bsteps bsayings bfindings bwarnings bquestions bpersonsc bpapersc bstampsc bversionsc blinesc bstepsc bsayingsc bfindingsc bwarningsc bquestionsc cpersons cpapers cstamps cversions clines csteps csayings cfindings cwarnings cquestions cpersonsc cpapersc cstampsc cversionsc clinesc cstepsc csayingsc cfindingsc cwarningsc cquestionsc tby tln tsp tlnc tspc hs hz hi hw hn ht tr9 clk fi la ml mm sl sm clm hd kc0 km0 kc1 km1 kc2 km2 kc3 km3 kc4 km4 kc5 km5 kc6 km6 kc7 km7 kc8 km8 kc9 km9 kc10 km10 kc11 km11 kc12 km12 fc sh rr tc rrc xm nw nk nt nr nm ns nl nc nF np ntr nb nso nsi nit nsh nsf nss nrc k19227 kbpapers kbstamps kbversions kblines kbsteps kbsayings kbfindings kbwarnings kbquestions kcpersons kcpapers kcstamps kcversions kclines kcsteps kcsayings kcfindings kcwarnings kcquestions kt ks kn kln ksp jr kr ytp yrm yjr ikp td vd vl gp ktd kvd kvl kgp tkd tf9 dk dn dp da dq cl bo le bi r1 rc rh tf tt9 tl tbv asd st9 tol mroundOf mroundFrom mfromHour mtoHour mfrom mto msort misFault mdeep mcoded mlines mbestCost mdealer mnumber mwhose msize misParted gpersons9228 fbpapers fbstamps fbversions fblines fbsteps fbsayings fbfindings fbwarnings fbquestions fcpersons fcpapers fcstamps fcversions fclines fcsteps fcsayings fcfindings fcwarnings fcquestions fby ftln ftsp fhw fhn ftr fhs fhz fhi fclm ffi fla fml fmm fsl fsm fk0 fk1 fk2 fk3 fk4 fk5 fk6 fk7 fk8 fk9 fk10 fk11 fk12 ffc fsh frr ftc fht gnw9233 y_nk y_nt y_nr y_nm y_ns y_nl y_nc y_np y_ntr y_nb y_nso y_nsi y_nit y_nsh y_nsf y_nss y_nrc)) hP2 (lk_D hD rfl) (fun hP hD => ?_)
  obtain ⟨hr9231, w9234⟩ := hr9231
  obtain rfl := hr9231
  refine lv_pop hx hb dL_law_301 rfl ?_
  refine lv_goto (tgt := 1718) hx hb dL_law_302 (by decide) ?_
  obtain ⟨z9236, z9237, z9238, z9239⟩ := w9229
  obtain ⟨z9240, z9241, z9242, z9243, z9244, z9245, z9246, z9247, z9248, z9249, z9250, z9251, z9252, z9253, z9254⟩ := w9234
  have hs_y_nw : SCX gnw9233 td vd vl gp (nI k19227) (nI kbpapers) (nI kbstamps) (nI kbsayings) (nI kbfindings) (nI kbwarnings) (nI kbquestions) := ⟨(z9242).trans (i_sc.1), (z9243).trans (i_sc.2.1), (z9244).trans (i_sc.2.2.1), (z9245).trans (i_sc.2.2.2.1), (by rw [z9246, z9238, ifc_full (k := kbpersons) (R := 10) (by omega) (by decide)]; first | done | rfl), (z9247).trans (i_sc.2.2.2.2.2.1), (z9248).trans (i_sc.2.2.2.2.2.2.1), (z9249).trans (i_sc.2.2.2.2.2.2.2.1), (z9250).trans (i_sc.2.2.2.2.2.2.2.2.1), (z9251).trans (i_sc.2.2.2.2.2.2.2.2.2.1), (z9252).trans (i_sc.2.2.2.2.2.2.2.2.2.2)⟩
  have he_persons : EQT gnw9233 12 20 gpersons9228 := fun i hi9 => by rw [z9254 i hi9, z9239 i, ifc_full (k := kbpersons) (R := 10) (by omega) (by decide), i_epersons i hi9, rowu_congr (f := shf y_nw 12) (g := fbpersons) (n := 20) _ i_epersons i hi9]; first | done | rfl
  have he_papers : EQT gnw9233 32 72 fbpapers := EQT.fr i_epapers z9253 (by decide) (by decide)
  have he_stamps : EQT gnw9233 104 72 fbstamps := EQT.fr i_estamps z9253 (by decide) (by decide)
  have he_sayings : EQT gnw9233 1424 128 fbsayings := EQT.fr i_esayings z9253 (by decide) (by decide)
  have he_findings : EQT gnw9233 1552 48 fbfindings := EQT.fr i_efindings z9253 (by decide) (by decide)
  have he_warnings : EQT gnw9233 1600 48 fbwarnings := EQT.fr i_ewarnings z9253 (by decide) (by decide)
  have he_questions : EQT gnw9233 1648 14 fbquestions := EQT.fr i_equestions z9253 (by decide) (by decide)
  exact hback k19227 kbpapers kbstamps kbversions kblines kbsteps kbsayings kbfindings kbwarnings kbquestions kcpersons kcpapers kcstamps kcversions kclines kcsteps kcsayings kcfindings kcwarnings kcquestions kt ks kn kln ksp jr kr ytp yrm yjr ikp td vd vl gp ktd kvd kvl kgp tkd tf9 dk dn dp da dq cl bo le bi r1 rc rh tf tt9 tl tbv asd st9 tol mroundOf mroundFrom mfromHour mtoHour mfrom mto msort misFault mdeep mcoded mlines mbestCost mdealer mnumber mwhose msize misParted gpersons9228 fbpapers fbstamps fbversions fblines fbsteps fbsayings fbfindings fbwarnings fbquestions fcpersons fcpapers fcstamps fcversions fclines fcsteps fcsayings fcfindings fcwarnings fcquestions fby ftln ftsp fhw fhn ftr fhs fhz fhi fclm ffi fla fml fmm fsl fsm fk0 fk1 fk2 fk3 fk4 fk5 fk6 fk7 fk8 fk9 fk10 fk11 fk12 ffc fsh frr ftc fht gnw9233 y_nk y_nt y_nr y_nm y_ns y_nl y_nc y_np y_ntr y_nb y_nso y_nsi y_nit y_nsh y_nsf y_nss y_nrc H locs ls (by first | assumption | omega | exact Or.inl rfl | exact Or.inr rfl) i_kbpapers i_kbstamps i_kbversions i_kblines i_kbsteps i_kbsayings i_kbfindings i_kbwarnings i_kbquestions i_kcpersons i_kcpapers i_kcstamps i_kcversions i_kclines i_kcsteps i_kcsayings i_kcfindings i_kcwarnings i_kcquestions i_kt i_ks i_kn i_kln i_ksp i_jr i_kr i_ytp i_yrm i_yjr i_tp i_cl i_tol i_ikp (by first | assumption | omega | exact Or.inl rfl | exact Or.inr rfl) (by first | assumption | omega | exact Or.inl rfl | exact Or.inr rfl) i_nk i_vk i_mb i_b6 i_sz i_sh i_sl i_sp i_sq (by first | assumption | omega | exact Or.inl rfl | exact Or.inr rfl) i_sk (by first | assumption | omega | exact Or.inl rfl | exact Or.inr rfl) (by first | assumption | omega | exact Or.inl rfl | exact Or.inr rfl) (by first | assumption | omega | exact Or.inl rfl | exact Or.inr rfl) (by first | assumption | omega | exact Or.inl rfl | exact Or.inr rfl) (by first | assumption | omega | exact Or.inl rfl | exact Or.inr rfl) (by first | assumption | omega | exact Or.inl rfl | exact Or.inr rfl) (by first | assumption | omega | exact Or.inl rfl | exact Or.inr rfl) i_kpersons i_kpapers i_kstamps i_ksayings i_kfindings i_kwarnings i_kquestions hP hD hS (lv_sub hl [0, 1, 2, 3] rfl)
set_option maxHeartbeats 8000000 in
set_option maxRecDepth 100000 in
theorem law_3 : LAWC 305 := by
  intro p l e s m below meth c b L xs G K A hf xb bb cc sg do9 ru9 ta9 tp9 ro9 ho9 de9 bpersons bpapers bstamps bversions blines bsteps bsayings bfindings bwarnings bquestions bpersonsc bpapersc bstampsc bversionsc blinesc bstepsc bsayingsc bfindingsc bwarningsc bquestionsc cpersons cpapers cstamps cversions clines csteps csayings cfindings cwarnings cquestions cpersonsc cpapersc cstampsc cversionsc clinesc cstepsc csayingsc cfindingsc cwarningsc cquestionsc tby tln tsp tlnc tspc hs hz hi hw hn ht tr9 clk fi la ml mm sl sm clm hd kc0 km0 kc1 km1 kc2 km2 kc3 km3 kc4 km4 kc5 km5 kc6 km6 kc7 km7 kc8 km8 kc9 km9 kc10 km10 kc11 km11 kc12 km12 fc sh rr tc rrc xm nw nk nt nr nm ns nl nc nF np ntr nb nso nsi nit nsh nsf nss nrc kbpersons kbpapers kbstamps kbversions kblines kbsteps kbsayings kbfindings kbwarnings kbquestions kcpersons kcpapers kcstamps kcversions kclines kcsteps kcsayings kcfindings kcwarnings kcquestions kt ks kn kln ksp jr kr ytp yrm yjr ikp td vd vl gp ktd kvd kvl kgp tkd tf9 dk dn dp da dq cl bo le bi r1 rc rh tf tt9 tl tbv asd st9 tol mroundOf mroundFrom mfromHour mtoHour mfrom mto msort misFault mdeep mcoded mlines mbestCost mdealer mnumber mwhose msize misParted fbpersons fbpapers fbstamps fbversions fblines fbsteps fbsayings fbfindings fbwarnings fbquestions fcpersons fcpapers fcstamps fcversions fclines fcsteps fcsayings fcfindings fcwarnings fcquestions fby ftln ftsp fhw fhn ftr fhs fhz fhi fclm ffi fla fml fmm fsl fsm fk0 fk1 fk2 fk3 fk4 fk5 fk6 fk7 fk8 fk9 fk10 fk11 fk12 ffc fsh frr ftc fht y_nw y_nk y_nt y_nr y_nm y_ns y_nl y_nc y_np y_ntr y_nb y_nso y_nsi y_nit y_nsh y_nsf y_nss y_nrc H locs ls ki hC hK hO hX hL hbl hbA hA hA2 hki hf0 hf1 hf2 hf3 hf4 hf5 hf6 hf7 hf8 hf9 hf10 hf11 hf12 i_kbpersons i_kbpapers i_kbstamps i_kbversions i_kblines i_kbsteps i_kbsayings i_kbfindings i_kbwarnings i_kbquestions i_kcpersons i_kcpapers i_kcstamps i_kcversions i_kclines i_kcsteps i_kcsayings i_kcfindings i_kcwarnings i_kcquestions i_kt i_ks i_kn i_kln i_ksp i_jr i_kr i_ytp i_yrm i_yjr i_tp i_cl i_tol i_ikp i_nw i_vw i_nk i_vk i_mb i_b6 i_sz i_sh i_sl i_sp i_sq i_sc i_sk i_epersons i_epapers i_estamps i_esayings i_efindings i_ewarnings i_equestions i_kpersons i_kpapers i_kstamps i_ksayings i_kfindings i_kwarnings i_kquestions hback hP hD hS hl
  refine Kan8 hC (fun hx hb hr hml hB hown hlocks hnm => ?_)
  refine lv_aload_n hx hb dL_law_305 rfl (lv_at2 hl) ?_
  refine lv_aload_n hx hb dL_law_306 rfl (lv_at3 hl) ?_
  refine lv_iload_n hx hb dL_law_307 rfl (lv_at0 hl) ?_
  refine lv_iconst (v := 1) hx hb dL_law_308 (by decide) ?_
  refine lv_iadd hx hb dL_law_309 ?_
  refine eqi (x1 := nI (ki + 1)) (nI_add ki 1) ?_
  refine va_sld hx hb hX hbl hbA hS (lw_in hL hki (by decide)) dL_law_310 ?_
  refine eqi (x1 := xs (ki + 1)) (congrArg xs (lw_cl hL hki (by decide))) ?_
  refine lv_aload_n hx hb dL_law_311 rfl (lv_at3 hl) ?_
  refine lv_iload_n hx hb dL_law_312 rfl (lv_at0 hl) ?_
  refine lv_iconst (v := 2) hx hb dL_law_313 (by decide) ?_
  refine lv_iadd hx hb dL_law_314 ?_
  refine eqi (x1 := nI (ki + 2)) (nI_add ki 2) ?_
  refine va_sld hx hb hX hbl hbA hS (lw_in hL hki (by decide)) dL_law_315 ?_
  refine eqi (x1 := xs (ki + 2)) (congrArg xs (lw_cl hL hki (by decide))) ?_
  refine pV hC hK hl hP hD (p_personOf l G xb (xs (ki + 1)) (xs (ki + 2)) bb cc ikp sg do9 ru9 ta9 tp9 ro9 ho9 de9 bpersons bpapers bstamps bversions blines bsteps bsayings bfindings bwarnings bquestions td vd vl gp bpersonsc kbpersons fbpersons bpapersc kbpapers fbpapers bsayingsc kbsayings fbsayings (i_kbpersons) (i_kbpapers) (i_kbsayings) (i_sp)) si_L_27 [0, 1, 2, 3, 4, 5, 14, 15] sm_0_1_2_3_4_5_14_15 fm_0_1_2_3_4_5_14_15 nd_0_1_2_3_4_5_14_15 rfl rfl rfl rfl rfl (Nat.le_of_ble_eq_true rfl) ⟨Nat.le_of_ble_eq_true rfl, Nat.le_of_ble_eq_true rfl⟩ ⟨by first | exact Nat.le_of_ble_eq_true rfl | exact Nat.zero_le _, by first | exact Nat.le_of_ble_eq_true rfl | exact Nat.zero_le _⟩ dL_law_316 (Keqr ?_)
  refine lv_pop hx hb dL_law_319 rfl ?_
  refine lv_aload_n hx hb dL_law_320 rfl (lv_at1 hl) ?_
  refine lv_aload_n hx hb dL_law_321 rfl (lv_at3 hl) ?_
  refine lv_iload_n hx hb dL_law_322 rfl (lv_at0 hl) ?_
  refine lv_iconst (v := 1) hx hb dL_law_323 (by decide) ?_
  refine lv_iadd hx hb dL_law_324 ?_
  refine eqi (x1 := nI (ki + 1)) (nI_add ki 1) ?_
  refine va_sld hx hb hX hbl hbA hS (lw_in hL hki (by decide)) dL_law_325 ?_
  refine eqi (x1 := xs (ki + 1)) (congrArg xs (lw_cl hL hki (by decide))) ?_
  refine lv_aload_n hx hb dL_law_326 rfl (lv_at3 hl) ?_
  refine lv_iload_n hx hb dL_law_327 rfl (lv_at0 hl) ?_
  refine lv_iconst (v := 2) hx hb dL_law_328 (by decide) ?_
  refine lv_iadd hx hb dL_law_329 ?_
  refine eqi (x1 := nI (ki + 2)) (nI_add ki 2) ?_
  refine va_sld hx hb hX hbl hbA hS (lw_in hL hki (by decide)) dL_law_330 ?_
  refine eqi (x1 := xs (ki + 2)) (congrArg xs (lw_cl hL hki (by decide))) ?_
  refine pV hC hK hl hP hD (r_personOf l G kbpersons kbpapers kbsayings xm (xs (ki + 1)) (xs (ki + 2)) nw nk ikp nt (nI ytp) nr (nI yrm) mroundOf mroundFrom nm mfromHour mtoHour ns mfrom mto msort misFault mdeep mcoded mlines nl nc nF np ntr nb mbestCost nso nsi nit nsh nsf nss nrc (nI yjr) mdealer mnumber mwhose msize misParted y_nw (i_sc.2.2.2.2.1) (i_kbpersons) (i_sc.2.2.2.2.2.1) (i_kbpapers) (i_sc.2.2.2.2.2.2.2.1) (i_kbsayings) (i_nw)) si_L_30 [103, 104] sm_103_104 fm_103_104 nd_103_104 rfl rfl rfl rfl rfl (Nat.le_of_ble_eq_true rfl) ⟨Nat.le_of_ble_eq_true rfl, Nat.le_of_ble_eq_true rfl⟩ ⟨by first | exact Nat.le_of_ble_eq_true rfl | exact Nat.zero_le _, by first | exact Nat.le_of_ble_eq_true rfl | exact Nat.zero_le _⟩ dL_law_331 (Keqr ?_)
  refine lv_pop hx hb dL_law_334 rfl ?_
  refine lv_goto (tgt := 1718) hx hb dL_law_335 (by decide) ?_
  exact hback kbpersons kbpapers kbstamps kbversions kblines kbsteps kbsayings kbfindings kbwarnings kbquestions kcpersons kcpapers kcstamps kcversions kclines kcsteps kcsayings kcfindings kcwarnings kcquestions kt ks kn kln ksp jr kr ytp yrm yjr ikp td vd vl gp ktd kvd kvl kgp tkd tf9 dk dn dp da dq cl bo le bi r1 rc rh tf tt9 tl tbv asd st9 tol mroundOf mroundFrom mfromHour mtoHour mfrom mto msort misFault mdeep mcoded mlines mbestCost mdealer mnumber mwhose msize misParted fbpersons fbpapers fbstamps fbversions fblines fbsteps fbsayings fbfindings fbwarnings fbquestions fcpersons fcpapers fcstamps fcversions fclines fcsteps fcsayings fcfindings fcwarnings fcquestions fby ftln ftsp fhw fhn ftr fhs fhz fhi fclm ffi fla fml fmm fsl fsm fk0 fk1 fk2 fk3 fk4 fk5 fk6 fk7 fk8 fk9 fk10 fk11 fk12 ffc fsh frr ftc fht y_nw y_nk y_nt y_nr y_nm y_ns y_nl y_nc y_np y_ntr y_nb y_nso y_nsi y_nit y_nsh y_nsf y_nss y_nrc H locs ls i_kbpersons i_kbpapers i_kbstamps i_kbversions i_kblines i_kbsteps i_kbsayings i_kbfindings i_kbwarnings i_kbquestions i_kcpersons i_kcpapers i_kcstamps i_kcversions i_kclines i_kcsteps i_kcsayings i_kcfindings i_kcwarnings i_kcquestions i_kt i_ks i_kn i_kln i_ksp i_jr i_kr i_ytp i_yrm i_yjr i_tp i_cl i_tol i_ikp i_nw i_vw i_nk i_vk i_mb i_b6 i_sz i_sh i_sl i_sp i_sq i_sc i_sk i_epersons i_epapers i_estamps i_esayings i_efindings i_ewarnings i_equestions i_kpersons i_kpapers i_kstamps i_ksayings i_kfindings i_kwarnings i_kquestions hP hD hS (lv_sub hl [0, 1, 2, 3] rfl)
set_option maxHeartbeats 8000000 in
set_option maxRecDepth 100000 in
theorem law_4 : LAWC 338 := by
  intro p l e s m below meth c b L xs G K A hf xb bb cc sg do9 ru9 ta9 tp9 ro9 ho9 de9 bpersons bpapers bstamps bversions blines bsteps bsayings bfindings bwarnings bquestions bpersonsc bpapersc bstampsc bversionsc blinesc bstepsc bsayingsc bfindingsc bwarningsc bquestionsc cpersons cpapers cstamps cversions clines csteps csayings cfindings cwarnings cquestions cpersonsc cpapersc cstampsc cversionsc clinesc cstepsc csayingsc cfindingsc cwarningsc cquestionsc tby tln tsp tlnc tspc hs hz hi hw hn ht tr9 clk fi la ml mm sl sm clm hd kc0 km0 kc1 km1 kc2 km2 kc3 km3 kc4 km4 kc5 km5 kc6 km6 kc7 km7 kc8 km8 kc9 km9 kc10 km10 kc11 km11 kc12 km12 fc sh rr tc rrc xm nw nk nt nr nm ns nl nc nF np ntr nb nso nsi nit nsh nsf nss nrc kbpersons kbpapers kbstamps kbversions kblines kbsteps kbsayings kbfindings kbwarnings kbquestions kcpersons kcpapers kcstamps kcversions kclines kcsteps kcsayings kcfindings kcwarnings kcquestions kt ks kn kln ksp jr kr ytp yrm yjr ikp td vd vl gp ktd kvd kvl kgp tkd tf9 dk dn dp da dq cl bo le bi r1 rc rh tf tt9 tl tbv asd st9 tol mroundOf mroundFrom mfromHour mtoHour mfrom mto msort misFault mdeep mcoded mlines mbestCost mdealer mnumber mwhose msize misParted fbpersons fbpapers fbstamps fbversions fblines fbsteps fbsayings fbfindings fbwarnings fbquestions fcpersons fcpapers fcstamps fcversions fclines fcsteps fcsayings fcfindings fcwarnings fcquestions fby ftln ftsp fhw fhn ftr fhs fhz fhi fclm ffi fla fml fmm fsl fsm fk0 fk1 fk2 fk3 fk4 fk5 fk6 fk7 fk8 fk9 fk10 fk11 fk12 ffc fsh frr ftc fht y_nw y_nk y_nt y_nr y_nm y_ns y_nl y_nc y_np y_ntr y_nb y_nso y_nsi y_nit y_nsh y_nsf y_nss y_nrc H locs ls ki hC hK hO hX hL hbl hbA hA hA2 hki hf0 hf1 hf2 hf3 hf4 hf5 hf6 hf7 hf8 hf9 hf10 hf11 hf12 i_kbpersons i_kbpapers i_kbstamps i_kbversions i_kblines i_kbsteps i_kbsayings i_kbfindings i_kbwarnings i_kbquestions i_kcpersons i_kcpapers i_kcstamps i_kcversions i_kclines i_kcsteps i_kcsayings i_kcfindings i_kcwarnings i_kcquestions i_kt i_ks i_kn i_kln i_ksp i_jr i_kr i_ytp i_yrm i_yjr i_tp i_cl i_tol i_ikp i_nw i_vw i_nk i_vk i_mb i_b6 i_sz i_sh i_sl i_sp i_sq i_sc i_sk i_epersons i_epapers i_estamps i_esayings i_efindings i_ewarnings i_equestions i_kpersons i_kpapers i_kstamps i_ksayings i_kfindings i_kwarnings i_kquestions hback hP hD hS hl
  refine Kan8 hC (fun hx hb hr hml hB hown hlocks hnm => ?_)
  refine lv_aload_n hx hb dL_law_338 rfl (lv_at2 hl) ?_
  refine lv_aload_n hx hb dL_law_339 rfl (lv_at3 hl) ?_
  refine lv_iload_n hx hb dL_law_340 rfl (lv_at0 hl) ?_
  refine lv_iconst (v := 1) hx hb dL_law_341 (by decide) ?_
  refine lv_iadd hx hb dL_law_342 ?_
  refine eqi (x1 := nI (ki + 1)) (nI_add ki 1) ?_
  refine va_sld hx hb hX hbl hbA hS (lw_in hL hki (by decide)) dL_law_343 ?_
  refine eqi (x1 := xs (ki + 1)) (congrArg xs (lw_cl hL hki (by decide))) ?_
  refine lv_aload_n hx hb dL_law_344 rfl (lv_at3 hl) ?_
  refine lv_iload_n hx hb dL_law_345 rfl (lv_at0 hl) ?_
  refine lv_iconst (v := 2) hx hb dL_law_346 (by decide) ?_
  refine lv_iadd hx hb dL_law_347 ?_
  refine eqi (x1 := nI (ki + 2)) (nI_add ki 2) ?_
  refine va_sld hx hb hX hbl hbA hS (lw_in hL hki (by decide)) dL_law_348 ?_
  refine eqi (x1 := xs (ki + 2)) (congrArg xs (lw_cl hL hki (by decide))) ?_
  refine lv_aload_n hx hb dL_law_349 rfl (lv_at3 hl) ?_
  refine lv_iload_n hx hb dL_law_350 rfl (lv_at0 hl) ?_
  refine lv_iconst (v := 3) hx hb dL_law_351 (by decide) ?_
  refine lv_iadd hx hb dL_law_352 ?_
  refine eqi (x1 := nI (ki + 3)) (nI_add ki 3) ?_
  refine va_sld hx hb hX hbl hbA hS (lw_in hL hki (by decide)) dL_law_353 ?_
  refine eqi (x1 := xs (ki + 3)) (congrArg xs (lw_cl hL hki (by decide))) ?_
  refine lv_aload_n hx hb dL_law_354 rfl (lv_at3 hl) ?_
  refine lv_iload_n hx hb dL_law_355 rfl (lv_at0 hl) ?_
  refine lv_iconst (v := 4) hx hb dL_law_356 (by decide) ?_
  refine lv_iadd hx hb dL_law_357 ?_
  refine eqi (x1 := nI (ki + 4)) (nI_add ki 4) ?_
  refine va_sld hx hb hX hbl hbA hS (lw_in hL hki (by decide)) dL_law_358 ?_
  refine eqi (x1 := xs (ki + 4)) (congrArg xs (lw_cl hL hki (by decide))) ?_
  refine lk_iV hC hK hl hP hD hS hA (p_paper l G xb (xs (ki + 1)) (xs (ki + 2)) (xs (ki + 3)) (xs (ki + 4)) bb cc ikp sg do9 ru9 ta9 tp9 ro9 ho9 de9 bpersons bpapers bstamps bversions blines bsteps bsayings bfindings bwarnings bquestions td vd vl gp bpapersc kbpapers fbpapers bpersonsc kbpersons fbpersons (i_kbpapers) (i_kbpersons)) si_L_31 [0, 1, 4, 5, 2, 3] [0, 1, 4, 5, 2, 3] [true, true, true, true, true, true, false, false, false, false, false, false, false, false, false, false, false, false, false, false, false, false, false, false, false, false, false, false, false, false, false, false, false, false, false, false, false, false, false, false, false, false, false, false, false, false, false, false, false, false, false, false, false, false, false, false, false, false, false, false, false, false, false, false, false, false, false, false, false, false, false, false, false, false, false, false, false, false, false, false, false, false, false, false, false, false, false, false, false, false, false, false, false, false, false, false, false, false, false, false, false, false, false, false, false, false, false, false, false, false, false, false, false, false, false, false, false, false, false, false, false, false, false] rfl rfl (by decide +kernel) (by decide +kernel) rfl rfl rfl rfl rfl (Nat.le_of_ble_eq_true rfl) ⟨Nat.le_of_ble_eq_true rfl, Nat.le_of_ble_eq_true rfl⟩ ⟨by first | exact Nat.le_of_ble_eq_true rfl | omega, by first | exact Nat.le_of_ble_eq_true rfl | omega⟩ dL_law_359 (fun r9259 => Ktu2 fun k19261 gpapers9262 => ?_)
  intro H locs hr9259 hP2 hS
  try dsimp only at hr9259
  refine Kpdr (ws := (WLW G K hf xb bb cc sg do9 ru9 ta9 tp9 ro9 ho9 de9 bpersons bpapers bstamps bversions blines bsteps bsayings bfindings bwarnings bquestions bpersonsc bpapersc bstampsc bversionsc blinesc bstepsc bsayingsc bfindingsc bwarningsc bquestionsc cpersons cpapers cstamps cversions clines csteps csayings cfindings cwarnings cquestions cpersonsc cpapersc cstampsc cversionsc clinesc cstepsc csayingsc cfindingsc cwarningsc cquestionsc tby tln tsp tlnc tspc hs hz hi hw hn ht tr9 clk fi la ml mm sl sm clm hd kc0 km0 kc1 km1 kc2 km2 kc3 km3 kc4 km4 kc5 km5 kc6 km6 kc7 km7 kc8 km8 kc9 km9 kc10 km10 kc11 km11 kc12 km12 fc sh rr tc rrc xm nw nk nt nr nm ns nl nc nF np ntr nb nso nsi nit nsh nsf nss nrc kbpersons k19261 kbstamps kbversions kblines kbsteps kbsayings kbfindings kbwarnings kbquestions kcpersons kcpapers kcstamps kcversions kclines kcsteps kcsayings kcfindings kcwarnings kcquestions kt ks kn kln ksp jr kr ytp yrm yjr ikp td vd vl gp ktd kvd kvl kgp tkd tf9 dk dn dp da dq cl bo le bi r1 rc rh tf tt9 tl tbv asd st9 tol mroundOf mroundFrom mfromHour mtoHour mfrom mto msort misFault mdeep mcoded mlines mbestCost mdealer mnumber mwhose msize misParted fbpersons gpapers9262 fbstamps fbversions fblines fbsteps fbsayings fbfindings fbwarnings fbquestions fcpersons fcpapers fcstamps fcversions fclines fcsteps fcsayings fcfindings fcwarnings fcquestions fby ftln ftsp fhw fhn ftr fhs fhz fhi fclm ffi fla fml fmm fsl fsm fk0 fk1 fk2 fk3 fk4 fk5 fk6 fk7 fk8 fk9 fk10 fk11 fk12 ffc fsh frr ftc fht y_nw y_nk y_nt y_nr y_nm y_ns y_nl y_nc y_np y_ntr y_nb y_nso y_nsi y_nit y_nsh y_nsf y_nss y_nrc)) hP2 (lk_D hD rfl) (fun hP hD => ?_)
  obtain ⟨hr9259, w9263⟩ := hr9259
  obtain rfl := hr9259
  refine lv_pop hx hb dL_law_362 rfl ?_
  refine lv_aload_n hx hb dL_law_363 rfl (lv_at1 hl) ?_
  refine lv_aload_n hx hb dL_law_364 rfl (lv_at3 hl) ?_
  refine lv_iload_n hx hb dL_law_365 rfl (lv_at0 hl) ?_
  refine lv_iconst (v := 1) hx hb dL_law_366 (by decide) ?_
  refine lv_iadd hx hb dL_law_367 ?_
  refine eqi (x1 := nI (ki + 1)) (nI_add ki 1) ?_
  refine va_sld hx hb hX hbl hbA hS (lw_in hL hki (by decide)) dL_law_368 ?_
  refine eqi (x1 := xs (ki + 1)) (congrArg xs (lw_cl hL hki (by decide))) ?_
  refine lv_aload_n hx hb dL_law_369 rfl (lv_at3 hl) ?_
  refine lv_iload_n hx hb dL_law_370 rfl (lv_at0 hl) ?_
  refine lv_iconst (v := 2) hx hb dL_law_371 (by decide) ?_
  refine lv_iadd hx hb dL_law_372 ?_
  refine eqi (x1 := nI (ki + 2)) (nI_add ki 2) ?_
  refine va_sld hx hb hX hbl hbA hS (lw_in hL hki (by decide)) dL_law_373 ?_
  refine eqi (x1 := xs (ki + 2)) (congrArg xs (lw_cl hL hki (by decide))) ?_
  refine lv_aload_n hx hb dL_law_374 rfl (lv_at3 hl) ?_
  refine lv_iload_n hx hb dL_law_375 rfl (lv_at0 hl) ?_
  refine lv_iconst (v := 3) hx hb dL_law_376 (by decide) ?_
  refine lv_iadd hx hb dL_law_377 ?_
  refine eqi (x1 := nI (ki + 3)) (nI_add ki 3) ?_
  refine va_sld hx hb hX hbl hbA hS (lw_in hL hki (by decide)) dL_law_378 ?_
  refine eqi (x1 := xs (ki + 3)) (congrArg xs (lw_cl hL hki (by decide))) ?_
  refine lv_aload_n hx hb dL_law_379 rfl (lv_at3 hl) ?_
  refine lv_iload_n hx hb dL_law_380 rfl (lv_at0 hl) ?_
  refine lv_iconst (v := 4) hx hb dL_law_381 (by decide) ?_
  refine lv_iadd hx hb dL_law_382 ?_
  refine eqi (x1 := nI (ki + 4)) (nI_add ki 4) ?_
  refine va_sld hx hb hX hbl hbA hS (lw_in hL hki (by decide)) dL_law_383 ?_
  refine eqi (x1 := xs (ki + 4)) (congrArg xs (lw_cl hL hki (by decide))) ?_
  refine lk_iV hC hK hl hP hD hS hA (w_paper l G kbpersons kbpapers xm (xs (ki + 1)) (xs (ki + 2)) (xs (ki + 3)) (xs (ki + 4)) nw nk ikp nt (nI ytp) nr (nI yrm) mroundOf mroundFrom 0 nm mfromHour mtoHour ns mfrom mto msort misFault mdeep mcoded mlines nl nc nF np ntr nb mbestCost nso nsi nit nsh nsf nss nrc (nI yjr) mdealer mnumber mwhose msize misParted y_nw (i_sc.2.2.2.2.1) (i_kbpersons) (i_sc.2.2.2.2.2.1) (i_kbpapers) (i_nw) (i_vw)) si_L_35 [103, 104] [0, 1] [false, false, false, false, false, false, false, false, false, false, false, false, false, false, false, false, false, false, false, false, false, false, false, false, false, false, false, false, false, false, false, false, false, false, false, false, false, false, false, false, false, false, false, false, false, false, false, false, false, false, false, false, false, false, false, false, false, false, false, false, false, false, false, false, false, false, false, false, false, false, false, false, false, false, false, false, false, false, false, false, false, false, false, false, false, false, false, false, false, false, false, false, false, false, false, false, false, false, false, false, false, false, false, true, true, false, false, false, false, false, false, false, false, false, false, false, false, false, false, false, false, false, false] rfl rfl (by decide +kernel) (by decide +kernel) rfl rfl rfl rfl rfl (Nat.le_of_ble_eq_true rfl) ⟨Nat.le_of_ble_eq_true rfl, Nat.le_of_ble_eq_true rfl⟩ ⟨by first | exact Nat.le_of_ble_eq_true rfl | omega, by first | exact Nat.le_of_ble_eq_true rfl | omega⟩ dL_law_384 (fun r9265 gnw9267 H locs hr9265 hP2 hS => ?_)
  try dsimp only at hr9265
  refine Kpdr (ws := (WLW G K hf xb bb cc sg do9 ru9 ta9 tp9 ro9 ho9 de9 bpersons bpapers bstamps bversions blines bsteps bsayings bfindings bwarnings bquestions bpersonsc bpapersc bstampsc bversionsc blinesc bstepsc bsayingsc bfindingsc bwarningsc bquestionsc cpersons cpapers cstamps cversions clines csteps csayings cfindings cwarnings cquestions cpersonsc cpapersc cstampsc cversionsc clinesc cstepsc csayingsc cfindingsc cwarningsc cquestionsc tby tln tsp tlnc tspc hs hz hi hw hn ht tr9 clk fi la ml mm sl sm clm hd kc0 km0 kc1 km1 kc2 km2 kc3 km3 kc4 km4 kc5 km5 kc6 km6 kc7 km7 kc8 km8 kc9 km9 kc10 km10 kc11 km11 kc12 km12 fc sh rr tc rrc xm nw nk nt nr nm ns nl nc nF np ntr nb nso nsi nit nsh nsf nss nrc kbpersons k19261 kbstamps kbversions kblines kbsteps kbsayings kbfindings kbwarnings kbquestions kcpersons kcpapers kcstamps kcversions kclines kcsteps kcsayings kcfindings kcwarnings kcquestions kt ks kn kln ksp jr kr ytp yrm yjr ikp td vd vl gp ktd kvd kvl kgp tkd tf9 dk dn dp da dq cl bo le bi r1 rc rh tf tt9 tl tbv asd st9 tol mroundOf mroundFrom mfromHour mtoHour mfrom mto msort misFault mdeep mcoded mlines mbestCost mdealer mnumber mwhose msize misParted fbpersons gpapers9262 fbstamps fbversions fblines fbsteps fbsayings fbfindings fbwarnings fbquestions fcpersons fcpapers fcstamps fcversions fclines fcsteps fcsayings fcfindings fcwarnings fcquestions fby ftln ftsp fhw fhn ftr fhs fhz fhi fclm ffi fla fml fmm fsl fsm fk0 fk1 fk2 fk3 fk4 fk5 fk6 fk7 fk8 fk9 fk10 fk11 fk12 ffc fsh frr ftc fht gnw9267 y_nk y_nt y_nr y_nm y_ns y_nl y_nc y_np y_ntr y_nb y_nso y_nsi y_nit y_nsh y_nsf y_nss y_nrc)) hP2 (lk_D hD rfl) (fun hP hD => ?_)
  obtain ⟨hr9265, w9268⟩ := hr9265
  obtain rfl := hr9265
  refine lv_pop hx hb dL_law_387 rfl ?_
  refine lv_goto (tgt := 1718) hx hb dL_law_388 (by decide) ?_
  obtain ⟨z9270, z9271, z9272, z9273⟩ := w9263
  obtain ⟨z9274, z9275, z9276, z9277, z9278, z9279, z9280, z9281, z9282, z9283, z9284, z9285, z9286, z9287, z9288⟩ := w9268
  have hs_y_nw : SCX gnw9267 td vd vl gp (nI kbpersons) (nI k19261) (nI kbstamps) (nI kbsayings) (nI kbfindings) (nI kbwarnings) (nI kbquestions) := ⟨(z9276).trans (i_sc.1), (z9277).trans (i_sc.2.1), (z9278).trans (i_sc.2.2.1), (z9279).trans (i_sc.2.2.2.1), (z9280).trans (i_sc.2.2.2.2.1), (by rw [z9281, z9272, ifc_full (k := kbpapers) (R := 12) (by omega) (by decide)]; first | done | rfl), (z9282).trans (i_sc.2.2.2.2.2.2.1), (z9283).trans (i_sc.2.2.2.2.2.2.2.1), (z9284).trans (i_sc.2.2.2.2.2.2.2.2.1), (z9285).trans (i_sc.2.2.2.2.2.2.2.2.2.1), (z9286).trans (i_sc.2.2.2.2.2.2.2.2.2.2)⟩
  have he_persons : EQT gnw9267 12 20 fbpersons := EQT.fr i_epersons z9287 (by decide) (by decide)
  have he_papers : EQT gnw9267 32 72 gpapers9262 := fun i hi9 => by rw [z9288 i hi9, z9273 i, ifc_full (k := kbpapers) (R := 12) (by omega) (by decide), i_epapers i hi9, rowu_congr (f := shf y_nw 32) (g := fbpapers) (n := 72) _ i_epapers i hi9, i_sc.1]; first | done | rfl
  have he_stamps : EQT gnw9267 104 72 fbstamps := EQT.fr i_estamps z9287 (by decide) (by decide)
  have he_sayings : EQT gnw9267 1424 128 fbsayings := EQT.fr i_esayings z9287 (by decide) (by decide)
  have he_findings : EQT gnw9267 1552 48 fbfindings := EQT.fr i_efindings z9287 (by decide) (by decide)
  have he_warnings : EQT gnw9267 1600 48 fbwarnings := EQT.fr i_ewarnings z9287 (by decide) (by decide)
  have he_questions : EQT gnw9267 1648 14 fbquestions := EQT.fr i_equestions z9287 (by decide) (by decide)
  have hsp9 : SPI fbsayings kbsayings k19261 := SPI.mono i_sp z9271 (by omega)
  exact hback kbpersons k19261 kbstamps kbversions kblines kbsteps kbsayings kbfindings kbwarnings kbquestions kcpersons kcpapers kcstamps kcversions kclines kcsteps kcsayings kcfindings kcwarnings kcquestions kt ks kn kln ksp jr kr ytp yrm yjr ikp td vd vl gp ktd kvd kvl kgp tkd tf9 dk dn dp da dq cl bo le bi r1 rc rh tf tt9 tl tbv asd st9 tol mroundOf mroundFrom mfromHour mtoHour mfrom mto msort misFault mdeep mcoded mlines mbestCost mdealer mnumber mwhose msize misParted fbpersons gpapers9262 fbstamps fbversions fblines fbsteps fbsayings fbfindings fbwarnings fbquestions fcpersons fcpapers fcstamps fcversions fclines fcsteps fcsayings fcfindings fcwarnings fcquestions fby ftln ftsp fhw fhn ftr fhs fhz fhi fclm ffi fla fml fmm fsl fsm fk0 fk1 fk2 fk3 fk4 fk5 fk6 fk7 fk8 fk9 fk10 fk11 fk12 ffc fsh frr ftc fht gnw9267 y_nk y_nt y_nr y_nm y_ns y_nl y_nc y_np y_ntr y_nb y_nso y_nsi y_nit y_nsh y_nsf y_nss y_nrc H locs ls i_kbpersons (by first | assumption | omega | exact Or.inl rfl | exact Or.inr rfl) i_kbstamps i_kbversions i_kblines i_kbsteps i_kbsayings i_kbfindings i_kbwarnings i_kbquestions i_kcpersons i_kcpapers i_kcstamps i_kcversions i_kclines i_kcsteps i_kcsayings i_kcfindings i_kcwarnings i_kcquestions i_kt i_ks i_kn i_kln i_ksp i_jr i_kr i_ytp i_yrm i_yjr i_tp i_cl i_tol i_ikp (by first | assumption | omega | exact Or.inl rfl | exact Or.inr rfl) (by first | assumption | omega | exact Or.inl rfl | exact Or.inr rfl) i_nk i_vk i_mb i_b6 i_sz i_sh i_sl (by first | assumption | omega | exact Or.inl rfl | exact Or.inr rfl) i_sq (by first | assumption | omega | exact Or.inl rfl | exact Or.inr rfl) i_sk (by first | assumption | omega | exact Or.inl rfl | exact Or.inr rfl) (by first | assumption | omega | exact Or.inl rfl | exact Or.inr rfl) (by first | assumption | omega | exact Or.inl rfl | exact Or.inr rfl) (by first | assumption | omega | exact Or.inl rfl | exact Or.inr rfl) (by first | assumption | omega | exact Or.inl rfl | exact Or.inr rfl) (by first | assumption | omega | exact Or.inl rfl | exact Or.inr rfl) (by first | assumption | omega | exact Or.inl rfl | exact Or.inr rfl) i_kpersons i_kpapers i_kstamps i_ksayings i_kfindings i_kwarnings i_kquestions hP hD hS (lv_sub hl [0, 1, 2, 3] rfl)
set_option maxHeartbeats 8000000 in
set_option maxRecDepth 100000 in
theorem law_5 : LAWC 391 := by
  intro p l e s m below meth c b L xs G K A hf xb bb cc sg do9 ru9 ta9 tp9 ro9 ho9 de9 bpersons bpapers bstamps bversions blines bsteps bsayings bfindings bwarnings bquestions bpersonsc bpapersc bstampsc bversionsc blinesc bstepsc bsayingsc bfindingsc bwarningsc bquestionsc cpersons cpapers cstamps cversions clines csteps csayings cfindings cwarnings cquestions cpersonsc cpapersc cstampsc cversionsc clinesc cstepsc csayingsc cfindingsc cwarningsc cquestionsc tby tln tsp tlnc tspc hs hz hi hw hn ht tr9 clk fi la ml mm sl sm clm hd kc0 km0 kc1 km1 kc2 km2 kc3 km3 kc4 km4 kc5 km5 kc6 km6 kc7 km7 kc8 km8 kc9 km9 kc10 km10 kc11 km11 kc12 km12 fc sh rr tc rrc xm nw nk nt nr nm ns nl nc nF np ntr nb nso nsi nit nsh nsf nss nrc kbpersons kbpapers kbstamps kbversions kblines kbsteps kbsayings kbfindings kbwarnings kbquestions kcpersons kcpapers kcstamps kcversions kclines kcsteps kcsayings kcfindings kcwarnings kcquestions kt ks kn kln ksp jr kr ytp yrm yjr ikp td vd vl gp ktd kvd kvl kgp tkd tf9 dk dn dp da dq cl bo le bi r1 rc rh tf tt9 tl tbv asd st9 tol mroundOf mroundFrom mfromHour mtoHour mfrom mto msort misFault mdeep mcoded mlines mbestCost mdealer mnumber mwhose msize misParted fbpersons fbpapers fbstamps fbversions fblines fbsteps fbsayings fbfindings fbwarnings fbquestions fcpersons fcpapers fcstamps fcversions fclines fcsteps fcsayings fcfindings fcwarnings fcquestions fby ftln ftsp fhw fhn ftr fhs fhz fhi fclm ffi fla fml fmm fsl fsm fk0 fk1 fk2 fk3 fk4 fk5 fk6 fk7 fk8 fk9 fk10 fk11 fk12 ffc fsh frr ftc fht y_nw y_nk y_nt y_nr y_nm y_ns y_nl y_nc y_np y_ntr y_nb y_nso y_nsi y_nit y_nsh y_nsf y_nss y_nrc H locs ls ki hC hK hO hX hL hbl hbA hA hA2 hki hf0 hf1 hf2 hf3 hf4 hf5 hf6 hf7 hf8 hf9 hf10 hf11 hf12 i_kbpersons i_kbpapers i_kbstamps i_kbversions i_kblines i_kbsteps i_kbsayings i_kbfindings i_kbwarnings i_kbquestions i_kcpersons i_kcpapers i_kcstamps i_kcversions i_kclines i_kcsteps i_kcsayings i_kcfindings i_kcwarnings i_kcquestions i_kt i_ks i_kn i_kln i_ksp i_jr i_kr i_ytp i_yrm i_yjr i_tp i_cl i_tol i_ikp i_nw i_vw i_nk i_vk i_mb i_b6 i_sz i_sh i_sl i_sp i_sq i_sc i_sk i_epersons i_epapers i_estamps i_esayings i_efindings i_ewarnings i_equestions i_kpersons i_kpapers i_kstamps i_ksayings i_kfindings i_kwarnings i_kquestions hback hP hD hS hl
  refine Kan8 hC (fun hx hb hr hml hB hown hlocks hnm => ?_)
  refine lv_aload_n hx hb dL_law_391 rfl (lv_at2 hl) ?_
  refine lv_aload_n hx hb dL_law_392 rfl (lv_at3 hl) ?_
  refine lv_iload_n hx hb dL_law_393 rfl (lv_at0 hl) ?_
  refine lv_iconst (v := 1) hx hb dL_law_394 (by decide) ?_
  refine lv_iadd hx hb dL_law_395 ?_
  refine eqi (x1 := nI (ki + 1)) (nI_add ki 1) ?_
  refine va_sld hx hb hX hbl hbA hS (lw_in hL hki (by decide)) dL_law_396 ?_
  refine eqi (x1 := xs (ki + 1)) (congrArg xs (lw_cl hL hki (by decide))) ?_
  refine lk_iV hC hK hl hP hD hS hA (p_lose l G xb (xs (ki + 1)) bb cc ikp sg do9 ru9 ta9 tp9 ro9 ho9 de9 bpersons bpapers bstamps bversions blines bsteps bsayings bfindings bwarnings bquestions td vd vl gp bpapersc kbpapers fbpapers (i_kbpapers)) si_L_36 [0, 1, 4, 5] [0, 1, 2, 3] [true, true, false, false, true, true, false, false, false, false, false, false, false, false, false, false, false, false, false, false, false, false, false, false, false, false, false, false, false, false, false, false, false, false, false, false, false, false, false, false, false, false, false, false, false, false, false, false, false, false, false, false, false, false, false, false, false, false, false, false, false, false, false, false, false, false, false, false, false, false, false, false, false, false, false, false, false, false, false, false, false, false, false, false, false, false, false, false, false, false, false, false, false, false, false, false, false, false, false, false, false, false, false, false, false, false, false, false, false, false, false, false, false, false, false, false, false, false, false, false, false, false, false] rfl rfl (by decide +kernel) (by decide +kernel) rfl rfl rfl rfl rfl (Nat.le_of_ble_eq_true rfl) ⟨Nat.le_of_ble_eq_true rfl, Nat.le_of_ble_eq_true rfl⟩ ⟨by first | exact Nat.le_of_ble_eq_true rfl | omega, by first | exact Nat.le_of_ble_eq_true rfl | omega⟩ dL_law_397 (fun r9289 gpapers9291 H locs hr9289 hP2 hS => ?_)
  try dsimp only at hr9289
  refine Kpdr (ws := (WLW G K hf xb bb cc sg do9 ru9 ta9 tp9 ro9 ho9 de9 bpersons bpapers bstamps bversions blines bsteps bsayings bfindings bwarnings bquestions bpersonsc bpapersc bstampsc bversionsc blinesc bstepsc bsayingsc bfindingsc bwarningsc bquestionsc cpersons cpapers cstamps cversions clines csteps csayings cfindings cwarnings cquestions cpersonsc cpapersc cstampsc cversionsc clinesc cstepsc csayingsc cfindingsc cwarningsc cquestionsc tby tln tsp tlnc tspc hs hz hi hw hn ht tr9 clk fi la ml mm sl sm clm hd kc0 km0 kc1 km1 kc2 km2 kc3 km3 kc4 km4 kc5 km5 kc6 km6 kc7 km7 kc8 km8 kc9 km9 kc10 km10 kc11 km11 kc12 km12 fc sh rr tc rrc xm nw nk nt nr nm ns nl nc nF np ntr nb nso nsi nit nsh nsf nss nrc kbpersons kbpapers kbstamps kbversions kblines kbsteps kbsayings kbfindings kbwarnings kbquestions kcpersons kcpapers kcstamps kcversions kclines kcsteps kcsayings kcfindings kcwarnings kcquestions kt ks kn kln ksp jr kr ytp yrm yjr ikp td vd vl gp ktd kvd kvl kgp tkd tf9 dk dn dp da dq cl bo le bi r1 rc rh tf tt9 tl tbv asd st9 tol mroundOf mroundFrom mfromHour mtoHour mfrom mto msort misFault mdeep mcoded mlines mbestCost mdealer mnumber mwhose msize misParted fbpersons gpapers9291 fbstamps fbversions fblines fbsteps fbsayings fbfindings fbwarnings fbquestions fcpersons fcpapers fcstamps fcversions fclines fcsteps fcsayings fcfindings fcwarnings fcquestions fby ftln ftsp fhw fhn ftr fhs fhz fhi fclm ffi fla fml fmm fsl fsm fk0 fk1 fk2 fk3 fk4 fk5 fk6 fk7 fk8 fk9 fk10 fk11 fk12 ffc fsh frr ftc fht y_nw y_nk y_nt y_nr y_nm y_ns y_nl y_nc y_np y_ntr y_nb y_nso y_nsi y_nit y_nsh y_nsf y_nss y_nrc)) hP2 (lk_D hD rfl) (fun hP hD => ?_)
  obtain ⟨hr9289, w9292⟩ := hr9289
  obtain rfl := hr9289
  refine lv_pop hx hb dL_law_400 rfl ?_
  refine lv_aload_n hx hb dL_law_401 rfl (lv_at1 hl) ?_
  refine lv_aload_n hx hb dL_law_402 rfl (lv_at3 hl) ?_
  refine lv_iload_n hx hb dL_law_403 rfl (lv_at0 hl) ?_
  refine lv_iconst (v := 1) hx hb dL_law_404 (by decide) ?_
  refine lv_iadd hx hb dL_law_405 ?_
  refine eqi (x1 := nI (ki + 1)) (nI_add ki 1) ?_
  refine va_sld hx hb hX hbl hbA hS (lw_in hL hki (by decide)) dL_law_406 ?_
  refine eqi (x1 := xs (ki + 1)) (congrArg xs (lw_cl hL hki (by decide))) ?_
  refine lk_iV hC hK hl hP hD hS hA (w_lose l G kbpapers xm (xs (ki + 1)) nw nk ikp nt (nI ytp) nr (nI yrm) mroundOf mroundFrom 0 nm mfromHour mtoHour ns mfrom mto msort misFault mdeep mcoded mlines nl nc nF np ntr nb mbestCost nso nsi nit nsh nsf nss nrc (nI yjr) mdealer mnumber mwhose msize misParted y_nw (i_sc.2.2.2.2.2.1) (i_kbpapers) (i_nw) (i_vw)) si_L_39 [103, 104] [0, 1] [false, false, false, false, false, false, false, false, false, false, false, false, false, false, false, false, false, false, false, false, false, false, false, false, false, false, false, false, false, false, false, false, false, false, false, false, false, false, false, false, false, false, false, false, false, false, false, false, false, false, false, false, false, false, false, false, false, false, false, false, false, false, false, false, false, false, false, false, false, false, false, false, false, false, false, false, false, false, false, false, false, false, false, false, false, false, false, false, false, false, false, false, false, false, false, false, false, false, false, false, false, false, false, true, true, false, false, false, false, false, false, false, false, false, false, false, false, false, false, false, false, false, false] rfl rfl (by decide +kernel) (by decide +kernel) rfl rfl rfl rfl rfl (Nat.le_of_ble_eq_true rfl) ⟨Nat.le_of_ble_eq_true rfl, Nat.le_of_ble_eq_true rfl⟩ ⟨by first | exact Nat.le_of_ble_eq_true rfl | omega, by first | exact Nat.le_of_ble_eq_true rfl | omega⟩ dL_law_407 (fun r9294 gnw9296 H locs hr9294 hP2 hS => ?_)
  try dsimp only at hr9294
  refine Kpdr (ws := (WLW G K hf xb bb cc sg do9 ru9 ta9 tp9 ro9 ho9 de9 bpersons bpapers bstamps bversions blines bsteps bsayings bfindings bwarnings bquestions bpersonsc bpapersc bstampsc bversionsc blinesc bstepsc bsayingsc bfindingsc bwarningsc bquestionsc cpersons cpapers cstamps cversions clines csteps csayings cfindings cwarnings cquestions cpersonsc cpapersc cstampsc cversionsc clinesc cstepsc csayingsc cfindingsc cwarningsc cquestionsc tby tln tsp tlnc tspc hs hz hi hw hn ht tr9 clk fi la ml mm sl sm clm hd kc0 km0 kc1 km1 kc2 km2 kc3 km3 kc4 km4 kc5 km5 kc6 km6 kc7 km7 kc8 km8 kc9 km9 kc10 km10 kc11 km11 kc12 km12 fc sh rr tc rrc xm nw nk nt nr nm ns nl nc nF np ntr nb nso nsi nit nsh nsf nss nrc kbpersons kbpapers kbstamps kbversions kblines kbsteps kbsayings kbfindings kbwarnings kbquestions kcpersons kcpapers kcstamps kcversions kclines kcsteps kcsayings kcfindings kcwarnings kcquestions kt ks kn kln ksp jr kr ytp yrm yjr ikp td vd vl gp ktd kvd kvl kgp tkd tf9 dk dn dp da dq cl bo le bi r1 rc rh tf tt9 tl tbv asd st9 tol mroundOf mroundFrom mfromHour mtoHour mfrom mto msort misFault mdeep mcoded mlines mbestCost mdealer mnumber mwhose msize misParted fbpersons gpapers9291 fbstamps fbversions fblines fbsteps fbsayings fbfindings fbwarnings fbquestions fcpersons fcpapers fcstamps fcversions fclines fcsteps fcsayings fcfindings fcwarnings fcquestions fby ftln ftsp fhw fhn ftr fhs fhz fhi fclm ffi fla fml fmm fsl fsm fk0 fk1 fk2 fk3 fk4 fk5 fk6 fk7 fk8 fk9 fk10 fk11 fk12 ffc fsh frr ftc fht gnw9296 y_nk y_nt y_nr y_nm y_ns y_nl y_nc y_np y_ntr y_nb y_nso y_nsi y_nit y_nsh y_nsf y_nss y_nrc)) hP2 (lk_D hD rfl) (fun hP hD => ?_)
  obtain ⟨hr9294, w9297⟩ := hr9294
  obtain rfl := hr9294
  refine lv_pop hx hb dL_law_410 rfl ?_
  refine lv_goto (tgt := 1718) hx hb dL_law_411 (by decide) ?_
  obtain ⟨z9299, z9300, z9301, z9302, z9303⟩ := w9297
  have hs_y_nw : SCX gnw9296 td vd vl gp (nI kbpersons) (nI kbpapers) (nI kbstamps) (nI kbsayings) (nI kbfindings) (nI kbwarnings) (nI kbquestions) := SCX.tr i_sc z9301
  have he_persons : EQT gnw9296 12 20 fbpersons := EQT.fr i_epersons z9302 (by decide) (by decide)
  have he_papers : EQT gnw9296 32 72 gpapers9291 := fun i hi9 => by rw [z9303 i hi9, w9292 i, i_epapers i hi9, i_sc.1]; exact ifc_cg fun hq9 => by rw [EQT.hs i_epapers hq9 (by omega) (by omega) (by decide), upd_cg (f := shf y_nw 32) (g := fbpapers) (i_epapers i hi9)]
  have he_stamps : EQT gnw9296 104 72 fbstamps := EQT.fr i_estamps z9302 (by decide) (by decide)
  have he_sayings : EQT gnw9296 1424 128 fbsayings := EQT.fr i_esayings z9302 (by decide) (by decide)
  have he_findings : EQT gnw9296 1552 48 fbfindings := EQT.fr i_efindings z9302 (by decide) (by decide)
  have he_warnings : EQT gnw9296 1600 48 fbwarnings := EQT.fr i_ewarnings z9302 (by decide) (by decide)
  have he_questions : EQT gnw9296 1648 14 fbquestions := EQT.fr i_equestions z9302 (by decide) (by decide)
  exact hback kbpersons kbpapers kbstamps kbversions kblines kbsteps kbsayings kbfindings kbwarnings kbquestions kcpersons kcpapers kcstamps kcversions kclines kcsteps kcsayings kcfindings kcwarnings kcquestions kt ks kn kln ksp jr kr ytp yrm yjr ikp td vd vl gp ktd kvd kvl kgp tkd tf9 dk dn dp da dq cl bo le bi r1 rc rh tf tt9 tl tbv asd st9 tol mroundOf mroundFrom mfromHour mtoHour mfrom mto msort misFault mdeep mcoded mlines mbestCost mdealer mnumber mwhose msize misParted fbpersons gpapers9291 fbstamps fbversions fblines fbsteps fbsayings fbfindings fbwarnings fbquestions fcpersons fcpapers fcstamps fcversions fclines fcsteps fcsayings fcfindings fcwarnings fcquestions fby ftln ftsp fhw fhn ftr fhs fhz fhi fclm ffi fla fml fmm fsl fsm fk0 fk1 fk2 fk3 fk4 fk5 fk6 fk7 fk8 fk9 fk10 fk11 fk12 ffc fsh frr ftc fht gnw9296 y_nk y_nt y_nr y_nm y_ns y_nl y_nc y_np y_ntr y_nb y_nso y_nsi y_nit y_nsh y_nsf y_nss y_nrc H locs ls i_kbpersons i_kbpapers i_kbstamps i_kbversions i_kblines i_kbsteps i_kbsayings i_kbfindings i_kbwarnings i_kbquestions i_kcpersons i_kcpapers i_kcstamps i_kcversions i_kclines i_kcsteps i_kcsayings i_kcfindings i_kcwarnings i_kcquestions i_kt i_ks i_kn i_kln i_ksp i_jr i_kr i_ytp i_yrm i_yjr i_tp i_cl i_tol i_ikp (by first | assumption | omega | exact Or.inl rfl | exact Or.inr rfl) (by first | assumption | omega | exact Or.inl rfl | exact Or.inr rfl) i_nk i_vk i_mb i_b6 i_sz i_sh i_sl i_sp i_sq (by first | assumption | omega | exact Or.inl rfl | exact Or.inr rfl) i_sk (by first | assumption | omega | exact Or.inl rfl | exact Or.inr rfl) (by first | assumption | omega | exact Or.inl rfl | exact Or.inr rfl) (by first | assumption | omega | exact Or.inl rfl | exact Or.inr rfl) (by first | assumption | omega | exact Or.inl rfl | exact Or.inr rfl) (by first | assumption | omega | exact Or.inl rfl | exact Or.inr rfl) (by first | assumption | omega | exact Or.inl rfl | exact Or.inr rfl) (by first | assumption | omega | exact Or.inl rfl | exact Or.inr rfl) i_kpersons i_kpapers i_kstamps i_ksayings i_kfindings i_kwarnings i_kquestions hP hD hS (lv_sub hl [0, 1, 2, 3] rfl)
set_option maxHeartbeats 8000000 in
set_option maxRecDepth 100000 in
theorem law_6 : LAWC 414 := by
  intro p l e s m below meth c b L xs G K A hf xb bb cc sg do9 ru9 ta9 tp9 ro9 ho9 de9 bpersons bpapers bstamps bversions blines bsteps bsayings bfindings bwarnings bquestions bpersonsc bpapersc bstampsc bversionsc blinesc bstepsc bsayingsc bfindingsc bwarningsc bquestionsc cpersons cpapers cstamps cversions clines csteps csayings cfindings cwarnings cquestions cpersonsc cpapersc cstampsc cversionsc clinesc cstepsc csayingsc cfindingsc cwarningsc cquestionsc tby tln tsp tlnc tspc hs hz hi hw hn ht tr9 clk fi la ml mm sl sm clm hd kc0 km0 kc1 km1 kc2 km2 kc3 km3 kc4 km4 kc5 km5 kc6 km6 kc7 km7 kc8 km8 kc9 km9 kc10 km10 kc11 km11 kc12 km12 fc sh rr tc rrc xm nw nk nt nr nm ns nl nc nF np ntr nb nso nsi nit nsh nsf nss nrc kbpersons kbpapers kbstamps kbversions kblines kbsteps kbsayings kbfindings kbwarnings kbquestions kcpersons kcpapers kcstamps kcversions kclines kcsteps kcsayings kcfindings kcwarnings kcquestions kt ks kn kln ksp jr kr ytp yrm yjr ikp td vd vl gp ktd kvd kvl kgp tkd tf9 dk dn dp da dq cl bo le bi r1 rc rh tf tt9 tl tbv asd st9 tol mroundOf mroundFrom mfromHour mtoHour mfrom mto msort misFault mdeep mcoded mlines mbestCost mdealer mnumber mwhose msize misParted fbpersons fbpapers fbstamps fbversions fblines fbsteps fbsayings fbfindings fbwarnings fbquestions fcpersons fcpapers fcstamps fcversions fclines fcsteps fcsayings fcfindings fcwarnings fcquestions fby ftln ftsp fhw fhn ftr fhs fhz fhi fclm ffi fla fml fmm fsl fsm fk0 fk1 fk2 fk3 fk4 fk5 fk6 fk7 fk8 fk9 fk10 fk11 fk12 ffc fsh frr ftc fht y_nw y_nk y_nt y_nr y_nm y_ns y_nl y_nc y_np y_ntr y_nb y_nso y_nsi y_nit y_nsh y_nsf y_nss y_nrc H locs ls ki hC hK hO hX hL hbl hbA hA hA2 hki hf0 hf1 hf2 hf3 hf4 hf5 hf6 hf7 hf8 hf9 hf10 hf11 hf12 i_kbpersons i_kbpapers i_kbstamps i_kbversions i_kblines i_kbsteps i_kbsayings i_kbfindings i_kbwarnings i_kbquestions i_kcpersons i_kcpapers i_kcstamps i_kcversions i_kclines i_kcsteps i_kcsayings i_kcfindings i_kcwarnings i_kcquestions i_kt i_ks i_kn i_kln i_ksp i_jr i_kr i_ytp i_yrm i_yjr i_tp i_cl i_tol i_ikp i_nw i_vw i_nk i_vk i_mb i_b6 i_sz i_sh i_sl i_sp i_sq i_sc i_sk i_epersons i_epapers i_estamps i_esayings i_efindings i_ewarnings i_equestions i_kpersons i_kpapers i_kstamps i_ksayings i_kfindings i_kwarnings i_kquestions hback hP hD hS hl
  refine Kan8 hC (fun hx hb hr hml hB hown hlocks hnm => ?_)
  refine lv_aload_n hx hb dL_law_414 rfl (lv_at2 hl) ?_
  refine lv_aload_n hx hb dL_law_415 rfl (lv_at3 hl) ?_
  refine lv_iload_n hx hb dL_law_416 rfl (lv_at0 hl) ?_
  refine lv_iconst (v := 1) hx hb dL_law_417 (by decide) ?_
  refine lv_iadd hx hb dL_law_418 ?_
  refine eqi (x1 := nI (ki + 1)) (nI_add ki 1) ?_
  refine va_sld hx hb hX hbl hbA hS (lw_in hL hki (by decide)) dL_law_419 ?_
  refine eqi (x1 := xs (ki + 1)) (congrArg xs (lw_cl hL hki (by decide))) ?_
  refine lv_aload_n hx hb dL_law_420 rfl (lv_at3 hl) ?_
  refine lv_iload_n hx hb dL_law_421 rfl (lv_at0 hl) ?_
  refine lv_iconst (v := 2) hx hb dL_law_422 (by decide) ?_
  refine lv_iadd hx hb dL_law_423 ?_
  refine eqi (x1 := nI (ki + 2)) (nI_add ki 2) ?_
  refine va_sld hx hb hX hbl hbA hS (lw_in hL hki (by decide)) dL_law_424 ?_
  refine eqi (x1 := xs (ki + 2)) (congrArg xs (lw_cl hL hki (by decide))) ?_
  refine pV hC hK hl hP hD (p_paperOf l G xb (xs (ki + 1)) (xs (ki + 2)) bb cc ikp sg do9 ru9 ta9 tp9 ro9 ho9 de9 bpersons bpapers bstamps bversions blines bsteps bsayings bfindings bwarnings bquestions td vd vl gp bpapersc kbpapers fbpapers bstampsc kbstamps fbstamps (i_kbpapers) (i_kbstamps)) si_L_40 [0, 1, 4, 5, 6, 7] sm_0_1_4_5_6_7 fm_0_1_4_5_6_7 nd_0_1_4_5_6_7 rfl rfl rfl rfl rfl (Nat.le_of_ble_eq_true rfl) ⟨Nat.le_of_ble_eq_true rfl, Nat.le_of_ble_eq_true rfl⟩ ⟨by first | exact Nat.le_of_ble_eq_true rfl | exact Nat.zero_le _, by first | exact Nat.le_of_ble_eq_true rfl | exact Nat.zero_le _⟩ dL_law_425 (Keqr ?_)
  refine lv_pop hx hb dL_law_428 rfl ?_
  refine lv_aload_n hx hb dL_law_429 rfl (lv_at1 hl) ?_
  refine lv_aload_n hx hb dL_law_430 rfl (lv_at3 hl) ?_
  refine lv_iload_n hx hb dL_law_431 rfl (lv_at0 hl) ?_
  refine lv_iconst (v := 1) hx hb dL_law_432 (by decide) ?_
  refine lv_iadd hx hb dL_law_433 ?_
  refine eqi (x1 := nI (ki + 1)) (nI_add ki 1) ?_
  refine va_sld hx hb hX hbl hbA hS (lw_in hL hki (by decide)) dL_law_434 ?_
  refine eqi (x1 := xs (ki + 1)) (congrArg xs (lw_cl hL hki (by decide))) ?_
  refine lv_aload_n hx hb dL_law_435 rfl (lv_at3 hl) ?_
  refine lv_iload_n hx hb dL_law_436 rfl (lv_at0 hl) ?_
  refine lv_iconst (v := 2) hx hb dL_law_437 (by decide) ?_
  refine lv_iadd hx hb dL_law_438 ?_
  refine eqi (x1 := nI (ki + 2)) (nI_add ki 2) ?_
  refine va_sld hx hb hX hbl hbA hS (lw_in hL hki (by decide)) dL_law_439 ?_
  refine eqi (x1 := xs (ki + 2)) (congrArg xs (lw_cl hL hki (by decide))) ?_
  refine pV hC hK hl hP hD (r_paperOf l G kbpapers kbstamps xm (xs (ki + 1)) (xs (ki + 2)) nw nk ikp nt (nI ytp) nr (nI yrm) mroundOf mroundFrom nm mfromHour mtoHour ns mfrom mto msort misFault mdeep mcoded mlines nl nc nF np ntr nb mbestCost nso nsi nit nsh nsf nss nrc (nI yjr) mdealer mnumber mwhose msize misParted y_nw (i_sc.2.2.2.2.2.1) (i_kbpapers) (i_sc.2.2.2.2.2.2.1) (i_kbstamps) (i_nw)) si_L_43 [103, 104] sm_103_104 fm_103_104 nd_103_104 rfl rfl rfl rfl rfl (Nat.le_of_ble_eq_true rfl) ⟨Nat.le_of_ble_eq_true rfl, Nat.le_of_ble_eq_true rfl⟩ ⟨by first | exact Nat.le_of_ble_eq_true rfl | exact Nat.zero_le _, by first | exact Nat.le_of_ble_eq_true rfl | exact Nat.zero_le _⟩ dL_law_440 (Keqr ?_)
  refine lv_pop hx hb dL_law_443 rfl ?_
  refine lv_goto (tgt := 1718) hx hb dL_law_444 (by decide) ?_
  exact hback kbpersons kbpapers kbstamps kbversions kblines kbsteps kbsayings kbfindings kbwarnings kbquestions kcpersons kcpapers kcstamps kcversions kclines kcsteps kcsayings kcfindings kcwarnings kcquestions kt ks kn kln ksp jr kr ytp yrm yjr ikp td vd vl gp ktd kvd kvl kgp tkd tf9 dk dn dp da dq cl bo le bi r1 rc rh tf tt9 tl tbv asd st9 tol mroundOf mroundFrom mfromHour mtoHour mfrom mto msort misFault mdeep mcoded mlines mbestCost mdealer mnumber mwhose msize misParted fbpersons fbpapers fbstamps fbversions fblines fbsteps fbsayings fbfindings fbwarnings fbquestions fcpersons fcpapers fcstamps fcversions fclines fcsteps fcsayings fcfindings fcwarnings fcquestions fby ftln ftsp fhw fhn ftr fhs fhz fhi fclm ffi fla fml fmm fsl fsm fk0 fk1 fk2 fk3 fk4 fk5 fk6 fk7 fk8 fk9 fk10 fk11 fk12 ffc fsh frr ftc fht y_nw y_nk y_nt y_nr y_nm y_ns y_nl y_nc y_np y_ntr y_nb y_nso y_nsi y_nit y_nsh y_nsf y_nss y_nrc H locs ls i_kbpersons i_kbpapers i_kbstamps i_kbversions i_kblines i_kbsteps i_kbsayings i_kbfindings i_kbwarnings i_kbquestions i_kcpersons i_kcpapers i_kcstamps i_kcversions i_kclines i_kcsteps i_kcsayings i_kcfindings i_kcwarnings i_kcquestions i_kt i_ks i_kn i_kln i_ksp i_jr i_kr i_ytp i_yrm i_yjr i_tp i_cl i_tol i_ikp i_nw i_vw i_nk i_vk i_mb i_b6 i_sz i_sh i_sl i_sp i_sq i_sc i_sk i_epersons i_epapers i_estamps i_esayings i_efindings i_ewarnings i_equestions i_kpersons i_kpapers i_kstamps i_ksayings i_kfindings i_kwarnings i_kquestions hP hD hS (lv_sub hl [0, 1, 2, 3] rfl)
set_option maxHeartbeats 8000000 in
set_option maxRecDepth 100000 in
theorem law_7 : LAWC 447 := by
  intro p l e s m below meth c b L xs G K A hf xb bb cc sg do9 ru9 ta9 tp9 ro9 ho9 de9 bpersons bpapers bstamps bversions blines bsteps bsayings bfindings bwarnings bquestions bpersonsc bpapersc bstampsc bversionsc blinesc bstepsc bsayingsc bfindingsc bwarningsc bquestionsc cpersons cpapers cstamps cversions clines csteps csayings cfindings cwarnings cquestions cpersonsc cpapersc cstampsc cversionsc clinesc cstepsc csayingsc cfindingsc cwarningsc cquestionsc tby tln tsp tlnc tspc hs hz hi hw hn ht tr9 clk fi la ml mm sl sm clm hd kc0 km0 kc1 km1 kc2 km2 kc3 km3 kc4 km4 kc5 km5 kc6 km6 kc7 km7 kc8 km8 kc9 km9 kc10 km10 kc11 km11 kc12 km12 fc sh rr tc rrc xm nw nk nt nr nm ns nl nc nF np ntr nb nso nsi nit nsh nsf nss nrc kbpersons kbpapers kbstamps kbversions kblines kbsteps kbsayings kbfindings kbwarnings kbquestions kcpersons kcpapers kcstamps kcversions kclines kcsteps kcsayings kcfindings kcwarnings kcquestions kt ks kn kln ksp jr kr ytp yrm yjr ikp td vd vl gp ktd kvd kvl kgp tkd tf9 dk dn dp da dq cl bo le bi r1 rc rh tf tt9 tl tbv asd st9 tol mroundOf mroundFrom mfromHour mtoHour mfrom mto msort misFault mdeep mcoded mlines mbestCost mdealer mnumber mwhose msize misParted fbpersons fbpapers fbstamps fbversions fblines fbsteps fbsayings fbfindings fbwarnings fbquestions fcpersons fcpapers fcstamps fcversions fclines fcsteps fcsayings fcfindings fcwarnings fcquestions fby ftln ftsp fhw fhn ftr fhs fhz fhi fclm ffi fla fml fmm fsl fsm fk0 fk1 fk2 fk3 fk4 fk5 fk6 fk7 fk8 fk9 fk10 fk11 fk12 ffc fsh frr ftc fht y_nw y_nk y_nt y_nr y_nm y_ns y_nl y_nc y_np y_ntr y_nb y_nso y_nsi y_nit y_nsh y_nsf y_nss y_nrc H locs ls ki hC hK hO hX hL hbl hbA hA hA2 hki hf0 hf1 hf2 hf3 hf4 hf5 hf6 hf7 hf8 hf9 hf10 hf11 hf12 i_kbpersons i_kbpapers i_kbstamps i_kbversions i_kblines i_kbsteps i_kbsayings i_kbfindings i_kbwarnings i_kbquestions i_kcpersons i_kcpapers i_kcstamps i_kcversions i_kclines i_kcsteps i_kcsayings i_kcfindings i_kcwarnings i_kcquestions i_kt i_ks i_kn i_kln i_ksp i_jr i_kr i_ytp i_yrm i_yjr i_tp i_cl i_tol i_ikp i_nw i_vw i_nk i_vk i_mb i_b6 i_sz i_sh i_sl i_sp i_sq i_sc i_sk i_epersons i_epapers i_estamps i_esayings i_efindings i_ewarnings i_equestions i_kpersons i_kpapers i_kstamps i_ksayings i_kfindings i_kwarnings i_kquestions hback hP hD hS hl
  refine Kan8 hC (fun hx hb hr hml hB hown hlocks hnm => ?_)
  refine lv_aload_n hx hb dL_law_447 rfl (lv_at2 hl) ?_
  refine lv_aload_n hx hb dL_law_448 rfl (lv_at3 hl) ?_
  refine lv_iload_n hx hb dL_law_449 rfl (lv_at0 hl) ?_
  refine lv_iconst (v := 1) hx hb dL_law_450 (by decide) ?_
  refine lv_iadd hx hb dL_law_451 ?_
  refine eqi (x1 := nI (ki + 1)) (nI_add ki 1) ?_
  refine va_sld hx hb hX hbl hbA hS (lw_in hL hki (by decide)) dL_law_452 ?_
  refine eqi (x1 := xs (ki + 1)) (congrArg xs (lw_cl hL hki (by decide))) ?_
  refine lv_aload_n hx hb dL_law_453 rfl (lv_at3 hl) ?_
  refine lv_iload_n hx hb dL_law_454 rfl (lv_at0 hl) ?_
  refine lv_iconst (v := 2) hx hb dL_law_455 (by decide) ?_
  refine lv_iadd hx hb dL_law_456 ?_
  refine eqi (x1 := nI (ki + 2)) (nI_add ki 2) ?_
  refine va_sld hx hb hX hbl hbA hS (lw_in hL hki (by decide)) dL_law_457 ?_
  refine eqi (x1 := xs (ki + 2)) (congrArg xs (lw_cl hL hki (by decide))) ?_
  refine lv_aload_n hx hb dL_law_458 rfl (lv_at3 hl) ?_
  refine lv_iload_n hx hb dL_law_459 rfl (lv_at0 hl) ?_
  refine lv_iconst (v := 3) hx hb dL_law_460 (by decide) ?_
  refine lv_iadd hx hb dL_law_461 ?_
  refine eqi (x1 := nI (ki + 3)) (nI_add ki 3) ?_
  refine va_sld hx hb hX hbl hbA hS (lw_in hL hki (by decide)) dL_law_462 ?_
  refine eqi (x1 := xs (ki + 3)) (congrArg xs (lw_cl hL hki (by decide))) ?_
  refine lk_iV hC hK hl hP hD hS hA (p_stamp l G xb (xs (ki + 1)) (xs (ki + 2)) (xs (ki + 3)) bb cc ikp sg do9 ru9 ta9 tp9 ro9 ho9 de9 bpersons bpapers bstamps bversions blines bsteps bsayings bfindings bwarnings bquestions td vd vl gp bstampsc kbstamps fbstamps bpapersc kbpapers (i_kbstamps) (i_kbpapers)) si_L_44 [0, 1, 6, 7, 4] [0, 1, 4, 2, 3] [true, true, false, false, true, false, true, true, false, false, false, false, false, false, false, false, false, false, false, false, false, false, false, false, false, false, false, false, false, false, false, false, false, false, false, false, false, false, false, false, false, false, false, false, false, false, false, false, false, false, false, false, false, false, false, false, false, false, false, false, false, false, false, false, false, false, false, false, false, false, false, false, false, false, false, false, false, false, false, false, false, false, false, false, false, false, false, false, false, false, false, false, false, false, false, false, false, false, false, false, false, false, false, false, false, false, false, false, false, false, false, false, false, false, false, false, false, false, false, false, false, false, false] rfl rfl (by decide +kernel) (by decide +kernel) rfl rfl rfl rfl rfl (Nat.le_of_ble_eq_true rfl) ⟨Nat.le_of_ble_eq_true rfl, Nat.le_of_ble_eq_true rfl⟩ ⟨by first | exact Nat.le_of_ble_eq_true rfl | omega, by first | exact Nat.le_of_ble_eq_true rfl | omega⟩ dL_law_463 (fun r9308 => Ktu2 fun k19310 gstamps9311 => ?_)
  intro H locs hr9308 hP2 hS
  try dsimp only at hr9308
  refine Kpdr (ws := (WLW G K hf xb bb cc sg do9 ru9 ta9 tp9 ro9 ho9 de9 bpersons bpapers bstamps bversions blines bsteps bsayings bfindings bwarnings bquestions bpersonsc bpapersc bstampsc bversionsc blinesc bstepsc bsayingsc bfindingsc bwarningsc bquestionsc cpersons cpapers cstamps cversions clines csteps csayings cfindings cwarnings cquestions cpersonsc cpapersc cstampsc cversionsc clinesc cstepsc csayingsc cfindingsc cwarningsc cquestionsc tby tln tsp tlnc tspc hs hz hi hw hn ht tr9 clk fi la ml mm sl sm clm hd kc0 km0 kc1 km1 kc2 km2 kc3 km3 kc4 km4 kc5 km5 kc6 km6 kc7 km7 kc8 km8 kc9 km9 kc10 km10 kc11 km11 kc12 km12 fc sh rr tc rrc xm nw nk nt nr nm ns nl nc nF np ntr nb nso nsi nit nsh nsf nss nrc kbpersons kbpapers k19310 kbversions kblines kbsteps kbsayings kbfindings kbwarnings kbquestions kcpersons kcpapers kcstamps kcversions kclines kcsteps kcsayings kcfindings kcwarnings kcquestions kt ks kn kln ksp jr kr ytp yrm yjr ikp td vd vl gp ktd kvd kvl kgp tkd tf9 dk dn dp da dq cl bo le bi r1 rc rh tf tt9 tl tbv asd st9 tol mroundOf mroundFrom mfromHour mtoHour mfrom mto msort misFault mdeep mcoded mlines mbestCost mdealer mnumber mwhose msize misParted fbpersons fbpapers gstamps9311 fbversions fblines fbsteps fbsayings fbfindings fbwarnings fbquestions fcpersons fcpapers fcstamps fcversions fclines fcsteps fcsayings fcfindings fcwarnings fcquestions fby ftln ftsp fhw fhn ftr fhs fhz fhi fclm ffi fla fml fmm fsl fsm fk0 fk1 fk2 fk3 fk4 fk5 fk6 fk7 fk8 fk9 fk10 fk11 fk12 ffc fsh frr ftc fht y_nw y_nk y_nt y_nr y_nm y_ns y_nl y_nc y_np y_ntr y_nb y_nso y_nsi y_nit y_nsh y_nsf y_nss y_nrc)) hP2 (lk_D hD rfl) (fun hP hD => ?_)
  obtain ⟨hr9308, w9312⟩ := hr9308
  obtain rfl := hr9308
  refine lv_pop hx hb dL_law_466 rfl ?_
  refine lv_aload_n hx hb dL_law_467 rfl (lv_at1 hl) ?_
  refine lv_aload_n hx hb dL_law_468 rfl (lv_at3 hl) ?_
  refine lv_iload_n hx hb dL_law_469 rfl (lv_at0 hl) ?_
  refine lv_iconst (v := 1) hx hb dL_law_470 (by decide) ?_
  refine lv_iadd hx hb dL_law_471 ?_
  refine eqi (x1 := nI (ki + 1)) (nI_add ki 1) ?_
  refine va_sld hx hb hX hbl hbA hS (lw_in hL hki (by decide)) dL_law_472 ?_
  refine eqi (x1 := xs (ki + 1)) (congrArg xs (lw_cl hL hki (by decide))) ?_
  refine lv_aload_n hx hb dL_law_473 rfl (lv_at3 hl) ?_
  refine lv_iload_n hx hb dL_law_474 rfl (lv_at0 hl) ?_
  refine lv_iconst (v := 2) hx hb dL_law_475 (by decide) ?_
  refine lv_iadd hx hb dL_law_476 ?_
  refine eqi (x1 := nI (ki + 2)) (nI_add ki 2) ?_
  refine va_sld hx hb hX hbl hbA hS (lw_in hL hki (by decide)) dL_law_477 ?_
  refine eqi (x1 := xs (ki + 2)) (congrArg xs (lw_cl hL hki (by decide))) ?_
  refine lv_aload_n hx hb dL_law_478 rfl (lv_at3 hl) ?_
  refine lv_iload_n hx hb dL_law_479 rfl (lv_at0 hl) ?_
  refine lv_iconst (v := 3) hx hb dL_law_480 (by decide) ?_
  refine lv_iadd hx hb dL_law_481 ?_
  refine eqi (x1 := nI (ki + 3)) (nI_add ki 3) ?_
  refine va_sld hx hb hX hbl hbA hS (lw_in hL hki (by decide)) dL_law_482 ?_
  refine eqi (x1 := xs (ki + 3)) (congrArg xs (lw_cl hL hki (by decide))) ?_
  refine lk_iV hC hK hl hP hD hS hA (w_stamp l G kbpapers kbstamps xm (xs (ki + 1)) (xs (ki + 2)) (xs (ki + 3)) nw nk ikp nt (nI ytp) nr (nI yrm) mroundOf mroundFrom 0 nm mfromHour mtoHour ns mfrom mto msort misFault mdeep mcoded mlines nl nc nF np ntr nb mbestCost nso nsi nit nsh nsf nss nrc (nI yjr) mdealer mnumber mwhose msize misParted y_nw (i_sc.2.2.2.2.2.1) (i_kbpapers) (i_sc.2.2.2.2.2.2.1) (i_kbstamps) (i_nw) (i_vw)) si_L_48 [103, 104] [0, 1] [false, false, false, false, false, false, false, false, false, false, false, false, false, false, false, false, false, false, false, false, false, false, false, false, false, false, false, false, false, false, false, false, false, false, false, false, false, false, false, false, false, false, false, false, false, false, false, false, false, false, false, false, false, false, false, false, false, false, false, false, false, false, false, false, false, false, false, false, false, false, false, false, false, false, false, false, false, false, false, false, false, false, false, false, false, false, false, false, false, false, false, false, false, false, false, false, false, false, false, false, false, false, false, true, true, false, false, false, false, false, false, false, false, false, false, false, false, false, false, false, false, false, false] rfl rfl (by decide +kernel) (by decide +kernel) rfl rfl rfl rfl rfl (Nat.le_of_ble_eq_true rfl) ⟨Nat.le_of_ble_eq_true rfl, Nat.le_of_ble_eq_true rfl⟩ ⟨by first | exact Nat.le_of_ble_eq_true rfl | omega, by first | exact Nat.le_of_ble_eq_true rfl | omega⟩ dL_law_483 (fun r9314 gnw9316 H locs hr9314 hP2 hS => ?_)
  try dsimp only at hr9314
  refine Kpdr (ws := (WLW G K hf xb bb cc sg do9 ru9 ta9 tp9 ro9 ho9 de9 bpersons bpapers bstamps bversions blines bsteps bsayings bfindings bwarnings bquestions bpersonsc bpapersc bstampsc bversionsc blinesc bstepsc bsayingsc bfindingsc bwarningsc bquestionsc cpersons cpapers cstamps cversions clines csteps csayings cfindings cwarnings cquestions cpersonsc cpapersc cstampsc cversionsc clinesc cstepsc csayingsc cfindingsc cwarningsc cquestionsc tby tln tsp tlnc tspc hs hz hi hw hn ht tr9 clk fi la ml mm sl sm clm hd kc0 km0 kc1 km1 kc2 km2 kc3 km3 kc4 km4 kc5 km5 kc6 km6 kc7 km7 kc8 km8 kc9 km9 kc10 km10 kc11 km11 kc12 km12 fc sh rr tc rrc xm nw nk nt nr nm ns nl nc nF np ntr nb nso nsi nit nsh nsf nss nrc kbpersons kbpapers k19310 kbversions kblines kbsteps kbsayings kbfindings kbwarnings kbquestions kcpersons kcpapers kcstamps kcversions kclines kcsteps kcsayings kcfindings kcwarnings kcquestions kt ks kn kln ksp jr kr ytp yrm yjr ikp td vd vl gp ktd kvd kvl kgp tkd tf9 dk dn dp da dq cl bo le bi r1 rc rh tf tt9 tl tbv asd st9 tol mroundOf mroundFrom mfromHour mtoHour mfrom mto msort misFault mdeep mcoded mlines mbestCost mdealer mnumber mwhose msize misParted fbpersons fbpapers gstamps9311 fbversions fblines fbsteps fbsayings fbfindings fbwarnings fbquestions fcpersons fcpapers fcstamps fcversions fclines fcsteps fcsayings fcfindings fcwarnings fcquestions fby ftln ftsp fhw fhn ftr fhs fhz fhi fclm ffi fla fml fmm fsl fsm fk0 fk1 fk2 fk3 fk4 fk5 fk6 fk7 fk8 fk9 fk10 fk11 fk12 ffc fsh frr ftc fht gnw9316 y_nk y_nt y_nr y_nm y_ns y_nl y_nc y_np y_ntr y_nb y_nso y_nsi y_nit y_nsh y_nsf y_nss y_nrc)) hP2 (lk_D hD rfl) (fun hP hD => ?_)
  obtain ⟨hr9314, w9317⟩ := hr9314
  obtain rfl := hr9314
  refine lv_pop hx hb dL_law_486 rfl ?_
  refine lv_goto (tgt := 1718) hx hb dL_law_487 (by decide) ?_
  obtain ⟨z9319, z9320, z9321⟩ := w9312
  obtain ⟨z9322, z9323, z9324, z9325, z9326, z9327, z9328, z9329, z9330, z9331, z9332, z9333, z9334, z9335, z9336⟩ := w9317
  have hs_y_nw : SCX gnw9316 td vd vl gp (nI kbpersons) (nI kbpapers) (nI k19310) (nI kbsayings) (nI kbfindings) (nI kbwarnings) (nI kbquestions) := ⟨(z9324).trans (i_sc.1), (z9325).trans (i_sc.2.1), (z9326).trans (i_sc.2.2.1), (z9327).trans (i_sc.2.2.2.1), (z9328).trans (i_sc.2.2.2.2.1), (z9329).trans (i_sc.2.2.2.2.2.1), (by rw [z9330, z9320, ifc_full (k := kbstamps) (R := 24) (by omega) (by decide)]; first | done | rfl), (z9331).trans (i_sc.2.2.2.2.2.2.2.1), (z9332).trans (i_sc.2.2.2.2.2.2.2.2.1), (z9333).trans (i_sc.2.2.2.2.2.2.2.2.2.1), (z9334).trans (i_sc.2.2.2.2.2.2.2.2.2.2)⟩
  have he_persons : EQT gnw9316 12 20 fbpersons := EQT.fr i_epersons z9335 (by decide) (by decide)
  have he_papers : EQT gnw9316 32 72 fbpapers := EQT.fr i_epapers z9335 (by decide) (by decide)
  have he_stamps : EQT gnw9316 104 72 gstamps9311 := fun i hi9 => by rw [z9336 i hi9, z9321 i, ifc_full (k := kbstamps) (R := 24) (by omega) (by decide), i_estamps i hi9, rowu_congr (f := shf y_nw 104) (g := fbstamps) (n := 72) _ i_estamps i hi9]; first | done | rfl
  have he_sayings : EQT gnw9316 1424 128 fbsayings := EQT.fr i_esayings z9335 (by decide) (by decide)
  have he_findings : EQT gnw9316 1552 48 fbfindings := EQT.fr i_efindings z9335 (by decide) (by decide)
  have he_warnings : EQT gnw9316 1600 48 fbwarnings := EQT.fr i_ewarnings z9335 (by decide) (by decide)
  have he_questions : EQT gnw9316 1648 14 fbquestions := EQT.fr i_equestions z9335 (by decide) (by decide)
  exact hback kbpersons kbpapers k19310 kbversions kblines kbsteps kbsayings kbfindings kbwarnings kbquestions kcpersons kcpapers kcstamps kcversions kclines kcsteps kcsayings kcfindings kcwarnings kcquestions kt ks kn kln ksp jr kr ytp yrm yjr ikp td vd vl gp ktd kvd kvl kgp tkd tf9 dk dn dp da dq cl bo le bi r1 rc rh tf tt9 tl tbv asd st9 tol mroundOf mroundFrom mfromHour mtoHour mfrom mto msort misFault mdeep mcoded mlines mbestCost mdealer mnumber mwhose msize misParted fbpersons fbpapers gstamps9311 fbversions fblines fbsteps fbsayings fbfindings fbwarnings fbquestions fcpersons fcpapers fcstamps fcversions fclines fcsteps fcsayings fcfindings fcwarnings fcquestions fby ftln ftsp fhw fhn ftr fhs fhz fhi fclm ffi fla fml fmm fsl fsm fk0 fk1 fk2 fk3 fk4 fk5 fk6 fk7 fk8 fk9 fk10 fk11 fk12 ffc fsh frr ftc fht gnw9316 y_nk y_nt y_nr y_nm y_ns y_nl y_nc y_np y_ntr y_nb y_nso y_nsi y_nit y_nsh y_nsf y_nss y_nrc H locs ls i_kbpersons i_kbpapers (by first | assumption | omega | exact Or.inl rfl | exact Or.inr rfl) i_kbversions i_kblines i_kbsteps i_kbsayings i_kbfindings i_kbwarnings i_kbquestions i_kcpersons i_kcpapers i_kcstamps i_kcversions i_kclines i_kcsteps i_kcsayings i_kcfindings i_kcwarnings i_kcquestions i_kt i_ks i_kn i_kln i_ksp i_jr i_kr i_ytp i_yrm i_yjr i_tp i_cl i_tol i_ikp (by first | assumption | omega | exact Or.inl rfl | exact Or.inr rfl) (by first | assumption | omega | exact Or.inl rfl | exact Or.inr rfl) i_nk i_vk i_mb i_b6 i_sz i_sh i_sl i_sp i_sq (by first | assumption | omega | exact Or.inl rfl | exact Or.inr rfl) i_sk (by first | assumption | omega | exact Or.inl rfl | exact Or.inr rfl) (by first | assumption | omega | exact Or.inl rfl | exact Or.inr rfl) (by first | assumption | omega | exact Or.inl rfl | exact Or.inr rfl) (by first | assumption | omega | exact Or.inl rfl | exact Or.inr rfl) (by first | assumption | omega | exact Or.inl rfl | exact Or.inr rfl) (by first | assumption | omega | exact Or.inl rfl | exact Or.inr rfl) (by first | assumption | omega | exact Or.inl rfl | exact Or.inr rfl) i_kpersons i_kpapers i_kstamps i_ksayings i_kfindings i_kwarnings i_kquestions hP hD hS (lv_sub hl [0, 1, 2, 3] rfl)
set_option maxHeartbeats 8000000 in
set_option maxRecDepth 100000 in
theorem law_8 : LAWC 490 := by
  intro p l e s m below meth c b L xs G K A hf xb bb cc sg do9 ru9 ta9 tp9 ro9 ho9 de9 bpersons bpapers bstamps bversions blines bsteps bsayings bfindings bwarnings bquestions bpersonsc bpapersc bstampsc bversionsc blinesc bstepsc bsayingsc bfindingsc bwarningsc bquestionsc cpersons cpapers cstamps cversions clines csteps csayings cfindings cwarnings cquestions cpersonsc cpapersc cstampsc cversionsc clinesc cstepsc csayingsc cfindingsc cwarningsc cquestionsc tby tln tsp tlnc tspc hs hz hi hw hn ht tr9 clk fi la ml mm sl sm clm hd kc0 km0 kc1 km1 kc2 km2 kc3 km3 kc4 km4 kc5 km5 kc6 km6 kc7 km7 kc8 km8 kc9 km9 kc10 km10 kc11 km11 kc12 km12 fc sh rr tc rrc xm nw nk nt nr nm ns nl nc nF np ntr nb nso nsi nit nsh nsf nss nrc kbpersons kbpapers kbstamps kbversions kblines kbsteps kbsayings kbfindings kbwarnings kbquestions kcpersons kcpapers kcstamps kcversions kclines kcsteps kcsayings kcfindings kcwarnings kcquestions kt ks kn kln ksp jr kr ytp yrm yjr ikp td vd vl gp ktd kvd kvl kgp tkd tf9 dk dn dp da dq cl bo le bi r1 rc rh tf tt9 tl tbv asd st9 tol mroundOf mroundFrom mfromHour mtoHour mfrom mto msort misFault mdeep mcoded mlines mbestCost mdealer mnumber mwhose msize misParted fbpersons fbpapers fbstamps fbversions fblines fbsteps fbsayings fbfindings fbwarnings fbquestions fcpersons fcpapers fcstamps fcversions fclines fcsteps fcsayings fcfindings fcwarnings fcquestions fby ftln ftsp fhw fhn ftr fhs fhz fhi fclm ffi fla fml fmm fsl fsm fk0 fk1 fk2 fk3 fk4 fk5 fk6 fk7 fk8 fk9 fk10 fk11 fk12 ffc fsh frr ftc fht y_nw y_nk y_nt y_nr y_nm y_ns y_nl y_nc y_np y_ntr y_nb y_nso y_nsi y_nit y_nsh y_nsf y_nss y_nrc H locs ls ki hC hK hO hX hL hbl hbA hA hA2 hki hf0 hf1 hf2 hf3 hf4 hf5 hf6 hf7 hf8 hf9 hf10 hf11 hf12 i_kbpersons i_kbpapers i_kbstamps i_kbversions i_kblines i_kbsteps i_kbsayings i_kbfindings i_kbwarnings i_kbquestions i_kcpersons i_kcpapers i_kcstamps i_kcversions i_kclines i_kcsteps i_kcsayings i_kcfindings i_kcwarnings i_kcquestions i_kt i_ks i_kn i_kln i_ksp i_jr i_kr i_ytp i_yrm i_yjr i_tp i_cl i_tol i_ikp i_nw i_vw i_nk i_vk i_mb i_b6 i_sz i_sh i_sl i_sp i_sq i_sc i_sk i_epersons i_epapers i_estamps i_esayings i_efindings i_ewarnings i_equestions i_kpersons i_kpapers i_kstamps i_ksayings i_kfindings i_kwarnings i_kquestions hback hP hD hS hl
  refine Kan8 hC (fun hx hb hr hml hB hown hlocks hnm => ?_)
  have i_szc : SZ fhz := SHR.sz i_sh i_sz
  have i_sok : SOK fhs := SHR.ok i_sh
  refine lv_aload_n hx hb dL_law_490 rfl (lv_at2 hl) ?_
  refine lv_aload_n hx hb dL_law_491 rfl (lv_at3 hl) ?_
  refine lv_iload_n hx hb dL_law_492 rfl (lv_at0 hl) ?_
  refine lv_iconst (v := 1) hx hb dL_law_493 (by decide) ?_
  refine lv_iadd hx hb dL_law_494 ?_
  refine eqi (x1 := nI (ki + 1)) (nI_add ki 1) ?_
  refine va_sld hx hb hX hbl hbA hS (lw_in hL hki (by decide)) dL_law_495 ?_
  refine eqi (x1 := xs (ki + 1)) (congrArg xs (lw_cl hL hki (by decide))) ?_
  refine lv_aload_n hx hb dL_law_496 rfl (lv_at3 hl) ?_
  refine lv_iload_n hx hb dL_law_497 rfl (lv_at0 hl) ?_
  refine lv_iconst (v := 2) hx hb dL_law_498 (by decide) ?_
  refine lv_iadd hx hb dL_law_499 ?_
  refine eqi (x1 := nI (ki + 2)) (nI_add ki 2) ?_
  refine va_sld hx hb hX hbl hbA hS (lw_in hL hki (by decide)) dL_law_500 ?_
  refine eqi (x1 := xs (ki + 2)) (congrArg xs (lw_cl hL hki (by decide))) ?_
  refine lv_aload_n hx hb dL_law_501 rfl (lv_at3 hl) ?_
  refine lv_iload_n hx hb dL_law_502 rfl (lv_at0 hl) ?_
  refine lv_iconst (v := 3) hx hb dL_law_503 (by decide) ?_
  refine lv_iadd hx hb dL_law_504 ?_
  refine eqi (x1 := nI (ki + 3)) (nI_add ki 3) ?_
  refine va_sld hx hb hX hbl hbA hS (lw_in hL hki (by decide)) dL_law_505 ?_
  refine eqi (x1 := xs (ki + 3)) (congrArg xs (lw_cl hL hki (by decide))) ?_
  refine lv_aload_n hx hb dL_law_506 rfl (lv_at3 hl) ?_
  refine lv_iload_n hx hb dL_law_507 rfl (lv_at0 hl) ?_
  refine lv_iconst (v := 4) hx hb dL_law_508 (by decide) ?_
  refine lv_iadd hx hb dL_law_509 ?_
  refine eqi (x1 := nI (ki + 4)) (nI_add ki 4) ?_
  refine va_sld hx hb hX hbl hbA hS (lw_in hL hki (by decide)) dL_law_510 ?_
  refine eqi (x1 := xs (ki + 4)) (congrArg xs (lw_cl hL hki (by decide))) ?_
  refine lk_iV hC hK hl hP hD hS hA (p_stamps l G xb (xs (ki + 1)) (xs (ki + 2)) (xs (ki + 3)) (xs (ki + 4)) bb cc ikp sg do9 ru9 ta9 tp9 ro9 ho9 de9 bpersons bpapers bstamps bversions blines bsteps bsayings bfindings bwarnings bquestions td vd vl gp bpapersc kbpapers bstampsc kbstamps fbstamps hs hz hi hw hn ht fhs fhz fhi (i_kbpapers) (i_kbstamps) (i_szc) (i_sok)) si_L_49 [0, 1, 4, 6, 7, 49, 54, 55, 56] [0, 1, 2, 3, 4, 5, 6, 7, 8] [true, true, false, false, true, false, true, true, false, false, false, false, false, false, false, false, false, false, false, false, false, false, false, false, false, false, false, false, false, false, false, false, false, false, false, false, false, false, false, false, false, false, false, false, false, false, false, false, false, true, false, false, false, false, true, true, true, false, false, false, false, false, false, false, false, false, false, false, false, false, false, false, false, false, false, false, false, false, false, false, false, false, false, false, false, false, false, false, false, false, false, false, false, false, false, false, false, false, false, false, false, false, false, false, false, false, false, false, false, false, false, false, false, false, false, false, false, false, false, false, false, false, false] rfl rfl (by decide +kernel) (by decide +kernel) rfl rfl rfl rfl rfl (Nat.le_of_ble_eq_true rfl) ⟨Nat.le_of_ble_eq_true rfl, Nat.le_of_ble_eq_true rfl⟩ ⟨by first | exact Nat.le_of_ble_eq_true rfl | omega, by first | exact Nat.le_of_ble_eq_true rfl | omega⟩ dL_law_511 (fun r9337 => Ktu2 fun k19339 gstamps9340 => ?_)
  intro H locs hr9337 hP2 hS
  try dsimp only at hr9337
  refine Kpdr (ws := (WLW G K hf xb bb cc sg do9 ru9 ta9 tp9 ro9 ho9 de9 bpersons bpapers bstamps bversions blines bsteps bsayings bfindings bwarnings bquestions bpersonsc bpapersc bstampsc bversionsc blinesc bstepsc bsayingsc bfindingsc bwarningsc bquestionsc cpersons cpapers cstamps cversions clines csteps csayings cfindings cwarnings cquestions cpersonsc cpapersc cstampsc cversionsc clinesc cstepsc csayingsc cfindingsc cwarningsc cquestionsc tby tln tsp tlnc tspc hs hz hi hw hn ht tr9 clk fi la ml mm sl sm clm hd kc0 km0 kc1 km1 kc2 km2 kc3 km3 kc4 km4 kc5 km5 kc6 km6 kc7 km7 kc8 km8 kc9 km9 kc10 km10 kc11 km11 kc12 km12 fc sh rr tc rrc xm nw nk nt nr nm ns nl nc nF np ntr nb nso nsi nit nsh nsf nss nrc kbpersons kbpapers k19339 kbversions kblines kbsteps kbsayings kbfindings kbwarnings kbquestions kcpersons kcpapers kcstamps kcversions kclines kcsteps kcsayings kcfindings kcwarnings kcquestions kt ks kn kln ksp jr kr ytp yrm yjr ikp td vd vl gp ktd kvd kvl kgp tkd tf9 dk dn dp da dq cl bo le bi r1 rc rh tf tt9 tl tbv asd st9 tol mroundOf mroundFrom mfromHour mtoHour mfrom mto msort misFault mdeep mcoded mlines mbestCost mdealer mnumber mwhose msize misParted fbpersons fbpapers gstamps9340 fbversions fblines fbsteps fbsayings fbfindings fbwarnings fbquestions fcpersons fcpapers fcstamps fcversions fclines fcsteps fcsayings fcfindings fcwarnings fcquestions fby ftln ftsp fhw fhn ftr fhs fhz fhi fclm ffi fla fml fmm fsl fsm fk0 fk1 fk2 fk3 fk4 fk5 fk6 fk7 fk8 fk9 fk10 fk11 fk12 ffc fsh frr ftc fht y_nw y_nk y_nt y_nr y_nm y_ns y_nl y_nc y_np y_ntr y_nb y_nso y_nsi y_nit y_nsh y_nsf y_nss y_nrc)) hP2 (lk_D hD rfl) (fun hP hD => ?_)
  obtain ⟨hr9337, w9341⟩ := hr9337
  obtain rfl := hr9337
  refine lv_pop hx hb dL_law_514 rfl ?_
  refine lv_aload_n hx hb dL_law_515 rfl (lv_at1 hl) ?_
  refine lv_aload_n hx hb dL_law_516 rfl (lv_at3 hl) ?_
  refine lv_iload_n hx hb dL_law_517 rfl (lv_at0 hl) ?_
  refine lv_iconst (v := 1) hx hb dL_law_518 (by decide) ?_
  refine lv_iadd hx hb dL_law_519 ?_
  refine eqi (x1 := nI (ki + 1)) (nI_add ki 1) ?_
  refine va_sld hx hb hX hbl hbA hS (lw_in hL hki (by decide)) dL_law_520 ?_
  refine eqi (x1 := xs (ki + 1)) (congrArg xs (lw_cl hL hki (by decide))) ?_
  refine lv_aload_n hx hb dL_law_521 rfl (lv_at3 hl) ?_
  refine lv_iload_n hx hb dL_law_522 rfl (lv_at0 hl) ?_
  refine lv_iconst (v := 2) hx hb dL_law_523 (by decide) ?_
  refine lv_iadd hx hb dL_law_524 ?_
  refine eqi (x1 := nI (ki + 2)) (nI_add ki 2) ?_
  refine va_sld hx hb hX hbl hbA hS (lw_in hL hki (by decide)) dL_law_525 ?_
  refine eqi (x1 := xs (ki + 2)) (congrArg xs (lw_cl hL hki (by decide))) ?_
  refine lv_aload_n hx hb dL_law_526 rfl (lv_at3 hl) ?_
  refine lv_iload_n hx hb dL_law_527 rfl (lv_at0 hl) ?_
  refine lv_iconst (v := 3) hx hb dL_law_528 (by decide) ?_
  refine lv_iadd hx hb dL_law_529 ?_
  refine eqi (x1 := nI (ki + 3)) (nI_add ki 3) ?_
  refine va_sld hx hb hX hbl hbA hS (lw_in hL hki (by decide)) dL_law_530 ?_
  refine eqi (x1 := xs (ki + 3)) (congrArg xs (lw_cl hL hki (by decide))) ?_
  refine lv_aload_n hx hb dL_law_531 rfl (lv_at3 hl) ?_
  refine lv_iload_n hx hb dL_law_532 rfl (lv_at0 hl) ?_
  refine lv_iconst (v := 4) hx hb dL_law_533 (by decide) ?_
  refine lv_iadd hx hb dL_law_534 ?_
  refine eqi (x1 := nI (ki + 4)) (nI_add ki 4) ?_
  refine va_sld hx hb hX hbl hbA hS (lw_in hL hki (by decide)) dL_law_535 ?_
  refine eqi (x1 := xs (ki + 4)) (congrArg xs (lw_cl hL hki (by decide))) ?_
  refine lk_iV hC hK hl hP hD hS hA (w_stamps l G kbpapers kbstamps xm (xs (ki + 1)) (xs (ki + 2)) (xs (ki + 3)) (xs (ki + 4)) nw nk ikp nt (nI ytp) nr (nI yrm) mroundOf mroundFrom 0 nm mfromHour mtoHour ns mfrom mto msort misFault mdeep mcoded mlines nl nc nF np ntr nb mbestCost nso nsi nit nsh nsf nss nrc (nI yjr) mdealer mnumber mwhose msize misParted y_nw y_nso y_nsi y_nit (i_sc.2.2.2.2.2.1) (i_kbpapers) (i_sc.2.2.2.2.2.2.1) (i_kbstamps) (i_nw) (i_vw) (i_sz)) si_L_52 [103, 104, 115, 116, 117] [0, 1, 2, 3, 4] [false, false, false, false, false, false, false, false, false, false, false, false, false, false, false, false, false, false, false, false, false, false, false, false, false, false, false, false, false, false, false, false, false, false, false, false, false, false, false, false, false, false, false, false, false, false, false, false, false, false, false, false, false, false, false, false, false, false, false, false, false, false, false, false, false, false, false, false, false, false, false, false, false, false, false, false, false, false, false, false, false, false, false, false, false, false, false, false, false, false, false, false, false, false, false, false, false, false, false, false, false, false, false, true, true, false, false, false, false, false, false, false, false, false, false, true, true, true, false, false, false, false, false] rfl rfl (by decide +kernel) (by decide +kernel) rfl rfl rfl rfl rfl (Nat.le_of_ble_eq_true rfl) ⟨Nat.le_of_ble_eq_true rfl, Nat.le_of_ble_eq_true rfl⟩ ⟨by first | exact Nat.le_of_ble_eq_true rfl | omega, by first | exact Nat.le_of_ble_eq_true rfl | omega⟩ dL_law_536 (fun r9343 gnw9345 H locs hr9343 hP2 hS => ?_)
  try dsimp only at hr9343
  refine Kpdr (ws := (WLW G K hf xb bb cc sg do9 ru9 ta9 tp9 ro9 ho9 de9 bpersons bpapers bstamps bversions blines bsteps bsayings bfindings bwarnings bquestions bpersonsc bpapersc bstampsc bversionsc blinesc bstepsc bsayingsc bfindingsc bwarningsc bquestionsc cpersons cpapers cstamps cversions clines csteps csayings cfindings cwarnings cquestions cpersonsc cpapersc cstampsc cversionsc clinesc cstepsc csayingsc cfindingsc cwarningsc cquestionsc tby tln tsp tlnc tspc hs hz hi hw hn ht tr9 clk fi la ml mm sl sm clm hd kc0 km0 kc1 km1 kc2 km2 kc3 km3 kc4 km4 kc5 km5 kc6 km6 kc7 km7 kc8 km8 kc9 km9 kc10 km10 kc11 km11 kc12 km12 fc sh rr tc rrc xm nw nk nt nr nm ns nl nc nF np ntr nb nso nsi nit nsh nsf nss nrc kbpersons kbpapers k19339 kbversions kblines kbsteps kbsayings kbfindings kbwarnings kbquestions kcpersons kcpapers kcstamps kcversions kclines kcsteps kcsayings kcfindings kcwarnings kcquestions kt ks kn kln ksp jr kr ytp yrm yjr ikp td vd vl gp ktd kvd kvl kgp tkd tf9 dk dn dp da dq cl bo le bi r1 rc rh tf tt9 tl tbv asd st9 tol mroundOf mroundFrom mfromHour mtoHour mfrom mto msort misFault mdeep mcoded mlines mbestCost mdealer mnumber mwhose msize misParted fbpersons fbpapers gstamps9340 fbversions fblines fbsteps fbsayings fbfindings fbwarnings fbquestions fcpersons fcpapers fcstamps fcversions fclines fcsteps fcsayings fcfindings fcwarnings fcquestions fby ftln ftsp fhw fhn ftr fhs fhz fhi fclm ffi fla fml fmm fsl fsm fk0 fk1 fk2 fk3 fk4 fk5 fk6 fk7 fk8 fk9 fk10 fk11 fk12 ffc fsh frr ftc fht gnw9345 y_nk y_nt y_nr y_nm y_ns y_nl y_nc y_np y_ntr y_nb y_nso y_nsi y_nit y_nsh y_nsf y_nss y_nrc)) hP2 (lk_D hD rfl) (fun hP hD => ?_)
  obtain ⟨hr9343, w9346⟩ := hr9343
  obtain rfl := hr9343
  refine lv_pop hx hb dL_law_539 rfl ?_
  refine lv_goto (tgt := 1718) hx hb dL_law_540 (by decide) ?_
  obtain ⟨z9348, z9349, z9350⟩ := w9341
  obtain ⟨z9351, z9352, z9353, z9354, z9355⟩ := w9346
  have hs_y_nw : SCX gnw9345 td vd vl gp (nI kbpersons) (nI kbpapers) (nI k19339) (nI kbsayings) (nI kbfindings) (nI kbwarnings) (nI kbquestions) := by rw [z9349, STA.cg i_sh i_sz]; exact SCX.st6 i_sc z9353
  have he_persons : EQT gnw9345 12 20 fbpersons := EQT.fr i_epersons z9354 (by decide) (by decide)
  have he_papers : EQT gnw9345 32 72 fbpapers := EQT.fr i_epapers z9354 (by decide) (by decide)
  have he_stamps : EQT gnw9345 104 72 gstamps9340 := fun i hi9 => ((z9355 i hi9).trans (STA.tab (f := shf y_nw 104) i_sh i_sz i_estamps i hi9)).trans (z9350 i).symm
  have he_sayings : EQT gnw9345 1424 128 fbsayings := EQT.fr i_esayings z9354 (by decide) (by decide)
  have he_findings : EQT gnw9345 1552 48 fbfindings := EQT.fr i_efindings z9354 (by decide) (by decide)
  have he_warnings : EQT gnw9345 1600 48 fbwarnings := EQT.fr i_ewarnings z9354 (by decide) (by decide)
  have he_questions : EQT gnw9345 1648 14 fbquestions := EQT.fr i_equestions z9354 (by decide) (by decide)
  exact hback kbpersons kbpapers k19339 kbversions kblines kbsteps kbsayings kbfindings kbwarnings kbquestions kcpersons kcpapers kcstamps kcversions kclines kcsteps kcsayings kcfindings kcwarnings kcquestions kt ks kn kln ksp jr kr ytp yrm yjr ikp td vd vl gp ktd kvd kvl kgp tkd tf9 dk dn dp da dq cl bo le bi r1 rc rh tf tt9 tl tbv asd st9 tol mroundOf mroundFrom mfromHour mtoHour mfrom mto msort misFault mdeep mcoded mlines mbestCost mdealer mnumber mwhose msize misParted fbpersons fbpapers gstamps9340 fbversions fblines fbsteps fbsayings fbfindings fbwarnings fbquestions fcpersons fcpapers fcstamps fcversions fclines fcsteps fcsayings fcfindings fcwarnings fcquestions fby ftln ftsp fhw fhn ftr fhs fhz fhi fclm ffi fla fml fmm fsl fsm fk0 fk1 fk2 fk3 fk4 fk5 fk6 fk7 fk8 fk9 fk10 fk11 fk12 ffc fsh frr ftc fht gnw9345 y_nk y_nt y_nr y_nm y_ns y_nl y_nc y_np y_ntr y_nb y_nso y_nsi y_nit y_nsh y_nsf y_nss y_nrc H locs ls i_kbpersons i_kbpapers (by first | assumption | omega | exact Or.inl rfl | exact Or.inr rfl) i_kbversions i_kblines i_kbsteps i_kbsayings i_kbfindings i_kbwarnings i_kbquestions i_kcpersons i_kcpapers i_kcstamps i_kcversions i_kclines i_kcsteps i_kcsayings i_kcfindings i_kcwarnings i_kcquestions i_kt i_ks i_kn i_kln i_ksp i_jr i_kr i_ytp i_yrm i_yjr i_tp i_cl i_tol i_ikp (by first | assumption | omega | exact Or.inl rfl | exact Or.inr rfl) (by first | assumption | omega | exact Or.inl rfl | exact Or.inr rfl) i_nk i_vk i_mb i_b6 i_sz i_sh i_sl i_sp i_sq (by first | assumption | omega | exact Or.inl rfl | exact Or.inr rfl) i_sk (by first | assumption | omega | exact Or.inl rfl | exact Or.inr rfl) (by first | assumption | omega | exact Or.inl rfl | exact Or.inr rfl) (by first | assumption | omega | exact Or.inl rfl | exact Or.inr rfl) (by first | assumption | omega | exact Or.inl rfl | exact Or.inr rfl) (by first | assumption | omega | exact Or.inl rfl | exact Or.inr rfl) (by first | assumption | omega | exact Or.inl rfl | exact Or.inr rfl) (by first | assumption | omega | exact Or.inl rfl | exact Or.inr rfl) i_kpersons i_kpapers i_kstamps i_ksayings i_kfindings i_kwarnings i_kquestions hP hD hS (lv_sub hl [0, 1, 2, 3] rfl)
set_option maxHeartbeats 8000000 in
set_option maxRecDepth 100000 in
theorem law_9 : LAWC 543 := by
  intro p l e s m below meth c b L xs G K A hf xb bb cc sg do9 ru9 ta9 tp9 ro9 ho9 de9 bpersons bpapers bstamps bversions blines bsteps bsayings bfindings bwarnings bquestions bpersonsc bpapersc bstampsc bversionsc blinesc bstepsc bsayingsc bfindingsc bwarningsc bquestionsc cpersons cpapers cstamps cversions clines csteps csayings cfindings cwarnings cquestions cpersonsc cpapersc cstampsc cversionsc clinesc cstepsc csayingsc cfindingsc cwarningsc cquestionsc tby tln tsp tlnc tspc hs hz hi hw hn ht tr9 clk fi la ml mm sl sm clm hd kc0 km0 kc1 km1 kc2 km2 kc3 km3 kc4 km4 kc5 km5 kc6 km6 kc7 km7 kc8 km8 kc9 km9 kc10 km10 kc11 km11 kc12 km12 fc sh rr tc rrc xm nw nk nt nr nm ns nl nc nF np ntr nb nso nsi nit nsh nsf nss nrc kbpersons kbpapers kbstamps kbversions kblines kbsteps kbsayings kbfindings kbwarnings kbquestions kcpersons kcpapers kcstamps kcversions kclines kcsteps kcsayings kcfindings kcwarnings kcquestions kt ks kn kln ksp jr kr ytp yrm yjr ikp td vd vl gp ktd kvd kvl kgp tkd tf9 dk dn dp da dq cl bo le bi r1 rc rh tf tt9 tl tbv asd st9 tol mroundOf mroundFrom mfromHour mtoHour mfrom mto msort misFault mdeep mcoded mlines mbestCost mdealer mnumber mwhose msize misParted fbpersons fbpapers fbstamps fbversions fblines fbsteps fbsayings fbfindings fbwarnings fbquestions fcpersons fcpapers fcstamps fcversions fclines fcsteps fcsayings fcfindings fcwarnings fcquestions fby ftln ftsp fhw fhn ftr fhs fhz fhi fclm ffi fla fml fmm fsl fsm fk0 fk1 fk2 fk3 fk4 fk5 fk6 fk7 fk8 fk9 fk10 fk11 fk12 ffc fsh frr ftc fht y_nw y_nk y_nt y_nr y_nm y_ns y_nl y_nc y_np y_ntr y_nb y_nso y_nsi y_nit y_nsh y_nsf y_nss y_nrc H locs ls ki hC hK hO hX hL hbl hbA hA hA2 hki hf0 hf1 hf2 hf3 hf4 hf5 hf6 hf7 hf8 hf9 hf10 hf11 hf12 i_kbpersons i_kbpapers i_kbstamps i_kbversions i_kblines i_kbsteps i_kbsayings i_kbfindings i_kbwarnings i_kbquestions i_kcpersons i_kcpapers i_kcstamps i_kcversions i_kclines i_kcsteps i_kcsayings i_kcfindings i_kcwarnings i_kcquestions i_kt i_ks i_kn i_kln i_ksp i_jr i_kr i_ytp i_yrm i_yjr i_tp i_cl i_tol i_ikp i_nw i_vw i_nk i_vk i_mb i_b6 i_sz i_sh i_sl i_sp i_sq i_sc i_sk i_epersons i_epapers i_estamps i_esayings i_efindings i_ewarnings i_equestions i_kpersons i_kpapers i_kstamps i_ksayings i_kfindings i_kwarnings i_kquestions hback hP hD hS hl
  refine Kan8 hC (fun hx hb hr hml hB hown hlocks hnm => ?_)
  refine lv_aload_n hx hb dL_law_543 rfl (lv_at2 hl) ?_
  refine lv_aload_n hx hb dL_law_544 rfl (lv_at3 hl) ?_
  refine lv_iload_n hx hb dL_law_545 rfl (lv_at0 hl) ?_
  refine lv_iconst (v := 1) hx hb dL_law_546 (by decide) ?_
  refine lv_iadd hx hb dL_law_547 ?_
  refine eqi (x1 := nI (ki + 1)) (nI_add ki 1) ?_
  refine va_sld hx hb hX hbl hbA hS (lw_in hL hki (by decide)) dL_law_548 ?_
  refine eqi (x1 := xs (ki + 1)) (congrArg xs (lw_cl hL hki (by decide))) ?_
  refine lk_iV hC hK hl hP hD hS hA (p_gap l G xb (xs (ki + 1)) bb cc ikp sg do9 ru9 ta9 tp9 ro9 ho9 de9 bpersons bpapers bstamps bversions blines bsteps bsayings bfindings bwarnings bquestions td vd vl gp) si_L_53 [0, 1] [0, 1] [true, true, false, false, false, false, false, false, false, false, false, false, false, false, false, false, false, false, false, false, false, false, false, false, false, false, false, false, false, false, false, false, false, false, false, false, false, false, false, false, false, false, false, false, false, false, false, false, false, false, false, false, false, false, false, false, false, false, false, false, false, false, false, false, false, false, false, false, false, false, false, false, false, false, false, false, false, false, false, false, false, false, false, false, false, false, false, false, false, false, false, false, false, false, false, false, false, false, false, false, false, false, false, false, false, false, false, false, false, false, false, false, false, false, false, false, false, false, false, false, false, false, false] rfl rfl (by decide +kernel) (by decide +kernel) rfl rfl rfl rfl rfl (Nat.le_of_ble_eq_true rfl) ⟨Nat.le_of_ble_eq_true rfl, Nat.le_of_ble_eq_true rfl⟩ ⟨by first | exact Nat.le_of_ble_eq_true rfl | omega, by first | exact Nat.le_of_ble_eq_true rfl | omega⟩ dL_law_549 (fun r9356 gp19358 H locs hr9356 hP2 hS => ?_)
  try dsimp only at hr9356
  refine Kpdr (ws := (WLW G K hf xb bb cc sg do9 ru9 ta9 tp9 ro9 ho9 de9 bpersons bpapers bstamps bversions blines bsteps bsayings bfindings bwarnings bquestions bpersonsc bpapersc bstampsc bversionsc blinesc bstepsc bsayingsc bfindingsc bwarningsc bquestionsc cpersons cpapers cstamps cversions clines csteps csayings cfindings cwarnings cquestions cpersonsc cpapersc cstampsc cversionsc clinesc cstepsc csayingsc cfindingsc cwarningsc cquestionsc tby tln tsp tlnc tspc hs hz hi hw hn ht tr9 clk fi la ml mm sl sm clm hd kc0 km0 kc1 km1 kc2 km2 kc3 km3 kc4 km4 kc5 km5 kc6 km6 kc7 km7 kc8 km8 kc9 km9 kc10 km10 kc11 km11 kc12 km12 fc sh rr tc rrc xm nw nk nt nr nm ns nl nc nF np ntr nb nso nsi nit nsh nsf nss nrc kbpersons kbpapers kbstamps kbversions kblines kbsteps kbsayings kbfindings kbwarnings kbquestions kcpersons kcpapers kcstamps kcversions kclines kcsteps kcsayings kcfindings kcwarnings kcquestions kt ks kn kln ksp jr kr ytp yrm yjr ikp td vd vl gp19358 ktd kvd kvl kgp tkd tf9 dk dn dp da dq cl bo le bi r1 rc rh tf tt9 tl tbv asd st9 tol mroundOf mroundFrom mfromHour mtoHour mfrom mto msort misFault mdeep mcoded mlines mbestCost mdealer mnumber mwhose msize misParted fbpersons fbpapers fbstamps fbversions fblines fbsteps fbsayings fbfindings fbwarnings fbquestions fcpersons fcpapers fcstamps fcversions fclines fcsteps fcsayings fcfindings fcwarnings fcquestions fby ftln ftsp fhw fhn ftr fhs fhz fhi fclm ffi fla fml fmm fsl fsm fk0 fk1 fk2 fk3 fk4 fk5 fk6 fk7 fk8 fk9 fk10 fk11 fk12 ffc fsh frr ftc fht y_nw y_nk y_nt y_nr y_nm y_ns y_nl y_nc y_np y_ntr y_nb y_nso y_nsi y_nit y_nsh y_nsf y_nss y_nrc)) hP2 (lk_D hD rfl) (fun hP hD => ?_)
  obtain ⟨hr9356, w9359⟩ := hr9356
  obtain rfl := hr9356
  refine lv_pop hx hb dL_law_552 rfl ?_
  refine lv_aload_n hx hb dL_law_553 rfl (lv_at1 hl) ?_
  refine lv_aload_n hx hb dL_law_554 rfl (lv_at3 hl) ?_
  refine lv_iload_n hx hb dL_law_555 rfl (lv_at0 hl) ?_
  refine lv_iconst (v := 1) hx hb dL_law_556 (by decide) ?_
  refine lv_iadd hx hb dL_law_557 ?_
  refine eqi (x1 := nI (ki + 1)) (nI_add ki 1) ?_
  refine va_sld hx hb hX hbl hbA hS (lw_in hL hki (by decide)) dL_law_558 ?_
  refine eqi (x1 := xs (ki + 1)) (congrArg xs (lw_cl hL hki (by decide))) ?_
  refine lk_iV hC hK hl hP hD hS hA (w_gap l G xm (xs (ki + 1)) nw nk ikp nt (nI ytp) nr (nI yrm) mroundOf mroundFrom 0 nm mfromHour mtoHour ns mfrom mto msort misFault mdeep mcoded mlines nl nc nF np ntr nb mbestCost nso nsi nit nsh nsf nss nrc (nI yjr) mdealer mnumber mwhose msize misParted y_nw (i_nw) (i_vw)) si_L_56 [103, 104] [0, 1] [false, false, false, false, false, false, false, false, false, false, false, false, false, false, false, false, false, false, false, false, false, false, false, false, false, false, false, false, false, false, false, false, false, false, false, false, false, false, false, false, false, false, false, false, false, false, false, false, false, false, false, false, false, false, false, false, false, false, false, false, false, false, false, false, false, false, false, false, false, false, false, false, false, false, false, false, false, false, false, false, false, false, false, false, false, false, false, false, false, false, false, false, false, false, false, false, false, false, false, false, false, false, false, true, true, false, false, false, false, false, false, false, false, false, false, false, false, false, false, false, false, false, false] rfl rfl (by decide +kernel) (by decide +kernel) rfl rfl rfl rfl rfl (Nat.le_of_ble_eq_true rfl) ⟨Nat.le_of_ble_eq_true rfl, Nat.le_of_ble_eq_true rfl⟩ ⟨by first | exact Nat.le_of_ble_eq_true rfl | omega, by first | exact Nat.le_of_ble_eq_true rfl | omega⟩ dL_law_559 (fun r9361 gnw9363 H locs hr9361 hP2 hS => ?_)
  try dsimp only at hr9361
  refine Kpdr (ws := (WLW G K hf xb bb cc sg do9 ru9 ta9 tp9 ro9 ho9 de9 bpersons bpapers bstamps bversions blines bsteps bsayings bfindings bwarnings bquestions bpersonsc bpapersc bstampsc bversionsc blinesc bstepsc bsayingsc bfindingsc bwarningsc bquestionsc cpersons cpapers cstamps cversions clines csteps csayings cfindings cwarnings cquestions cpersonsc cpapersc cstampsc cversionsc clinesc cstepsc csayingsc cfindingsc cwarningsc cquestionsc tby tln tsp tlnc tspc hs hz hi hw hn ht tr9 clk fi la ml mm sl sm clm hd kc0 km0 kc1 km1 kc2 km2 kc3 km3 kc4 km4 kc5 km5 kc6 km6 kc7 km7 kc8 km8 kc9 km9 kc10 km10 kc11 km11 kc12 km12 fc sh rr tc rrc xm nw nk nt nr nm ns nl nc nF np ntr nb nso nsi nit nsh nsf nss nrc kbpersons kbpapers kbstamps kbversions kblines kbsteps kbsayings kbfindings kbwarnings kbquestions kcpersons kcpapers kcstamps kcversions kclines kcsteps kcsayings kcfindings kcwarnings kcquestions kt ks kn kln ksp jr kr ytp yrm yjr ikp td vd vl gp19358 ktd kvd kvl kgp tkd tf9 dk dn dp da dq cl bo le bi r1 rc rh tf tt9 tl tbv asd st9 tol mroundOf mroundFrom mfromHour mtoHour mfrom mto msort misFault mdeep mcoded mlines mbestCost mdealer mnumber mwhose msize misParted fbpersons fbpapers fbstamps fbversions fblines fbsteps fbsayings fbfindings fbwarnings fbquestions fcpersons fcpapers fcstamps fcversions fclines fcsteps fcsayings fcfindings fcwarnings fcquestions fby ftln ftsp fhw fhn ftr fhs fhz fhi fclm ffi fla fml fmm fsl fsm fk0 fk1 fk2 fk3 fk4 fk5 fk6 fk7 fk8 fk9 fk10 fk11 fk12 ffc fsh frr ftc fht gnw9363 y_nk y_nt y_nr y_nm y_ns y_nl y_nc y_np y_ntr y_nb y_nso y_nsi y_nit y_nsh y_nsf y_nss y_nrc)) hP2 (lk_D hD rfl) (fun hP hD => ?_)
  obtain ⟨hr9361, w9364⟩ := hr9361
  obtain rfl := hr9361
  refine lv_pop hx hb dL_law_562 rfl ?_
  refine lv_goto (tgt := 1718) hx hb dL_law_563 (by decide) ?_
  obtain ⟨z9366, z9367, z9368, z9369, z9370, z9371, z9372, z9373, z9374, z9375, z9376, z9377, z9378, z9379⟩ := w9364
  have hs_y_nw : SCX gnw9363 td vd vl gp19358 (nI kbpersons) (nI kbpapers) (nI kbstamps) (nI kbsayings) (nI kbfindings) (nI kbwarnings) (nI kbquestions) := ⟨(z9368).trans (i_sc.1), (z9369).trans (i_sc.2.1), (z9370).trans (i_sc.2.2.1), (z9371.trans (by rw [i_sc.2.2.2.1])).trans w9359, (z9372).trans (i_sc.2.2.2.2.1), (z9373).trans (i_sc.2.2.2.2.2.1), (z9374).trans (i_sc.2.2.2.2.2.2.1), (z9375).trans (i_sc.2.2.2.2.2.2.2.1), (z9376).trans (i_sc.2.2.2.2.2.2.2.2.1), (z9377).trans (i_sc.2.2.2.2.2.2.2.2.2.1), (z9378).trans (i_sc.2.2.2.2.2.2.2.2.2.2)⟩
  have he_persons : EQT gnw9363 12 20 fbpersons := EQT.fr i_epersons z9379 (by decide) (by decide)
  have he_papers : EQT gnw9363 32 72 fbpapers := EQT.fr i_epapers z9379 (by decide) (by decide)
  have he_stamps : EQT gnw9363 104 72 fbstamps := EQT.fr i_estamps z9379 (by decide) (by decide)
  have he_sayings : EQT gnw9363 1424 128 fbsayings := EQT.fr i_esayings z9379 (by decide) (by decide)
  have he_findings : EQT gnw9363 1552 48 fbfindings := EQT.fr i_efindings z9379 (by decide) (by decide)
  have he_warnings : EQT gnw9363 1600 48 fbwarnings := EQT.fr i_ewarnings z9379 (by decide) (by decide)
  have he_questions : EQT gnw9363 1648 14 fbquestions := EQT.fr i_equestions z9379 (by decide) (by decide)
  exact hback kbpersons kbpapers kbstamps kbversions kblines kbsteps kbsayings kbfindings kbwarnings kbquestions kcpersons kcpapers kcstamps kcversions kclines kcsteps kcsayings kcfindings kcwarnings kcquestions kt ks kn kln ksp jr kr ytp yrm yjr ikp td vd vl gp19358 ktd kvd kvl kgp tkd tf9 dk dn dp da dq cl bo le bi r1 rc rh tf tt9 tl tbv asd st9 tol mroundOf mroundFrom mfromHour mtoHour mfrom mto msort misFault mdeep mcoded mlines mbestCost mdealer mnumber mwhose msize misParted fbpersons fbpapers fbstamps fbversions fblines fbsteps fbsayings fbfindings fbwarnings fbquestions fcpersons fcpapers fcstamps fcversions fclines fcsteps fcsayings fcfindings fcwarnings fcquestions fby ftln ftsp fhw fhn ftr fhs fhz fhi fclm ffi fla fml fmm fsl fsm fk0 fk1 fk2 fk3 fk4 fk5 fk6 fk7 fk8 fk9 fk10 fk11 fk12 ffc fsh frr ftc fht gnw9363 y_nk y_nt y_nr y_nm y_ns y_nl y_nc y_np y_ntr y_nb y_nso y_nsi y_nit y_nsh y_nsf y_nss y_nrc H locs ls i_kbpersons i_kbpapers i_kbstamps i_kbversions i_kblines i_kbsteps i_kbsayings i_kbfindings i_kbwarnings i_kbquestions i_kcpersons i_kcpapers i_kcstamps i_kcversions i_kclines i_kcsteps i_kcsayings i_kcfindings i_kcwarnings i_kcquestions i_kt i_ks i_kn i_kln i_ksp i_jr i_kr i_ytp i_yrm i_yjr i_tp i_cl i_tol i_ikp (by first | assumption | omega | exact Or.inl rfl | exact Or.inr rfl) (by first | assumption | omega | exact Or.inl rfl | exact Or.inr rfl) i_nk i_vk i_mb i_b6 i_sz i_sh i_sl i_sp i_sq (by first | assumption | omega | exact Or.inl rfl | exact Or.inr rfl) i_sk (by first | assumption | omega | exact Or.inl rfl | exact Or.inr rfl) (by first | assumption | omega | exact Or.inl rfl | exact Or.inr rfl) (by first | assumption | omega | exact Or.inl rfl | exact Or.inr rfl) (by first | assumption | omega | exact Or.inl rfl | exact Or.inr rfl) (by first | assumption | omega | exact Or.inl rfl | exact Or.inr rfl) (by first | assumption | omega | exact Or.inl rfl | exact Or.inr rfl) (by first | assumption | omega | exact Or.inl rfl | exact Or.inr rfl) i_kpersons i_kpapers i_kstamps i_ksayings i_kfindings i_kwarnings i_kquestions hP hD hS (lv_sub hl [0, 1, 2, 3] rfl)
