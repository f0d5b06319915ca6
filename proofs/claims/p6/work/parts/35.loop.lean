section WR
variable {p : Program} {l : Launch} {e : Env} {R : Room} {s : State} {m : MethodId} {args : Array Value} {below : List Frame} {meth : Method} {c : Code} {H : Heap} {locs : List Loc} {cells slots : Nat} {Q : State → Prop}
variable {pc : Nat} {ls : Array Slot} {rest : List Value} {G : GG} {ws : va_W} {A : Nat → Prop} {y0 : MethodName} {b0 : ByteArray} {mL0 : Nat} {rt0 : Option FieldType} {a : Nat} {H0 : Heap}
theorem dL_law_18 : decode cL_law 18 = .ok (.iload_n 3, 1) := by decide +kernel
theorem dL_law_19 : decode cL_law 19 = .ok (.aload_n 0, 1) := by decide +kernel
theorem dL_law_20 : decode cL_law 20 = .ok (.arraylength, 1) := by decide +kernel
theorem dL_law_21 : decode cL_law 21 = .ok (.bipush 7, 2) := by decide +kernel
theorem dL_law_23 : decode cL_law 23 = .ok (.isub, 1) := by decide +kernel
theorem dL_law_24 : decode cL_law 24 = .ok (.if_icmp .gt 1700, 3) := by decide +kernel
theorem dL_law_1724 : decode cL_law 1724 = .ok (.iconst 1, 1) := by decide +kernel
theorem dL_law_1725 : decode cL_law 1725 = .ok (.ireturn, 1) := by decide +kernel
theorem dL_law_1718 : decode cL_law 1718 = .ok (.iinc 3 7, 3) := by decide +kernel
theorem dL_law_1721 : decode cL_law 1721 = .ok (.goto (-1703), 3) := by decide +kernel
theorem dL_law_27 : decode cL_law 27 = .ok (.aload_n 0, 1) := by decide +kernel
theorem dL_law_28 : decode cL_law 28 = .ok (.iload_n 3, 1) := by decide +kernel
theorem dL_law_29 : decode cL_law 29 = .ok (.iaload, 1) := by decide +kernel
theorem dL_law_30 : decode cL_law 30 = .ok (.bipush 63, 2) := by decide +kernel
theorem dL_law_32 : decode cL_law 32 = .ok (.iand, 1) := by decide +kernel
theorem dL_law_33 : decode cL_law 33 = .ok (.tableswitch 1685 0 41 #[183, 206, 239, 272, 305, 358, 381, 414, 457, 510, 533, 556, 605, 654, 713, 746, 789, 852, 865, 908, 941, 1032, 1075, 1088, 1141, 1174, 1207, 1240, 1263, 1296, 1339, 1352, 1365, 1408, 1451, 1494, 1537, 1570, 1613, 1636, 1659, 1672], 183) := by decide +kernel
theorem sw_0_41 {x : Int32} : ¬ x = 0 → ¬ x = 1 → ¬ x = 2 → ¬ x = 3 → ¬ x = 4 → ¬ x = 5 → ¬ x = 6 → ¬ x = 7 → ¬ x = 8 → ¬ x = 9 → ¬ x = 10 → ¬ x = 11 → ¬ x = 12 → ¬ x = 13 → ¬ x = 14 → ¬ x = 15 → ¬ x = 16 → ¬ x = 17 → ¬ x = 18 → ¬ x = 19 → ¬ x = 20 → ¬ x = 21 → ¬ x = 22 → ¬ x = 23 → ¬ x = 24 → ¬ x = 25 → ¬ x = 26 → ¬ x = 27 → ¬ x = 28 → ¬ x = 29 → ¬ x = 30 → ¬ x = 31 → ¬ x = 32 → ¬ x = 33 → ¬ x = 34 → ¬ x = 35 → ¬ x = 36 → ¬ x = 37 → ¬ x = 38 → ¬ x = 39 → ¬ x = 40 → ¬ x = 41 →  (x.toInt < 0 ∨ 41 < x.toInt) := by
  intros
  simp only [← Int32.toInt_inj] at *
  have hk : ∀ k : Int, x.toInt = k → x.toInt = k := fun _ h => h
  have k0 : (0 : Int32).toInt = 0 := by decide
  have k1 : (1 : Int32).toInt = 1 := by decide
  have k2 : (2 : Int32).toInt = 2 := by decide
  have k3 : (3 : Int32).toInt = 3 := by decide
  have k4 : (4 : Int32).toInt = 4 := by decide
  have k5 : (5 : Int32).toInt = 5 := by decide
  have k6 : (6 : Int32).toInt = 6 := by decide
  have k7 : (7 : Int32).toInt = 7 := by decide
  have k8 : (8 : Int32).toInt = 8 := by decide
  have k9 : (9 : Int32).toInt = 9 := by decide
  have k10 : (10 : Int32).toInt = 10 := by decide
  have k11 : (11 : Int32).toInt = 11 := by decide
  have k12 : (12 : Int32).toInt = 12 := by decide
  have k13 : (13 : Int32).toInt = 13 := by decide
  have k14 : (14 : Int32).toInt = 14 := by decide
  have k15 : (15 : Int32).toInt = 15 := by decide
  have k16 : (16 : Int32).toInt = 16 := by decide
  have k17 : (17 : Int32).toInt = 17 := by decide
  have k18 : (18 : Int32).toInt = 18 := by decide
  have k19 : (19 : Int32).toInt = 19 := by decide
  have k20 : (20 : Int32).toInt = 20 := by decide
  have k21 : (21 : Int32).toInt = 21 := by decide
  have k22 : (22 : Int32).toInt = 22 := by decide
  have k23 : (23 : Int32).toInt = 23 := by decide
  have k24 : (24 : Int32).toInt = 24 := by decide
  have k25 : (25 : Int32).toInt = 25 := by decide
  have k26 : (26 : Int32).toInt = 26 := by decide
  have k27 : (27 : Int32).toInt = 27 := by decide
  have k28 : (28 : Int32).toInt = 28 := by decide
  have k29 : (29 : Int32).toInt = 29 := by decide
  have k30 : (30 : Int32).toInt = 30 := by decide
  have k31 : (31 : Int32).toInt = 31 := by decide
  have k32 : (32 : Int32).toInt = 32 := by decide
  have k33 : (33 : Int32).toInt = 33 := by decide
  have k34 : (34 : Int32).toInt = 34 := by decide
  have k35 : (35 : Int32).toInt = 35 := by decide
  have k36 : (36 : Int32).toInt = 36 := by decide
  have k37 : (37 : Int32).toInt = 37 := by decide
  have k38 : (38 : Int32).toInt = 38 := by decide
  have k39 : (39 : Int32).toInt = 39 := by decide
  have k40 : (40 : Int32).toInt = 40 := by decide
  have k41 : (41 : Int32).toInt = 41 := by decide
  omega
end WR
set_option maxHeartbeats 4000000 in
set_option maxRecDepth 100000 in
theorem law_exit {p : Program} {l : Launch} {e : Env} {s : State} {m : MethodId} {below : List Frame} {meth : Method} {c : Code} {b L : Nat} {xs : Nat → Int32} {A : Nat → Prop} {xb xm : Nat} {H : Heap} {locs : List Loc} {ls : Array Slot} {ki : Nat} (hC : CX p s m meth c ⟨RL, meth.name, ""⟩ cL_law 4 ret #[Value.ref b]) (hX : va_X b L xs s s.heap) (hL : L ≤ 448) (hbl : b < s.heap.size) (hbA : ¬ A b) (hA2 : ∀ q : Nat, A q → s.heap.size ≤ q) (hki : ki ≤ 448) (hx7 : L < ki + 7) (hS : va_S A s.heap H locs) (hl : lv_has ls 4 [(3, .int (nI ki)), (2, .ref xm), (1, .ref xb), (0, .ref b)]) : W p l e room_1 s m #[Value.ref b] below meth c H locs 123 9503 (lw_Z below #[Value.ref b] s) (F0 m 18 ls []) := by
  obtain ⟨hx, hb, hr, hml, hB, hown, hlocks, hnm⟩ := id hC
  refine lv_iload_n hx hb dL_law_18 rfl (lv_at hl 0 rfl) ?_
  refine lv_aload_n hx hb dL_law_19 rfl (lv_at hl 3 rfl) ?_
  refine va_slen hx hb hX hbl hbA hS dL_law_20 ?_
  refine eqi (x1 := nI L) rfl ?_
  refine lv_bipush (v := 7) hx hb dL_law_21 (by decide) ?_
  refine lv_isub hx hb dL_law_23 ?_
  refine lv_icmp_gt (tgt := 1724) hx hb dL_law_24 (by decide) (fun _ => ?_) (fun c9 => absurd ((law_lt (by omega) (by omega)).mpr hx7) c9)
  refine lv_iconst (v := 1) hx hb dL_law_1724 (by decide) ?_
  refine va_forget (fun q9 h9 => hA2 _ (hS.2.2 q9 h9)) ?_
  refine W.widen (k := 600000) (n := 7302250) (Nat.le_of_ble_eq_true rfl) (Nat.le_of_ble_eq_true rfl) ?_
  exact lw_ret hx hb hr hlocks dL_law_1725
set_option maxHeartbeats 8000000 in
set_option maxRecDepth 100000 in
theorem law_loop {p : Program} {l : Launch} {e : Env} {s : State} {m : MethodId} {below : List Frame} {meth : Method} {c : Code} {b L : Nat} {xs : Nat → Int32} {G : GG} {K : OO} {A : Nat → Prop} {hf : Nat → Option Nat} {xb bb cc sg do9 ru9 ta9 tp9 ro9 ho9 de9 bpersons bpapers bstamps bversions blines bsteps bsayings bfindings bwarnings bquestions bpersonsc bpapersc bstampsc bversionsc blinesc bstepsc bsayingsc bfindingsc bwarningsc bquestionsc cpersons cpapers cstamps cversions clines csteps csayings cfindings cwarnings cquestions cpersonsc cpapersc cstampsc cversionsc clinesc cstepsc csayingsc cfindingsc cwarningsc cquestionsc tby tln tsp tlnc tspc hs hz hi hw hn ht tr9 clk fi la ml mm sl sm clm hd kc0 km0 kc1 km1 kc2 km2 kc3 km3 kc4 km4 kc5 km5 kc6 km6 kc7 km7 kc8 km8 kc9 km9 kc10 km10 kc11 km11 kc12 km12 fc sh rr tc rrc xm nw nk nt nr nm ns nl nc nF np ntr nb nso nsi nit nsh nsf nss nrc : Nat} (hC : CX p s m meth c ⟨RL, meth.name, ""⟩ cL_law 4 ret #[Value.ref b]) (hK : KK G s) (hO : OX K A s s.heap) (hX : va_X b L xs s s.heap) (hL : L ≤ 448) (hbl : b < s.heap.size) (hbA : ¬ A b) (hA : ∀ q : Nat, s.heap.size ≤ q → A q) (hA2 : ∀ q : Nat, A q → s.heap.size ≤ q) (hf0 : hf 0 = some kc0) (hf1 : hf 1 = some kc1) (hf2 : hf 2 = some kc2) (hf3 : hf 3 = some kc3) (hf4 : hf 4 = some kc4) (hf5 : hf 5 = some kc5) (hf6 : hf 6 = some kc6) (hf7 : hf 7 = some kc7) (hf8 : hf 8 = some kc8) (hf9 : hf 9 = some kc9) (hf10 : hf 10 = some kc10) (hf11 : hf 11 = some kc11) (hf12 : hf 12 = some kc12) : ∀ (n ki : Nat) (kbpersons kbpapers kbstamps kbversions kblines kbsteps kbsayings kbfindings kbwarnings kbquestions kcpersons kcpapers kcstamps kcversions kclines kcsteps kcsayings kcfindings kcwarnings kcquestions kt ks kn kln ksp jr kr ytp yrm yjr : Nat) (ikp td vd vl gp ktd kvd kvl kgp tkd tf9 dk dn dp da dq cl bo le bi r1 rc rh tf tt9 tl tbv asd st9 tol mroundOf mroundFrom mfromHour mtoHour mfrom mto msort misFault mdeep mcoded mlines mbestCost mdealer mnumber mwhose msize misParted : Int32) (fbpersons fbpapers fbstamps fbversions fblines fbsteps fbsayings fbfindings fbwarnings fbquestions fcpersons fcpapers fcstamps fcversions fclines fcsteps fcsayings fcfindings fcwarnings fcquestions fby ftln ftsp fhw fhn ftr fhs fhz fhi fclm ffi fla fml fmm fsl fsm fk0 fk1 fk2 fk3 fk4 fk5 fk6 fk7 fk8 fk9 fk10 fk11 fk12 ffc fsh frr ftc fht y_nw y_nk y_nt y_nr y_nm y_ns y_nl y_nc y_np y_ntr y_nb y_nso y_nsi y_nit y_nsh y_nsf y_nss y_nrc : Nat → Int32) (H : Heap) (locs : List Loc) (ls : Array Slot), L < ki + 7 * n + 7 → ki ≤ L → (kbpersons ≤ 10) → (kbpapers ≤ 12) → (kbstamps ≤ 24) → (kbversions ≤ 8) → (kblines ≤ 72) → (kbsteps ≤ 960) → (kbsayings ≤ 16) → (kbfindings ≤ 12) → (kbwarnings ≤ 16) → (kbquestions ≤ 7) → (kcpersons ≤ 10) → (kcpapers ≤ 12) → (kcstamps ≤ 24) → (kcversions ≤ 8) → (kclines ≤ 72) → (kcsteps ≤ 960) → (kcsayings ≤ 16) → (kcfindings ≤ 12) → (kcwarnings ≤ 16) → (kcquestions ≤ 7) → (kt ≤ 240) → (ks ≤ 240) → (kn ≤ 240) → (kln ≤ 9) → (ksp ≤ 120) → (jr ≤ 30) → (kr ≤ 7) → (ytp ≤ 240) → (yrm ≤ 7) → (yjr ≤ 30) → (ytp = kt) → (cl = 0 ∨ cl = 1) → (tol = 0 ∨ tol = 1) → (ikp = 0 ∨ ikp = 1) → (NI y_nw) → (VI y_nw) → (NI y_nk) → (VI y_nk) → (MB y_nm) → (B66 y_ntr y_nb) → (SZ y_nsi) → (SHR fhs fhz fhi y_nso y_nsi y_nit) → (SLR fhw fhn fht y_nsh y_nsf y_nss) → (SPI fbsayings kbsayings kbpapers) → (SPI fcsayings kcsayings kcpapers) → (SCX y_nw td vd vl gp (nI kbpersons) (nI kbpapers) (nI kbstamps) (nI kbsayings) (nI kbfindings) (nI kbwarnings) (nI kbquestions)) → (ikp = 0 ∨ SCX y_nk ktd kvd kvl kgp (nI kcpersons) (nI kcpapers) (nI kcstamps) (nI kcsayings) (nI kcfindings) (nI kcwarnings) (nI kcquestions)) → (EQT y_nw 12 20 fbpersons) → (EQT y_nw 32 72 fbpapers) → (EQT y_nw 104 72 fbstamps) → (EQT y_nw 1424 128 fbsayings) → (EQT y_nw 1552 48 fbfindings) → (EQT y_nw 1600 48 fbwarnings) → (EQT y_nw 1648 14 fbquestions) → (EQT y_nk 12 20 fcpersons) → (EQT y_nk 32 72 fcpapers) → (EQT y_nk 104 72 fcstamps) → (EQT y_nk 1424 128 fcsayings) → (EQT y_nk 1552 48 fcfindings) → (EQT y_nk 1600 48 fcwarnings) → (EQT y_nk 1648 14 fcquestions) → va_P G.1 vwCl (WLW G K hf xb bb cc sg do9 ru9 ta9 tp9 ro9 ho9 de9 bpersons bpapers bstamps bversions blines bsteps bsayings bfindings bwarnings bquestions bpersonsc bpapersc bstampsc bversionsc blinesc bstepsc bsayingsc bfindingsc bwarningsc bquestionsc cpersons cpapers cstamps cversions clines csteps csayings cfindings cwarnings cquestions cpersonsc cpapersc cstampsc cversionsc clinesc cstepsc csayingsc cfindingsc cwarningsc cquestionsc tby tln tsp tlnc tspc hs hz hi hw hn ht tr9 clk fi la ml mm sl sm clm hd kc0 km0 kc1 km1 kc2 km2 kc3 km3 kc4 km4 kc5 km5 kc6 km6 kc7 km7 kc8 km8 kc9 km9 kc10 km10 kc11 km11 kc12 km12 fc sh rr tc rrc xm nw nk nt nr nm ns nl nc nF np ntr nb nso nsi nit nsh nsf nss nrc kbpersons kbpapers kbstamps kbversions kblines kbsteps kbsayings kbfindings kbwarnings kbquestions kcpersons kcpapers kcstamps kcversions kclines kcsteps kcsayings kcfindings kcwarnings kcquestions kt ks kn kln ksp jr kr ytp yrm yjr ikp td vd vl gp ktd kvd kvl kgp tkd tf9 dk dn dp da dq cl bo le bi r1 rc rh tf tt9 tl tbv asd st9 tol mroundOf mroundFrom mfromHour mtoHour mfrom mto msort misFault mdeep mcoded mlines mbestCost mdealer mnumber mwhose msize misParted fbpersons fbpapers fbstamps fbversions fblines fbsteps fbsayings fbfindings fbwarnings fbquestions fcpersons fcpapers fcstamps fcversions fclines fcsteps fcsayings fcfindings fcwarnings fcquestions fby ftln ftsp fhw fhn ftr fhs fhz fhi fclm ffi fla fml fmm fsl fsm fk0 fk1 fk2 fk3 fk4 fk5 fk6 fk7 fk8 fk9 fk10 fk11 fk12 ffc fsh frr ftc fht y_nw y_nk y_nt y_nr y_nm y_ns y_nl y_nc y_np y_ntr y_nb y_nso y_nsi y_nit y_nsh y_nsf y_nss y_nrc) H → va_D A (WLW G K hf xb bb cc sg do9 ru9 ta9 tp9 ro9 ho9 de9 bpersons bpapers bstamps bversions blines bsteps bsayings bfindings bwarnings bquestions bpersonsc bpapersc bstampsc bversionsc blinesc bstepsc bsayingsc bfindingsc bwarningsc bquestionsc cpersons cpapers cstamps cversions clines csteps csayings cfindings cwarnings cquestions cpersonsc cpapersc cstampsc cversionsc clinesc cstepsc csayingsc cfindingsc cwarningsc cquestionsc tby tln tsp tlnc tspc hs hz hi hw hn ht tr9 clk fi la ml mm sl sm clm hd kc0 km0 kc1 km1 kc2 km2 kc3 km3 kc4 km4 kc5 km5 kc6 km6 kc7 km7 kc8 km8 kc9 km9 kc10 km10 kc11 km11 kc12 km12 fc sh rr tc rrc xm nw nk nt nr nm ns nl nc nF np ntr nb nso nsi nit nsh nsf nss nrc kbpersons kbpapers kbstamps kbversions kblines kbsteps kbsayings kbfindings kbwarnings kbquestions kcpersons kcpapers kcstamps kcversions kclines kcsteps kcsayings kcfindings kcwarnings kcquestions kt ks kn kln ksp jr kr ytp yrm yjr ikp td vd vl gp ktd kvd kvl kgp tkd tf9 dk dn dp da dq cl bo le bi r1 rc rh tf tt9 tl tbv asd st9 tol mroundOf mroundFrom mfromHour mtoHour mfrom mto msort misFault mdeep mcoded mlines mbestCost mdealer mnumber mwhose msize misParted fbpersons fbpapers fbstamps fbversions fblines fbsteps fbsayings fbfindings fbwarnings fbquestions fcpersons fcpapers fcstamps fcversions fclines fcsteps fcsayings fcfindings fcwarnings fcquestions fby ftln ftsp fhw fhn ftr fhs fhz fhi fclm ffi fla fml fmm fsl fsm fk0 fk1 fk2 fk3 fk4 fk5 fk6 fk7 fk8 fk9 fk10 fk11 fk12 ffc fsh frr ftc fht y_nw y_nk y_nt y_nr y_nm y_ns y_nl y_nc y_np y_ntr y_nb y_nso y_nsi y_nit y_nsh y_nsf y_nss y_nrc) → va_S A s.heap H locs → lv_has ls 4 [(3, .int (nI ki)), (2, .ref xm), (1, .ref xb), (0, .ref b)] → W p l e room_1 s m #[Value.ref b] below meth c H locs 123 9503 (lw_Z below #[Value.ref b] s) (F0 m 18 ls []) := by
  obtain ⟨hx, hb, hr, hml, hB, hown, hlocks, hnm⟩ := id hC
  intro n
  induction n with
  | zero =>
    intro ki kbpersons kbpapers kbstamps kbversions kblines kbsteps kbsayings kbfindings kbwarnings kbquestions kcpersons kcpapers kcstamps kcversions kclines kcsteps kcsayings kcfindings kcwarnings kcquestions kt ks kn kln ksp jr kr ytp yrm yjr ikp td vd vl gp ktd kvd kvl kgp tkd tf9 dk dn dp da dq cl bo le bi r1 rc rh tf tt9 tl tbv asd st9 tol mroundOf mroundFrom mfromHour mtoHour mfrom mto msort misFault mdeep mcoded mlines mbestCost mdealer mnumber mwhose msize misParted fbpersons fbpapers fbstamps fbversions fblines fbsteps fbsayings fbfindings fbwarnings fbquestions fcpersons fcpapers fcstamps fcversions fclines fcsteps fcsayings fcfindings fcwarnings fcquestions fby ftln ftsp fhw fhn ftr fhs fhz fhi fclm ffi fla fml fmm fsl fsm fk0 fk1 fk2 fk3 fk4 fk5 fk6 fk7 fk8 fk9 fk10 fk11 fk12 ffc fsh frr ftc fht y_nw y_nk y_nt y_nr y_nm y_ns y_nl y_nc y_np y_ntr y_nb y_nso y_nsi y_nit y_nsh y_nsf y_nss y_nrc H locs ls hnn hkk i_kbpersons i_kbpapers i_kbstamps i_kbversions i_kblines i_kbsteps i_kbsayings i_kbfindings i_kbwarnings i_kbquestions i_kcpersons i_kcpapers i_kcstamps i_kcversions i_kclines i_kcsteps i_kcsayings i_kcfindings i_kcwarnings i_kcquestions i_kt i_ks i_kn i_kln i_ksp i_jr i_kr i_ytp i_yrm i_yjr i_tp i_cl i_tol i_ikp i_nw i_vw i_nk i_vk i_mb i_b6 i_sz i_sh i_sl i_sp i_sq i_sc i_sk i_epersons i_epapers i_estamps i_esayings i_efindings i_ewarnings i_equestions i_kpersons i_kpapers i_kstamps i_ksayings i_kfindings i_kwarnings i_kquestions hP hD hS hl
    exact law_exit hC hX hL hbl hbA hA2 (by omega) (by omega) hS hl
  | succ n ih =>
    intro ki kbpersons kbpapers kbstamps kbversions kblines kbsteps kbsayings kbfindings kbwarnings kbquestions kcpersons kcpapers kcstamps kcversions kclines kcsteps kcsayings kcfindings kcwarnings kcquestions kt ks kn kln ksp jr kr ytp yrm yjr ikp td vd vl gp ktd kvd kvl kgp tkd tf9 dk dn dp da dq cl bo le bi r1 rc rh tf tt9 tl tbv asd st9 tol mroundOf mroundFrom mfromHour mtoHour mfrom mto msort misFault mdeep mcoded mlines mbestCost mdealer mnumber mwhose msize misParted fbpersons fbpapers fbstamps fbversions fblines fbsteps fbsayings fbfindings fbwarnings fbquestions fcpersons fcpapers fcstamps fcversions fclines fcsteps fcsayings fcfindings fcwarnings fcquestions fby ftln ftsp fhw fhn ftr fhs fhz fhi fclm ffi fla fml fmm fsl fsm fk0 fk1 fk2 fk3 fk4 fk5 fk6 fk7 fk8 fk9 fk10 fk11 fk12 ffc fsh frr ftc fht y_nw y_nk y_nt y_nr y_nm y_ns y_nl y_nc y_np y_ntr y_nb y_nso y_nsi y_nit y_nsh y_nsf y_nss y_nrc H locs ls hnn hkk i_kbpersons i_kbpapers i_kbstamps i_kbversions i_kblines i_kbsteps i_kbsayings i_kbfindings i_kbwarnings i_kbquestions i_kcpersons i_kcpapers i_kcstamps i_kcversions i_kclines i_kcsteps i_kcsayings i_kcfindings i_kcwarnings i_kcquestions i_kt i_ks i_kn i_kln i_ksp i_jr i_kr i_ytp i_yrm i_yjr i_tp i_cl i_tol i_ikp i_nw i_vw i_nk i_vk i_mb i_b6 i_sz i_sh i_sl i_sp i_sq i_sc i_sk i_epersons i_epapers i_estamps i_esayings i_efindings i_ewarnings i_equestions i_kpersons i_kpapers i_kstamps i_ksayings i_kfindings i_kwarnings i_kquestions hP hD hS hl
    rcases Nat.lt_or_ge L (ki + 7) with h7 | h7
    · exact law_exit hC hX hL hbl hbA hA2 (by omega) h7 hS hl
    have hback : ∀ (kbpersons kbpapers kbstamps kbversions kblines kbsteps kbsayings kbfindings kbwarnings kbquestions kcpersons kcpapers kcstamps kcversions kclines kcsteps kcsayings kcfindings kcwarnings kcquestions kt ks kn kln ksp jr kr ytp yrm yjr : Nat) (ikp td vd vl gp ktd kvd kvl kgp tkd tf9 dk dn dp da dq cl bo le bi r1 rc rh tf tt9 tl tbv asd st9 tol mroundOf mroundFrom mfromHour mtoHour mfrom mto msort misFault mdeep mcoded mlines mbestCost mdealer mnumber mwhose msize misParted : Int32) (fbpersons fbpapers fbstamps fbversions fblines fbsteps fbsayings fbfindings fbwarnings fbquestions fcpersons fcpapers fcstamps fcversions fclines fcsteps fcsayings fcfindings fcwarnings fcquestions fby ftln ftsp fhw fhn ftr fhs fhz fhi fclm ffi fla fml fmm fsl fsm fk0 fk1 fk2 fk3 fk4 fk5 fk6 fk7 fk8 fk9 fk10 fk11 fk12 ffc fsh frr ftc fht y_nw y_nk y_nt y_nr y_nm y_ns y_nl y_nc y_np y_ntr y_nb y_nso y_nsi y_nit y_nsh y_nsf y_nss y_nrc : Nat → Int32) (H : Heap) (locs : List Loc) (ls : Array Slot), (kbpersons ≤ 10) → (kbpapers ≤ 12) → (kbstamps ≤ 24) → (kbversions ≤ 8) → (kblines ≤ 72) → (kbsteps ≤ 960) → (kbsayings ≤ 16) → (kbfindings ≤ 12) → (kbwarnings ≤ 16) → (kbquestions ≤ 7) → (kcpersons ≤ 10) → (kcpapers ≤ 12) → (kcstamps ≤ 24) → (kcversions ≤ 8) → (kclines ≤ 72) → (kcsteps ≤ 960) → (kcsayings ≤ 16) → (kcfindings ≤ 12) → (kcwarnings ≤ 16) → (kcquestions ≤ 7) → (kt ≤ 240) → (ks ≤ 240) → (kn ≤ 240) → (kln ≤ 9) → (ksp ≤ 120) → (jr ≤ 30) → (kr ≤ 7) → (ytp ≤ 240) → (yrm ≤ 7) → (yjr ≤ 30) → (ytp = kt) → (cl = 0 ∨ cl = 1) → (tol = 0 ∨ tol = 1) → (ikp = 0 ∨ ikp = 1) → (NI y_nw) → (VI y_nw) → (NI y_nk) → (VI y_nk) → (MB y_nm) → (B66 y_ntr y_nb) → (SZ y_nsi) → (SHR fhs fhz fhi y_nso y_nsi y_nit) → (SLR fhw fhn fht y_nsh y_nsf y_nss) → (SPI fbsayings kbsayings kbpapers) → (SPI fcsayings kcsayings kcpapers) → (SCX y_nw td vd vl gp (nI kbpersons) (nI kbpapers) (nI kbstamps) (nI kbsayings) (nI kbfindings) (nI kbwarnings) (nI kbquestions)) → (ikp = 0 ∨ SCX y_nk ktd kvd kvl kgp (nI kcpersons) (nI kcpapers) (nI kcstamps) (nI kcsayings) (nI kcfindings) (nI kcwarnings) (nI kcquestions)) → (EQT y_nw 12 20 fbpersons) → (EQT y_nw 32 72 fbpapers) → (EQT y_nw 104 72 fbstamps) → (EQT y_nw 1424 128 fbsayings) → (EQT y_nw 1552 48 fbfindings) → (EQT y_nw 1600 48 fbwarnings) → (EQT y_nw 1648 14 fbquestions) → (EQT y_nk 12 20 fcpersons) → (EQT y_nk 32 72 fcpapers) → (EQT y_nk 104 72 fcstamps) → (EQT y_nk 1424 128 fcsayings) → (EQT y_nk 1552 48 fcfindings) → (EQT y_nk 1600 48 fcwarnings) → (EQT y_nk 1648 14 fcquestions) → va_P G.1 vwCl (WLW G K hf xb bb cc sg do9 ru9 ta9 tp9 ro9 ho9 de9 bpersons bpapers bstamps bversions blines bsteps bsayings bfindings bwarnings bquestions bpersonsc bpapersc bstampsc bversionsc blinesc bstepsc bsayingsc bfindingsc bwarningsc bquestionsc cpersons cpapers cstamps cversions clines csteps csayings cfindings cwarnings cquestions cpersonsc cpapersc cstampsc cversionsc clinesc cstepsc csayingsc cfindingsc cwarningsc cquestionsc tby tln tsp tlnc tspc hs hz hi hw hn ht tr9 clk fi la ml mm sl sm clm hd kc0 km0 kc1 km1 kc2 km2 kc3 km3 kc4 km4 kc5 km5 kc6 km6 kc7 km7 kc8 km8 kc9 km9 kc10 km10 kc11 km11 kc12 km12 fc sh rr tc rrc xm nw nk nt nr nm ns nl nc nF np ntr nb nso nsi nit nsh nsf nss nrc kbpersons kbpapers kbstamps kbversions kblines kbsteps kbsayings kbfindings kbwarnings kbquestions kcpersons kcpapers kcstamps kcversions kclines kcsteps kcsayings kcfindings kcwarnings kcquestions kt ks kn kln ksp jr kr ytp yrm yjr ikp td vd vl gp ktd kvd kvl kgp tkd tf9 dk dn dp da dq cl bo le bi r1 rc rh tf tt9 tl tbv asd st9 tol mroundOf mroundFrom mfromHour mtoHour mfrom mto msort misFault mdeep mcoded mlines mbestCost mdealer mnumber mwhose msize misParted fbpersons fbpapers fbstamps fbversions fblines fbsteps fbsayings fbfindings fbwarnings fbquestions fcpersons fcpapers fcstamps fcversions fclines fcsteps fcsayings fcfindings fcwarnings fcquestions fby ftln ftsp fhw fhn ftr fhs fhz fhi fclm ffi fla fml fmm fsl fsm fk0 fk1 fk2 fk3 fk4 fk5 fk6 fk7 fk8 fk9 fk10 fk11 fk12 ffc fsh frr ftc fht y_nw y_nk y_nt y_nr y_nm y_ns y_nl y_nc y_np y_ntr y_nb y_nso y_nsi y_nit y_nsh y_nsf y_nss y_nrc) H → va_D A (WLW G K hf xb bb cc sg do9 ru9 ta9 tp9 ro9 ho9 de9 bpersons bpapers bstamps bversions blines bsteps bsayings bfindings bwarnings bquestions bpersonsc bpapersc bstampsc bversionsc blinesc bstepsc bsayingsc bfindingsc bwarningsc bquestionsc cpersons cpapers cstamps cversions clines csteps csayings cfindings cwarnings cquestions cpersonsc cpapersc cstampsc cversionsc clinesc cstepsc csayingsc cfindingsc cwarningsc cquestionsc tby tln tsp tlnc tspc hs hz hi hw hn ht tr9 clk fi la ml mm sl sm clm hd kc0 km0 kc1 km1 kc2 km2 kc3 km3 kc4 km4 kc5 km5 kc6 km6 kc7 km7 kc8 km8 kc9 km9 kc10 km10 kc11 km11 kc12 km12 fc sh rr tc rrc xm nw nk nt nr nm ns nl nc nF np ntr nb nso nsi nit nsh nsf nss nrc kbpersons kbpapers kbstamps kbversions kblines kbsteps kbsayings kbfindings kbwarnings kbquestions kcpersons kcpapers kcstamps kcversions kclines kcsteps kcsayings kcfindings kcwarnings kcquestions kt ks kn kln ksp jr kr ytp yrm yjr ikp td vd vl gp ktd kvd kvl kgp tkd tf9 dk dn dp da dq cl bo le bi r1 rc rh tf tt9 tl tbv asd st9 tol mroundOf mroundFrom mfromHour mtoHour mfrom mto msort misFault mdeep mcoded mlines mbestCost mdealer mnumber mwhose msize misParted fbpersons fbpapers fbstamps fbversions fblines fbsteps fbsayings fbfindings fbwarnings fbquestions fcpersons fcpapers fcstamps fcversions fclines fcsteps fcsayings fcfindings fcwarnings fcquestions fby ftln ftsp fhw fhn ftr fhs fhz fhi fclm ffi fla fml fmm fsl fsm fk0 fk1 fk2 fk3 fk4 fk5 fk6 fk7 fk8 fk9 fk10 fk11 fk12 ffc fsh frr ftc fht y_nw y_nk y_nt y_nr y_nm y_ns y_nl y_nc y_np y_ntr y_nb y_nso y_nsi y_nit y_nsh y_nsf y_nss y_nrc) → va_S A s.heap H locs → lv_has ls 4 [(3, .int (nI ki)), (2, .ref xm), (1, .ref xb), (0, .ref b)] → W p l e room_1 s m #[Value.ref b] below meth c H locs 123 9503 (lw_Z below #[Value.ref b] s) (F0 m 1718 ls []) := by
      intro kbpersons kbpapers kbstamps kbversions kblines kbsteps kbsayings kbfindings kbwarnings kbquestions kcpersons kcpapers kcstamps kcversions kclines kcsteps kcsayings kcfindings kcwarnings kcquestions kt ks kn kln ksp jr kr ytp yrm yjr ikp td vd vl gp ktd kvd kvl kgp tkd tf9 dk dn dp da dq cl bo le bi r1 rc rh tf tt9 tl tbv asd st9 tol mroundOf mroundFrom mfromHour mtoHour mfrom mto msort misFault mdeep mcoded mlines mbestCost mdealer mnumber mwhose msize misParted fbpersons fbpapers fbstamps fbversions fblines fbsteps fbsayings fbfindings fbwarnings fbquestions fcpersons fcpapers fcstamps fcversions fclines fcsteps fcsayings fcfindings fcwarnings fcquestions fby ftln ftsp fhw fhn ftr fhs fhz fhi fclm ffi fla fml fmm fsl fsm fk0 fk1 fk2 fk3 fk4 fk5 fk6 fk7 fk8 fk9 fk10 fk11 fk12 ffc fsh frr ftc fht y_nw y_nk y_nt y_nr y_nm y_ns y_nl y_nc y_np y_ntr y_nb y_nso y_nsi y_nit y_nsh y_nsf y_nss y_nrc H locs ls i_kbpersons i_kbpapers i_kbstamps i_kbversions i_kblines i_kbsteps i_kbsayings i_kbfindings i_kbwarnings i_kbquestions i_kcpersons i_kcpapers i_kcstamps i_kcversions i_kclines i_kcsteps i_kcsayings i_kcfindings i_kcwarnings i_kcquestions i_kt i_ks i_kn i_kln i_ksp i_jr i_kr i_ytp i_yrm i_yjr i_tp i_cl i_tol i_ikp i_nw i_vw i_nk i_vk i_mb i_b6 i_sz i_sh i_sl i_sp i_sq i_sc i_sk i_epersons i_epapers i_estamps i_esayings i_efindings i_ewarnings i_equestions i_kpersons i_kpapers i_kstamps i_ksayings i_kfindings i_kwarnings i_kquestions hP hD hS hl
      refine lv_iinc (v := nI (ki + 7)) (lv' := [(3, .int (nI (ki + 7))), (2, .ref xm), (1, .ref xb), (0, .ref b)]) hx hb dL_law_1718 hl (k := 0) rfl ((congrArg (fun z9 => nI ki + z9) (show Int32.ofInt 7 = nI 7 from by decide)).trans (nI_add ki 7)) (by decide) rfl (fun ls hl => ?_)
      refine lv_goto (tgt := 18) hx hb dL_law_1721 (by decide) ?_
      exact ih (ki + 7) kbpersons kbpapers kbstamps kbversions kblines kbsteps kbsayings kbfindings kbwarnings kbquestions kcpersons kcpapers kcstamps kcversions kclines kcsteps kcsayings kcfindings kcwarnings kcquestions kt ks kn kln ksp jr kr ytp yrm yjr ikp td vd vl gp ktd kvd kvl kgp tkd tf9 dk dn dp da dq cl bo le bi r1 rc rh tf tt9 tl tbv asd st9 tol mroundOf mroundFrom mfromHour mtoHour mfrom mto msort misFault mdeep mcoded mlines mbestCost mdealer mnumber mwhose msize misParted fbpersons fbpapers fbstamps fbversions fblines fbsteps fbsayings fbfindings fbwarnings fbquestions fcpersons fcpapers fcstamps fcversions fclines fcsteps fcsayings fcfindings fcwarnings fcquestions fby ftln ftsp fhw fhn ftr fhs fhz fhi fclm ffi fla fml fmm fsl fsm fk0 fk1 fk2 fk3 fk4 fk5 fk6 fk7 fk8 fk9 fk10 fk11 fk12 ffc fsh frr ftc fht y_nw y_nk y_nt y_nr y_nm y_ns y_nl y_nc y_np y_ntr y_nb y_nso y_nsi y_nit y_nsh y_nsf y_nss y_nrc H locs ls (by omega) (by omega) i_kbpersons i_kbpapers i_kbstamps i_kbversions i_kblines i_kbsteps i_kbsayings i_kbfindings i_kbwarnings i_kbquestions i_kcpersons i_kcpapers i_kcstamps i_kcversions i_kclines i_kcsteps i_kcsayings i_kcfindings i_kcwarnings i_kcquestions i_kt i_ks i_kn i_kln i_ksp i_jr i_kr i_ytp i_yrm i_yjr i_tp i_cl i_tol i_ikp i_nw i_vw i_nk i_vk i_mb i_b6 i_sz i_sh i_sl i_sp i_sq i_sc i_sk i_epersons i_epapers i_estamps i_esayings i_efindings i_ewarnings i_equestions i_kpersons i_kpapers i_kstamps i_ksayings i_kfindings i_kwarnings i_kquestions hP hD hS hl
    refine lv_iload_n hx hb dL_law_18 rfl (lv_at hl 0 rfl) ?_
    refine lv_aload_n hx hb dL_law_19 rfl (lv_at hl 3 rfl) ?_
    refine va_slen hx hb hX hbl hbA hS dL_law_20 ?_
    refine eqi (x1 := nI L) rfl ?_
    refine lv_bipush (v := 7) hx hb dL_law_21 (by decide) ?_
    refine lv_isub hx hb dL_law_23 ?_
    refine lv_icmp_gt (tgt := 1724) hx hb dL_law_24 (by decide) (fun c9 => absurd c9 (fun h9 => absurd ((law_lt (by omega) (by omega)).mp h9) (by omega))) (fun _ => ?_)
    refine lv_aload_n hx hb dL_law_27 rfl (lv_at hl 3 rfl) ?_
    refine lv_iload_n hx hb dL_law_28 rfl (lv_at hl 0 rfl) ?_
    refine va_sld hx hb hX hbl hbA hS (vp_in_nI (by omega) (by omega)) dL_law_29 ?_
    refine eqi (x1 := xs ki) (congrArg xs (nI_clamp (by omega))) ?_
    refine lv_bipush (v := 63) hx hb dL_law_30 (by decide) ?_
    refine lv_iand hx hb dL_law_32 ?_
    by_cases c_33_10077 : (xs ki) &&& 63 = 0
    · refine lv_tableIn (tgt := 216) hx hb dL_law_33 (by rw [c_33_10077]; decide) (by rw [c_33_10077]; decide) (by rw [c_33_10077]; rfl) (by decide) ?_
      exact law_0 hC hK hO hX hL hbl hbA hA hA2 h7 hf0 hf1 hf2 hf3 hf4 hf5 hf6 hf7 hf8 hf9 hf10 hf11 hf12 i_kbpersons i_kbpapers i_kbstamps i_kbversions i_kblines i_kbsteps i_kbsayings i_kbfindings i_kbwarnings i_kbquestions i_kcpersons i_kcpapers i_kcstamps i_kcversions i_kclines i_kcsteps i_kcsayings i_kcfindings i_kcwarnings i_kcquestions i_kt i_ks i_kn i_kln i_ksp i_jr i_kr i_ytp i_yrm i_yjr i_tp i_cl i_tol i_ikp i_nw i_vw i_nk i_vk i_mb i_b6 i_sz i_sh i_sl i_sp i_sq i_sc i_sk i_epersons i_epapers i_estamps i_esayings i_efindings i_ewarnings i_equestions i_kpersons i_kpapers i_kstamps i_ksayings i_kfindings i_kwarnings i_kquestions hback hP hD hS (lv_sub hl [0, 1, 2, 3] rfl)
    by_cases c_33_10078 : (xs ki) &&& 63 = 1
    · refine lv_tableIn (tgt := 239) hx hb dL_law_33 (by rw [c_33_10078]; decide) (by rw [c_33_10078]; decide) (by rw [c_33_10078]; rfl) (by decide) ?_
      exact law_1 hC hK hO hX hL hbl hbA hA hA2 h7 hf0 hf1 hf2 hf3 hf4 hf5 hf6 hf7 hf8 hf9 hf10 hf11 hf12 i_kbpersons i_kbpapers i_kbstamps i_kbversions i_kblines i_kbsteps i_kbsayings i_kbfindings i_kbwarnings i_kbquestions i_kcpersons i_kcpapers i_kcstamps i_kcversions i_kclines i_kcsteps i_kcsayings i_kcfindings i_kcwarnings i_kcquestions i_kt i_ks i_kn i_kln i_ksp i_jr i_kr i_ytp i_yrm i_yjr i_tp i_cl i_tol i_ikp i_nw i_vw i_nk i_vk i_mb i_b6 i_sz i_sh i_sl i_sp i_sq i_sc i_sk i_epersons i_epapers i_estamps i_esayings i_efindings i_ewarnings i_equestions i_kpersons i_kpapers i_kstamps i_ksayings i_kfindings i_kwarnings i_kquestions hback hP hD hS (lv_sub hl [0, 1, 2, 3] rfl)
    by_cases c_33_10079 : (xs ki) &&& 63 = 2
    · refine lv_tableIn (tgt := 272) hx hb dL_law_33 (by rw [c_33_10079]; decide) (by rw [c_33_10079]; decide) (by rw [c_33_10079]; rfl) (by decide) ?_
      exact law_2 hC hK hO hX hL hbl hbA hA hA2 h7 hf0 hf1 hf2 hf3 hf4 hf5 hf6 hf7 hf8 hf9 hf10 hf11 hf12 i_kbpersons i_kbpapers i_kbstamps i_kbversions i_kblines i_kbsteps i_kbsayings i_kbfindings i_kbwarnings i_kbquestions i_kcpersons i_kcpapers i_kcstamps i_kcversions i_kclines i_kcsteps i_kcsayings i_kcfindings i_kcwarnings i_kcquestions i_kt i_ks i_kn i_kln i_ksp i_jr i_kr i_ytp i_yrm i_yjr i_tp i_cl i_tol i_ikp i_nw i_vw i_nk i_vk i_mb i_b6 i_sz i_sh i_sl i_sp i_sq i_sc i_sk i_epersons i_epapers i_estamps i_esayings i_efindings i_ewarnings i_equestions i_kpersons i_kpapers i_kstamps i_ksayings i_kfindings i_kwarnings i_kquestions hback hP hD hS (lv_sub hl [0, 1, 2, 3] rfl)
    by_cases c_33_10080 : (xs ki) &&& 63 = 3
    · refine lv_tableIn (tgt := 305) hx hb dL_law_33 (by rw [c_33_10080]; decide) (by rw [c_33_10080]; decide) (by rw [c_33_10080]; rfl) (by decide) ?_
      exact law_3 hC hK hO hX hL hbl hbA hA hA2 h7 hf0 hf1 hf2 hf3 hf4 hf5 hf6 hf7 hf8 hf9 hf10 hf11 hf12 i_kbpersons i_kbpapers i_kbstamps i_kbversions i_kblines i_kbsteps i_kbsayings i_kbfindings i_kbwarnings i_kbquestions i_kcpersons i_kcpapers i_kcstamps i_kcversions i_kclines i_kcsteps i_kcsayings i_kcfindings i_kcwarnings i_kcquestions i_kt i_ks i_kn i_kln i_ksp i_jr i_kr i_ytp i_yrm i_yjr i_tp i_cl i_tol i_ikp i_nw i_vw i_nk i_vk i_mb i_b6 i_sz i_sh i_sl i_sp i_sq i_sc i_sk i_epersons i_epapers i_estamps i_esayings i_efindings i_ewarnings i_equestions i_kpersons i_kpapers i_kstamps i_ksayings i_kfindings i_kwarnings i_kquestions hback hP hD hS (lv_sub hl [0, 1, 2, 3] rfl)
    by_cases c_33_10081 : (xs ki) &&& 63 = 4
    · refine lv_tableIn (tgt := 338) hx hb dL_law_33 (by rw [c_33_10081]; decide) (by rw [c_33_10081]; decide) (by rw [c_33_10081]; rfl) (by decide) ?_
      exact law_4 hC hK hO hX hL hbl hbA hA hA2 h7 hf0 hf1 hf2 hf3 hf4 hf5 hf6 hf7 hf8 hf9 hf10 hf11 hf12 i_kbpersons i_kbpapers i_kbstamps i_kbversions i_kblines i_kbsteps i_kbsayings i_kbfindings i_kbwarnings i_kbquestions i_kcpersons i_kcpapers i_kcstamps i_kcversions i_kclines i_kcsteps i_kcsayings i_kcfindings i_kcwarnings i_kcquestions i_kt i_ks i_kn i_kln i_ksp i_jr i_kr i_ytp i_yrm i_yjr i_tp i_cl i_tol i_ikp i_nw i_vw i_nk i_vk i_mb i_b6 i_sz i_sh i_sl i_sp i_sq i_sc i_sk i_epersons i_epapers i_estamps i_esayings i_efindings i_ewarnings i_equestions i_kpersons i_kpapers i_kstamps i_ksayings i_kfindings i_kwarnings i_kquestions hback hP hD hS (lv_sub hl [0, 1, 2, 3] rfl)
    by_cases c_33_10082 : (xs ki) &&& 63 = 5
    · refine lv_tableIn (tgt := 391) hx hb dL_law_33 (by rw [c_33_10082]; decide) (by rw [c_33_10082]; decide) (by rw [c_33_10082]; rfl) (by decide) ?_
      exact law_5 hC hK hO hX hL hbl hbA hA hA2 h7 hf0 hf1 hf2 hf3 hf4 hf5 hf6 hf7 hf8 hf9 hf10 hf11 hf12 i_kbpersons i_kbpapers i_kbstamps i_kbversions i_kblines i_kbsteps i_kbsayings i_kbfindings i_kbwarnings i_kbquestions i_kcpersons i_kcpapers i_kcstamps i_kcversions i_kclines i_kcsteps i_kcsayings i_kcfindings i_kcwarnings i_kcquestions i_kt i_ks i_kn i_kln i_ksp i_jr i_kr i_ytp i_yrm i_yjr i_tp i_cl i_tol i_ikp i_nw i_vw i_nk i_vk i_mb i_b6 i_sz i_sh i_sl i_sp i_sq i_sc i_sk i_epersons i_epapers i_estamps i_esayings i_efindings i_ewarnings i_equestions i_kpersons i_kpapers i_kstamps i_ksayings i_kfindings i_kwarnings i_kquestions hback hP hD hS (lv_sub hl [0, 1, 2, 3] rfl)
    by_cases c_33_10083 : (xs ki) &&& 63 = 6
    · refine lv_tableIn (tgt := 414) hx hb dL_law_33 (by rw [c_33_10083]; decide) (by rw [c_33_10083]; decide) (by rw [c_33_10083]; rfl) (by decide) ?_
      exact law_6 hC hK hO hX hL hbl hbA hA hA2 h7 hf0 hf1 hf2 hf3 hf4 hf5 hf6 hf7 hf8 hf9 hf10 hf11 hf12 i_kbpersons i_kbpapers i_kbstamps i_kbversions i_kblines i_kbsteps i_kbsayings i_kbfindings i_kbwarnings i_kbquestions i_kcpersons i_kcpapers i_kcstamps i_kcversions i_kclines i_kcsteps i_kcsayings i_kcfindings i_kcwarnings i_kcquestions i_kt i_ks i_kn i_kln i_ksp i_jr i_kr i_ytp i_yrm i_yjr i_tp i_cl i_tol i_ikp i_nw i_vw i_nk i_vk i_mb i_b6 i_sz i_sh i_sl i_sp i_sq i_sc i_sk i_epersons i_epapers i_estamps i_esayings i_efindings i_ewarnings i_equestions i_kpersons i_kpapers i_kstamps i_ksayings i_kfindings i_kwarnings i_kquestions hback hP hD hS (lv_sub hl [0, 1, 2, 3] rfl)
    by_cases c_33_10084 : (xs ki) &&& 63 = 7
    · refine lv_tableIn (tgt := 447) hx hb dL_law_33 (by rw [c_33_10084]; decide) (by rw [c_33_10084]; decide) (by rw [c_33_10084]; rfl) (by decide) ?_
      exact law_7 hC hK hO hX hL hbl hbA hA hA2 h7 hf0 hf1 hf2 hf3 hf4 hf5 hf6 hf7 hf8 hf9 hf10 hf11 hf12 i_kbpersons i_kbpapers i_kbstamps i_kbversions i_kblines i_kbsteps i_kbsayings i_kbfindings i_kbwarnings i_kbquestions i_kcpersons i_kcpapers i_kcstamps i_kcversions i_kclines i_kcsteps i_kcsayings i_kcfindings i_kcwarnings i_kcquestions i_kt i_ks i_kn i_kln i_ksp i_jr i_kr i_ytp i_yrm i_yjr i_tp i_cl i_tol i_ikp i_nw i_vw i_nk i_vk i_mb i_b6 i_sz i_sh i_sl i_sp i_sq i_sc i_sk i_epersons i_epapers i_estamps i_esayings i_efindings i_ewarnings i_equestions i_kpersons i_kpapers i_kstamps i_ksayings i_kfindings i_kwarnings i_kquestions hback hP hD hS (lv_sub hl [0, 1, 2, 3] rfl)
    by_cases c_33_10085 : (xs ki) &&& 63 = 8
    · refine lv_tableIn (tgt := 490) hx hb dL_law_33 (by rw [c_33_10085]; decide) (by rw [c_33_10085]; decide) (by rw [c_33_10085]; rfl) (by decide) ?_
      exact law_8 hC hK hO hX hL hbl hbA hA hA2 h7 hf0 hf1 hf2 hf3 hf4 hf5 hf6 hf7 hf8 hf9 hf10 hf11 hf12 i_kbpersons i_kbpapers i_kbstamps i_kbversions i_kblines i_kbsteps i_kbsayings i_kbfindings i_kbwarnings i_kbquestions i_kcpersons i_kcpapers i_kcstamps i_kcversions i_kclines i_kcsteps i_kcsayings i_kcfindings i_kcwarnings i_kcquestions i_kt i_ks i_kn i_kln i_ksp i_jr i_kr i_ytp i_yrm i_yjr i_tp i_cl i_tol i_ikp i_nw i_vw i_nk i_vk i_mb i_b6 i_sz i_sh i_sl i_sp i_sq i_sc i_sk i_epersons i_epapers i_estamps i_esayings i_efindings i_ewarnings i_equestions i_kpersons i_kpapers i_kstamps i_ksayings i_kfindings i_kwarnings i_kquestions hback hP hD hS (lv_sub hl [0, 1, 2, 3] rfl)
    by_cases c_33_10086 : (xs ki) &&& 63 = 9
    · refine lv_tableIn (tgt := 543) hx hb dL_law_33 (by rw [c_33_10086]; decide) (by rw [c_33_10086]; decide) (by rw [c_33_10086]; rfl) (by decide) ?_
      exact law_9 hC hK hO hX hL hbl hbA hA hA2 h7 hf0 hf1 hf2 hf3 hf4 hf5 hf6 hf7 hf8 hf9 hf10 hf11 hf12 i_kbpersons i_kbpapers i_kbstamps i_kbversions i_kblines i_kbsteps i_kbsayings i_kbfindings i_kbwarnings i_kbquestions i_kcpersons i_kcpapers i_kcstamps i_kcversions i_kclines i_kcsteps i_kcsayings i_kcfindings i_kcwarnings i_kcquestions i_kt i_ks i_kn i_kln i_ksp i_jr i_kr i_ytp i_yrm i_yjr i_tp i_cl i_tol i_ikp i_nw i_vw i_nk i_vk i_mb i_b6 i_sz i_sh i_sl i_sp i_sq i_sc i_sk i_epersons i_epapers i_estamps i_esayings i_efindings i_ewarnings i_equestions i_kpersons i_kpapers i_kstamps i_ksayings i_kfindings i_kwarnings i_kquestions hback hP hD hS (lv_sub hl [0, 1, 2, 3] rfl)
    by_cases c_33_10087 : (xs ki) &&& 63 = 10
    · refine lv_tableIn (tgt := 566) hx hb dL_law_33 (by rw [c_33_10087]; decide) (by rw [c_33_10087]; decide) (by rw [c_33_10087]; rfl) (by decide) ?_
      exact law_10 hC hK hO hX hL hbl hbA hA hA2 h7 hf0 hf1 hf2 hf3 hf4 hf5 hf6 hf7 hf8 hf9 hf10 hf11 hf12 i_kbpersons i_kbpapers i_kbstamps i_kbversions i_kblines i_kbsteps i_kbsayings i_kbfindings i_kbwarnings i_kbquestions i_kcpersons i_kcpapers i_kcstamps i_kcversions i_kclines i_kcsteps i_kcsayings i_kcfindings i_kcwarnings i_kcquestions i_kt i_ks i_kn i_kln i_ksp i_jr i_kr i_ytp i_yrm i_yjr i_tp i_cl i_tol i_ikp i_nw i_vw i_nk i_vk i_mb i_b6 i_sz i_sh i_sl i_sp i_sq i_sc i_sk i_epersons i_epapers i_estamps i_esayings i_efindings i_ewarnings i_equestions i_kpersons i_kpapers i_kstamps i_ksayings i_kfindings i_kwarnings i_kquestions hback hP hD hS (lv_sub hl [0, 1, 2, 3] rfl)
    by_cases c_33_10088 : (xs ki) &&& 63 = 11
    · refine lv_tableIn (tgt := 589) hx hb dL_law_33 (by rw [c_33_10088]; decide) (by rw [c_33_10088]; decide) (by rw [c_33_10088]; rfl) (by decide) ?_
      exact law_11 hC hK hO hX hL hbl hbA hA hA2 h7 hf0 hf1 hf2 hf3 hf4 hf5 hf6 hf7 hf8 hf9 hf10 hf11 hf12 i_kbpersons i_kbpapers i_kbstamps i_kbversions i_kblines i_kbsteps i_kbsayings i_kbfindings i_kbwarnings i_kbquestions i_kcpersons i_kcpapers i_kcstamps i_kcversions i_kclines i_kcsteps i_kcsayings i_kcfindings i_kcwarnings i_kcquestions i_kt i_ks i_kn i_kln i_ksp i_jr i_kr i_ytp i_yrm i_yjr i_tp i_cl i_tol i_ikp i_nw i_vw i_nk i_vk i_mb i_b6 i_sz i_sh i_sl i_sp i_sq i_sc i_sk i_epersons i_epapers i_estamps i_esayings i_efindings i_ewarnings i_equestions i_kpersons i_kpapers i_kstamps i_ksayings i_kfindings i_kwarnings i_kquestions hback hP hD hS (lv_sub hl [0, 1, 2, 3] rfl)
    by_cases c_33_10089 : (xs ki) &&& 63 = 12
    · refine lv_tableIn (tgt := 638) hx hb dL_law_33 (by rw [c_33_10089]; decide) (by rw [c_33_10089]; decide) (by rw [c_33_10089]; rfl) (by decide) ?_
      exact law_12 hC hK hO hX hL hbl hbA hA hA2 h7 hf0 hf1 hf2 hf3 hf4 hf5 hf6 hf7 hf8 hf9 hf10 hf11 hf12 i_kbpersons i_kbpapers i_kbstamps i_kbversions i_kblines i_kbsteps i_kbsayings i_kbfindings i_kbwarnings i_kbquestions i_kcpersons i_kcpapers i_kcstamps i_kcversions i_kclines i_kcsteps i_kcsayings i_kcfindings i_kcwarnings i_kcquestions i_kt i_ks i_kn i_kln i_ksp i_jr i_kr i_ytp i_yrm i_yjr i_tp i_cl i_tol i_ikp i_nw i_vw i_nk i_vk i_mb i_b6 i_sz i_sh i_sl i_sp i_sq i_sc i_sk i_epersons i_epapers i_estamps i_esayings i_efindings i_ewarnings i_equestions i_kpersons i_kpapers i_kstamps i_ksayings i_kfindings i_kwarnings i_kquestions hback hP hD hS (lv_sub hl [0, 1, 2, 3] rfl)
    by_cases c_33_10090 : (xs ki) &&& 63 = 13
    · refine lv_tableIn (tgt := 687) hx hb dL_law_33 (by rw [c_33_10090]; decide) (by rw [c_33_10090]; decide) (by rw [c_33_10090]; rfl) (by decide) ?_
      exact law_13 hC hK hO hX hL hbl hbA hA hA2 h7 hf0 hf1 hf2 hf3 hf4 hf5 hf6 hf7 hf8 hf9 hf10 hf11 hf12 i_kbpersons i_kbpapers i_kbstamps i_kbversions i_kblines i_kbsteps i_kbsayings i_kbfindings i_kbwarnings i_kbquestions i_kcpersons i_kcpapers i_kcstamps i_kcversions i_kclines i_kcsteps i_kcsayings i_kcfindings i_kcwarnings i_kcquestions i_kt i_ks i_kn i_kln i_ksp i_jr i_kr i_ytp i_yrm i_yjr i_tp i_cl i_tol i_ikp i_nw i_vw i_nk i_vk i_mb i_b6 i_sz i_sh i_sl i_sp i_sq i_sc i_sk i_epersons i_epapers i_estamps i_esayings i_efindings i_ewarnings i_equestions i_kpersons i_kpapers i_kstamps i_ksayings i_kfindings i_kwarnings i_kquestions hback hP hD hS (lv_sub hl [0, 1, 2, 3] rfl)
    by_cases c_33_10091 : (xs ki) &&& 63 = 14
    · refine lv_tableIn (tgt := 746) hx hb dL_law_33 (by rw [c_33_10091]; decide) (by rw [c_33_10091]; decide) (by rw [c_33_10091]; rfl) (by decide) ?_
      exact law_14 hC hK hO hX hL hbl hbA hA hA2 h7 hf0 hf1 hf2 hf3 hf4 hf5 hf6 hf7 hf8 hf9 hf10 hf11 hf12 i_kbpersons i_kbpapers i_kbstamps i_kbversions i_kblines i_kbsteps i_kbsayings i_kbfindings i_kbwarnings i_kbquestions i_kcpersons i_kcpapers i_kcstamps i_kcversions i_kclines i_kcsteps i_kcsayings i_kcfindings i_kcwarnings i_kcquestions i_kt i_ks i_kn i_kln i_ksp i_jr i_kr i_ytp i_yrm i_yjr i_tp i_cl i_tol i_ikp i_nw i_vw i_nk i_vk i_mb i_b6 i_sz i_sh i_sl i_sp i_sq i_sc i_sk i_epersons i_epapers i_estamps i_esayings i_efindings i_ewarnings i_equestions i_kpersons i_kpapers i_kstamps i_ksayings i_kfindings i_kwarnings i_kquestions hback hP hD hS (lv_sub hl [0, 1, 2, 3] rfl)
    by_cases c_33_10092 : (xs ki) &&& 63 = 15
    · refine lv_tableIn (tgt := 779) hx hb dL_law_33 (by rw [c_33_10092]; decide) (by rw [c_33_10092]; decide) (by rw [c_33_10092]; rfl) (by decide) ?_
      exact law_15 hC hK hO hX hL hbl hbA hA hA2 h7 hf0 hf1 hf2 hf3 hf4 hf5 hf6 hf7 hf8 hf9 hf10 hf11 hf12 i_kbpersons i_kbpapers i_kbstamps i_kbversions i_kblines i_kbsteps i_kbsayings i_kbfindings i_kbwarnings i_kbquestions i_kcpersons i_kcpapers i_kcstamps i_kcversions i_kclines i_kcsteps i_kcsayings i_kcfindings i_kcwarnings i_kcquestions i_kt i_ks i_kn i_kln i_ksp i_jr i_kr i_ytp i_yrm i_yjr i_tp i_cl i_tol i_ikp i_nw i_vw i_nk i_vk i_mb i_b6 i_sz i_sh i_sl i_sp i_sq i_sc i_sk i_epersons i_epapers i_estamps i_esayings i_efindings i_ewarnings i_equestions i_kpersons i_kpapers i_kstamps i_ksayings i_kfindings i_kwarnings i_kquestions hback hP hD hS (lv_sub hl [0, 1, 2, 3] rfl)
    by_cases c_33_10093 : (xs ki) &&& 63 = 16
    · refine lv_tableIn (tgt := 822) hx hb dL_law_33 (by rw [c_33_10093]; decide) (by rw [c_33_10093]; decide) (by rw [c_33_10093]; rfl) (by decide) ?_
      exact law_16 hC hK hO hX hL hbl hbA hA hA2 h7 hf0 hf1 hf2 hf3 hf4 hf5 hf6 hf7 hf8 hf9 hf10 hf11 hf12 i_kbpersons i_kbpapers i_kbstamps i_kbversions i_kblines i_kbsteps i_kbsayings i_kbfindings i_kbwarnings i_kbquestions i_kcpersons i_kcpapers i_kcstamps i_kcversions i_kclines i_kcsteps i_kcsayings i_kcfindings i_kcwarnings i_kcquestions i_kt i_ks i_kn i_kln i_ksp i_jr i_kr i_ytp i_yrm i_yjr i_tp i_cl i_tol i_ikp i_nw i_vw i_nk i_vk i_mb i_b6 i_sz i_sh i_sl i_sp i_sq i_sc i_sk i_epersons i_epapers i_estamps i_esayings i_efindings i_ewarnings i_equestions i_kpersons i_kpapers i_kstamps i_ksayings i_kfindings i_kwarnings i_kquestions hback hP hD hS (lv_sub hl [0, 1, 2, 3] rfl)
    by_cases c_33_10094 : (xs ki) &&& 63 = 17
    · refine lv_tableIn (tgt := 885) hx hb dL_law_33 (by rw [c_33_10094]; decide) (by rw [c_33_10094]; decide) (by rw [c_33_10094]; rfl) (by decide) ?_
      exact law_17 hC hK hO hX hL hbl hbA hA hA2 h7 hf0 hf1 hf2 hf3 hf4 hf5 hf6 hf7 hf8 hf9 hf10 hf11 hf12 i_kbpersons i_kbpapers i_kbstamps i_kbversions i_kblines i_kbsteps i_kbsayings i_kbfindings i_kbwarnings i_kbquestions i_kcpersons i_kcpapers i_kcstamps i_kcversions i_kclines i_kcsteps i_kcsayings i_kcfindings i_kcwarnings i_kcquestions i_kt i_ks i_kn i_kln i_ksp i_jr i_kr i_ytp i_yrm i_yjr i_tp i_cl i_tol i_ikp i_nw i_vw i_nk i_vk i_mb i_b6 i_sz i_sh i_sl i_sp i_sq i_sc i_sk i_epersons i_epapers i_estamps i_esayings i_efindings i_ewarnings i_equestions i_kpersons i_kpapers i_kstamps i_ksayings i_kfindings i_kwarnings i_kquestions hback hP hD hS (lv_sub hl [0, 1, 2, 3] rfl)
    by_cases c_33_10095 : (xs ki) &&& 63 = 18
    · refine lv_tableIn (tgt := 898) hx hb dL_law_33 (by rw [c_33_10095]; decide) (by rw [c_33_10095]; decide) (by rw [c_33_10095]; rfl) (by decide) ?_
      exact law_18 hC hK hO hX hL hbl hbA hA hA2 h7 hf0 hf1 hf2 hf3 hf4 hf5 hf6 hf7 hf8 hf9 hf10 hf11 hf12 i_kbpersons i_kbpapers i_kbstamps i_kbversions i_kblines i_kbsteps i_kbsayings i_kbfindings i_kbwarnings i_kbquestions i_kcpersons i_kcpapers i_kcstamps i_kcversions i_kclines i_kcsteps i_kcsayings i_kcfindings i_kcwarnings i_kcquestions i_kt i_ks i_kn i_kln i_ksp i_jr i_kr i_ytp i_yrm i_yjr i_tp i_cl i_tol i_ikp i_nw i_vw i_nk i_vk i_mb i_b6 i_sz i_sh i_sl i_sp i_sq i_sc i_sk i_epersons i_epapers i_estamps i_esayings i_efindings i_ewarnings i_equestions i_kpersons i_kpapers i_kstamps i_ksayings i_kfindings i_kwarnings i_kquestions hback hP hD hS (lv_sub hl [0, 1, 2, 3] rfl)
    by_cases c_33_10096 : (xs ki) &&& 63 = 19
    · refine lv_tableIn (tgt := 941) hx hb dL_law_33 (by rw [c_33_10096]; decide) (by rw [c_33_10096]; decide) (by rw [c_33_10096]; rfl) (by decide) ?_
      exact law_19 hC hK hO hX hL hbl hbA hA hA2 h7 hf0 hf1 hf2 hf3 hf4 hf5 hf6 hf7 hf8 hf9 hf10 hf11 hf12 i_kbpersons i_kbpapers i_kbstamps i_kbversions i_kblines i_kbsteps i_kbsayings i_kbfindings i_kbwarnings i_kbquestions i_kcpersons i_kcpapers i_kcstamps i_kcversions i_kclines i_kcsteps i_kcsayings i_kcfindings i_kcwarnings i_kcquestions i_kt i_ks i_kn i_kln i_ksp i_jr i_kr i_ytp i_yrm i_yjr i_tp i_cl i_tol i_ikp i_nw i_vw i_nk i_vk i_mb i_b6 i_sz i_sh i_sl i_sp i_sq i_sc i_sk i_epersons i_epapers i_estamps i_esayings i_efindings i_ewarnings i_equestions i_kpersons i_kpapers i_kstamps i_ksayings i_kfindings i_kwarnings i_kquestions hback hP hD hS (lv_sub hl [0, 1, 2, 3] rfl)
    by_cases c_33_10097 : (xs ki) &&& 63 = 20
    · refine lv_tableIn (tgt := 974) hx hb dL_law_33 (by rw [c_33_10097]; decide) (by rw [c_33_10097]; decide) (by rw [c_33_10097]; rfl) (by decide) ?_
      exact law_20 hC hK hO hX hL hbl hbA hA hA2 h7 hf0 hf1 hf2 hf3 hf4 hf5 hf6 hf7 hf8 hf9 hf10 hf11 hf12 i_kbpersons i_kbpapers i_kbstamps i_kbversions i_kblines i_kbsteps i_kbsayings i_kbfindings i_kbwarnings i_kbquestions i_kcpersons i_kcpapers i_kcstamps i_kcversions i_kclines i_kcsteps i_kcsayings i_kcfindings i_kcwarnings i_kcquestions i_kt i_ks i_kn i_kln i_ksp i_jr i_kr i_ytp i_yrm i_yjr i_tp i_cl i_tol i_ikp i_nw i_vw i_nk i_vk i_mb i_b6 i_sz i_sh i_sl i_sp i_sq i_sc i_sk i_epersons i_epapers i_estamps i_esayings i_efindings i_ewarnings i_equestions i_kpersons i_kpapers i_kstamps i_ksayings i_kfindings i_kwarnings i_kquestions hback hP hD hS (lv_sub hl [0, 1, 2, 3] rfl)
    by_cases c_33_10098 : (xs ki) &&& 63 = 21
    · refine lv_tableIn (tgt := 1065) hx hb dL_law_33 (by rw [c_33_10098]; decide) (by rw [c_33_10098]; decide) (by rw [c_33_10098]; rfl) (by decide) ?_
      exact law_21 hC hK hO hX hL hbl hbA hA hA2 h7 hf0 hf1 hf2 hf3 hf4 hf5 hf6 hf7 hf8 hf9 hf10 hf11 hf12 i_kbpersons i_kbpapers i_kbstamps i_kbversions i_kblines i_kbsteps i_kbsayings i_kbfindings i_kbwarnings i_kbquestions i_kcpersons i_kcpapers i_kcstamps i_kcversions i_kclines i_kcsteps i_kcsayings i_kcfindings i_kcwarnings i_kcquestions i_kt i_ks i_kn i_kln i_ksp i_jr i_kr i_ytp i_yrm i_yjr i_tp i_cl i_tol i_ikp i_nw i_vw i_nk i_vk i_mb i_b6 i_sz i_sh i_sl i_sp i_sq i_sc i_sk i_epersons i_epapers i_estamps i_esayings i_efindings i_ewarnings i_equestions i_kpersons i_kpapers i_kstamps i_ksayings i_kfindings i_kwarnings i_kquestions hback hP hD hS (lv_sub hl [0, 1, 2, 3] rfl)
    by_cases c_33_10099 : (xs ki) &&& 63 = 22
    · refine lv_tableIn (tgt := 1108) hx hb dL_law_33 (by rw [c_33_10099]; decide) (by rw [c_33_10099]; decide) (by rw [c_33_10099]; rfl) (by decide) ?_
      exact law_22 hC hK hO hX hL hbl hbA hA hA2 h7 hf0 hf1 hf2 hf3 hf4 hf5 hf6 hf7 hf8 hf9 hf10 hf11 hf12 i_kbpersons i_kbpapers i_kbstamps i_kbversions i_kblines i_kbsteps i_kbsayings i_kbfindings i_kbwarnings i_kbquestions i_kcpersons i_kcpapers i_kcstamps i_kcversions i_kclines i_kcsteps i_kcsayings i_kcfindings i_kcwarnings i_kcquestions i_kt i_ks i_kn i_kln i_ksp i_jr i_kr i_ytp i_yrm i_yjr i_tp i_cl i_tol i_ikp i_nw i_vw i_nk i_vk i_mb i_b6 i_sz i_sh i_sl i_sp i_sq i_sc i_sk i_epersons i_epapers i_estamps i_esayings i_efindings i_ewarnings i_equestions i_kpersons i_kpapers i_kstamps i_ksayings i_kfindings i_kwarnings i_kquestions hback hP hD hS (lv_sub hl [0, 1, 2, 3] rfl)
    by_cases c_33_10100 : (xs ki) &&& 63 = 23
    · refine lv_tableIn (tgt := 1121) hx hb dL_law_33 (by rw [c_33_10100]; decide) (by rw [c_33_10100]; decide) (by rw [c_33_10100]; rfl) (by decide) ?_
      exact law_23 hC hK hO hX hL hbl hbA hA hA2 h7 hf0 hf1 hf2 hf3 hf4 hf5 hf6 hf7 hf8 hf9 hf10 hf11 hf12 i_kbpersons i_kbpapers i_kbstamps i_kbversions i_kblines i_kbsteps i_kbsayings i_kbfindings i_kbwarnings i_kbquestions i_kcpersons i_kcpapers i_kcstamps i_kcversions i_kclines i_kcsteps i_kcsayings i_kcfindings i_kcwarnings i_kcquestions i_kt i_ks i_kn i_kln i_ksp i_jr i_kr i_ytp i_yrm i_yjr i_tp i_cl i_tol i_ikp i_nw i_vw i_nk i_vk i_mb i_b6 i_sz i_sh i_sl i_sp i_sq i_sc i_sk i_epersons i_epapers i_estamps i_esayings i_efindings i_ewarnings i_equestions i_kpersons i_kpapers i_kstamps i_ksayings i_kfindings i_kwarnings i_kquestions hback hP hD hS (lv_sub hl [0, 1, 2, 3] rfl)
    by_cases c_33_10101 : (xs ki) &&& 63 = 24
    · refine lv_tableIn (tgt := 1174) hx hb dL_law_33 (by rw [c_33_10101]; decide) (by rw [c_33_10101]; decide) (by rw [c_33_10101]; rfl) (by decide) ?_
      exact law_24 hC hK hO hX hL hbl hbA hA hA2 h7 hf0 hf1 hf2 hf3 hf4 hf5 hf6 hf7 hf8 hf9 hf10 hf11 hf12 i_kbpersons i_kbpapers i_kbstamps i_kbversions i_kblines i_kbsteps i_kbsayings i_kbfindings i_kbwarnings i_kbquestions i_kcpersons i_kcpapers i_kcstamps i_kcversions i_kclines i_kcsteps i_kcsayings i_kcfindings i_kcwarnings i_kcquestions i_kt i_ks i_kn i_kln i_ksp i_jr i_kr i_ytp i_yrm i_yjr i_tp i_cl i_tol i_ikp i_nw i_vw i_nk i_vk i_mb i_b6 i_sz i_sh i_sl i_sp i_sq i_sc i_sk i_epersons i_epapers i_estamps i_esayings i_efindings i_ewarnings i_equestions i_kpersons i_kpapers i_kstamps i_ksayings i_kfindings i_kwarnings i_kquestions hback hP hD hS (lv_sub hl [0, 1, 2, 3] rfl)
    by_cases c_33_10102 : (xs ki) &&& 63 = 25
    · refine lv_tableIn (tgt := 1207) hx hb dL_law_33 (by rw [c_33_10102]; decide) (by rw [c_33_10102]; decide) (by rw [c_33_10102]; rfl) (by decide) ?_
      exact law_25 hC hK hO hX hL hbl hbA hA hA2 h7 hf0 hf1 hf2 hf3 hf4 hf5 hf6 hf7 hf8 hf9 hf10 hf11 hf12 i_kbpersons i_kbpapers i_kbstamps i_kbversions i_kblines i_kbsteps i_kbsayings i_kbfindings i_kbwarnings i_kbquestions i_kcpersons i_kcpapers i_kcstamps i_kcversions i_kclines i_kcsteps i_kcsayings i_kcfindings i_kcwarnings i_kcquestions i_kt i_ks i_kn i_kln i_ksp i_jr i_kr i_ytp i_yrm i_yjr i_tp i_cl i_tol i_ikp i_nw i_vw i_nk i_vk i_mb i_b6 i_sz i_sh i_sl i_sp i_sq i_sc i_sk i_epersons i_epapers i_estamps i_esayings i_efindings i_ewarnings i_equestions i_kpersons i_kpapers i_kstamps i_ksayings i_kfindings i_kwarnings i_kquestions hback hP hD hS (lv_sub hl [0, 1, 2, 3] rfl)
    by_cases c_33_10103 : (xs ki) &&& 63 = 26
    · refine lv_tableIn (tgt := 1240) hx hb dL_law_33 (by rw [c_33_10103]; decide) (by rw [c_33_10103]; decide) (by rw [c_33_10103]; rfl) (by decide) ?_
      exact law_26 hC hK hO hX hL hbl hbA hA hA2 h7 hf0 hf1 hf2 hf3 hf4 hf5 hf6 hf7 hf8 hf9 hf10 hf11 hf12 i_kbpersons i_kbpapers i_kbstamps i_kbversions i_kblines i_kbsteps i_kbsayings i_kbfindings i_kbwarnings i_kbquestions i_kcpersons i_kcpapers i_kcstamps i_kcversions i_kclines i_kcsteps i_kcsayings i_kcfindings i_kcwarnings i_kcquestions i_kt i_ks i_kn i_kln i_ksp i_jr i_kr i_ytp i_yrm i_yjr i_tp i_cl i_tol i_ikp i_nw i_vw i_nk i_vk i_mb i_b6 i_sz i_sh i_sl i_sp i_sq i_sc i_sk i_epersons i_epapers i_estamps i_esayings i_efindings i_ewarnings i_equestions i_kpersons i_kpapers i_kstamps i_ksayings i_kfindings i_kwarnings i_kquestions hback hP hD hS (lv_sub hl [0, 1, 2, 3] rfl)
    by_cases c_33_10104 : (xs ki) &&& 63 = 27
    · refine lv_tableIn (tgt := 1273) hx hb dL_law_33 (by rw [c_33_10104]; decide) (by rw [c_33_10104]; decide) (by rw [c_33_10104]; rfl) (by decide) ?_
      exact law_27 hC hK hO hX hL hbl hbA hA hA2 h7 hf0 hf1 hf2 hf3 hf4 hf5 hf6 hf7 hf8 hf9 hf10 hf11 hf12 i_kbpersons i_kbpapers i_kbstamps i_kbversions i_kblines i_kbsteps i_kbsayings i_kbfindings i_kbwarnings i_kbquestions i_kcpersons i_kcpapers i_kcstamps i_kcversions i_kclines i_kcsteps i_kcsayings i_kcfindings i_kcwarnings i_kcquestions i_kt i_ks i_kn i_kln i_ksp i_jr i_kr i_ytp i_yrm i_yjr i_tp i_cl i_tol i_ikp i_nw i_vw i_nk i_vk i_mb i_b6 i_sz i_sh i_sl i_sp i_sq i_sc i_sk i_epersons i_epapers i_estamps i_esayings i_efindings i_ewarnings i_equestions i_kpersons i_kpapers i_kstamps i_ksayings i_kfindings i_kwarnings i_kquestions hback hP hD hS (lv_sub hl [0, 1, 2, 3] rfl)
    by_cases c_33_10105 : (xs ki) &&& 63 = 28
    · refine lv_tableIn (tgt := 1296) hx hb dL_law_33 (by rw [c_33_10105]; decide) (by rw [c_33_10105]; decide) (by rw [c_33_10105]; rfl) (by decide) ?_
      exact law_28 hC hK hO hX hL hbl hbA hA hA2 h7 hf0 hf1 hf2 hf3 hf4 hf5 hf6 hf7 hf8 hf9 hf10 hf11 hf12 i_kbpersons i_kbpapers i_kbstamps i_kbversions i_kblines i_kbsteps i_kbsayings i_kbfindings i_kbwarnings i_kbquestions i_kcpersons i_kcpapers i_kcstamps i_kcversions i_kclines i_kcsteps i_kcsayings i_kcfindings i_kcwarnings i_kcquestions i_kt i_ks i_kn i_kln i_ksp i_jr i_kr i_ytp i_yrm i_yjr i_tp i_cl i_tol i_ikp i_nw i_vw i_nk i_vk i_mb i_b6 i_sz i_sh i_sl i_sp i_sq i_sc i_sk i_epersons i_epapers i_estamps i_esayings i_efindings i_ewarnings i_equestions i_kpersons i_kpapers i_kstamps i_ksayings i_kfindings i_kwarnings i_kquestions hback hP hD hS (lv_sub hl [0, 1, 2, 3] rfl)
    by_cases c_33_10106 : (xs ki) &&& 63 = 29
    · refine lv_tableIn (tgt := 1329) hx hb dL_law_33 (by rw [c_33_10106]; decide) (by rw [c_33_10106]; decide) (by rw [c_33_10106]; rfl) (by decide) ?_
      exact law_29 hC hK hO hX hL hbl hbA hA hA2 h7 hf0 hf1 hf2 hf3 hf4 hf5 hf6 hf7 hf8 hf9 hf10 hf11 hf12 i_kbpersons i_kbpapers i_kbstamps i_kbversions i_kblines i_kbsteps i_kbsayings i_kbfindings i_kbwarnings i_kbquestions i_kcpersons i_kcpapers i_kcstamps i_kcversions i_kclines i_kcsteps i_kcsayings i_kcfindings i_kcwarnings i_kcquestions i_kt i_ks i_kn i_kln i_ksp i_jr i_kr i_ytp i_yrm i_yjr i_tp i_cl i_tol i_ikp i_nw i_vw i_nk i_vk i_mb i_b6 i_sz i_sh i_sl i_sp i_sq i_sc i_sk i_epersons i_epapers i_estamps i_esayings i_efindings i_ewarnings i_equestions i_kpersons i_kpapers i_kstamps i_ksayings i_kfindings i_kwarnings i_kquestions hback hP hD hS (lv_sub hl [0, 1, 2, 3] rfl)
    by_cases c_33_10107 : (xs ki) &&& 63 = 30
    · refine lv_tableIn (tgt := 1372) hx hb dL_law_33 (by rw [c_33_10107]; decide) (by rw [c_33_10107]; decide) (by rw [c_33_10107]; rfl) (by decide) ?_
      exact law_30 hC hK hO hX hL hbl hbA hA hA2 h7 hf0 hf1 hf2 hf3 hf4 hf5 hf6 hf7 hf8 hf9 hf10 hf11 hf12 i_kbpersons i_kbpapers i_kbstamps i_kbversions i_kblines i_kbsteps i_kbsayings i_kbfindings i_kbwarnings i_kbquestions i_kcpersons i_kcpapers i_kcstamps i_kcversions i_kclines i_kcsteps i_kcsayings i_kcfindings i_kcwarnings i_kcquestions i_kt i_ks i_kn i_kln i_ksp i_jr i_kr i_ytp i_yrm i_yjr i_tp i_cl i_tol i_ikp i_nw i_vw i_nk i_vk i_mb i_b6 i_sz i_sh i_sl i_sp i_sq i_sc i_sk i_epersons i_epapers i_estamps i_esayings i_efindings i_ewarnings i_equestions i_kpersons i_kpapers i_kstamps i_ksayings i_kfindings i_kwarnings i_kquestions hback hP hD hS (lv_sub hl [0, 1, 2, 3] rfl)
    by_cases c_33_10108 : (xs ki) &&& 63 = 31
    · refine lv_tableIn (tgt := 1385) hx hb dL_law_33 (by rw [c_33_10108]; decide) (by rw [c_33_10108]; decide) (by rw [c_33_10108]; rfl) (by decide) ?_
      exact law_31 hC hK hO hX hL hbl hbA hA hA2 h7 hf0 hf1 hf2 hf3 hf4 hf5 hf6 hf7 hf8 hf9 hf10 hf11 hf12 i_kbpersons i_kbpapers i_kbstamps i_kbversions i_kblines i_kbsteps i_kbsayings i_kbfindings i_kbwarnings i_kbquestions i_kcpersons i_kcpapers i_kcstamps i_kcversions i_kclines i_kcsteps i_kcsayings i_kcfindings i_kcwarnings i_kcquestions i_kt i_ks i_kn i_kln i_ksp i_jr i_kr i_ytp i_yrm i_yjr i_tp i_cl i_tol i_ikp i_nw i_vw i_nk i_vk i_mb i_b6 i_sz i_sh i_sl i_sp i_sq i_sc i_sk i_epersons i_epapers i_estamps i_esayings i_efindings i_ewarnings i_equestions i_kpersons i_kpapers i_kstamps i_ksayings i_kfindings i_kwarnings i_kquestions hback hP hD hS (lv_sub hl [0, 1, 2, 3] rfl)
    by_cases c_33_10109 : (xs ki) &&& 63 = 32
    · refine lv_tableIn (tgt := 1398) hx hb dL_law_33 (by rw [c_33_10109]; decide) (by rw [c_33_10109]; decide) (by rw [c_33_10109]; rfl) (by decide) ?_
      exact law_32 hC hK hO hX hL hbl hbA hA hA2 h7 hf0 hf1 hf2 hf3 hf4 hf5 hf6 hf7 hf8 hf9 hf10 hf11 hf12 i_kbpersons i_kbpapers i_kbstamps i_kbversions i_kblines i_kbsteps i_kbsayings i_kbfindings i_kbwarnings i_kbquestions i_kcpersons i_kcpapers i_kcstamps i_kcversions i_kclines i_kcsteps i_kcsayings i_kcfindings i_kcwarnings i_kcquestions i_kt i_ks i_kn i_kln i_ksp i_jr i_kr i_ytp i_yrm i_yjr i_tp i_cl i_tol i_ikp i_nw i_vw i_nk i_vk i_mb i_b6 i_sz i_sh i_sl i_sp i_sq i_sc i_sk i_epersons i_epapers i_estamps i_esayings i_efindings i_ewarnings i_equestions i_kpersons i_kpapers i_kstamps i_ksayings i_kfindings i_kwarnings i_kquestions hback hP hD hS (lv_sub hl [0, 1, 2, 3] rfl)
    by_cases c_33_10110 : (xs ki) &&& 63 = 33
    · refine lv_tableIn (tgt := 1441) hx hb dL_law_33 (by rw [c_33_10110]; decide) (by rw [c_33_10110]; decide) (by rw [c_33_10110]; rfl) (by decide) ?_
      exact law_33 hC hK hO hX hL hbl hbA hA hA2 h7 hf0 hf1 hf2 hf3 hf4 hf5 hf6 hf7 hf8 hf9 hf10 hf11 hf12 i_kbpersons i_kbpapers i_kbstamps i_kbversions i_kblines i_kbsteps i_kbsayings i_kbfindings i_kbwarnings i_kbquestions i_kcpersons i_kcpapers i_kcstamps i_kcversions i_kclines i_kcsteps i_kcsayings i_kcfindings i_kcwarnings i_kcquestions i_kt i_ks i_kn i_kln i_ksp i_jr i_kr i_ytp i_yrm i_yjr i_tp i_cl i_tol i_ikp i_nw i_vw i_nk i_vk i_mb i_b6 i_sz i_sh i_sl i_sp i_sq i_sc i_sk i_epersons i_epapers i_estamps i_esayings i_efindings i_ewarnings i_equestions i_kpersons i_kpapers i_kstamps i_ksayings i_kfindings i_kwarnings i_kquestions hback hP hD hS (lv_sub hl [0, 1, 2, 3] rfl)
    by_cases c_33_10111 : (xs ki) &&& 63 = 34
    · refine lv_tableIn (tgt := 1484) hx hb dL_law_33 (by rw [c_33_10111]; decide) (by rw [c_33_10111]; decide) (by rw [c_33_10111]; rfl) (by decide) ?_
      exact law_34 hC hK hO hX hL hbl hbA hA hA2 h7 hf0 hf1 hf2 hf3 hf4 hf5 hf6 hf7 hf8 hf9 hf10 hf11 hf12 i_kbpersons i_kbpapers i_kbstamps i_kbversions i_kblines i_kbsteps i_kbsayings i_kbfindings i_kbwarnings i_kbquestions i_kcpersons i_kcpapers i_kcstamps i_kcversions i_kclines i_kcsteps i_kcsayings i_kcfindings i_kcwarnings i_kcquestions i_kt i_ks i_kn i_kln i_ksp i_jr i_kr i_ytp i_yrm i_yjr i_tp i_cl i_tol i_ikp i_nw i_vw i_nk i_vk i_mb i_b6 i_sz i_sh i_sl i_sp i_sq i_sc i_sk i_epersons i_epapers i_estamps i_esayings i_efindings i_ewarnings i_equestions i_kpersons i_kpapers i_kstamps i_ksayings i_kfindings i_kwarnings i_kquestions hback hP hD hS (lv_sub hl [0, 1, 2, 3] rfl)
    by_cases c_33_10112 : (xs ki) &&& 63 = 35
    · refine lv_tableIn (tgt := 1527) hx hb dL_law_33 (by rw [c_33_10112]; decide) (by rw [c_33_10112]; decide) (by rw [c_33_10112]; rfl) (by decide) ?_
      exact law_35 hC hK hO hX hL hbl hbA hA hA2 h7 hf0 hf1 hf2 hf3 hf4 hf5 hf6 hf7 hf8 hf9 hf10 hf11 hf12 i_kbpersons i_kbpapers i_kbstamps i_kbversions i_kblines i_kbsteps i_kbsayings i_kbfindings i_kbwarnings i_kbquestions i_kcpersons i_kcpapers i_kcstamps i_kcversions i_kclines i_kcsteps i_kcsayings i_kcfindings i_kcwarnings i_kcquestions i_kt i_ks i_kn i_kln i_ksp i_jr i_kr i_ytp i_yrm i_yjr i_tp i_cl i_tol i_ikp i_nw i_vw i_nk i_vk i_mb i_b6 i_sz i_sh i_sl i_sp i_sq i_sc i_sk i_epersons i_epapers i_estamps i_esayings i_efindings i_ewarnings i_equestions i_kpersons i_kpapers i_kstamps i_ksayings i_kfindings i_kwarnings i_kquestions hback hP hD hS (lv_sub hl [0, 1, 2, 3] rfl)
    by_cases c_33_10113 : (xs ki) &&& 63 = 36
    · refine lv_tableIn (tgt := 1570) hx hb dL_law_33 (by rw [c_33_10113]; decide) (by rw [c_33_10113]; decide) (by rw [c_33_10113]; rfl) (by decide) ?_
      exact law_36 hC hK hO hX hL hbl hbA hA hA2 h7 hf0 hf1 hf2 hf3 hf4 hf5 hf6 hf7 hf8 hf9 hf10 hf11 hf12 i_kbpersons i_kbpapers i_kbstamps i_kbversions i_kblines i_kbsteps i_kbsayings i_kbfindings i_kbwarnings i_kbquestions i_kcpersons i_kcpapers i_kcstamps i_kcversions i_kclines i_kcsteps i_kcsayings i_kcfindings i_kcwarnings i_kcquestions i_kt i_ks i_kn i_kln i_ksp i_jr i_kr i_ytp i_yrm i_yjr i_tp i_cl i_tol i_ikp i_nw i_vw i_nk i_vk i_mb i_b6 i_sz i_sh i_sl i_sp i_sq i_sc i_sk i_epersons i_epapers i_estamps i_esayings i_efindings i_ewarnings i_equestions i_kpersons i_kpapers i_kstamps i_ksayings i_kfindings i_kwarnings i_kquestions hback hP hD hS (lv_sub hl [0, 1, 2, 3] rfl)
    by_cases c_33_10114 : (xs ki) &&& 63 = 37
    · refine lv_tableIn (tgt := 1603) hx hb dL_law_33 (by rw [c_33_10114]; decide) (by rw [c_33_10114]; decide) (by rw [c_33_10114]; rfl) (by decide) ?_
      exact law_37 hC hK hO hX hL hbl hbA hA hA2 h7 hf0 hf1 hf2 hf3 hf4 hf5 hf6 hf7 hf8 hf9 hf10 hf11 hf12 i_kbpersons i_kbpapers i_kbstamps i_kbversions i_kblines i_kbsteps i_kbsayings i_kbfindings i_kbwarnings i_kbquestions i_kcpersons i_kcpapers i_kcstamps i_kcversions i_kclines i_kcsteps i_kcsayings i_kcfindings i_kcwarnings i_kcquestions i_kt i_ks i_kn i_kln i_ksp i_jr i_kr i_ytp i_yrm i_yjr i_tp i_cl i_tol i_ikp i_nw i_vw i_nk i_vk i_mb i_b6 i_sz i_sh i_sl i_sp i_sq i_sc i_sk i_epersons i_epapers i_estamps i_esayings i_efindings i_ewarnings i_equestions i_kpersons i_kpapers i_kstamps i_ksayings i_kfindings i_kwarnings i_kquestions hback hP hD hS (lv_sub hl [0, 1, 2, 3] rfl)
    by_cases c_33_10115 : (xs ki) &&& 63 = 38
    · refine lv_tableIn (tgt := 1646) hx hb dL_law_33 (by rw [c_33_10115]; decide) (by rw [c_33_10115]; decide) (by rw [c_33_10115]; rfl) (by decide) ?_
      exact law_38 hC hK hO hX hL hbl hbA hA hA2 h7 hf0 hf1 hf2 hf3 hf4 hf5 hf6 hf7 hf8 hf9 hf10 hf11 hf12 i_kbpersons i_kbpapers i_kbstamps i_kbversions i_kblines i_kbsteps i_kbsayings i_kbfindings i_kbwarnings i_kbquestions i_kcpersons i_kcpapers i_kcstamps i_kcversions i_kclines i_kcsteps i_kcsayings i_kcfindings i_kcwarnings i_kcquestions i_kt i_ks i_kn i_kln i_ksp i_jr i_kr i_ytp i_yrm i_yjr i_tp i_cl i_tol i_ikp i_nw i_vw i_nk i_vk i_mb i_b6 i_sz i_sh i_sl i_sp i_sq i_sc i_sk i_epersons i_epapers i_estamps i_esayings i_efindings i_ewarnings i_equestions i_kpersons i_kpapers i_kstamps i_ksayings i_kfindings i_kwarnings i_kquestions hback hP hD hS (lv_sub hl [0, 1, 2, 3] rfl)
    by_cases c_33_10116 : (xs ki) &&& 63 = 39
    · refine lv_tableIn (tgt := 1669) hx hb dL_law_33 (by rw [c_33_10116]; decide) (by rw [c_33_10116]; decide) (by rw [c_33_10116]; rfl) (by decide) ?_
      exact law_39 hC hK hO hX hL hbl hbA hA hA2 h7 hf0 hf1 hf2 hf3 hf4 hf5 hf6 hf7 hf8 hf9 hf10 hf11 hf12 i_kbpersons i_kbpapers i_kbstamps i_kbversions i_kblines i_kbsteps i_kbsayings i_kbfindings i_kbwarnings i_kbquestions i_kcpersons i_kcpapers i_kcstamps i_kcversions i_kclines i_kcsteps i_kcsayings i_kcfindings i_kcwarnings i_kcquestions i_kt i_ks i_kn i_kln i_ksp i_jr i_kr i_ytp i_yrm i_yjr i_tp i_cl i_tol i_ikp i_nw i_vw i_nk i_vk i_mb i_b6 i_sz i_sh i_sl i_sp i_sq i_sc i_sk i_epersons i_epapers i_estamps i_esayings i_efindings i_ewarnings i_equestions i_kpersons i_kpapers i_kstamps i_ksayings i_kfindings i_kwarnings i_kquestions hback hP hD hS (lv_sub hl [0, 1, 2, 3] rfl)
    by_cases c_33_10117 : (xs ki) &&& 63 = 40
    · refine lv_tableIn (tgt := 1692) hx hb dL_law_33 (by rw [c_33_10117]; decide) (by rw [c_33_10117]; decide) (by rw [c_33_10117]; rfl) (by decide) ?_
      exact law_40 hC hK hO hX hL hbl hbA hA hA2 h7 hf0 hf1 hf2 hf3 hf4 hf5 hf6 hf7 hf8 hf9 hf10 hf11 hf12 i_kbpersons i_kbpapers i_kbstamps i_kbversions i_kblines i_kbsteps i_kbsayings i_kbfindings i_kbwarnings i_kbquestions i_kcpersons i_kcpapers i_kcstamps i_kcversions i_kclines i_kcsteps i_kcsayings i_kcfindings i_kcwarnings i_kcquestions i_kt i_ks i_kn i_kln i_ksp i_jr i_kr i_ytp i_yrm i_yjr i_tp i_cl i_tol i_ikp i_nw i_vw i_nk i_vk i_mb i_b6 i_sz i_sh i_sl i_sp i_sq i_sc i_sk i_epersons i_epapers i_estamps i_esayings i_efindings i_ewarnings i_equestions i_kpersons i_kpapers i_kstamps i_ksayings i_kfindings i_kwarnings i_kquestions hback hP hD hS (lv_sub hl [0, 1, 2, 3] rfl)
    by_cases c_33_10118 : (xs ki) &&& 63 = 41
    · refine lv_tableIn (tgt := 1705) hx hb dL_law_33 (by rw [c_33_10118]; decide) (by rw [c_33_10118]; decide) (by rw [c_33_10118]; rfl) (by decide) ?_
      exact law_41 hC hK hO hX hL hbl hbA hA hA2 h7 hf0 hf1 hf2 hf3 hf4 hf5 hf6 hf7 hf8 hf9 hf10 hf11 hf12 i_kbpersons i_kbpapers i_kbstamps i_kbversions i_kblines i_kbsteps i_kbsayings i_kbfindings i_kbwarnings i_kbquestions i_kcpersons i_kcpapers i_kcstamps i_kcversions i_kclines i_kcsteps i_kcsayings i_kcfindings i_kcwarnings i_kcquestions i_kt i_ks i_kn i_kln i_ksp i_jr i_kr i_ytp i_yrm i_yjr i_tp i_cl i_tol i_ikp i_nw i_vw i_nk i_vk i_mb i_b6 i_sz i_sh i_sl i_sp i_sq i_sc i_sk i_epersons i_epapers i_estamps i_esayings i_efindings i_ewarnings i_equestions i_kpersons i_kpapers i_kstamps i_ksayings i_kfindings i_kwarnings i_kquestions hback hP hD hS (lv_sub hl [0, 1, 2, 3] rfl)
    refine lv_tableOut (tgt := 1718) hx hb dL_law_33 (by have q9 := sw_0_41 (x := (xs ki) &&& 63); simp only [c_33_10077, c_33_10078, c_33_10079, c_33_10080, c_33_10081, c_33_10082, c_33_10083, c_33_10084, c_33_10085, c_33_10086, c_33_10087, c_33_10088, c_33_10089, c_33_10090, c_33_10091, c_33_10092, c_33_10093, c_33_10094, c_33_10095, c_33_10096, c_33_10097, c_33_10098, c_33_10099, c_33_10100, c_33_10101, c_33_10102, c_33_10103, c_33_10104, c_33_10105, c_33_10106, c_33_10107, c_33_10108, c_33_10109, c_33_10110, c_33_10111, c_33_10112, c_33_10113, c_33_10114, c_33_10115, c_33_10116, c_33_10117, c_33_10118, not_false_eq_true, true_implies] at q9; exact q9) (by decide) ?_
    exact hback kbpersons kbpapers kbstamps kbversions kblines kbsteps kbsayings kbfindings kbwarnings kbquestions kcpersons kcpapers kcstamps kcversions kclines kcsteps kcsayings kcfindings kcwarnings kcquestions kt ks kn kln ksp jr kr ytp yrm yjr ikp td vd vl gp ktd kvd kvl kgp tkd tf9 dk dn dp da dq cl bo le bi r1 rc rh tf tt9 tl tbv asd st9 tol mroundOf mroundFrom mfromHour mtoHour mfrom mto msort misFault mdeep mcoded mlines mbestCost mdealer mnumber mwhose msize misParted fbpersons fbpapers fbstamps fbversions fblines fbsteps fbsayings fbfindings fbwarnings fbquestions fcpersons fcpapers fcstamps fcversions fclines fcsteps fcsayings fcfindings fcwarnings fcquestions fby ftln ftsp fhw fhn ftr fhs fhz fhi fclm ffi fla fml fmm fsl fsm fk0 fk1 fk2 fk3 fk4 fk5 fk6 fk7 fk8 fk9 fk10 fk11 fk12 ffc fsh frr ftc fht y_nw y_nk y_nt y_nr y_nm y_ns y_nl y_nc y_np y_ntr y_nb y_nso y_nsi y_nit y_nsh y_nsf y_nss y_nrc H locs ls i_kbpersons i_kbpapers i_kbstamps i_kbversions i_kblines i_kbsteps i_kbsayings i_kbfindings i_kbwarnings i_kbquestions i_kcpersons i_kcpapers i_kcstamps i_kcversions i_kclines i_kcsteps i_kcsayings i_kcfindings i_kcwarnings i_kcquestions i_kt i_ks i_kn i_kln i_ksp i_jr i_kr i_ytp i_yrm i_yjr i_tp i_cl i_tol i_ikp i_nw i_vw i_nk i_vk i_mb i_b6 i_sz i_sh i_sl i_sp i_sq i_sc i_sk i_epersons i_epapers i_estamps i_esayings i_efindings i_ewarnings i_equestions i_kpersons i_kpapers i_kstamps i_ksayings i_kfindings i_kwarnings i_kquestions hP hD hS (lv_sub hl [0, 1, 2, 3] rfl)
section WR
variable {p : Program} {l : Launch} {e : Env} {R : Room} {s : State} {m : MethodId} {args : Array Value} {below : List Frame} {meth : Method} {c : Code} {H : Heap} {locs : List Loc} {cells slots : Nat} {Q : State → Prop}
variable {pc : Nat} {ls : Array Slot} {rest : List Value} {G : GG} {ws : va_W} {A : Nat → Prop} {y0 : MethodName} {b0 : ByteArray} {mL0 : Nat} {rt0 : Option FieldType} {a : Nat} {H0 : Heap}
end WR
/-- the sayings' persons, hours and weights are there -/
def SPO (f : Nat → Int32) (ks kp : Nat) : Prop := ∀ s, s < ks → Hs (f (s * 8 + 1)) kp ∧ (∃ h, h ≤ 999 ∧ f (s * 8 + 3) = nI h) ∧ ∃ w, w ≤ 9 ∧ f (s * 8 + 4) = nI w
theorem SPO.nil {f : Nat → Int32} {kp : Nat} : SPO f 0 kp := fun s h => absurd h (Nat.not_lt_zero s)
theorem SPO.mono {f : Nat → Int32} {ks kp kp2 : Nat} (h : SPO f ks kp) (hk : kp ≤ kp2) (h2 : kp2 < 2 ^ 31) : SPO f ks kp2 := fun s hs => ⟨Hs_mono (h s hs).1 hk h2, (h s hs).2⟩
theorem SPO.cp {f g : Nat → Int32} {ks kp : Nat} (h : SPO f ks kp) (hk : ks ≤ 16) (e : ∀ j, j < 128 → g j = f j) : SPO g ks kp := fun s hs => by
  rw [e _ (by omega), e _ (by omega), e _ (by omega)]
  exact h s hs
theorem rw8_1 {f : Nat → Int32} {k : Nat} {a0 a1 a2 a3 a4 a5 a6 a7 : Int32} : rowu f (k * 8) [a0, a1, a2, a3, a4, a5, a6, a7] (k * 8 + 1) = a1 := by
  show upd (upd (upd (upd (upd (upd (upd (upd f (k * 8 + 0) a0) (k * 8 + 1) a1) (k * 8 + 2) a2) (k * 8 + 3) a3) (k * 8 + 4) a4) (k * 8 + 5) a5) (k * 8 + 6) a6) (k * 8 + 7) a7 (k * 8 + 1) = a1
  rw [up_ne (by omega), up_ne (by omega), up_ne (by omega), up_ne (by omega), up_ne (by omega), up_ne (by omega), up_eq (by omega)]
theorem rw8_3 {f : Nat → Int32} {k : Nat} {a0 a1 a2 a3 a4 a5 a6 a7 : Int32} : rowu f (k * 8) [a0, a1, a2, a3, a4, a5, a6, a7] (k * 8 + 3) = a3 := by
  show upd (upd (upd (upd (upd (upd (upd (upd f (k * 8 + 0) a0) (k * 8 + 1) a1) (k * 8 + 2) a2) (k * 8 + 3) a3) (k * 8 + 4) a4) (k * 8 + 5) a5) (k * 8 + 6) a6) (k * 8 + 7) a7 (k * 8 + 3) = a3
  rw [up_ne (by omega), up_ne (by omega), up_ne (by omega), up_ne (by omega), up_eq (by omega)]
theorem rw8_4 {f : Nat → Int32} {k : Nat} {a0 a1 a2 a3 a4 a5 a6 a7 : Int32} : rowu f (k * 8) [a0, a1, a2, a3, a4, a5, a6, a7] (k * 8 + 4) = a4 := by
  show upd (upd (upd (upd (upd (upd (upd (upd f (k * 8 + 0) a0) (k * 8 + 1) a1) (k * 8 + 2) a2) (k * 8 + 3) a3) (k * 8 + 4) a4) (k * 8 + 5) a5) (k * 8 + 6) a6) (k * 8 + 7) a7 (k * 8 + 4) = a4
  rw [up_ne (by omega), up_ne (by omega), up_ne (by omega), up_eq (by omega)]
theorem rw8_o {f : Nat → Int32} {k i : Nat} {a0 a1 a2 a3 a4 a5 a6 a7 : Int32} (h : i < k * 8) : rowu f (k * 8) [a0, a1, a2, a3, a4, a5, a6, a7] i = f i := by
  show upd (upd (upd (upd (upd (upd (upd (upd f (k * 8 + 0) a0) (k * 8 + 1) a1) (k * 8 + 2) a2) (k * 8 + 3) a3) (k * 8 + 4) a4) (k * 8 + 5) a5) (k * 8 + 6) a6) (k * 8 + 7) a7 i = f i
  rw [up_ne (by omega), up_ne (by omega), up_ne (by omega), up_ne (by omega), up_ne (by omega), up_ne (by omega), up_ne (by omega), up_ne (by omega)]
theorem SPO.row {f : Nat → Int32} {k kp : Nat} {a0 a1 a2 a3 a4 a5 a6 a7 : Int32} (h : SPO f k kp) (h1 : Hs a1 kp) (h3 : ∃ h, h ≤ 999 ∧ a3 = nI h) (h4 : ∃ w, w ≤ 9 ∧ a4 = nI w) : SPO (rowu f (k * 8) [a0, a1, a2, a3, a4, a5, a6, a7]) (k + 1) kp := by
  intro s hs
  by_cases e : s = k
  · rw [e, rw8_1, rw8_3, rw8_4]
    exact ⟨h1, h3, h4⟩
  · rw [rw8_o (by omega), rw8_o (by omega), rw8_o (by omega)]
    exact h s (by omega)
theorem HOW.nat {x : Int32} (h : HOW x) : ∃ n, n ≤ 9999 ∧ x = nI n := by
  have h1 := Wi_iff.mp h.1
  have e1 : (1 : Int32).toInt = 1 := by decide
  have e9 : (9999 : Int32).toInt = 9999 := by decide
  rw [e1, e9] at h1
  have h0 : ¬ x < 0 := by
    rw [Int32.lt_iff_toInt_lt]
    have e0 : (0 : Int32).toInt = 0 := by decide
    omega
  obtain ⟨j, hj, rfl⟩ := nI_of h0
  rw [nI_toInt hj] at h1
  exact ⟨j, by omega, rfl⟩
theorem HOW.hour {x a : Int32} (h : HOW x) (e : a = x / 10) : ∃ h, h ≤ 999 ∧ a = nI h := by
  obtain ⟨n, hn, rfl⟩ := h.nat
  exact ⟨n / 10, by omega, e.trans (how_div (by omega))⟩
theorem HOW.wgt {x a : Int32} (h : HOW x) (e : a = x - x / 10 * 10) : ∃ w, w ≤ 9 ∧ a = nI w := by
  obtain ⟨n, hn, rfl⟩ := h.nat
  exact ⟨n % 10, by omega, e.trans (how_rem (by omega))⟩
section WR
variable {p : Program} {l : Launch} {e : Env} {R : Room} {s : State} {m : MethodId} {args : Array Value} {below : List Frame} {meth : Method} {c : Code} {H : Heap} {locs : List Loc} {cells slots : Nat} {Q : State → Prop}
variable {pc : Nat} {ls : Array Slot} {rest : List Value} {G : GG} {ws : va_W} {A : Nat → Prop} {y0 : MethodName} {b0 : ByteArray} {mL0 : Nat} {rt0 : Option FieldType} {a : Nat} {H0 : Heap}
end WR
theorem nI_z {k : Nat} (hk : k < 2 ^ 31) (h : nI k = 0) : k = 0 := (nI_eq (b := 0) hk (by decide)).mp h
section WR
variable {p : Program} {l : Launch} {e : Env} {R : Room} {s : State} {m : MethodId} {args : Array Value} {below : List Frame} {meth : Method} {c : Code} {H : Heap} {locs : List Loc} {cells slots : Nat} {Q : State → Prop}
variable {pc : Nat} {ls : Array Slot} {rest : List Value} {G : GG} {ws : va_W} {A : Nat → Prop} {y0 : MethodName} {b0 : ByteArray} {mL0 : Nat} {rt0 : Option FieldType} {a : Nat} {H0 : Heap}
end WR
theorem Wi_j {j N : Nat} {b : Int32} (hb : b = nI N) (hN : N < 2 ^ 31) (h : j ≤ N) : Wi (nI j) 0 b := by
  subst hb
  rw [Wi_iff, nI_toInt (by omega), nI_toInt hN]
  have e0 : (0 : Int32).toInt = 0 := by decide
  omega
section WR
variable {p : Program} {l : Launch} {e : Env} {R : Room} {s : State} {m : MethodId} {args : Array Value} {below : List Frame} {meth : Method} {c : Code} {H : Heap} {locs : List Loc} {cells slots : Nat} {Q : State → Prop}
variable {pc : Nat} {ls : Array Slot} {rest : List Value} {G : GG} {ws : va_W} {A : Nat → Prop} {y0 : MethodName} {b0 : ByteArray} {mL0 : Nat} {rt0 : Option FieldType} {a : Nat} {H0 : Heap}
end WR
theorem tatq {W j k c : Nat} {f : Nat → Int32} {col : Int32} (hj : j < k) (hk : k < 2 ^ 31) (hc : c < W) (hW : W < 2 ^ 31) (ec : col = nI c) : tat W f k (nI j) col = f (j * W + c) := by
  subst ec
  unfold tat
  rw [ifc_t ⟨nI_pos (by omega), fun h => by rw [nI_leI (by omega) (by omega)] at h; omega, nI_pos (by omega), nI_lt hc hW⟩, nI_clamp (by omega), nI_clamp (by omega)]
/-- stamps as they are laid: paper, clock, hour -/
def SVL (ft : Nat → Int32) (n : Nat) : Prop := ∀ s, s < n → (∃ p, p < 12 ∧ ft (s * 3 + 0) = nI p) ∧ (∃ c, c < 6 ∧ ft (s * 3 + 1) = nI c) ∧ 0 ≤ (ft (s * 3 + 2)).toInt ∧ (ft (s * 3 + 2)).toInt ≤ 999
def GPR (g : Int32) : Prop := 0 ≤ g.toInt ∧ g.toInt ≤ 99
/-- what a stamp behind another one binds -/
def KFO (K : Nat → Nat → Int → Prop) (ft : Nat → Int32) (gp : Int) (s0 n : Nat) : Nat → Nat → Int → Prop := KAD (KAD K (CKS ft s0) (CKS ft n) (HRS ft n - HRS ft s0)) (CKS ft n) (CKS ft s0) (gp - (HRS ft n - HRS ft s0))
theorem KFO.mk {K : Nat → Nat → Int → Prop} {ft : Nat → Int32} {gp : Int32} {ja jb ca cb : Nat} (ea : ft (ja * 3 + 1) = nI ca) (eb : ft (jb * 3 + 1) = nI cb) (ha : ca < 6) (hb : cb < 6) (a0 : 0 ≤ (ft (ja * 3 + 2)).toInt) (a9 : (ft (ja * 3 + 2)).toInt ≤ 999) (b0 : 0 ≤ (ft (jb * 3 + 2)).toInt) (b9 : (ft (jb * 3 + 2)).toInt ≤ 999) (hg : GPR gp) : KFO K ft gp.toInt ja jb = KAD (KAD K ca cb (ft (jb * 3 + 2) - ft (ja * 3 + 2)).toInt) cb ca (gp - (ft (jb * 3 + 2) - ft (ja * 3 + 2))).toInt := by
  have h1 := ti_sb (x := ft (jb * 3 + 2)) (y := ft (ja * 3 + 2)) (by omega) (by omega) (by omega) (by omega)
  have h2 := ti_sb (x := gp) (y := ft (jb * 3 + 2) - ft (ja * 3 + 2)) (by have := hg.1; omega) (by have := hg.2; omega) (by omega) (by omega)
  unfold KFO CKS HRS
  rw [ea, eb, nI_clamp (by omega), nI_clamp (by omega), h2, h1]
section WR
variable {p : Program} {l : Launch} {e : Env} {R : Room} {s : State} {m : MethodId} {args : Array Value} {below : List Frame} {meth : Method} {c : Code} {H : Heap} {locs : List Loc} {cells slots : Nat} {Q : State → Prop}
variable {pc : Nat} {ls : Array Slot} {rest : List Value} {G : GG} {ws : va_W} {A : Nat → Prop} {y0 : MethodName} {b0 : ByteArray} {mL0 : Nat} {rt0 : Option FieldType} {a : Nat} {H0 : Heap}
end WR
/-- what the papers that are asked of are -/
def VPP (pp : Int32) : Nat → Prop := fun p => HB pp (nI p)
def AFI (ft : Nat → Int32) (V : Nat → Prop) (k : Nat) (f : Nat → Int32) : Prop := ∀ p, p < 12 → FIS ft V k p (f p)
def ALA (ft : Nat → Int32) (V : Nat → Prop) (k : Nat) (f : Nat → Int32) : Prop := ∀ p, p < 12 → LAS ft V k p (f p)
/-- the first papers are unseen -/
def M1P (k : Nat) (f g : Nat → Int32) : Prop := ∀ p, p < k → f p = (-1) ∧ g p = (-1)
theorem M1P.zero {f g : Nat → Int32} : M1P 0 f g := fun p h => absurd h (Nat.not_lt_zero p)
theorem M1P.next {k : Nat} {f g : Nat → Int32} (h : M1P k f g) : M1P (k + 1) (upd f k (-1)) (upd g k (-1)) := by
  intro p hp
  unfold upd
  by_cases c : p = k
  · rw [if_pos c, if_pos c]; exact ⟨rfl, rfl⟩
  · rw [if_neg c, if_neg c]; exact h p (by omega)
theorem AFI.zero {ft : Nat → Int32} {V : Nat → Prop} {f g : Nat → Int32} (h : M1P 12 f g) : AFI ft V 0 f := fun p hp => by rw [(h p hp).1]; exact FIS.zero
theorem ALA.zero {ft : Nat → Int32} {V : Nat → Prop} {f g : Nat → Int32} (h : M1P 12 f g) : ALA ft V 0 g := fun p hp => by rw [(h p hp).2]; exact LAS.zero
theorem nI_inj9 {a b : Nat} (ha : a < 2 ^ 31) (hb : b < 2 ^ 31) (h : nI a = nI b) : a = b := (nI_eq ha hb).mp h
theorem AFI.skip {ft : Nat → Int32} {V : Nat → Prop} {k p : Nat} {f : Nat → Int32} (h : AFI ft V k f) (e : ft (k * 3 + 0) = nI p) (hp : p < 12) (hv : ¬ V p) : AFI ft V (k + 1) f := fun q hq => FIS.skip (h q hq) fun e2 => by
  rw [← nI_inj9 (by omega) (by omega) (e.symm.trans e2)]
  exact hv
theorem ALA.skip {ft : Nat → Int32} {V : Nat → Prop} {k p : Nat} {f : Nat → Int32} (h : ALA ft V k f) (e : ft (k * 3 + 0) = nI p) (hp : p < 12) (hv : ¬ V p) : ALA ft V (k + 1) f := fun q hq => LAS.skip (h q hq) fun e2 => by
  rw [← nI_inj9 (by omega) (by omega) (e.symm.trans e2)]
  exact hv
theorem ALA.put {ft : Nat → Int32} {V : Nat → Prop} {k p : Nat} {f : Nat → Int32} (h : ALA ft V k f) (e : ft (k * 3 + 0) = nI p) (hp : p < 12) (hv : V p) : ALA ft V (k + 1) (upd f p (nI k)) := by
  intro q hq
  unfold upd
  by_cases c : q = p
  · rw [if_pos c, c]
    exact LAS.new e hv
  · rw [if_neg c]
    exact LAS.skip (h q hq) fun e2 => absurd (nI_inj9 (by omega) (by omega) (e2.symm.trans e)) c
theorem LAS.neg {ft : Nat → Int32} {V : Nat → Prop} {k p : Nat} {x : Int32} (h : LAS ft V k p x) (hx : x < 0) (hk : k < 2 ^ 31) : x = (-1) := by
  rcases h with ⟨h1, -⟩ | ⟨s, h1, h2, -⟩
  · exact h1
  · rw [h2] at hx
    exact absurd hx (nI_pos (by omega))
theorem LAS.nneg {x : Int32} (hx : ¬ x < 0) : ¬ x = (-1) := fun e => hx (by rw [e]; decide)
theorem AFI.put {ft : Nat → Int32} {V : Nat → Prop} {k p : Nat} {f g : Nat → Int32} (h : AFI ft V k f) (hl : ALA ft V k g) (hx : g p < 0) (hk : k < 2 ^ 31) (e : ft (k * 3 + 0) = nI p) (hp : p < 12) (hv : V p) : AFI ft V (k + 1) (upd f p (nI k)) := by
  intro q hq
  unfold upd
  by_cases c : q = p
  · rw [if_pos c, c]
    exact FIS.new (hl p hp) ((hl p hp).neg hx hk) hk e hv
  · rw [if_neg c]
    exact FIS.skip (h q hq) fun e2 => absurd (nI_inj9 (by omega) (by omega) (e2.symm.trans e)) c
theorem ALA.seen {ft : Nat → Int32} {V : Nat → Prop} {k p : Nat} {g : Nat → Int32} (h : ALA ft V k g) (hp : p < 12) (hx : ¬ g p < 0) : ∃ s, s < k ∧ g p = nI s ∧ ft (s * 3 + 0) = nI p ∧ V p := by
  rcases h p hp with ⟨h1, -⟩ | ⟨s, h1, h2, h3, h4, -⟩
  · exact absurd h1 (LAS.nneg hx)
  · exact ⟨s, h1, h2, h3, h4⟩
theorem AFI.seen {ft : Nat → Int32} {V : Nat → Prop} {k p : Nat} {f g : Nat → Int32} (h : AFI ft V k f) (hl : ALA ft V k g) (hp : p < 12) (hx : ¬ g p < 0) : ∃ s, s < k ∧ f p = nI s ∧ ft (s * 3 + 0) = nI p := by
  obtain ⟨s, h1, h2, h3, h4⟩ := hl.seen hp hx
  rcases h p hp with ⟨-, h5⟩ | ⟨s2, h5, h6, h7, -⟩
  · exact absurd h4 (h5 s h1 h3)
  · exact ⟨s2, h5, h6, h7⟩
theorem AFI.keep {ft : Nat → Int32} {V : Nat → Prop} {k p : Nat} {f g : Nat → Int32} (h : AFI ft V k f) (hl : ALA ft V k g) (hx : ¬ g p < 0) (hk : k < 2 ^ 31) (e : ft (k * 3 + 0) = nI p) (hp : p < 12) : AFI ft V (k + 1) f := by
  intro q hq
  by_cases c : q = p
  · rw [c]
    obtain ⟨s, h1, h2, -⟩ := h.seen hl hp hx
    exact FIS.keep (h p hp) (LAS.nneg (by rw [h2]; exact nI_pos (by omega)))
  · exact FIS.skip (h q hq) fun e2 => absurd (nI_inj9 (by omega) (by omega) (e2.symm.trans e)) c
/-- a clash, or narrow bounds -/
def CCS (c : Int32) (K : Nat → Nat → Int → Prop) (M : Nat → Nat → Int) : Prop := (c = 0 ∧ CLB K M) ∨ (c = 1 ∧ NOS K)
theorem CCS.zero {ft : Nat → Int32} {V : Nat → Prop} {gp : Int} {M : Nat → Nat → Int} (h : CLO KB M) : CCS 0 (KST ft V gp 0) M := Or.inl ⟨rfl, by rw [KST.zero]; exact h, KST.bas⟩
theorem CCS.get {c : Int32} {K : Nat → Nat → Int → Prop} {M : Nat → Nat → Int} (h : CCS c K M) (hc : c = 0) : CLB K M := by
  rcases h with ⟨-, h⟩ | ⟨h1, -⟩
  · exact h
  · exact absurd (h1.symm.trans hc) (by decide)
theorem CCS.nos {c : Int32} {K : Nat → Nat → Int → Prop} {M : Nat → Nat → Int} (h : CCS c K M) (hc : ¬ c = 0) : c = 1 ∧ NOS K := by
  rcases h with ⟨h1, -⟩ | h
  · exact absurd h1 hc
  · exact h
theorem CCS.b {c : Int32} {K : Nat → Nat → Int → Prop} {M : Nat → Nat → Int} (h : CCS c K M) : c = 0 ∨ c = 1 := by
  rcases h with ⟨h1, -⟩ | ⟨h1, -⟩
  · exact Or.inl h1
  · exact Or.inr h1
theorem CCS.no {c : Int32} {ft : Nat → Int32} {V : Nat → Prop} {gp : Int} {k : Nat} {M : Nat → Nat → Int} (h : CCS c (KST ft V gp k) M) (hn : ∀ s1, ¬ PRC ft V s1 k) : CCS c (KST ft V gp (k + 1)) M := by rw [KST.no hn]; exact h
theorem KST.fo {ft : Nat → Int32} {V : Nat → Prop} {gp : Int} {n s0 : Nat} (h : PRC ft V s0 n) : KST ft V gp (n + 1) = KFO (KST ft V gp n) ft gp s0 n := KST.yes h
theorem CCS.yes1 {ft : Nat → Int32} {V : Nat → Prop} {gp : Int} {k s0 : Nat} {M : Nat → Nat → Int} (hp : PRC ft V s0 k) (h : CLB (KFO (KST ft V gp k) ft gp s0 k) M) : CCS 0 (KST ft V gp (k + 1)) M := Or.inl ⟨rfl, by rw [KST.fo hp]; exact h⟩
theorem CCS.yes0 {ft : Nat → Int32} {V : Nat → Prop} {gp : Int} {k s0 : Nat} {M : Nat → Nat → Int} (hp : PRC ft V s0 k) (h : NOS (KFO (KST ft V gp k) ft gp s0 k)) : CCS 1 (KST ft V gp (k + 1)) M := Or.inr ⟨rfl, by rw [KST.fo hp]; exact h⟩
theorem CCS.stay {c x : Int32} {ft : Nat → Int32} {V : Nat → Prop} {gp : Int} {k : Nat} {M : Nat → Nat → Int} (h : CCS c (KST ft V gp k) M) (hc : ¬ c = 0) (hp : ∃ s, s < k ∧ x = nI s ∧ PRC ft V s k) : CCS c (KST ft V gp (k + 1)) M := by
  obtain ⟨h1, h2⟩ := h.nos hc
  obtain ⟨s, -, -, hp⟩ := hp
  exact Or.inr ⟨h1, by rw [KST.fo hp]; exact h2.ad.ad⟩
/-- the true hour of a stamp, at the least and at the most -/
def TR0 (ft fm : Nat → Int32) (s : Nat) : Int32 := ft (s * 3 + 2) + -(fm (0 * 6 + CKS ft s))
def TR1 (ft fm : Nat → Int32) (s : Nat) : Int32 := ft (s * 3 + 2) + fm (CKS ft s * 6 + 0)
def BHP (ft fm f g a b c d : Nat → Int32) (k : Nat) : Prop := ∀ p, p < k → ¬ g p < 0 → a p = TR0 ft fm (f p).toNatClampNeg ∧ b p = TR1 ft fm (f p).toNatClampNeg ∧ c p = TR0 ft fm (g p).toNatClampNeg ∧ d p = TR1 ft fm (g p).toNatClampNeg
theorem BHP.zero {ft fm f g a b c d : Nat → Int32} : BHP ft fm f g a b c d 0 := fun p h => absurd h (Nat.not_lt_zero p)
theorem BHP.skip {ft fm f g a b c d : Nat → Int32} {k : Nat} (h : BHP ft fm f g a b c d k) (hx : g k < 0) : BHP ft fm f g a b c d (k + 1) := fun p hp hg => by
  by_cases e : p = k
  · rw [e] at hg; exact absurd hx hg
  · exact h p (by omega) hg
theorem BHP.put {ft fm f g a b c d : Nat → Int32} {k s1 s2 : Nat} (h : BHP ft fm f g a b c d k) (e1 : f k = nI s1) (e2 : g k = nI s2) (h1 : s1 < 2 ^ 31) (h2 : s2 < 2 ^ 31) : BHP ft fm f g (upd a k (TR0 ft fm s1)) (upd b k (TR1 ft fm s1)) (upd c k (TR0 ft fm s2)) (upd d k (TR1 ft fm s2)) (k + 1) := fun p hp hg => by
  unfold upd
  by_cases e : p = k
  · rw [if_pos e, if_pos e, if_pos e, if_pos e, e, e1, e2, nI_clamp h1, nI_clamp h2]
    exact ⟨rfl, rfl, rfl, rfl⟩
  · rw [if_neg e, if_neg e, if_neg e, if_neg e]
    exact h p (by omega) hg
/-- what looking at papers tells -/
def LKP (ft : Nat → Int32) (pp gp : Int32) (k : Nat) (c : Int32) (fm f g ml mm sl sm : Nat → Int32) : Prop := CCS c (KST ft (VPP pp) gp.toInt k) (MAT fm) ∧ AFI ft (VPP pp) k f ∧ ALA ft (VPP pp) k g ∧ BHP ft fm f g ml mm sl sm 12
section WR
variable {p : Program} {l : Launch} {e : Env} {R : Room} {s : State} {m : MethodId} {args : Array Value} {below : List Frame} {meth : Method} {c : Code} {H : Heap} {locs : List Loc} {cells slots : Nat} {Q : State → Prop}
variable {pc : Nat} {ls : Array Slot} {rest : List Value} {G : GG} {ws : va_W} {A : Nat → Prop} {y0 : MethodName} {b0 : ByteArray} {mL0 : Nat} {rt0 : Option FieldType} {a : Nat} {H0 : Heap}
end WR
theorem HB.no {f : Nat → Int32} {td vd vl : Int32} {n p : Nat} (hn : n ≤ 12) (hp : ¬ p < n) (h12 : p < 12) : ¬ HB (IVW f td vd vl n) (nI p) := by
  obtain ⟨j, hj, e⟩ := IVW.nat (f := f) (td := td) (vd := vd) (vl := vl) n hn
  have h2 : 2 ^ n ≤ 2 ^ p := Nat.pow_le_pow_right (by decide) (by omega)
  have h3 : (2 : Nat) ^ p ≤ 2 ^ 12 := Nat.pow_le_pow_right (by decide) (by omega)
  have h4 : (2 : Nat) ^ 12 = 4096 := by decide
  have h5 := (sh13 ⟨p, by omega⟩).2.1
  have h6 : j / 2 ^ p = 0 := Nat.div_eq_of_lt (by omega)
  have h9 : j / 2 ^ p ≤ j := Nat.div_le_self _ _
  have h7 : (nI j >>> (nI p &&& 31)) &&& 1 = nI (j / 2 ^ p % 2) := by
    rw [pk_shrN (by omega) _ p h5]
    exact pk_andN (by omega) 1 (by decide)
  intro h
  have h8 := h.2.2
  rw [e, h7, h6] at h8
  exact absurd h8 (by decide)
theorem CLB.eq {K : Nat → Nat → Int → Prop} {f g : Nat → Int32} (h1 : CLB K (MAT f)) (h2 : CLB K (MAT g)) {a b : Nat} (ha : a < 6) (hb : b < 6) : f (a * 6 + b) = g (a * 6 + b) := Int32.toInt_inj.mp (h1.1.uniq h2.1 ha hb)
/-- how far a clock may be ahead, as it is answered -/
def SPQ (K : Nat → Nat → Int → Prop) (x1 x2 r : Int32) : Prop := (¬ Wi x1 0 5 ∧ r = (-1)) ∨ (Wi x1 0 5 ∧ NOS K ∧ r = (-4)) ∨ (Wi x1 0 5 ∧ ∃ f : Nat → Int32, CLB K (MAT f) ∧ ((x2 = 0 ∧ r = -(f (x1.toNatClampNeg * 6 + 0)) + 1000) ∨ (¬ x2 = 0 ∧ r = f (0 * 6 + x1.toNatClampNeg) + 1000)))
theorem SPQ.uniq {K : Nat → Nat → Int → Prop} {x1 x2 r s : Int32} (h1 : SPQ K x1 x2 r) (h2 : SPQ K x1 x2 s) : r = s := by
  rcases h1 with ⟨a, b⟩ | ⟨a, b, c⟩ | ⟨a, f, b, c⟩
  · rcases h2 with ⟨a2, b2⟩ | ⟨a2, b2, c2⟩ | ⟨a2, g, b2, c2⟩
    · exact b.trans b2.symm
    · exact absurd a2 a
    · exact absurd a2 a
  · rcases h2 with ⟨a2, b2⟩ | ⟨a2, b2, c2⟩ | ⟨a2, g, b2, c2⟩
    · exact absurd a a2
    · exact c.trans c2.symm
    · exact absurd b b2.nos
  · rcases h2 with ⟨a2, b2⟩ | ⟨a2, b2, c2⟩ | ⟨a2, g, b2, c2⟩
    · exact absurd a a2
    · exact absurd b2 b.nos
    · obtain ⟨j, hj, e⟩ := Wi5 a
      have ej : x1.toNatClampNeg = j := by rw [e, nI_clamp (by omega)]
      rw [ej] at c c2
      have q1 := b.eq b2 hj (show 0 < 6 by decide)
      have q2 := b.eq b2 (show 0 < 6 by decide) hj
      rcases c with ⟨c, d⟩ | ⟨c, d⟩
      · rcases c2 with ⟨c2, d2⟩ | ⟨c2, d2⟩
        · rw [d, d2, q1]
        · exact absurd c c2
      · rcases c2 with ⟨c2, d2⟩ | ⟨c2, d2⟩
        · exact absurd c2 c
        · rw [d, d2, q2]
theorem SPQ.uq {K L : Nat → Nat → Int → Prop} {x1 x2 r s : Int32} (h1 : SPQ K x1 x2 r) (h2 : SPQ L x1 x2 s) (e : K = L) : r = s := by
  subst e
  exact h1.uniq h2
theorem GPR.gap {n g g1 : Int32} (h : GPR g) (e : ifc (Wi n 0 99) n g = g1) : GPR g1 := by
  subst e
  by_cases c : Wi n 0 99
  · rw [ifc_t c]
    have h1 := Wi_iff.mp c
    have e0 : (0 : Int32).toInt = 0 := by decide
    have e9 : (99 : Int32).toInt = 99 := by decide
    rw [e0, e9] at h1
    exact h1
  · rw [ifc_f c]
    exact h
section WR
variable {p : Program} {l : Launch} {e : Env} {R : Room} {s : State} {m : MethodId} {args : Array Value} {below : List Frame} {meth : Method} {c : Code} {H : Heap} {locs : List Loc} {cells slots : Nat} {Q : State → Prop}
variable {pc : Nat} {ls : Array Slot} {rest : List Value} {G : GG} {ws : va_W} {A : Nat → Prop} {y0 : MethodName} {b0 : ByteArray} {mL0 : Nat} {rt0 : Option FieldType} {a : Nat} {H0 : Heap}
end WR
theorem Hs.of {p k : Nat} (h : p < k) (hk : k < 2 ^ 31) : Hs (nI p) k := ⟨nI_pos (by omega), fun h9 => by
  rw [nI_leI hk (by omega)] at h9
  omega⟩
/-- the last stamp of a paper; the first one -/
def LST (ft : Nat → Int32) (k p s : Nat) : Prop := s < k ∧ ft (s * 3 + 0) = nI p ∧ ∀ s2, s < s2 → s2 < k → ¬ ft (s2 * 3 + 0) = nI p
def FST (ft : Nat → Int32) (k p s : Nat) : Prop := s < k ∧ ft (s * 3 + 0) = nI p ∧ ∀ s2, s2 < s → ¬ ft (s2 * 3 + 0) = nI p
theorem LST.uniq {ft : Nat → Int32} {k p a b : Nat} (h1 : LST ft k p a) (h2 : LST ft k p b) : a = b := by
  rcases Nat.lt_trichotomy a b with c | c | c
  · exact absurd h2.2.1 (h1.2.2 b c h2.1)
  · exact c
  · exact absurd h1.2.1 (h2.2.2 a c h1.1)
theorem FST.uniq {ft : Nat → Int32} {k p a b : Nat} (h1 : FST ft k p a) (h2 : FST ft k p b) : a = b := by
  rcases Nat.lt_trichotomy a b with c | c | c
  · exact absurd h1.2.1 (h2.2.2 a c)
  · exact c
  · exact absurd h2.2.1 (h1.2.2 b c)
theorem SVL.ck {ft : Nat → Int32} {n s : Nat} (h : SVL ft n) (hs : s < n) : CKS ft s < 6 := by
  obtain ⟨-, ⟨c, hc, e⟩, -⟩ := h s hs
  unfold CKS
  rw [e, nI_clamp (by omega)]
  exact hc
/-- an hour of a paper, as it is answered -/
def HRQ (K : Nat → Nat → Int → Prop) (ft : Nat → Int32) (V : Nat → Prop) (k p : Nat) (P : Nat → Prop) (x2 r : Int32) : Prop := ((NOS K ∨ ¬ V p ∨ ∀ s, s < k → ¬ ft (s * 3 + 0) = nI p) ∧ r = (-3)) ∨ ∃ (f : Nat → Int32) (s : Nat), CLB K (MAT f) ∧ V p ∧ P s ∧ s < k ∧ ft (s * 3 + 0) = nI p ∧ ((x2 = 0 ∧ r = TR0 ft f s + 1000) ∨ (¬ x2 = 0 ∧ r = TR1 ft f s + 1000))
theorem HRQ.uniq {K : Nat → Nat → Int → Prop} {ft : Nat → Int32} {V : Nat → Prop} {k p : Nat} {P : Nat → Prop} {x2 r t : Int32} (hP : ∀ a b, P a → P b → a = b) (hS : SVL ft k) (h1 : HRQ K ft V k p P x2 r) (h2 : HRQ K ft V k p P x2 t) : r = t := by
  rcases h1 with ⟨n1, e1⟩ | ⟨f, a, b1, v1, p1, s1, q1, c1⟩
  · rcases h2 with ⟨n2, e2⟩ | ⟨g, b, b2, v2, p2, s2, q2, c2⟩
    · exact e1.trans e2.symm
    · rcases n1 with n1 | n1 | n1
      · exact absurd n1 b2.nos
      · exact absurd v2 n1
      · exact absurd q2 (n1 b s2)
  · rcases h2 with ⟨n2, e2⟩ | ⟨g, b, b2, v2, p2, s2, q2, c2⟩
    · rcases n2 with n2 | n2 | n2
      · exact absurd n2 b1.nos
      · exact absurd v1 n2
      · exact absurd q1 (n2 a s1)
    · have e := hP a b p1 p2
      rw [← e] at c2
      have hc := hS.ck s1
      have t0 : TR0 ft f a = TR0 ft g a := by
        unfold TR0
        rw [b1.eq b2 (by decide) hc]
      have t1 : TR1 ft f a = TR1 ft g a := by
        unfold TR1
        rw [b1.eq b2 hc (by decide)]
      rcases c1 with ⟨x, y⟩ | ⟨x, y⟩
      · rcases c2 with ⟨z, w⟩ | ⟨z, w⟩
        · rw [y, w, t0]
        · exact absurd x z
      · rcases c2 with ⟨z, w⟩ | ⟨z, w⟩
        · exact absurd z x
        · rw [y, w, t1]
theorem LST.cg {ft gt : Nat → Int32} {k p s : Nat} (h : ∀ i, i < 72 → gt i = ft i) (hn : k ≤ 24) (h1 : LST gt k p s) : LST ft k p s := by
  obtain ⟨a, b, c⟩ := h1
  exact ⟨a, (h (s * 3 + 0) (by omega)).symm.trans b, fun s2 h2 h3 e => c s2 h2 h3 ((h (s2 * 3 + 0) (by omega)).trans e)⟩
theorem FST.cg {ft gt : Nat → Int32} {k p s : Nat} (h : ∀ i, i < 72 → gt i = ft i) (hn : k ≤ 24) (h1 : FST gt k p s) : FST ft k p s := by
  obtain ⟨a, b, c⟩ := h1
  exact ⟨a, (h (s * 3 + 0) (by omega)).symm.trans b, fun s2 h2 e => c s2 h2 ((h (s2 * 3 + 0) (by omega)).trans e)⟩
theorem HRQ.cg {K : Nat → Nat → Int → Prop} {ft gt : Nat → Int32} {V U : Nat → Prop} {k p : Nat} {P Q : Nat → Prop} {x2 r : Int32} (h : ∀ i, i < 72 → gt i = ft i) (hn : k ≤ 24) (hv : U p ↔ V p) (hPQ : ∀ s, P s → Q s) (h1 : HRQ K gt U k p P x2 r) : HRQ K ft V k p Q x2 r := by
  rcases h1 with ⟨n1, e1⟩ | ⟨f, a, b1, v1, p1, s1, q1, c1⟩
  · refine Or.inl ⟨?_, e1⟩
    rcases n1 with n1 | n1 | n1
    · exact Or.inl n1
    · exact Or.inr (Or.inl fun h9 => n1 (hv.mpr h9))
    · exact Or.inr (Or.inr fun s hs e => n1 s hs ((h (s * 3 + 0) (by omega)).trans e))
  · have t0 : TR0 gt f a = TR0 ft f a := by
      unfold TR0 CKS
      rw [h (a * 3 + 2) (by omega), h (a * 3 + 1) (by omega)]
    have t1 : TR1 gt f a = TR1 ft f a := by
      unfold TR1 CKS
      rw [h (a * 3 + 2) (by omega), h (a * 3 + 1) (by omega)]
    rw [t0, t1] at c1
    exact Or.inr ⟨f, a, b1, hv.mp v1, hPQ a p1, s1, (h (a * 3 + 0) (by omega)).symm.trans q1, c1⟩
/-- when a paper was sent, as it is answered -/
def SNQ (K : Nat → Nat → Int → Prop) (ft : Nat → Int32) (V : Nat → Prop) (k kp : Nat) (x1 x2 r : Int32) : Prop := (¬ Hs x1 kp ∧ r = (-1)) ∨ ∃ p, p < kp ∧ x1 = nI p ∧ HRQ K ft V k p (LST ft k p) x2 r
theorem SNQ.uq {K L : Nat → Nat → Int → Prop} {ft gt : Nat → Int32} {V U : Nat → Prop} {k kp : Nat} {x1 x2 r t : Int32} (h1 : SNQ K ft V k kp x1 x2 r) (h2 : SNQ L gt U k kp x1 x2 t) (e : K = L) (h : ∀ i, i < 72 → gt i = ft i) (hn : k ≤ 24) (hv : ∀ p, p < 12 → (U p ↔ V p)) (hS : SVL ft k) (hkp : kp ≤ 12) : r = t := by
  subst e
  rcases h1 with ⟨a, b⟩ | ⟨p, hp, ep, q⟩
  · rcases h2 with ⟨c, d⟩ | ⟨p2, hp2, ep2, q2⟩
    · exact b.trans d.symm
    · rw [ep2] at a
      exact absurd (Hs.of hp2 (by omega)) a
  · rcases h2 with ⟨c, d⟩ | ⟨p2, hp2, ep2, q2⟩
    · rw [ep] at c
      exact absurd (Hs.of hp (by omega)) c
    · have e2 : p2 = p := (nI_eq (by omega) (by omega)).mp (ep2.symm.trans ep)
      rw [e2] at q2
      exact HRQ.uniq (fun a b => LST.uniq) hS q (HRQ.cg h hn (hv p (by omega)) (fun s => LST.cg h hn) q2)
theorem LKP.none {ft : Nat → Int32} {pp gp : Int32} {k p : Nat} {c : Int32} {fm f g ml mm sl sm : Nat → Int32} (h : LKP ft pp gp k c fm f g ml mm sl sm) (hp : p < 12) (hk : k < 2 ^ 31) (hn : ¬ (c = 0 ∧ ¬ g p < 0)) : NOS (KST ft (VPP pp) gp.toInt k) ∨ ¬ VPP pp p ∨ ∀ s, s < k → ¬ ft (s * 3 + 0) = nI p := by
  by_cases c0 : c = 0
  · by_cases g0 : g p < 0
    · rcases h.2.2.1 p hp with ⟨-, q⟩ | ⟨s, q1, q2, -⟩
      · by_cases v : VPP pp p
        · exact Or.inr (Or.inr fun s hs e => q s hs e v)
        · exact Or.inr (Or.inl v)
      · rw [q2] at g0
        exact absurd g0 (nI_pos (by omega))
    · exact absurd ⟨c0, g0⟩ hn
  · exact Or.inl (h.1.nos c0).2
theorem LKP.some {ft : Nat → Int32} {pp gp : Int32} {k p : Nat} {c : Int32} {fm f g ml mm sl sm : Nat → Int32} (h : LKP ft pp gp k c fm f g ml mm sl sm) (hp : p < 12) (hk : k < 2 ^ 31) (hn : c = 0 ∧ ¬ g p < 0) : CLB (KST ft (VPP pp) gp.toInt k) (MAT fm) ∧ VPP pp p ∧ ∃ s, LST ft k p s ∧ sl p = TR0 ft fm s ∧ sm p = TR1 ft fm s := by
  have hb := h.2.2.2 p hp hn.2
  rcases h.2.2.1 p hp with ⟨q, -⟩ | ⟨s, q1, q2, q3, q4, q5⟩
  · exact absurd q (LAS.nneg hn.2)
  · rw [q2, nI_clamp (by omega)] at hb
    exact ⟨h.1.get hn.1, q4, s, ⟨q1, q3, q5⟩, hb.2.2.1, hb.2.2.2⟩
section WR
variable {p : Program} {l : Launch} {e : Env} {R : Room} {s : State} {m : MethodId} {args : Array Value} {below : List Frame} {meth : Method} {c : Code} {H : Heap} {locs : List Loc} {cells slots : Nat} {Q : State → Prop}
variable {pc : Nat} {ls : Array Slot} {rest : List Value} {G : GG} {ws : va_W} {A : Nat → Prop} {y0 : MethodName} {b0 : ByteArray} {mL0 : Nat} {rt0 : Option FieldType} {a : Nat} {H0 : Heap}
end WR
theorem SNQ.got {K : Nat → Nat → Int → Prop} {ft : Nat → Int32} {V : Nat → Prop} {k p : Nat} {fm : Nat → Int32} {x2 r a b : Int32} (h : CLB K (MAT fm) ∧ V p ∧ ∃ s, LST ft k p s ∧ a = TR0 ft fm s ∧ b = TR1 ft fm s) (hr : (x2 = 0 ∧ r = a + 1000) ∨ (¬ x2 = 0 ∧ r = b + 1000)) : ∃ (f : Nat → Int32) (s : Nat), CLB K (MAT f) ∧ V p ∧ LST ft k p s ∧ s < k ∧ ft (s * 3 + 0) = nI p ∧ ((x2 = 0 ∧ r = TR0 ft f s + 1000) ∨ (¬ x2 = 0 ∧ r = TR1 ft f s + 1000)) := by
  obtain ⟨h1, h2, s, h3, h4, h5⟩ := h
  rw [h4, h5] at hr
  exact ⟨fm, s, h1, h2, h3, h3.1, h3.2.1, hr⟩
section WR
variable {p : Program} {l : Launch} {e : Env} {R : Room} {s : State} {m : MethodId} {args : Array Value} {below : List Frame} {meth : Method} {c : Code} {H : Heap} {locs : List Loc} {cells slots : Nat} {Q : State → Prop}
variable {pc : Nat} {ls : Array Slot} {rest : List Value} {G : GG} {ws : va_W} {A : Nat → Prop} {y0 : MethodName} {b0 : ByteArray} {mL0 : Nat} {rt0 : Option FieldType} {a : Nat} {H0 : Heap}
end WR
/-- which of two papers was sent ahead, as it is answered when both are sent -/
def BFV (f ft : Nat → Int32) (a b : Nat) : Int32 := if MAT f (CKS ft a) (CKS ft b) < HRS ft b - HRS ft a then 2 else if -(MAT f (CKS ft b) (CKS ft a)) < HRS ft b - HRS ft a then 1 else 0
def UNS (ft : Nat → Int32) (V : Nat → Prop) (k p : Nat) : Prop := ¬ V p ∨ ∀ s, s < k → ¬ ft (s * 3 + 0) = nI p
def BFH (K : Nat → Nat → Int → Prop) (ft : Nat → Int32) (V : Nat → Prop) (k p q : Nat) (r : Int32) : Prop := ((NOS K ∨ UNS ft V k p ∨ UNS ft V k q) ∧ r = (-3)) ∨ ∃ (f : Nat → Int32) (a b : Nat), CLB K (MAT f) ∧ V p ∧ V q ∧ LST ft k p a ∧ LST ft k q b ∧ r = BFV f ft a b
theorem BFH.uniq {K : Nat → Nat → Int → Prop} {ft : Nat → Int32} {V : Nat → Prop} {k p q : Nat} {r t : Int32} (hS : SVL ft k) (h1 : BFH K ft V k p q r) (h2 : BFH K ft V k p q t) : r = t := by
  rcases h1 with ⟨n1, e1⟩ | ⟨f, a, b, c1, v1, w1, l1, m1, e1⟩
  · rcases h2 with ⟨n2, e2⟩ | ⟨g, a2, b2, c2, v2, w2, l2, m2, e2⟩
    · exact e1.trans e2.symm
    · rcases n1 with n1 | (n1 | n1) | (n1 | n1)
      · exact absurd n1 c2.nos
      · exact absurd v2 n1
      · exact absurd l2.2.1 (n1 a2 l2.1)
      · exact absurd w2 n1
      · exact absurd m2.2.1 (n1 b2 m2.1)
  · rcases h2 with ⟨n2, e2⟩ | ⟨g, a2, b2, c2, v2, w2, l2, m2, e2⟩
    · rcases n2 with n2 | (n2 | n2) | (n2 | n2)
      · exact absurd n2 c1.nos
      · exact absurd v1 n2
      · exact absurd l1.2.1 (n2 a l1.1)
      · exact absurd w1 n2
      · exact absurd m1.2.1 (n2 b m1.1)
    · have ea := l1.uniq l2
      have eb := m1.uniq m2
      have ha := hS.ck l1.1
      have hb := hS.ck m1.1
      rw [e1, e2, ← ea, ← eb]
      unfold BFV
      rw [c1.1.uniq c2.1 ha hb, c1.1.uniq c2.1 hb ha]
section WR
variable {p : Program} {l : Launch} {e : Env} {R : Room} {s : State} {m : MethodId} {args : Array Value} {below : List Frame} {meth : Method} {c : Code} {H : Heap} {locs : List Loc} {cells slots : Nat} {Q : State → Prop}
variable {pc : Nat} {ls : Array Slot} {rest : List Value} {G : GG} {ws : va_W} {A : Nat → Prop} {y0 : MethodName} {b0 : ByteArray} {mL0 : Nat} {rt0 : Option FieldType} {a : Nat} {H0 : Heap}
end WR
/-- an hour of a paper, with what is late behind it, as it is answered -/
def HRZ (K : Nat → Nat → Int → Prop) (ft : Nat → Int32) (V : Nat → Prop) (k p : Nat) (P : Nat → Prop) (sl x2 r : Int32) : Prop := ((NOS K ∨ ¬ V p ∨ ∀ s, s < k → ¬ ft (s * 3 + 0) = nI p) ∧ r = (-3)) ∨ ∃ (f : Nat → Int32) (s : Nat), CLB K (MAT f) ∧ V p ∧ P s ∧ s < k ∧ ft (s * 3 + 0) = nI p ∧ ((x2 = 0 ∧ r = TR0 ft f s + 1000) ∨ (¬ x2 = 0 ∧ r = TR1 ft f s + sl + 1000))
theorem HRZ.uniq {K : Nat → Nat → Int → Prop} {ft : Nat → Int32} {V : Nat → Prop} {k p : Nat} {P : Nat → Prop} {sl x2 r t : Int32} (hP : ∀ a b, P a → P b → a = b) (hS : SVL ft k) (h1 : HRZ K ft V k p P sl x2 r) (h2 : HRZ K ft V k p P sl x2 t) : r = t := by
  rcases h1 with ⟨n1, e1⟩ | ⟨f, a, b1, v1, p1, s1, q1, c1⟩
  · rcases h2 with ⟨n2, e2⟩ | ⟨g, b, b2, v2, p2, s2, q2, c2⟩
    · exact e1.trans e2.symm
    · rcases n1 with n1 | n1 | n1
      · exact absurd n1 b2.nos
      · exact absurd v2 n1
      · exact absurd q2 (n1 b s2)
  · rcases h2 with ⟨n2, e2⟩ | ⟨g, b, b2, v2, p2, s2, q2, c2⟩
    · rcases n2 with n2 | n2 | n2
      · exact absurd n2 b1.nos
      · exact absurd v1 n2
      · exact absurd q1 (n2 a s1)
    · have e := hP a b p1 p2
      rw [← e] at c2
      have hc := hS.ck s1
      have t0 : TR0 ft f a = TR0 ft g a := by
        unfold TR0
        rw [b1.eq b2 (by decide) hc]
      have t1 : TR1 ft f a = TR1 ft g a := by
        unfold TR1
        rw [b1.eq b2 hc (by decide)]
      rcases c1 with ⟨x, y⟩ | ⟨x, y⟩
      · rcases c2 with ⟨z, w⟩ | ⟨z, w⟩
        · rw [y, w, t0]
        · exact absurd x z
      · rcases c2 with ⟨z, w⟩ | ⟨z, w⟩
        · exact absurd z x
        · rw [y, w, t1]
theorem HRZ.cg {K : Nat → Nat → Int → Prop} {ft gt : Nat → Int32} {V U : Nat → Prop} {k p : Nat} {P Q : Nat → Prop} {sl x2 r : Int32} (h : ∀ i, i < 72 → gt i = ft i) (hn : k ≤ 24) (hv : U p ↔ V p) (hPQ : ∀ s, P s → Q s) (h1 : HRZ K gt U k p P sl x2 r) : HRZ K ft V k p Q sl x2 r := by
  rcases h1 with ⟨n1, e1⟩ | ⟨f, a, b1, v1, p1, s1, q1, c1⟩
  · refine Or.inl ⟨?_, e1⟩
    rcases n1 with n1 | n1 | n1
    · exact Or.inl n1
    · exact Or.inr (Or.inl fun h9 => n1 (hv.mpr h9))
    · exact Or.inr (Or.inr fun s hs e => n1 s hs ((h (s * 3 + 0) (by omega)).trans e))
  · have t0 : TR0 gt f a = TR0 ft f a := by
      unfold TR0 CKS
      rw [h (a * 3 + 2) (by omega), h (a * 3 + 1) (by omega)]
    have t1 : TR1 gt f a = TR1 ft f a := by
      unfold TR1 CKS
      rw [h (a * 3 + 2) (by omega), h (a * 3 + 1) (by omega)]
    rw [t0, t1] at c1
    exact Or.inr ⟨f, a, b1, hv.mp v1, hPQ a p1, s1, (h (a * 3 + 0) (by omega)).symm.trans q1, c1⟩
/-- a paper in a hand, by who made it and to whom it is, as it is answered -/
def HAQ (K : Nat → Nat → Int → Prop) (ft : Nat → Int32) (V : Nat → Prop) (by9 to9 sl : Int32) (k p e : Nat) (x2 r : Int32) : Prop := (by9 = nI e ∧ HRZ K ft V k p (FST ft k p) 0 x2 r) ∨ (¬ by9 = nI e ∧ HB to9 (nI e) ∧ HRZ K ft V k p (LST ft k p) sl x2 r) ∨ (¬ by9 = nI e ∧ ¬ HB to9 (nI e) ∧ r = (-3))
theorem HAQ.uniq {K : Nat → Nat → Int → Prop} {ft : Nat → Int32} {V : Nat → Prop} {by9 to9 sl : Int32} {k p e : Nat} {x2 r t : Int32} (hS : SVL ft k) (h1 : HAQ K ft V by9 to9 sl k p e x2 r) (h2 : HAQ K ft V by9 to9 sl k p e x2 t) : r = t := by
  rcases h1 with ⟨a, b⟩ | ⟨a, b, c⟩ | ⟨a, b, c⟩
  · rcases h2 with ⟨a2, b2⟩ | ⟨a2, b2, c2⟩ | ⟨a2, b2, c2⟩
    · exact HRZ.uniq (fun a b => FST.uniq) hS b b2
    · exact absurd a a2
    · exact absurd a a2
  · rcases h2 with ⟨a2, b2⟩ | ⟨a2, b2, c2⟩ | ⟨a2, b2, c2⟩
    · exact absurd a2 a
    · exact HRZ.uniq (fun a b => LST.uniq) hS c c2
    · exact absurd b b2
  · rcases h2 with ⟨a2, b2⟩ | ⟨a2, b2, c2⟩ | ⟨a2, b2, c2⟩
    · exact absurd a2 a
    · exact absurd b2 b
    · exact c.trans c2.symm
theorem HAQ.cg {K : Nat → Nat → Int → Prop} {ft gt : Nat → Int32} {V U : Nat → Prop} {by9 to9 sl : Int32} {k p e : Nat} {x2 r : Int32} (h : ∀ i, i < 72 → gt i = ft i) (hn : k ≤ 24) (hv : U p ↔ V p) (h1 : HAQ K gt U by9 to9 sl k p e x2 r) : HAQ K ft V by9 to9 sl k p e x2 r := by
  rcases h1 with ⟨a, b⟩ | ⟨a, b, c⟩ | h1
  · exact Or.inl ⟨a, HRZ.cg h hn hv (fun s => FST.cg h hn) b⟩
  · exact Or.inr (Or.inl ⟨a, b, HRZ.cg h hn hv (fun s => LST.cg h hn) c⟩)
  · exact Or.inr (Or.inr h1)
def HNQ (K : Nat → Nat → Int → Prop) (ft : Nat → Int32) (V : Nat → Prop) (fp fe : Nat → Int32) (k kp ke : Nat) (x1 x2 x3 r : Int32) : Prop := (¬ (Hs x1 kp ∧ Hs x2 ke) ∧ r = (-1)) ∨ ∃ p e, p < kp ∧ e < ke ∧ x1 = nI p ∧ x2 = nI e ∧ HAQ K ft V (fp (p * 6 + 0)) (fp (p * 6 + 1)) (fe (e * 2 + 1)) k p e x3 r
theorem HNQ.uq {K L : Nat → Nat → Int → Prop} {ft gt fp gp fe ge : Nat → Int32} {V U : Nat → Prop} {k kp ke : Nat} {x1 x2 x3 r t : Int32} (h1 : HNQ K ft V fp fe k kp ke x1 x2 x3 r) (h2 : HNQ L gt U gp ge k kp ke x1 x2 x3 t) (e : K = L) (h : ∀ i, i < 72 → gt i = ft i) (hn : k ≤ 24) (hv : ∀ p, p < 12 → (U p ↔ V p)) (hS : SVL ft k) (hkp : kp ≤ 12) (hke : ke ≤ 10) (hp : ∀ i, i < 72 → gp i = fp i) (he : ∀ i, i < 20 → ge i = fe i) : r = t := by
  subst e
  rcases h1 with ⟨a, b⟩ | ⟨p, q, hp1, hq1, ep, eq1, z⟩
  · rcases h2 with ⟨c, d⟩ | ⟨p2, q2, hp2, hq2, ep2, eq2, z2⟩
    · exact b.trans d.symm
    · exact absurd (And.intro (by rw [ep2]; exact Hs.of hp2 (by omega)) (by rw [eq2]; exact Hs.of hq2 (by omega))) a
  · rcases h2 with ⟨c, d⟩ | ⟨p2, q2, hp2, hq2, ep2, eq2, z2⟩
    · exact absurd (And.intro (by rw [ep]; exact Hs.of hp1 (by omega)) (by rw [eq1]; exact Hs.of hq1 (by omega))) c
    · have e1 : p2 = p := (nI_eq (by omega) (by omega)).mp (ep2.symm.trans ep)
      have e2 : q2 = q := (nI_eq (by omega) (by omega)).mp (eq2.symm.trans eq1)
      rw [e1, e2, hp (p * 6 + 0) (by omega), hp (p * 6 + 1) (by omega), he (q * 2 + 1) (by omega)] at z2
      exact HAQ.uniq hS z (HAQ.cg h hn (hv p (by omega)) z2)
theorem LKP.fst {ft : Nat → Int32} {pp gp : Int32} {k p : Nat} {c : Int32} {fm f g ml mm sl sm : Nat → Int32} (h : LKP ft pp gp k c fm f g ml mm sl sm) (hp : p < 12) (hk : k < 2 ^ 31) (hn : c = 0 ∧ ¬ g p < 0) : CLB (KST ft (VPP pp) gp.toInt k) (MAT fm) ∧ VPP pp p ∧ ∃ s, FST ft k p s ∧ ml p = TR0 ft fm s ∧ mm p = TR1 ft fm s := by
  have hb := h.2.2.2 p hp hn.2
  obtain ⟨h1, v, s0, hs0, -⟩ := h.some hp hk hn
  rcases h.2.1 p hp with ⟨-, q2⟩ | ⟨s, q1, q2, q3, q4, q5⟩
  · exact absurd v (q2 s0 hs0.1 hs0.2.1)
  · rw [q2, nI_clamp (by omega)] at hb
    exact ⟨h1, v, s, ⟨q1, q3, q5⟩, hb.1, hb.2.1⟩
theorem LKP.lastn {ft : Nat → Int32} {pp gp : Int32} {k p : Nat} {c : Int32} {fm f g ml mm sl sm : Nat → Int32} (h : LKP ft pp gp k c fm f g ml mm sl sm) (hp : p < 12) (hn : c = 0 ∧ ¬ g p < 0) : CLB (KST ft (VPP pp) gp.toInt k) (MAT fm) ∧ VPP pp p ∧ ∃ s, LST ft k p s ∧ g p = nI s := by
  rcases h.2.2.1 p hp with ⟨q, -⟩ | ⟨s, q1, q2, q3, q4, q5⟩
  · exact absurd q (LAS.nneg hn.2)
  · exact ⟨h.1.get hn.1, q4, s, ⟨q1, q3, q5⟩, q2⟩
theorem HAQ.nn {K : Nat → Nat → Int → Prop} {ft : Nat → Int32} {V : Nat → Prop} {by9 to9 sl : Int32} {k p e : Nat} {x2 : Int32} (h : NOS K ∨ ¬ V p ∨ ∀ s, s < k → ¬ ft (s * 3 + 0) = nI p) : HAQ K ft V by9 to9 sl k p e x2 (-3) := by
  by_cases a : by9 = nI e
  · exact Or.inl ⟨a, Or.inl ⟨h, rfl⟩⟩
  · by_cases b : HB to9 (nI e)
    · exact Or.inr (Or.inl ⟨a, b, Or.inl ⟨h, rfl⟩⟩)
    · exact Or.inr (Or.inr ⟨a, b, rfl⟩)
theorem HAQ.no {ft : Nat → Int32} {pp gp : Int32} {k p e : Nat} {c : Int32} {fm f g ml mm sl sm : Nat → Int32} {by9 to9 z x2 : Int32} (h : LKP ft pp gp k c fm f g ml mm sl sm) (hp : p < 12) (hk : k < 2 ^ 31) (hn : ¬ ((c = 0 ∧ ¬ g p < 0) ∧ (by9 = nI e ∨ HB to9 (nI e)))) : HAQ (KST ft (VPP pp) gp.toInt k) ft (VPP pp) by9 to9 z k p e x2 (-3) := by
  by_cases a : by9 = nI e
  · exact Or.inl ⟨a, Or.inl ⟨h.none hp hk (fun h9 => hn ⟨h9, Or.inl a⟩), rfl⟩⟩
  · by_cases b : HB to9 (nI e)
    · exact Or.inr (Or.inl ⟨a, b, Or.inl ⟨h.none hp hk (fun h9 => hn ⟨h9, Or.inr b⟩), rfl⟩⟩)
    · exact Or.inr (Or.inr ⟨a, b, rfl⟩)
theorem HAQ.made {ft : Nat → Int32} {pp gp : Int32} {k p e : Nat} {c : Int32} {fm f g ml mm sl sm : Nat → Int32} {by9 to9 z x2 r : Int32} (h : LKP ft pp gp k c fm f g ml mm sl sm) (hp : p < 12) (hk : k < 2 ^ 31) (hn : c = 0 ∧ ¬ g p < 0) (a : by9 = nI e) (hr : (x2 = 0 ∧ r = ml p + 1000) ∨ (¬ x2 = 0 ∧ r = mm p + 1000)) : HAQ (KST ft (VPP pp) gp.toInt k) ft (VPP pp) by9 to9 z k p e x2 r := by
  obtain ⟨h1, h2, s, h3, h4, h5⟩ := h.fst hp hk hn
  rw [h4, h5] at hr
  refine Or.inl ⟨a, Or.inr ⟨fm, s, h1, h2, h3, h3.1, h3.2.1, ?_⟩⟩
  rcases hr with hr | ⟨hx, hr⟩
  · exact Or.inl hr
  · exact Or.inr ⟨hx, by rw [Int32.add_zero]; exact hr⟩
theorem HAQ.sent {ft : Nat → Int32} {pp gp : Int32} {k p e : Nat} {c : Int32} {fm f g ml mm sl sm : Nat → Int32} {by9 to9 z x2 r : Int32} (h : LKP ft pp gp k c fm f g ml mm sl sm) (hp : p < 12) (hk : k < 2 ^ 31) (hn : c = 0 ∧ ¬ g p < 0) (a : ¬ by9 = nI e) (b : HB to9 (nI e)) (hr : (x2 = 0 ∧ r = sl p + 1000) ∨ (¬ x2 = 0 ∧ r = sm p + z + 1000)) : HAQ (KST ft (VPP pp) gp.toInt k) ft (VPP pp) by9 to9 z k p e x2 r := by
  obtain ⟨h1, h2, s, h3, h4, h5⟩ := h.some hp hk hn
  rw [h4, h5] at hr
  exact Or.inr (Or.inl ⟨a, b, Or.inr ⟨fm, s, h1, h2, h3, h3.1, h3.2.1, hr⟩⟩)
theorem SVL.cke {ft : Nat → Int32} {n s : Nat} (h : SVL ft n) (hs : s < n) : ft (s * 3 + 1) = nI (CKS ft s) := by
  obtain ⟨-, ⟨c, hc, e⟩, -⟩ := h s hs
  unfold CKS
  rw [e, nI_clamp (by omega)]
theorem SVL.hrs {ft : Nat → Int32} {n s : Nat} (h : SVL ft n) (hs : s < n) : 0 ≤ HRS ft s ∧ HRS ft s ≤ 999 := by
  obtain ⟨-, -, h1, h2⟩ := h s hs
  exact ⟨h1, h2⟩
theorem ti_ng {x : Int32} (h1 : -1000000 ≤ x.toInt) (h2 : x.toInt ≤ 1000000) : (-x).toInt = -x.toInt := by
  rw [Int32.toInt_neg, bm32 (by omega) (by omega)]
/-- what is read between two stamps -/
theorem rdb {ft : Nat → Int32} {n a b : Nat} (h : SVL ft n) (ha : a < n) (hb : b < n) : (ft (b * 3 + 2) - ft (a * 3 + 2)).toInt = HRS ft b - HRS ft a := by
  have h1 := h.hrs ha
  have h2 := h.hrs hb
  have e1 : (ft (a * 3 + 2)).toInt = HRS ft a := rfl
  have e2 : (ft (b * 3 + 2)).toInt = HRS ft b := rfl
  rw [ti_sb (by omega) (by omega) (by omega) (by omega), e1, e2]
theorem BFV.least {K : Nat → Nat → Int → Prop} {f ft : Nat → Int32} {n a b : Nat} (hc : CLB K (MAT f)) (h : SVL ft n) (ha : a < n) (hb : b < n) : (ft (b * 3 + 2) - ft (a * 3 + 2) - f (CKS ft a * 6 + CKS ft b)) ≤ 0 ↔ ¬ MAT f (CKS ft a) (CKS ft b) < HRS ft b - HRS ft a := by
  have h1 := h.hrs ha
  have h2 := h.hrs hb
  have h3 := hc.lim _ _ (h.ck ha) (h.ck hb)
  have e3 : (f (CKS ft a * 6 + CKS ft b)).toInt = MAT f (CKS ft a) (CKS ft b) := rfl
  have e4 := rdb h ha hb
  have e0 : (0 : Int32).toInt = 0 := by decide
  rw [Int32.le_iff_toInt_le, ti_sb (by omega) (by omega) (by omega) (by omega), e4, e3, e0]
  omega
theorem BFV.most {K : Nat → Nat → Int → Prop} {f ft : Nat → Int32} {n a b : Nat} (hc : CLB K (MAT f)) (h : SVL ft n) (ha : a < n) (hb : b < n) : (ft (b * 3 + 2) - ft (a * 3 + 2) + f (CKS ft b * 6 + CKS ft a)) ≤ 0 ↔ ¬ -(MAT f (CKS ft b) (CKS ft a)) < HRS ft b - HRS ft a := by
  have h1 := h.hrs ha
  have h2 := h.hrs hb
  have h3 := hc.lim _ _ (h.ck hb) (h.ck ha)
  have e3 : (f (CKS ft b * 6 + CKS ft a)).toInt = MAT f (CKS ft b) (CKS ft a) := rfl
  have e4 := rdb h ha hb
  have e0 : (0 : Int32).toInt = 0 := by decide
  rw [Int32.le_iff_toInt_le, ti_ad (by omega) (by omega) (by omega) (by omega), e4, e3, e0]
  omega
theorem BFV.two {f ft : Nat → Int32} {a b : Nat} (h : MAT f (CKS ft a) (CKS ft b) < HRS ft b - HRS ft a) : (2 : Int32) = BFV f ft a b := by
  unfold BFV
  rw [if_pos h]
theorem BFV.one {f ft : Nat → Int32} {a b : Nat} (h : ¬ MAT f (CKS ft a) (CKS ft b) < HRS ft b - HRS ft a) (h2 : -(MAT f (CKS ft b) (CKS ft a)) < HRS ft b - HRS ft a) : (1 : Int32) = BFV f ft a b := by
  unfold BFV
  rw [if_neg h, if_pos h2]
theorem BFV.nil {f ft : Nat → Int32} {a b : Nat} (h : ¬ MAT f (CKS ft a) (CKS ft b) < HRS ft b - HRS ft a) (h2 : ¬ -(MAT f (CKS ft b) (CKS ft a)) < HRS ft b - HRS ft a) : (0 : Int32) = BFV f ft a b := by
  unfold BFV
  rw [if_neg h, if_neg h2]
theorem BFH.cg {K : Nat → Nat → Int → Prop} {ft gt : Nat → Int32} {V U : Nat → Prop} {k p q : Nat} {r : Int32} (h : ∀ i, i < 72 → gt i = ft i) (hn : k ≤ 24) (hv : U p ↔ V p) (hw : U q ↔ V q) (h1 : BFH K gt U k p q r) : BFH K ft V k p q r := by
  have un : ∀ x, (U x ↔ V x) → UNS gt U k x → UNS ft V k x := fun x hx hu => by
    rcases hu with hu | hu
    · exact Or.inl fun h9 => hu (hx.mpr h9)
    · exact Or.inr fun s hs e => hu s hs ((h (s * 3 + 0) (by omega)).trans e)
  rcases h1 with ⟨n1, e1⟩ | ⟨f, a, b, c1, v1, w1, l1, m1, e1⟩
  · refine Or.inl ⟨?_, e1⟩
    rcases n1 with n1 | n1 | n1
    · exact Or.inl n1
    · exact Or.inr (Or.inl (un p hv n1))
    · exact Or.inr (Or.inr (un q hw n1))
  · have ha := l1.1
    have hb := m1.1
    have e2 : BFV f gt a b = BFV f ft a b := by
      unfold BFV CKS HRS
      rw [h (a * 3 + 1) (by omega), h (b * 3 + 1) (by omega), h (a * 3 + 2) (by omega), h (b * 3 + 2) (by omega)]
    exact Or.inr ⟨f, a, b, c1, hv.mp v1, hw.mp w1, LST.cg h hn l1, LST.cg h hn m1, e1.trans e2⟩
def BFQ (K : Nat → Nat → Int → Prop) (ft : Nat → Int32) (V : Nat → Prop) (k kp : Nat) (x1 x2 r : Int32) : Prop := (¬ (Hs x1 kp ∧ Hs x2 kp ∧ ¬ x1 = x2) ∧ r = (-1)) ∨ ∃ p q, p < kp ∧ q < kp ∧ x1 = nI p ∧ x2 = nI q ∧ ¬ p = q ∧ BFH K ft V k p q r
theorem BFQ.uq {K L : Nat → Nat → Int → Prop} {ft gt : Nat → Int32} {V U : Nat → Prop} {k kp : Nat} {x1 x2 r t : Int32} (h1 : BFQ K ft V k kp x1 x2 r) (h2 : BFQ L gt U k kp x1 x2 t) (e : K = L) (h : ∀ i, i < 72 → gt i = ft i) (hn : k ≤ 24) (hv : ∀ p, p < 12 → (U p ↔ V p)) (hS : SVL ft k) (hkp : kp ≤ 12) : r = t := by
  subst e
  have ok : ∀ p q : Nat, p < kp → q < kp → x1 = nI p → x2 = nI q → ¬ p = q → Hs x1 kp ∧ Hs x2 kp ∧ ¬ x1 = x2 := fun p q h1 h2 e1 e2 h3 => by
    rw [e1, e2]
    exact ⟨Hs.of h1 (by omega), Hs.of h2 (by omega), fun e => h3 ((nI_eq (by omega) (by omega)).mp e)⟩
  rcases h1 with ⟨a, b⟩ | ⟨p, q, hp1, hq1, ep, eq1, n1, z⟩
  · rcases h2 with ⟨c, d⟩ | ⟨p2, q2, hp2, hq2, ep2, eq2, n2, z2⟩
    · exact b.trans d.symm
    · exact absurd (ok p2 q2 hp2 hq2 ep2 eq2 n2) a
  · rcases h2 with ⟨c, d⟩ | ⟨p2, q2, hp2, hq2, ep2, eq2, n2, z2⟩
    · exact absurd (ok p q hp1 hq1 ep eq1 n1) c
    · have e1 : p2 = p := (nI_eq (by omega) (by omega)).mp (ep2.symm.trans ep)
      have e2 : q2 = q := (nI_eq (by omega) (by omega)).mp (eq2.symm.trans eq1)
      rw [e1, e2] at z2
      exact BFH.uniq hS z (BFH.cg h hn (hv p (by omega)) (hv q (by omega)) z2)
theorem LKP.uns {ft : Nat → Int32} {pp gp : Int32} {k p : Nat} {c : Int32} {fm f g ml mm sl sm : Nat → Int32} (h : LKP ft pp gp k c fm f g ml mm sl sm) (hp : p < 12) (hk : k < 2 ^ 31) (hn : ¬ (c = 0 ∧ ¬ g p < 0)) : NOS (KST ft (VPP pp) gp.toInt k) ∨ UNS ft (VPP pp) k p := by
  rcases h.none hp hk hn with h1 | h1 | h1
  · exact Or.inl h1
  · exact Or.inr (Or.inl h1)
  · exact Or.inr (Or.inr h1)
section WR
variable {p : Program} {l : Launch} {e : Env} {R : Room} {s : State} {m : MethodId} {args : Array Value} {below : List Frame} {meth : Method} {c : Code} {H : Heap} {locs : List Loc} {cells slots : Nat} {Q : State → Prop}
variable {pc : Nat} {ls : Array Slot} {rest : List Value} {G : GG} {ws : va_W} {A : Nat → Prop} {y0 : MethodName} {b0 : ByteArray} {mL0 : Nat} {rt0 : Option FieldType} {a : Nat} {H0 : Heap}
end WR
theorem TRQ {K : Nat → Nat → Int → Prop} {ft M N : Nat → Int32} {s : Nat} (h1 : CLB K (MAT M)) (h2 : CLB K (MAT N)) (hc : CKS ft s < 6) : TR0 ft M s = TR0 ft N s ∧ TR1 ft M s = TR1 ft N s := by
  have e1 := CLB.eq h1 h2 (a := 0) (b := CKS ft s) (by decide) hc
  have e2 := CLB.eq h1 h2 (a := CKS ft s) (b := 0) hc (by decide)
  unfold TR0 TR1
  rw [e1, e2]
  exact ⟨rfl, rfl⟩
/-- what the sight tells of papers -/
def SGQ (K : Nat → Nat → Int → Prop) (ft : Nat → Int32) (V : Nat → Prop) (k : Nat) (c : Int32) (g a b sl sm : Nat → Int32) : Prop := ∀ p, p < 12 → (¬ (c = 0 ∧ ¬ g p < 0) → NOS K ∨ ¬ V p ∨ ∀ s, s < k → ¬ ft (s * 3 + 0) = nI p) ∧ (c = 0 ∧ ¬ g p < 0 → ∃ M : Nat → Int32, CLB K (MAT M) ∧ V p ∧ (∃ s, FST ft k p s ∧ a p = TR0 ft M s ∧ b p = TR1 ft M s) ∧ ∃ s, LST ft k p s ∧ sl p = TR0 ft M s ∧ sm p = TR1 ft M s)
theorem LKP.sgq {ft : Nat → Int32} {pp gp : Int32} {k : Nat} {c : Int32} {fm f g ml mm sl sm : Nat → Int32} (h : LKP ft pp gp k c fm f g ml mm sl sm) (hk : k < 2 ^ 31) : SGQ (KST ft (VPP pp) gp.toInt k) ft (VPP pp) k c g ml mm sl sm := fun p hp => ⟨fun hn => h.none hp hk hn, fun hn => by
  obtain ⟨h1, h2, h3⟩ := h.fst hp hk hn
  obtain ⟨-, -, h4⟩ := h.some hp hk hn
  exact ⟨fm, h1, h2, h3, h4⟩⟩
/-- a paper in hand from f to t; not in hand -/
def INQ (K : Nat → Nat → Int → Prop) (ft : Nat → Int32) (V : Nat → Prop) (by9 to9 z : Int32) (k p e : Nat) (f t : Int32) : Prop := (∃ (M : Nat → Int32) (s : Nat), CLB K (MAT M) ∧ V p ∧ by9 = nI e ∧ FST ft k p s ∧ f = TR0 ft M s ∧ t = TR1 ft M s) ∨ (∃ (M : Nat → Int32) (s : Nat), CLB K (MAT M) ∧ V p ∧ ¬ by9 = nI e ∧ HB to9 (nI e) ∧ LST ft k p s ∧ f = TR0 ft M s ∧ t = TR1 ft M s + z)
def NIQ (K : Nat → Nat → Int → Prop) (ft : Nat → Int32) (V : Nat → Prop) (by9 to9 : Int32) (k p e : Nat) : Prop := NOS K ∨ ¬ V p ∨ (∀ s, s < k → ¬ ft (s * 3 + 0) = nI p) ∨ (¬ by9 = nI e ∧ ¬ HB to9 (nI e))
theorem INQ.uniq {K : Nat → Nat → Int → Prop} {ft : Nat → Int32} {V : Nat → Prop} {by9 to9 z : Int32} {k p e : Nat} {f t f2 t2 : Int32} (hS : SVL ft k) (h1 : INQ K ft V by9 to9 z k p e f t) (h2 : INQ K ft V by9 to9 z k p e f2 t2) : f = f2 ∧ t = t2 := by
  rcases h1 with ⟨M, s, c, v, b, l, e1, e2⟩ | ⟨M, s, c, v, b, hb, l, e1, e2⟩
  · rcases h2 with ⟨N, s2, c2, v2, b2, l2, d1, d2⟩ | ⟨N, s2, c2, v2, b2, -⟩
    · rw [← l.uniq l2] at d1 d2
      obtain ⟨q1, q2⟩ := TRQ c c2 (hS.ck l.1)
      exact ⟨e1.trans (q1.trans d1.symm), e2.trans (q2.trans d2.symm)⟩
    · exact absurd b b2
  · rcases h2 with ⟨N, s2, c2, v2, b2, l2, d1, d2⟩ | ⟨N, s2, c2, v2, b2, hb2, l2, d1, d2⟩
    · exact absurd b2 b
    · rw [← l.uniq l2] at d1 d2
      obtain ⟨q1, q2⟩ := TRQ c c2 (hS.ck l.1)
      exact ⟨e1.trans (q1.trans d1.symm), by rw [e2, d2, q2]⟩
theorem INQ.no {K : Nat → Nat → Int → Prop} {ft : Nat → Int32} {V : Nat → Prop} {by9 to9 z : Int32} {k p e : Nat} {f t : Int32} (h1 : INQ K ft V by9 to9 z k p e f t) (h2 : NIQ K ft V by9 to9 k p e) : False := by
  rcases h1 with ⟨M, s, c, v, b, l, -⟩ | ⟨M, s, c, v, b, hb, l, -⟩
  · rcases h2 with h2 | h2 | h2 | h2
    · exact c.nos h2
    · exact h2 v
    · exact h2 s l.1 l.2.1
    · exact h2.1 b
  · rcases h2 with h2 | h2 | h2 | h2
    · exact c.nos h2
    · exact h2 v
    · exact h2 s l.1 l.2.1
    · exact h2.2 hb
theorem INQ.cg {K : Nat → Nat → Int → Prop} {ft gt : Nat → Int32} {V U : Nat → Prop} {by9 to9 z : Int32} {k p e : Nat} {f t : Int32} (h : ∀ i, i < 72 → gt i = ft i) (hn : k ≤ 24) (hv : U p ↔ V p) (h1 : INQ K gt U by9 to9 z k p e f t) : INQ K ft V by9 to9 z k p e f t := by
  have tr : ∀ (M : Nat → Int32) s, s < k → TR0 gt M s = TR0 ft M s ∧ TR1 gt M s = TR1 ft M s := fun M s hs => by
    unfold TR0 TR1 CKS
    rw [h (s * 3 + 2) (by omega), h (s * 3 + 1) (by omega)]
    exact ⟨rfl, rfl⟩
  rcases h1 with ⟨M, s, c, v, b, l, e1, e2⟩ | ⟨M, s, c, v, b, hb, l, e1, e2⟩
  · obtain ⟨q1, q2⟩ := tr M s l.1
    exact Or.inl ⟨M, s, c, hv.mp v, b, FST.cg h hn l, e1.trans q1, e2.trans q2⟩
  · obtain ⟨q1, q2⟩ := tr M s l.1
    exact Or.inr ⟨M, s, c, hv.mp v, b, hb, LST.cg h hn l, e1.trans q1, by rw [e2, q2]⟩
theorem NIQ.cg {K : Nat → Nat → Int → Prop} {ft gt : Nat → Int32} {V U : Nat → Prop} {by9 to9 : Int32} {k p e : Nat} (h : ∀ i, i < 72 → gt i = ft i) (hn : k ≤ 24) (hv : U p ↔ V p) (h1 : NIQ K gt U by9 to9 k p e) : NIQ K ft V by9 to9 k p e := by
  rcases h1 with h1 | h1 | h1 | h1
  · exact Or.inl h1
  · exact Or.inr (Or.inl fun h9 => h1 (hv.mpr h9))
  · exact Or.inr (Or.inr (Or.inl fun s hs e => h1 s hs ((h (s * 3 + 0) (by omega)).trans e)))
  · exact Or.inr (Or.inr (Or.inr h1))
/-- the hours from which a paper might have been in hand -/
def HIQ (K : Nat → Nat → Int → Prop) (ft : Nat → Int32) (V : Nat → Prop) (by9 to9 z : Int32) (k p e : Nat) (f t : Int32) : Prop := INQ K ft V by9 to9 z k p e f t ∨ (NIQ K ft V by9 to9 k p e ∧ f = 0 ∧ t = 1000)
theorem HIQ.uniq {K : Nat → Nat → Int → Prop} {ft : Nat → Int32} {V : Nat → Prop} {by9 to9 z : Int32} {k p e : Nat} {f t f2 t2 : Int32} (hS : SVL ft k) (h1 : HIQ K ft V by9 to9 z k p e f t) (h2 : HIQ K ft V by9 to9 z k p e f2 t2) : f = f2 ∧ t = t2 := by
  rcases h1 with h1 | ⟨n1, a1, b1⟩
  · rcases h2 with h2 | ⟨n2, a2, b2⟩
    · exact h1.uniq hS h2
    · exact (h1.no n2).elim
  · rcases h2 with h2 | ⟨n2, a2, b2⟩
    · exact (h2.no n1).elim
    · exact ⟨a1.trans a2.symm, b1.trans b2.symm⟩
theorem HIQ.cg {K : Nat → Nat → Int → Prop} {ft gt : Nat → Int32} {V U : Nat → Prop} {by9 to9 z : Int32} {k p e : Nat} {f t : Int32} (h : ∀ i, i < 72 → gt i = ft i) (hn : k ≤ 24) (hv : U p ↔ V p) (h1 : HIQ K gt U by9 to9 z k p e f t) : HIQ K ft V by9 to9 z k p e f t := by
  rcases h1 with h1 | ⟨n1, a1, b1⟩
  · exact Or.inl (h1.cg h hn hv)
  · exact Or.inr ⟨n1.cg h hn hv, a1, b1⟩
theorem NIQ.of {K : Nat → Nat → Int → Prop} {ft : Nat → Int32} {V : Nat → Prop} {by9 to9 : Int32} {k p e : Nat} {c : Int32} {g a b sl sm : Nat → Int32} (h : SGQ K ft V k c g a b sl sm) (hp : p < 12) (hn : ¬ ((c = 0 ∧ ¬ g p < 0) ∧ (by9 = nI e ∨ HB to9 (nI e)))) : NIQ K ft V by9 to9 k p e := by
  by_cases h1 : c = 0 ∧ ¬ g p < 0
  · exact Or.inr (Or.inr (Or.inr ⟨fun h9 => hn ⟨h1, Or.inl h9⟩, fun h9 => hn ⟨h1, Or.inr h9⟩⟩))
  · rcases (h p hp).1 h1 with h2 | h2 | h2
    · exact Or.inl h2
    · exact Or.inr (Or.inl h2)
    · exact Or.inr (Or.inr (Or.inl h2))
theorem INQ.made {K : Nat → Nat → Int → Prop} {ft : Nat → Int32} {V : Nat → Prop} {by9 to9 z : Int32} {k p e : Nat} {c : Int32} {g a b sl sm : Nat → Int32} (h : SGQ K ft V k c g a b sl sm) (hp : p < 12) (hn : c = 0 ∧ ¬ g p < 0) (hb : by9 = nI e) : INQ K ft V by9 to9 z k p e (a p) (b p) := by
  obtain ⟨M, h1, h2, ⟨s, h3, h4, h5⟩, -⟩ := (h p hp).2 hn
  exact Or.inl ⟨M, s, h1, h2, hb, h3, h4, h5⟩
theorem INQ.sent {K : Nat → Nat → Int → Prop} {ft : Nat → Int32} {V : Nat → Prop} {by9 to9 z : Int32} {k p e : Nat} {c : Int32} {g a b sl sm : Nat → Int32} (h : SGQ K ft V k c g a b sl sm) (hp : p < 12) (hn : c = 0 ∧ ¬ g p < 0) (hb : ¬ by9 = nI e) (ht : HB to9 (nI e)) : INQ K ft V by9 to9 z k p e (sl p) (sm p + z) := by
  obtain ⟨M, h1, h2, -, s, h3, h4, h5⟩ := (h p hp).2 hn
  exact Or.inr ⟨M, s, h1, h2, hb, ht, h3, h4, by rw [h5]⟩
/-- bits of the first n that are so -/
noncomputable def IMB (P : Nat → Prop) : Nat → Int32
  | 0 => 0
  | n + 1 => ifc (P n) (IMB P n ||| 1 <<< (nI n &&& 31)) (IMB P n)
theorem IMB.cg {P Q : Nat → Prop} : ∀ n, (∀ k, k < n → (P k ↔ Q k)) → IMB P n = IMB Q n
  | 0, _ => rfl
  | n + 1, h => by
    show ifc (P n) _ _ = ifc (Q n) _ _
    rw [IMB.cg n (fun k hk => h k (by omega))]
    by_cases c : P n
    · rw [ifc_t c, ifc_t ((h n (by omega)).mp c)]
    · rw [ifc_f c, ifc_f (fun h9 => c ((h n (by omega)).mpr h9))]
theorem IMB.y {P : Nat → Prop} {n : Nat} {b : Int32} (h : b = IMB P n) (p : P n) : b ||| 1 <<< (nI n &&& 31) = IMB P (n + 1) := by
  subst h
  exact (ifc_t p).symm
theorem IMB.n {P : Nat → Prop} {n : Nat} {b : Int32} (h : b = IMB P n) (p : ¬ P n) : b = IMB P (n + 1) := by
  subst h
  exact (ifc_f p).symm
/-- a saying goes against an hour -/
def AGF (fs : Nat → Int32) (h : Int32) (s : Nat) : Prop := (fs (s * 8 + 5) = 1 ∧ fs (s * 8 + 3) < h) ∨ (¬ fs (s * 8 + 5) = 1 ∧ h ≤ fs (s * 8 + 3))
theorem i_le_trans {a b c : Int32} (h1 : a ≤ b) (h2 : b ≤ c) : a ≤ c := by
  rw [Int32.le_iff_toInt_le] at *
  omega
theorem i_lt_le {a b c : Int32} (h1 : a < b) (h2 : b ≤ c) : a < c := by
  rw [Int32.le_iff_toInt_le] at h2
  rw [Int32.lt_iff_toInt_lt] at *
  omega
theorem i_lt_le2 {a b : Int32} (h : a < b) : a ≤ b := by
  rw [Int32.lt_iff_toInt_lt] at h
  rw [Int32.le_iff_toInt_le]
  omega
theorem TR.le {K : Nat → Nat → Int → Prop} {ft M : Nat → Int32} {n s : Nat} (hc : CLB K (MAT M)) (h : SVL ft n) (hs : s < n) : (TR0 ft M s).toInt ≤ (TR1 ft M s).toInt ∧ -200 ≤ (TR0 ft M s).toInt ∧ (TR1 ft M s).toInt ≤ 1119 := by
  have h1 := h.hrs hs
  have h2 := hc.lim 0 (CKS ft s) (by decide) (h.ck hs)
  have h3 := hc.lim (CKS ft s) 0 (h.ck hs) (by decide)
  have h4 := hc.1.2.1 0 (CKS ft s) 0 (by decide) (h.ck hs) (by decide)
  have h5 := hc.1.1 0 (by decide)
  have e0 : (ft (s * 3 + 2)).toInt = HRS ft s := rfl
  have e1 : (M (0 * 6 + CKS ft s)).toInt = MAT M 0 (CKS ft s) := rfl
  have e2 : (M (CKS ft s * 6 + 0)).toInt = MAT M (CKS ft s) 0 := rfl
  have e3 : (TR0 ft M s).toInt = HRS ft s - MAT M 0 (CKS ft s) := by
    unfold TR0
    rw [ti_ad (by omega) (by omega) (by rw [ti_ng (by omega) (by omega)]; omega) (by rw [ti_ng (by omega) (by omega)]; omega), ti_ng (by omega) (by omega), e0, e1]
    omega
  have e4 : (TR1 ft M s).toInt = HRS ft s + MAT M (CKS ft s) 0 := by
    unfold TR1
    rw [ti_ad (by omega) (by omega) (by omega) (by omega), e0, e2]
  omega
theorem HIQ.le {K : Nat → Nat → Int → Prop} {ft : Nat → Int32} {V : Nat → Prop} {by9 to9 z : Int32} {k p e : Nat} {f t : Int32} (hS : SVL ft k) (h0 : 0 ≤ z.toInt) (h48 : z.toInt ≤ 48) (h : HIQ K ft V by9 to9 z k p e f t) : f ≤ t ∧ -200 ≤ f.toInt ∧ t.toInt ≤ 1167 := by
  rw [Int32.le_iff_toInt_le]
  rcases h with (⟨M, s, c, v, b, l, e1, e2⟩ | ⟨M, s, c, v, b, hb, l, e1, e2⟩) | ⟨-, e1, e2⟩
  · have h1 := TR.le c hS l.1
    rw [e1, e2]
    omega
  · have h1 := TR.le c hS l.1
    rw [e1, e2, ti_ad (by omega) (by omega) (by omega) (by omega)]
    omega
  · rw [e1, e2]
    decide
/-- a saying goes against every hour of its paper and person -/
def IMS (fs : Nat → Int32) (Q : Nat → Int32 → Int32 → Prop) (s : Nat) : Prop := ∃ f t, Q s f t ∧ ((fs (s * 8 + 5) = 1 ∧ fs (s * 8 + 3) < f) ∨ (¬ fs (s * 8 + 5) = 1 ∧ t ≤ fs (s * 8 + 3)))
def QSF (K : Nat → Nat → Int → Prop) (ft : Nat → Int32) (V : Nat → Prop) (fp fe fs : Nat → Int32) (k : Nat) : Nat → Int32 → Int32 → Prop := fun s f t => HIQ K ft V (fp ((fs (s * 8 + 2)).toNatClampNeg * 6 + 0)) (fp ((fs (s * 8 + 2)).toNatClampNeg * 6 + 1)) (fe ((fs (s * 8 + 1)).toNatClampNeg * 2 + 1)) k (fs (s * 8 + 2)).toNatClampNeg (fs (s * 8 + 1)).toNatClampNeg f t
theorem QSF.mk {K : Nat → Nat → Int → Prop} {ft : Nat → Int32} {V : Nat → Prop} {fp fe fs : Nat → Int32} {k s p e : Nat} {f t : Int32} (e1 : fs (s * 8 + 2) = nI p) (e2 : fs (s * 8 + 1) = nI e) (hp : p < 2 ^ 31) (he : e < 2 ^ 31) (h : HIQ K ft V (fp (p * 6 + 0)) (fp (p * 6 + 1)) (fe (e * 2 + 1)) k p e f t) : QSF K ft V fp fe fs k s f t := by
  unfold QSF
  rw [e1, e2, nI_clamp hp, nI_clamp he]
  exact h
theorem IMS.no {K : Nat → Nat → Int → Prop} {ft : Nat → Int32} {V : Nat → Prop} {fp fe fs : Nat → Int32} {k s : Nat} {f t : Int32} (hS : SVL ft k) (hq : QSF K ft V fp fe fs k s f t) (hn : ¬ ((fs (s * 8 + 5) = 1 ∧ fs (s * 8 + 3) < f) ∨ (¬ fs (s * 8 + 5) = 1 ∧ t ≤ fs (s * 8 + 3)))) : ¬ IMS fs (QSF K ft V fp fe fs k) s := by
  intro ⟨f2, t2, h2, h3⟩
  obtain ⟨e1, e2⟩ := HIQ.uniq hS hq h2
  rw [← e1, ← e2] at h3
  exact hn h3
section WR
variable {p : Program} {l : Launch} {e : Env} {R : Room} {s : State} {m : MethodId} {args : Array Value} {below : List Frame} {meth : Method} {c : Code} {H : Heap} {locs : List Loc} {cells slots : Nat} {Q : State → Prop}
variable {pc : Nat} {ls : Array Slot} {rest : List Value} {G : GG} {ws : va_W} {A : Nat → Prop} {y0 : MethodName} {b0 : ByteArray} {mL0 : Nat} {rt0 : Option FieldType} {a : Nat} {H0 : Heap}
end WR
/-- the weight that goes against an hour -/
noncomputable def WGS (P : Nat → Prop) (fs : Nat → Int32) (h : Int32) : Nat → Int32
  | 0 => 0
  | n + 1 => ifc (P n ∧ AGF fs h n) (WGS P fs h n + fs (n * 8 + 4)) (WGS P fs h n)
theorem WGS.y {P : Nat → Prop} {fs : Nat → Int32} {h w : Int32} {n : Nat} (e : w = WGS P fs h n) (p : P n ∧ AGF fs h n) : w + fs (n * 8 + 4) = WGS P fs h (n + 1) := by
  subst e
  exact (ifc_t p).symm
theorem WGS.n {P : Nat → Prop} {fs : Nat → Int32} {h w : Int32} {n : Nat} (e : w = WGS P fs h n) (p : ¬ (P n ∧ AGF fs h n)) : w = WGS P fs h (n + 1) := by
  subst e
  exact (ifc_f p).symm
theorem WGS.n0 {P : Nat → Prop} {fs : Nat → Int32} {h w : Int32} {n : Nat} (e : w = WGS P fs h n) (p : ¬ (P n ∧ AGF fs h n)) : w + 0 = WGS P fs h (n + 1) := by
  rw [Int32.add_zero]
  exact WGS.n e p
theorem WGS.cg {P Q : Nat → Prop} {fs gs : Nat → Int32} {h g : Int32} : ∀ n, (∀ s, s < n → ((P s ∧ AGF fs h s) ↔ (Q s ∧ AGF gs g s)) ∧ fs (s * 8 + 4) = gs (s * 8 + 4)) → WGS P fs h n = WGS Q gs g n
  | 0, _ => rfl
  | n + 1, e => by
    show ifc (P n ∧ AGF fs h n) _ _ = ifc (Q n ∧ AGF gs g n) _ _
    rw [WGS.cg n (fun k hk => e k (by omega)), (e n (by omega)).2]
    by_cases c : P n ∧ AGF fs h n
    · rw [ifc_t c, ifc_t ((e n (by omega)).1.mp c)]
    · rw [ifc_f c, ifc_f (fun h9 => c ((e n (by omega)).1.mpr h9))]
/-- the least weight in f to t, and the least hour with it -/
def BST (W : Int32 → Int32) (f t b l : Int32) : Prop := l = W b ∧ f ≤ b ∧ b ≤ t ∧ (∀ h, f ≤ h → h ≤ t → W b ≤ W h) ∧ ∀ h, f ≤ h → h < b → W b < W h
theorem i_tri (a b : Int32) : a < b ∨ a = b ∨ b < a := by
  rw [Int32.lt_iff_toInt_lt, Int32.lt_iff_toInt_lt, ← Int32.toInt_inj]
  omega
theorem BST.uniq {W : Int32 → Int32} {f t b l b2 l2 : Int32} (h : BST W f t b l) (h2 : BST W f t b2 l2) : b = b2 ∧ l = l2 := by
  obtain ⟨a1, a2, a3, a4, a5⟩ := h
  obtain ⟨c1, c2, c3, c4, c5⟩ := h2
  have e : b = b2 := by
    rcases i_tri b b2 with q | q | q
    · exact absurd (c5 b a2 q) (Int32.not_lt.mpr (a4 b2 c2 c3))
    · exact q
    · exact absurd (a5 b2 c2 q) (Int32.not_lt.mpr (c4 b a2 a3))
  exact ⟨e, by rw [a1, c1, e]⟩
/-- the hours at which the weight may change, by the first k sayings -/
def CAN (P : Nat → Prop) (fs : Nat → Int32) (f t : Int32) (k : Nat) (h : Int32) : Prop := h = f ∨ ∃ s, s < k ∧ P s ∧ h = fs (s * 8 + 3) + 1 ∧ f ≤ h ∧ h ≤ t
def LBT (W : Int32 → Int32) (C : Int32 → Prop) (b l : Int32) : Prop := C b ∧ l = W b ∧ ∀ h, C h → W b < W h ∨ (W b = W h ∧ b ≤ h)
theorem CAN.up {P : Nat → Prop} {fs : Nat → Int32} {f t h : Int32} {k : Nat} (c : CAN P fs f t k h) : CAN P fs f t (k + 1) h := by
  rcases c with c | ⟨s, h1, h2⟩
  · exact Or.inl c
  · exact Or.inr ⟨s, by omega, h2⟩
theorem CAN.dn {P : Nat → Prop} {fs : Nat → Int32} {f t h : Int32} {k : Nat} (c : CAN P fs f t (k + 1) h) : CAN P fs f t k h ∨ (P k ∧ h = fs (k * 8 + 3) + 1 ∧ f ≤ h ∧ h ≤ t) := by
  rcases c with c | ⟨s, h1, h2⟩
  · exact Or.inl (Or.inl c)
  · by_cases e : s = k
    · rw [e] at h2
      exact Or.inr h2
    · exact Or.inl (Or.inr ⟨s, by omega, h2⟩)
theorem LBT.zero {P : Nat → Prop} {fs : Nat → Int32} {f t : Int32} {W : Int32 → Int32} : LBT W (CAN P fs f t 0) f (W f) := ⟨Or.inl rfl, rfl, fun h hc => by
  rcases hc with rfl | ⟨s, h1, -⟩
  · exact Or.inr ⟨rfl, Int32.le_refl _⟩
  · exact absurd h1 (Nat.not_lt_zero s)⟩
theorem LBT.skip {P : Nat → Prop} {fs : Nat → Int32} {f t b l : Int32} {W : Int32 → Int32} {k : Nat} (h : LBT W (CAN P fs f t k) b l) (hn : ¬ (P k ∧ f ≤ fs (k * 8 + 3) + 1 ∧ fs (k * 8 + 3) + 1 ≤ t)) : LBT W (CAN P fs f t (k + 1)) b l := by
  refine ⟨h.1.up, h.2.1, fun x hx => ?_⟩
  rcases hx.dn with hx | ⟨h1, h2, h3, h4⟩
  · exact h.2.2 x hx
  · rw [h2] at h3 h4
    exact absurd ⟨h1, h3, h4⟩ hn
theorem LBT.more {P : Nat → Prop} {fs : Nat → Int32} {f t b l w : Int32} {W : Int32 → Int32} {k : Nat} (h : LBT W (CAN P fs f t k) b l) (hw : w = W (fs (k * 8 + 3) + 1)) (hl : l < w) : LBT W (CAN P fs f t (k + 1)) b l := by
  refine ⟨h.1.up, h.2.1, fun x hx => ?_⟩
  rcases hx.dn with hx | ⟨h1, h2, h3, h4⟩
  · exact h.2.2 x hx
  · rw [h2, ← hw, ← h.2.1]
    exact Or.inl hl
theorem LBT.late {P : Nat → Prop} {fs : Nat → Int32} {f t b l w : Int32} {W : Int32 → Int32} {k : Nat} (h : LBT W (CAN P fs f t k) b l) (hw : w = W (fs (k * 8 + 3) + 1)) (hl : w = l) (hb : b ≤ fs (k * 8 + 3) + 1) : LBT W (CAN P fs f t (k + 1)) b l := by
  refine ⟨h.1.up, h.2.1, fun x hx => ?_⟩
  rcases hx.dn with hx | ⟨h1, h2, h3, h4⟩
  · exact h.2.2 x hx
  · rw [h2, ← hw, ← h.2.1]
    exact Or.inr ⟨hl.symm, hb⟩
theorem LBT.new {P : Nat → Prop} {fs : Nat → Int32} {f t b l w : Int32} {W : Int32 → Int32} {k : Nat} (h : LBT W (CAN P fs f t k) b l) (hw : w = W (fs (k * 8 + 3) + 1)) (hP : P k) (h1 : f ≤ fs (k * 8 + 3) + 1) (h2 : fs (k * 8 + 3) + 1 ≤ t) (hl : w < l ∨ (w = l ∧ fs (k * 8 + 3) + 1 < b)) : LBT W (CAN P fs f t (k + 1)) (fs (k * 8 + 3) + 1) w := by
  refine ⟨Or.inr ⟨k, by omega, hP, rfl, h1, h2⟩, hw, fun x hx => ?_⟩
  rcases hx.dn with hx | ⟨-, e, -⟩
  · have q := h.2.2 x hx
    rw [← h.2.1] at q
    rw [← hw]
    rw [Int32.lt_iff_toInt_lt, Int32.lt_iff_toInt_lt, ← Int32.toInt_inj] at hl
    rw [Int32.lt_iff_toInt_lt, Int32.le_iff_toInt_le, ← Int32.toInt_inj] at q
    rw [Int32.lt_iff_toInt_lt, Int32.le_iff_toInt_le, ← Int32.toInt_inj]
    omega
  · rw [e]
    exact Or.inr ⟨rfl, Int32.le_refl _⟩
theorem WGS.step {P : Nat → Prop} {fs : Nat → Int32} {n : Nat} {h g : Int32} (hg : g.toInt = h.toInt - 1) (hv : ∀ s, s < n → ∃ v, v ≤ 999 ∧ fs (s * 8 + 3) = nI v) (hn : ∀ s, s < n → P s → (fs (s * 8 + 3)).toInt ≠ g.toInt) : WGS P fs g n = WGS P fs h n := by
  refine WGS.cg n (fun s hs => ⟨and_congr_right (fun hp => ?_), rfl⟩)
  have q := hn s hs hp
  unfold AGF
  rw [Int32.lt_iff_toInt_lt, Int32.lt_iff_toInt_lt, Int32.le_iff_toInt_le, Int32.le_iff_toInt_le]
  refine or_congr (and_congr_right (fun _ => ?_)) (and_congr_right (fun _ => ?_))
  · omega
  · omega
theorem dec_ti {h : Int32} (h1 : -100000 ≤ h.toInt) (h2 : h.toInt ≤ 100000) : (h - 1).toInt = h.toInt - 1 := by
  have e1 : (1 : Int32).toInt = 1 := by decide
  rw [ti_sb (by omega) (by omega) (by rw [e1]; decide) (by rw [e1]; decide), e1]
theorem inc_ti {v : Nat} (h : v ≤ 999) : (nI v + 1).toInt = (v : Int) + 1 := by
  have e1 : (1 : Int32).toInt = 1 := by decide
  have e2 := nI_toInt (n := v) (by omega)
  rw [ti_ad (by omega) (by omega) (by rw [e1]; decide) (by rw [e1]; decide), e1, e2]
theorem CAN.near {P : Nat → Prop} {fs : Nat → Int32} {f t : Int32} {n : Nat} (hv : ∀ s, s < n → ∃ v, v ≤ 999 ∧ fs (s * 8 + 3) = nI v) (hf : -200 ≤ f.toInt) (ht : t.toInt ≤ 1167) : ∀ (d : Nat) (h : Int32), h.toInt = f.toInt + (d : Int) → h ≤ t → ∃ c, CAN P fs f t n c ∧ c ≤ h ∧ WGS P fs c n = WGS P fs h n
  | 0, h, e, _ => ⟨f, Or.inl rfl, by rw [Int32.le_iff_toInt_le]; omega, by rw [show h = f from Int32.toInt_inj.mp (by omega)]⟩
  | d + 1, h, e, hht => by
    have hh := hht
    rw [Int32.le_iff_toInt_le] at hh
    by_cases c : ∃ s, s < n ∧ P s ∧ h = fs (s * 8 + 3) + 1
    · obtain ⟨s, h1, h2, h3⟩ := c
      exact ⟨h, Or.inr ⟨s, h1, h2, h3, by rw [Int32.le_iff_toInt_le]; omega, hht⟩, Int32.le_refl h, rfl⟩
    · have e2 := dec_ti (h := h) (by omega) (by omega)
      obtain ⟨x, x1, x2, x3⟩ := CAN.near hv hf ht d (h - 1) (by omega) (by rw [Int32.le_iff_toInt_le]; omega)
      refine ⟨x, x1, by rw [Int32.le_iff_toInt_le] at *; omega, x3.trans (WGS.step e2 hv (fun s hs hp q => c ⟨s, hs, hp, ?_⟩))⟩
      obtain ⟨v, v1, v2⟩ := hv s hs
      rw [v2]
      rw [v2, nI_toInt (by omega)] at q
      exact Int32.toInt_inj.mp (by rw [inc_ti v1]; omega)
theorem LBT.bst {P : Nat → Prop} {fs : Nat → Int32} {f t b l : Int32} {n : Nat} (hv : ∀ s, s < n → ∃ v, v ≤ 999 ∧ fs (s * 8 + 3) = nI v) (hft : f ≤ t) (hf : -200 ≤ f.toInt) (ht : t.toInt ≤ 1167) (h : LBT (fun h9 => WGS P fs h9 n) (CAN P fs f t n) b l) : BST (fun h9 => WGS P fs h9 n) f t b l := by
  have hb : f ≤ b ∧ b ≤ t := by
    rcases h.1 with e | ⟨s, -, -, -, h1, h2⟩
    · rw [e]; exact ⟨Int32.le_refl f, hft⟩
    · exact ⟨h1, h2⟩
  have nr : ∀ x, f ≤ x → x ≤ t → ∃ c, CAN P fs f t n c ∧ c ≤ x ∧ WGS P fs c n = WGS P fs x n := fun x h1 h2 => by
    have h1' := h1
    rw [Int32.le_iff_toInt_le] at h1'
    exact CAN.near hv hf ht (x.toInt - f.toInt).toNat x (by omega) h2
  refine ⟨h.2.1, hb.1, hb.2, fun x h1 h2 => ?_, fun x h1 h2 => ?_⟩
  · obtain ⟨c, c1, c2, c3⟩ := nr x h1 h2
    have q : WGS P fs b n < WGS P fs c n ∨ (WGS P fs b n = WGS P fs c n ∧ b ≤ c) := h.2.2 c c1
    show WGS P fs b n ≤ WGS P fs x n
    rw [← c3]
    rcases q with q | ⟨q, -⟩
    · exact i_lt_le2 q
    · rw [q]; exact Int32.le_refl _
  · obtain ⟨c, c1, c2, c3⟩ := nr x h1 (i_le_trans (i_lt_le2 h2) hb.2)
    have q : WGS P fs b n < WGS P fs c n ∨ (WGS P fs b n = WGS P fs c n ∧ b ≤ c) := h.2.2 c c1
    show WGS P fs b n < WGS P fs x n
    rw [← c3]
    rcases q with q | ⟨-, q⟩
    · exact q
    · exact absurd (i_le_trans q c2) (Int32.not_le.mpr h2)
/-- the sayings of a person and a paper that count -/
def PWS (fs fp : Nat → Int32) (td vd vl : Int32) (e p : Nat) (s : Nat) : Prop := fs (s * 8 + 1) = nI e ∧ fs (s * 8 + 2) = nI p ∧ CSQ fs fp td vd vl s
def PSL (fe : Nat → Int32) : Prop := ∀ e, e < 10 → 0 ≤ (fe (e * 2 + 1)).toInt ∧ (fe (e * 2 + 1)).toInt ≤ 48
/-- what quarrel answers -/
def QRQ (K : Nat → Nat → Int → Prop) (ft : Nat → Int32) (V : Nat → Prop) (fp fe fs : Nat → Int32) (td vd vl : Int32) (k kp ke n : Nat) (x1 x2 x3 r : Int32) : Prop := (¬ (Hs x1 ke ∧ Hs x2 kp ∧ Wi x3 0 1) ∧ r = (-1)) ∨ ∃ e p, e < ke ∧ p < kp ∧ x1 = nI e ∧ x2 = nI p ∧ Wi x3 0 1 ∧ ((¬ V p ∧ r = (-3)) ∨ (V p ∧ ∃ f t b l, HIQ K ft V (fp (p * 6 + 0)) (fp (p * 6 + 1)) (fe (e * 2 + 1)) k p e f t ∧ BST (fun h9 => WGS (PWS fs fp td vd vl e p) fs h9 n) f t b l ∧ ((x3 = 0 ∧ r = l) ∨ (¬ x3 = 0 ∧ r = b + 1000))))
section WR
variable {p : Program} {l : Launch} {e : Env} {R : Room} {s : State} {m : MethodId} {args : Array Value} {below : List Frame} {meth : Method} {c : Code} {H : Heap} {locs : List Loc} {cells slots : Nat} {Q : State → Prop}
variable {pc : Nat} {ls : Array Slot} {rest : List Value} {G : GG} {ws : va_W} {A : Nat → Prop} {y0 : MethodName} {b0 : ByteArray} {mL0 : Nat} {rt0 : Option FieldType} {a : Nat} {H0 : Heap}
end WR
theorem Wi_le {x a b : Int32} : Wi x a b ↔ a ≤ x ∧ x ≤ b := by
  unfold Wi
  rw [Int32.not_lt, Int32.not_lt]
theorem i_le_ne {a b : Int32} (h : a ≤ b) (h2 : ¬ a = b) : a < b := by
  rw [Int32.le_iff_toInt_le] at h
  rw [← Int32.toInt_inj] at h2
  rw [Int32.lt_iff_toInt_lt]
  omega
section WR
variable {p : Program} {l : Launch} {e : Env} {R : Room} {s : State} {m : MethodId} {args : Array Value} {below : List Frame} {meth : Method} {c : Code} {H : Heap} {locs : List Loc} {cells slots : Nat} {Q : State → Prop}
variable {pc : Nat} {ls : Array Slot} {rest : List Value} {G : GG} {ws : va_W} {A : Nat → Prop} {y0 : MethodName} {b0 : ByteArray} {mL0 : Nat} {rt0 : Option FieldType} {a : Nat} {H0 : Heap}
end WR
theorem nI_z9 {k : Nat} (hk : k < 2 ^ 31) (h : nI k = 0) : k = 0 := (nI_eq (b := 0) hk (by decide)).mp h
section WR
variable {p : Program} {l : Launch} {e : Env} {R : Room} {s : State} {m : MethodId} {args : Array Value} {below : List Frame} {meth : Method} {c : Code} {H : Heap} {locs : List Loc} {cells slots : Nat} {Q : State → Prop}
variable {pc : Nat} {ls : Array Slot} {rest : List Value} {G : GG} {ws : va_W} {A : Nat → Prop} {y0 : MethodName} {b0 : ByteArray} {mL0 : Nat} {rt0 : Option FieldType} {a : Nat} {H0 : Heap}
end WR
theorem mat_s {f : Nat → Int32} {a b : Nat} : 0 ≤ f (6 * a + b) ↔ 0 ≤ MAT f a b := by
  rw [mat6, Int32.le_iff_toInt_le]
  have e0 : (0 : Int32).toInt = 0 := by decide
  rw [e0]
theorem NI.hour {f : Nat → Int32} (h : NI f) {s : Nat} (hs : s < 24) : 0 ≤ (f (104 + 3 * s + 2)).toInt ∧ (f (104 + 3 * s + 2)).toInt ≤ 999 := by
  have h1 := h (104 + 3 * s + 2)
  rw [bnd_st2 (s := s) rfl hs] at h1
  exact h1
theorem NI.pap {f : Nat → Int32} (h : NI f) {s : Nat} (hs : s < 24) : ∃ p, p < 12 ∧ f (104 + 3 * s) = nI p := by
  obtain ⟨k, hk, e⟩ := h.nat (bnd_st0 (s := s) rfl hs) (by decide)
  exact ⟨k, by omega, e⟩
section WR
variable {p : Program} {l : Launch} {e : Env} {R : Room} {s : State} {m : MethodId} {args : Array Value} {below : List Frame} {meth : Method} {c : Code} {H : Heap} {locs : List Loc} {cells slots : Nat} {Q : State → Prop}
variable {pc : Nat} {ls : Array Slot} {rest : List Value} {G : GG} {ws : va_W} {A : Nat → Prop} {y0 : MethodName} {b0 : ByteArray} {mL0 : Nat} {rt0 : Option FieldType} {a : Nat} {H0 : Heap}
end WR
theorem SPQ.mk1 {K : Nat → Nat → Int → Prop} {jc : Nat} {x2 : Int32} {f : Nat → Int32} (hw : Wi (nI jc) 0 5) (hj : jc < 6) (h : CLB K (MAT f)) (hx : ¬ x2 = 0) : SPQ K (nI jc) x2 (1000 + f jc) := by
  refine Or.inr (Or.inr ⟨hw, f, h, Or.inr ⟨hx, ?_⟩⟩)
  rw [nI_clamp (n := jc) (by omega), Int32.add_comm, Nat.zero_mul, Nat.zero_add]
theorem SPQ.mk0 {K : Nat → Nat → Int → Prop} {jc : Nat} {x2 : Int32} {f : Nat → Int32} (hw : Wi (nI jc) 0 5) (hj : jc < 6) (h : CLB K (MAT f)) (hx : x2 = 0) : SPQ K (nI jc) x2 (1000 + -(f (6 * jc))) := by
  refine Or.inr (Or.inr ⟨hw, f, h, Or.inl ⟨hx, ?_⟩⟩)
  rw [nI_clamp (n := jc) (by omega), Int32.add_comm, show jc * 6 + 0 = 6 * jc by omega]
theorem GPRm.of {f : Nat → Int32} {g : Int32} (e : f 3 = g) (h : GPR g) : GPRm (f 3) := by
  rw [e]
  exact h
theorem SVL.of {y fs : Nat → Int32} {n : Nat} (h : NI y) (e : EQT y 104 72 fs) (hn : n ≤ 24) : SVL fs n := by
  intro s hs
  have e0 := e (s * 3 + 0) (by omega)
  have e1 := e (s * 3 + 1) (by omega)
  have e2 := e (s * 3 + 2) (by omega)
  rw [show 104 + (s * 3 + 0) = 104 + 3 * s by omega] at e0
  rw [show 104 + (s * 3 + 1) = 104 + 3 * s + 1 by omega] at e1
  rw [show 104 + (s * 3 + 2) = 104 + 3 * s + 2 by omega] at e2
  obtain ⟨p, hp, ep⟩ := NI.pap h (s := s) (by omega)
  obtain ⟨c, hc, ec⟩ := h.nat (bnd_st1 (s := s) rfl (by omega)) (by decide)
  have hh := NI.hour h (s := s) (by omega)
  rw [e2] at hh
  exact ⟨⟨p, hp, e0.symm.trans ep⟩, ⟨c, by omega, e1.symm.trans ec⟩, hh⟩
theorem PRC.cg {ft gt : Nat → Int32} {V U : Nat → Prop} {n a b : Nat} (h : ∀ i, i < 72 → gt i = ft i) (hn : n ≤ 24) (hv : ∀ p, p < 12 → (U p ↔ V p)) (hp : SVL ft n) (hb : b < n) : PRC ft V a b ↔ PRC gt U a b := by
  obtain ⟨p, hp12, ep⟩ := (hp b hb).1
  have eb := h (b * 3 + 0) (by omega)
  have q : (V (ft (b * 3 + 0)).toNatClampNeg ↔ U (gt (b * 3 + 0)).toNatClampNeg) := by
    rw [eb, ep, nI_clamp (by omega)]
    exact (hv p hp12).symm
  constructor
  · intro ⟨h1, h2, h3, h4⟩
    refine ⟨h1, ?_, q.mp h3, fun s hs1 hs2 hs3 => h4 s hs1 hs2 ?_⟩
    · rw [h (a * 3 + 0) (by omega), eb]
      exact h2
    · rw [h (s * 3 + 0) (by omega), eb] at hs3
      exact hs3
  · intro ⟨h1, h2, h3, h4⟩
    refine ⟨h1, ?_, q.mpr h3, fun s hs1 hs2 hs3 => h4 s hs1 hs2 ?_⟩
    · rw [h (a * 3 + 0) (by omega), eb] at h2
      exact h2
    · rw [h (s * 3 + 0) (by omega), eb]
      exact hs3
theorem KST.cg {ft gt : Nat → Int32} {V U : Nat → Prop} {gp : Int} {n : Nat} (h : ∀ i, i < 72 → gt i = ft i) (hn : n ≤ 24) (hv : ∀ p, p < 12 → (U p ↔ V p)) (hp : SVL ft n) : KST ft V gp n = KST gt U gp n := by
  have ec : ∀ s, s < n → CKS gt s = CKS ft s := fun s hs => congrArg Int32.toNatClampNeg (h (s * 3 + 1) (by omega))
  have eh : ∀ s, s < n → HRS gt s = HRS ft s := fun s hs => congrArg Int32.toInt (h (s * 3 + 2) (by omega))
  funext x y w
  apply propext
  constructor
  · intro h9
    rcases h9 with h9 | ⟨a, b, h1, h2, h3⟩
    · exact Or.inl h9
    · have ha : a < n := Nat.lt_trans h2.1 h1
      refine Or.inr ⟨a, b, h1, (PRC.cg h hn hv hp h1).mp h2, ?_⟩
      rw [ec a ha, ec b h1, eh a ha, eh b h1]
      exact h3
  · intro h9
    rcases h9 with h9 | ⟨a, b, h1, h2, h3⟩
    · exact Or.inl h9
    · have ha : a < n := Nat.lt_trans h2.1 h1
      refine Or.inr ⟨a, b, h1, (PRC.cg h hn hv hp h1).mpr h2, ?_⟩
      rw [ec a ha, ec b h1, eh a ha, eh b h1] at h3
      exact h3
/-- what binds the clocks is the same on both sides -/
theorem KQE {y fs fp : Nat → Int32} {td vd vl gp : Int32} {kp ks : Nat} (es : EQT y 104 72 fs) (ep : EQT y 32 72 fp) (e0 : y 0 = td) (e1 : y 1 = vd) (e2 : y 2 = vl) (e3 : y 3 = gp) (hkp : kp ≤ 12) (hks : ks ≤ 24) (hN : NI y) : KST fs (VPP (IVW fp td vd vl kp)) gp.toInt ks = KST (shf y 104) (VSE y kp) (y 3).toInt ks := by
  rw [e3]
  refine KST.cg (fun i hi => es i hi) hks (fun p hp => ?_) (SVL.of hN es hks)
  have q : SEE (shf y 32) (y 0) (y 1) (y 2) p ↔ SEE fp td vd vl p := by
    rw [e0, e1, e2]
    rw [SEE.cg (f := shf y 32) (g := fp) (n := 72) (fun i hi => ep i hi) (by omega)]
  by_cases c : p < kp
  · exact ⟨fun h9 => (IVW.hb hkp c).mpr (q.mp h9.2), fun h9 => ⟨c, q.mpr ((IVW.hb hkp c).mp h9)⟩⟩
  · exact ⟨fun h9 => absurd h9.1 c, fun h9 => absurd h9 (HB.no hkp c hp)⟩
section WR
variable {p : Program} {l : Launch} {e : Env} {R : Room} {s : State} {m : MethodId} {args : Array Value} {below : List Frame} {meth : Method} {c : Code} {H : Heap} {locs : List Loc} {cells slots : Nat} {Q : State → Prop}
variable {pc : Nat} {ls : Array Slot} {rest : List Value} {G : GG} {ws : va_W} {A : Nat → Prop} {y0 : MethodName} {b0 : ByteArray} {mL0 : Nat} {rt0 : Option FieldType} {a : Nat} {H0 : Heap}
end WR
theorem STQ.lst {f : Nat → Int32} {p k i s : Nat} (h : STQ f p k i s) (hi : i + 1 = cntS f (nI p) k) : LST (shf f 104) k p s := by
  obtain ⟨h1, h2, h3⟩ := h
  refine ⟨h1, (shf_st (f := f) (s := s) (c := 0)).trans h2, fun s2 a b e => ?_⟩
  have e2 : f (104 + 3 * s2) = nI p := (shf_st (f := f) (s := s2) (c := 0)).symm.trans e
  have q1 := cntS_lt a h2
  have q2 := cntS_lt b e2
  omega
theorem cntS_no {f : Nat → Int32} {p k : Nat} (h : cntS f (nI p) k = 0) : ∀ s, s < k → ¬ shf f 104 (s * 3 + 0) = nI p := fun s hs e => by
  have e2 : f (104 + 3 * s) = nI p := (shf_st (f := f) (s := s) (c := 0)).symm.trans e
  have q2 := cntS_lt hs e2
  omega
theorem TR0.mk {f fm : Nat → Int32} {s c : Nat} (e : f (104 + 3 * s + 1) = nI c) (hc : c < 2 ^ 31) : f (104 + 3 * s + 2) - fm c = TR0 (shf f 104) fm s := by
  unfold TR0
  rw [CKS.mk e hc, shf_st, Int32.sub_eq_add_neg, Nat.zero_mul, Nat.zero_add]
theorem TR1.mk {f fm : Nat → Int32} {s c : Nat} (e : f (104 + 3 * s + 1) = nI c) (hc : c < 2 ^ 31) : f (104 + 3 * s + 2) - -(fm (6 * c)) = TR1 (shf f 104) fm s := by
  unfold TR1
  rw [CKS.mk e hc, shf_st, Int32.sub_eq_add_neg, Int32.neg_neg, show c * 6 + 0 = 6 * c by omega]
section WR
variable {p : Program} {l : Launch} {e : Env} {R : Room} {s : State} {m : MethodId} {args : Array Value} {below : List Frame} {meth : Method} {c : Code} {H : Heap} {locs : List Loc} {cells slots : Nat} {Q : State → Prop}
variable {pc : Nat} {ls : Array Slot} {rest : List Value} {G : GG} {ws : va_W} {A : Nat → Prop} {y0 : MethodName} {b0 : ByteArray} {mL0 : Nat} {rt0 : Option FieldType} {a : Nat} {H0 : Heap}
end WR
theorem SNQ.gom {K : Nat → Nat → Int → Prop} {ft : Nat → Int32} {V : Nat → Prop} {k p : Nat} {fm : Nat → Int32} {x2 r a b : Int32} (hc : CLB K (MAT fm)) (h : ∃ s9, LST ft k p s9 ∧ V p ∧ a = TR0 ft fm s9 ∧ b = TR1 ft fm s9) (hr : (x2 = 0 ∧ r = 1000 + a) ∨ (¬ x2 = 0 ∧ r = 1000 + b)) : HRQ K ft V k p (LST ft k p) x2 r := by
  obtain ⟨s, h3, h2, h4, h5⟩ := h
  rw [h4, h5, Int32.add_comm, Int32.add_comm (1000 : Int32) (TR1 ft fm s)] at hr
  exact Or.inr ⟨fm, s, hc, h2, h3, h3.1, h3.2.1, hr⟩
theorem HRQ.nom {K : Nat → Nat → Int → Prop} {ft : Nat → Int32} {V : Nat → Prop} {k p : Nat} {P : Nat → Prop} {x2 : Int32} (h : ¬ V p ∨ ∀ s9, s9 < k → ¬ ft (s9 * 3 + 0) = nI p) : HRQ K ft V k p P x2 (-3) := Or.inl ⟨Or.inr h, rfl⟩
/-- both sides see the same papers -/
theorem VQE {y fp : Nat → Int32} {td vd vl : Int32} {kp : Nat} (ep : EQT y 32 72 fp) (e0 : y 0 = td) (e1 : y 1 = vd) (e2 : y 2 = vl) (hkp : kp ≤ 12) : ∀ p, p < 12 → (VSE y kp p ↔ VPP (IVW fp td vd vl kp) p) := fun p hp => by
  have q : SEE (shf y 32) (y 0) (y 1) (y 2) p ↔ SEE fp td vd vl p := by
    rw [e0, e1, e2]
    rw [SEE.cg (f := shf y 32) (g := fp) (n := 72) (fun i hi => ep i hi) (by omega)]
  by_cases c : p < kp
  · exact ⟨fun h9 => (IVW.hb hkp c).mpr (q.mp h9.2), fun h9 => ⟨c, q.mpr ((IVW.hb hkp c).mp h9)⟩⟩
  · exact ⟨fun h9 => absurd h9.1 c, fun h9 => absurd h9 (HB.no hkp c hp)⟩
section WR
variable {p : Program} {l : Launch} {e : Env} {R : Room} {s : State} {m : MethodId} {args : Array Value} {below : List Frame} {meth : Method} {c : Code} {H : Heap} {locs : List Loc} {cells slots : Nat} {Q : State → Prop}
variable {pc : Nat} {ls : Array Slot} {rest : List Value} {G : GG} {ws : va_W} {A : Nat → Prop} {y0 : MethodName} {b0 : ByteArray} {mL0 : Nat} {rt0 : Option FieldType} {a : Nat} {H0 : Heap}
end WR
theorem STQ.fst {f : Nat → Int32} {p k s : Nat} (h : STQ f p k 0 s) : FST (shf f 104) k p s := by
  obtain ⟨h1, h2, h3⟩ := h
  refine ⟨h1, (shf_st (f := f) (s := s) (c := 0)).trans h2, fun s2 a e => ?_⟩
  have e2 : f (104 + 3 * s2) = nI p := (shf_st (f := f) (s := s2) (c := 0)).symm.trans e
  have q1 := cntS_lt a e2
  omega
theorem LST.cnt {f : Nat → Int32} {p k s : Nat} (h : LST (shf f 104) k p s) : 1 ≤ cntS f (nI p) k := by
  have e2 : f (104 + 3 * s) = nI p := (shf_st (f := f) (s := s) (c := 0)).symm.trans h.2.1
  have q1 := cntS_lt h.1 e2
  omega
theorem shf_pa {f : Nat → Int32} {p c : Nat} : shf f 32 (p * 6 + c) = f (32 + 6 * p + c) := congrArg f (by omega)
theorem shf_pe {f : Nat → Int32} {e c : Nat} : shf f 12 (e * 2 + c) = f (12 + 2 * e + c) := congrArg f (by omega)
theorem HB.iff {x : Int32} {k : Nat} (hk : k < 31) : HB x (nI k) ↔ (x >>> (nI k &&& 31)) &&& 1 = 1 := ⟨fun h => h.2.2, fun h => HB.mk hk h⟩
theorem HAQ.ra {K : Nat → Nat → Int → Prop} {ft fm : Nat → Int32} {V : Nat → Prop} {by9 to9 z x2 r a b : Int32} {k p e : Nat} (hc : CLB K (MAT fm)) (h : by9 = nI e ∧ ∃ s9, FST ft k p s9 ∧ V p ∧ a = TR0 ft fm s9 ∧ b = TR1 ft fm s9) (hr : (x2 = 0 ∧ r = 1000 + a) ∨ (¬ x2 = 0 ∧ r = 1000 + b)) : HAQ K ft V by9 to9 z k p e x2 r := by
  obtain ⟨hb, s, h3, h2, h4, h5⟩ := h
  rw [h4, h5, Int32.add_comm, Int32.add_comm (1000 : Int32) (TR1 ft fm s)] at hr
  refine Or.inl ⟨hb, Or.inr ⟨fm, s, hc, h2, h3, h3.1, h3.2.1, ?_⟩⟩
  rcases hr with hr | ⟨hx, hr⟩
  · exact Or.inl hr
  · exact Or.inr ⟨hx, by rw [Int32.add_zero]; exact hr⟩
theorem HAQ.rb {K : Nat → Nat → Int → Prop} {ft fm : Nat → Int32} {V : Nat → Prop} {by9 to9 z x2 r a b : Int32} {k p e : Nat} (he : e < 31) (hc : CLB K (MAT fm)) (h : ¬ by9 = nI e ∧ (to9 >>> (nI e &&& 31)) &&& 1 = 1 ∧ ∃ s9, LST ft k p s9 ∧ V p ∧ a = TR0 ft fm s9 ∧ b = TR1 ft fm s9 + z) (hr : (x2 = 0 ∧ r = 1000 + a) ∨ (¬ x2 = 0 ∧ r = 1000 + b)) : HAQ K ft V by9 to9 z k p e x2 r := by
  obtain ⟨hb, ht, s, h3, h2, h4, h5⟩ := h
  rw [h4, h5, Int32.add_comm, Int32.add_comm (1000 : Int32) (TR1 ft fm s + z)] at hr
  exact Or.inr (Or.inl ⟨hb, HB.mk he ht, Or.inr ⟨fm, s, hc, h2, h3, h3.1, h3.2.1, hr⟩⟩)
theorem HAQ.rn {K : Nat → Nat → Int → Prop} {ft : Nat → Int32} {V : Nat → Prop} {by9 to9 z x2 : Int32} {k p e : Nat} (he : e < 31) (h : (¬ V p ∨ ∀ s, s < k → ¬ ft (s * 3 + 0) = nI p) ∨ (¬ by9 = nI e ∧ ¬ (to9 >>> (nI e &&& 31)) &&& 1 = 1)) : HAQ K ft V by9 to9 z k p e x2 (-3) := by
  rcases h with h | ⟨h1, h2⟩
  · exact HAQ.nn (Or.inr h)
  · exact Or.inr (Or.inr ⟨h1, fun h9 => h2 h9.2.2, rfl⟩)
theorem HAQ.re {K : Nat → Nat → Int → Prop} {ft f : Nat → Int32} {V : Nat → Prop} {k p e : Nat} {x2 r : Int32} (h : HAQ K ft V (f (32 + 6 * p + 0)) (f (32 + 6 * p + 1)) (f (12 + 2 * e + 1)) k p e x2 r) : HAQ K ft V (shf f 32 (p * 6 + 0)) (shf f 32 (p * 6 + 1)) (shf f 12 (e * 2 + 1)) k p e x2 r := by
  rw [shf_pa, shf_pa, shf_pe]
  exact h
theorem BFV.rd {f : Nat → Int32} {a b : Nat} (h1 : 0 ≤ (f (104 + 3 * a + 2)).toInt ∧ (f (104 + 3 * a + 2)).toInt ≤ 999) (h2 : 0 ≤ (f (104 + 3 * b + 2)).toInt ∧ (f (104 + 3 * b + 2)).toInt ≤ 999) : (f (104 + 3 * b + 2) - f (104 + 3 * a + 2)).toInt = HRS (shf f 104) b - HRS (shf f 104) a := by
  have e1 : HRS (shf f 104) a = (f (104 + 3 * a + 2)).toInt := congrArg Int32.toInt (shf_st (f := f) (s := a) (c := 2))
  have e2 : HRS (shf f 104) b = (f (104 + 3 * b + 2)).toInt := congrArg Int32.toInt (shf_st (f := f) (s := b) (c := 2))
  rw [ti_sb (by omega) (by omega) (by omega) (by omega), e1, e2]
theorem BFV.rleast {K : Nat → Nat → Int → Prop} {f fm : Nat → Int32} {a b ca cb : Nat} (hc : CLB K (MAT fm)) (h1 : 0 ≤ (f (104 + 3 * a + 2)).toInt ∧ (f (104 + 3 * a + 2)).toInt ≤ 999) (h2 : 0 ≤ (f (104 + 3 * b + 2)).toInt ∧ (f (104 + 3 * b + 2)).toInt ≤ 999) (ea : f (104 + 3 * a + 1) = nI ca) (eb : f (104 + 3 * b + 1) = nI cb) (la : ca < 6) (lb : cb < 6) : (f (104 + 3 * b + 2) - f (104 + 3 * a + 2)) ≤ fm (6 * ca + cb) ↔ ¬ MAT fm (CKS (shf f 104) a) (CKS (shf f 104) b) < HRS (shf f 104) b - HRS (shf f 104) a := by
  have e4 := BFV.rd h1 h2
  have e3 : (fm (6 * ca + cb)).toInt = MAT fm ca cb := congrArg (fun z9 => (fm z9).toInt) (show 6 * ca + cb = ca * 6 + cb by omega)
  rw [Int32.le_iff_toInt_le, e4, e3, CKS.mk ea (by omega), CKS.mk eb (by omega)]
  omega
theorem BFV.rmost {K : Nat → Nat → Int → Prop} {f fm : Nat → Int32} {a b ca cb : Nat} (hc : CLB K (MAT fm)) (h1 : 0 ≤ (f (104 + 3 * a + 2)).toInt ∧ (f (104 + 3 * a + 2)).toInt ≤ 999) (h2 : 0 ≤ (f (104 + 3 * b + 2)).toInt ∧ (f (104 + 3 * b + 2)).toInt ≤ 999) (ea : f (104 + 3 * a + 1) = nI ca) (eb : f (104 + 3 * b + 1) = nI cb) (la : ca < 6) (lb : cb < 6) : (f (104 + 3 * b + 2) - f (104 + 3 * a + 2)) ≤ -(fm (6 * cb + ca)) ↔ ¬ -(MAT fm (CKS (shf f 104) b) (CKS (shf f 104) a)) < HRS (shf f 104) b - HRS (shf f 104) a := by
  have e4 := BFV.rd h1 h2
  have e3 : (fm (6 * cb + ca)).toInt = MAT fm cb ca := congrArg (fun z9 => (fm z9).toInt) (show 6 * cb + ca = cb * 6 + ca by omega)
  have h3 := hc.lim cb ca lb la
  rw [Int32.le_iff_toInt_le, e4, ti_ng (by omega) (by omega), e3, CKS.mk ea (by omega), CKS.mk eb (by omega)]
  omega
section WR
variable {p : Program} {l : Launch} {e : Env} {R : Room} {s : State} {m : MethodId} {args : Array Value} {below : List Frame} {meth : Method} {c : Code} {H : Heap} {locs : List Loc} {cells slots : Nat} {Q : State → Prop}
variable {pc : Nat} {ls : Array Slot} {rest : List Value} {G : GG} {ws : va_W} {A : Nat → Prop} {y0 : MethodName} {b0 : ByteArray} {mL0 : Nat} {rt0 : Option FieldType} {a : Nat} {H0 : Heap}
end WR
theorem AGF.all {fs : Nat → Int32} {s : Nat} {f t : Int32} (hft : f ≤ t) : (∀ y, f ≤ y → y ≤ t → AGF fs y s) ↔ ((fs (s * 8 + 5) = 1 ∧ fs (s * 8 + 3) < f) ∨ (¬ fs (s * 8 + 5) = 1 ∧ t ≤ fs (s * 8 + 3))) := by
  constructor
  · intro h
    by_cases c : fs (s * 8 + 5) = 1
    · rcases h f (Int32.le_refl f) hft with h1 | h1
      · exact Or.inl h1
      · exact absurd c h1.1
    · rcases h t hft (Int32.le_refl t) with h1 | h1
      · exact absurd h1.1 c
      · exact Or.inr h1
  · intro h y h1 h2
    rcases h with ⟨a, b⟩ | ⟨a, b⟩
    · exact Or.inl ⟨a, i_lt_le b h1⟩
    · exact Or.inr ⟨a, i_le_trans h2 b⟩
/-- the hours gone over so far -/
def ALI (fs : Nat → Int32) (s : Nat) (f t x al : Int32) : Prop := f ≤ x ∧ ((al = 1 ∧ ∀ y, f ≤ y → y < x → AGF fs y s) ∨ (al = 0 ∧ ¬ ∀ y, f ≤ y → y ≤ t → AGF fs y s))
theorem ALI.zero {fs : Nat → Int32} {s : Nat} {f t : Int32} : ALI fs s f t f 1 := ⟨Int32.le_refl f, Or.inl ⟨rfl, fun y h1 h2 => absurd h1 (Int32.not_le.mpr h2)⟩⟩
theorem inc_lt {x t : Int32} (h : x ≤ t) (ht : t.toInt ≤ 100000) : x < x + 1 ∧ ∀ y : Int32, y < x + 1 → y ≤ x := by
  rw [Int32.le_iff_toInt_le] at h
  have e1 : (1 : Int32).toInt = 1 := by decide
  have e := ti_add (a := x) (b := 1) (by rw [e1]; have := ti_lo x; omega) (by rw [e1]; omega)
  rw [e1] at e
  refine ⟨?_, fun y hy => ?_⟩
  · rw [Int32.lt_iff_toInt_lt, e]
    omega
  · rw [Int32.lt_iff_toInt_lt, e] at hy
    rw [Int32.le_iff_toInt_le]
    omega
theorem ALI.next {fs : Nat → Int32} {s : Nat} {f t x al : Int32} (h : ALI fs s f t x al) (hx : ¬ t < x) (ht : t.toInt ≤ 100000) (ha : ¬ al = 0) (hg : AGF fs x s) : ALI fs s f t (x + 1) 1 := by
  obtain ⟨h0, h⟩ := h
  have hxt := Int32.not_lt.mp hx
  obtain ⟨q1, q2⟩ := inc_lt hxt ht
  refine ⟨i_le_trans h0 (i_lt_le2 q1), Or.inl ⟨rfl, fun y h1 h2 => ?_⟩⟩
  rcases h with ⟨-, h⟩ | ⟨h, -⟩
  · by_cases c : y = x
    · rw [c]; exact hg
    · refine h y h1 ?_
      have h3 := q2 y h2
      rw [Int32.le_iff_toInt_le] at h3
      rw [Int32.lt_iff_toInt_lt]
      have h4 : y.toInt ≠ x.toInt := fun e => c (Int32.toInt_inj.mp e)
      omega
  · exact absurd h ha
theorem ALI.stop {fs : Nat → Int32} {s : Nat} {f t x al : Int32} (h : ALI fs s f t x al) (hx : ¬ t < x) (ht : t.toInt ≤ 100000) (hg : ¬ AGF fs x s) : ALI fs s f t (x + 1) 0 := by
  obtain ⟨h0, -⟩ := h
  have hxt := Int32.not_lt.mp hx
  obtain ⟨q1, q2⟩ := inc_lt hxt ht
  exact ⟨i_le_trans h0 (i_lt_le2 q1), Or.inr ⟨rfl, fun h9 => hg (h9 x h0 hxt)⟩⟩
theorem ALI.yes {fs : Nat → Int32} {s : Nat} {f t x al : Int32} (h : ALI fs s f t x al) (hx : t < x) (ha : ¬ al = 0) : ∀ y, f ≤ y → y ≤ t → AGF fs y s := by
  rcases h.2 with ⟨-, h⟩ | ⟨h, -⟩
  · exact fun y h1 h2 => h y h1 (by
      rw [Int32.lt_iff_toInt_lt] at *
      rw [Int32.le_iff_toInt_le] at h2
      omega)
  · exact absurd h ha
theorem ALI.no {fs : Nat → Int32} {s : Nat} {f t x al : Int32} (h : ALI fs s f t x al) (ha : al = 0) : ¬ ∀ y, f ≤ y → y ≤ t → AGF fs y s := by
  rcases h.2 with ⟨h, -⟩ | ⟨-, h⟩
  · exact absurd (h.symm.trans ha) (by decide)
  · exact h
theorem HIQ.rb {K : Nat → Nat → Int → Prop} {ft fm : Nat → Int32} {V : Nat → Prop} {by9 to9 z a b : Int32} {k p e : Nat} (he : e < 31) (hc : CLB K (MAT fm)) (h : (by9 = nI e ∧ ∃ s9, FST ft k p s9 ∧ V p ∧ a = TR0 ft fm s9 ∧ b = TR1 ft fm s9) ∨ (¬ by9 = nI e ∧ (to9 >>> (nI e &&& 31)) &&& 1 = 1 ∧ ∃ s9, LST ft k p s9 ∧ V p ∧ a = TR0 ft fm s9 ∧ b = TR1 ft fm s9 + z)) : INQ K ft V by9 to9 z k p e a b := by
  rcases h with ⟨h1, s, h2, h3, h4, h5⟩ | ⟨h1, ht, s, h2, h3, h4, h5⟩
  · exact Or.inl ⟨fm, s, hc, h3, h1, h2, h4, h5⟩
  · exact Or.inr ⟨fm, s, hc, h3, h1, HB.mk he ht, h2, h4, h5⟩
theorem NIQ.rn {K : Nat → Nat → Int → Prop} {ft : Nat → Int32} {V : Nat → Prop} {by9 to9 : Int32} {k p e : Nat} (h : (¬ V p ∨ ∀ s, s < k → ¬ ft (s * 3 + 0) = nI p) ∨ (¬ by9 = nI e ∧ ¬ (to9 >>> (nI e &&& 31)) &&& 1 = 1)) : NIQ K ft V by9 to9 k p e := by
  rcases h with (h | h) | ⟨h1, h2⟩
  · exact Or.inr (Or.inl h)
  · exact Or.inr (Or.inr (Or.inl h))
  · exact Or.inr (Or.inr (Or.inr ⟨h1, fun h9 => h2 h9.2.2⟩))
theorem HIQ.re {K : Nat → Nat → Int → Prop} {ft f : Nat → Int32} {V : Nat → Prop} {k p e : Nat} {a b : Int32} (h : HIQ K ft V (f (32 + 6 * p + 0)) (f (32 + 6 * p + 1)) (f (12 + 2 * e + 1)) k p e a b) : HIQ K ft V (shf f 32 (p * 6 + 0)) (shf f 32 (p * 6 + 1)) (shf f 12 (e * 2 + 1)) k p e a b := by
  rw [shf_pa, shf_pa, shf_pe]
  exact h
theorem shf_sa {f : Nat → Int32} {s c : Nat} : shf f 1424 (s * 8 + c) = f (1424 + 8 * s + c) := congrArg f (by omega)
theorem IMB.n0 {P : Nat → Prop} {n : Nat} {b : Int32} (h : b = IMB P n) (p : ¬ P n) : b ||| 0 = IMB P (n + 1) := by
  rw [Int32.or_zero]
  exact IMB.n h p
theorem IMS.yes {K : Nat → Nat → Int → Prop} {ft : Nat → Int32} {V : Nat → Prop} {fp fe fs : Nat → Int32} {k s : Nat} {f t : Int32} (hq : QSF K ft V fp fe fs k s f t) (hft : f ≤ t) (ha : ∀ y, f ≤ y → y ≤ t → AGF fs y s) : IMS fs (QSF K ft V fp fe fs k) s := ⟨f, t, hq, (AGF.all hft).mp ha⟩
theorem IMS.not {K : Nat → Nat → Int → Prop} {ft : Nat → Int32} {V : Nat → Prop} {fp fe fs : Nat → Int32} {k s : Nat} {f t : Int32} (hS : SVL ft k) (hq : QSF K ft V fp fe fs k s f t) (hft : f ≤ t) (ha : ¬ ∀ y, f ≤ y → y ≤ t → AGF fs y s) : ¬ IMS fs (QSF K ft V fp fe fs k) s := IMS.no hS hq (fun h9 => ha ((AGF.all hft).mpr h9))
theorem SVL.ofm {y : Nat → Int32} {n : Nat} (h : NI y) (hn : n ≤ 24) : SVL (shf y 104) n := SVL.of h (fun i hi => rfl) hn
theorem SPI.m {y fs : Nat → Int32} {n kp : Nat} (h : SPI fs n kp) (e : EQT y 1424 128 fs) (hn : n ≤ 16) : SPI (shf y 1424) n kp := fun s hs => by
  have q : shf y 1424 (s * 8 + 2) = fs (s * 8 + 2) := e (s * 8 + 2) (by omega)
  rw [q]
  exact h s hs
theorem SPO.m {y fs : Nat → Int32} {n kp : Nat} (h : SPO fs n kp) (e : EQT y 1424 128 fs) (hn : n ≤ 16) : SPO (shf y 1424) n kp := fun s hs => by
  have q1 : shf y 1424 (s * 8 + 1) = fs (s * 8 + 1) := e (s * 8 + 1) (by omega)
  have q3 : shf y 1424 (s * 8 + 3) = fs (s * 8 + 3) := e (s * 8 + 3) (by omega)
  have q4 : shf y 1424 (s * 8 + 4) = fs (s * 8 + 4) := e (s * 8 + 4) (by omega)
  rw [q1, q3, q4]
  exact h s hs
theorem CSQ.iff {fs gs fp gp : Nat → Int32} {td vd vl : Int32} {s n kp : Nat} (hs : ∀ i, i < 128 → gs i = fs i) (hp : ∀ i, i < 72 → gp i = fp i) (hn : n ≤ 16) (hkp : kp ≤ 12) (hSP : SPI fs n kp) (h : s < n) : CSQ fs fp td vd vl s ↔ CSQ gs gp td vd vl s := by
  obtain ⟨j, hj, e⟩ := Hs_nat (by omega) (hSP s h)
  unfold CSQ
  rw [hs (s * 8 + 7) (by omega), hs (s * 8 + 6) (by omega), hs (s * 8 + 2) (by omega), e, nI_clamp (by omega), SEE.cg (f := gp) (g := fp) (n := 72) hp (by omega)]
theorem QSF.cg {K : Nat → Nat → Int → Prop} {ft gt fp gp fe ge fs gs : Nat → Int32} {V U : Nat → Prop} {k n kp ke s : Nat} {f t : Int32} (h : ∀ i, i < 72 → gt i = ft i) (hk : k ≤ 24) (hv : ∀ p, p < 12 → (U p ↔ V p)) (hp : ∀ i, i < 72 → gp i = fp i) (he : ∀ i, i < 20 → ge i = fe i) (hs : ∀ i, i < 128 → gs i = fs i) (hn : n ≤ 16) (hkp : kp ≤ 12) (hke : ke ≤ 10) (hSP : SPI fs n kp) (hSO : SPO fs n ke) (hsn : s < n) (q : QSF K gt U gp ge gs k s f t) : QSF K ft V fp fe fs k s f t := by
  obtain ⟨p, hp1, e1⟩ := Hs_nat (by omega) (hSP s hsn)
  obtain ⟨e, he1, e2⟩ := Hs_nat (by omega) (hSO s hsn).1
  have q1 : gs (s * 8 + 2) = nI p := (hs _ (by omega)).trans e1
  have q2 : gs (s * 8 + 1) = nI e := (hs _ (by omega)).trans e2
  unfold QSF at q ⊢
  rw [q1, q2, nI_clamp (by omega), nI_clamp (by omega), hp (p * 6 + 0) (by omega), hp (p * 6 + 1) (by omega), he (e * 2 + 1) (by omega)] at q
  rw [e1, e2, nI_clamp (by omega), nI_clamp (by omega)]
  exact HIQ.cg h hk (hv p (by omega)) q
theorem IMB.law {K L : Nat → Nat → Int → Prop} {ft gt fp gp fe ge fs gs : Nat → Int32} {V U : Nat → Prop} {td vd vl : Int32} {k n kp ke : Nat} (e : K = L) (h : ∀ i, i < 72 → gt i = ft i) (hk : k ≤ 24) (hv : ∀ p, p < 12 → (U p ↔ V p)) (hp : ∀ i, i < 72 → gp i = fp i) (he : ∀ i, i < 20 → ge i = fe i) (hs : ∀ i, i < 128 → gs i = fs i) (hn : n ≤ 16) (hkp : kp ≤ 12) (hke : ke ≤ 10) (hSP : SPI fs n kp) (hSO : SPO fs n ke) : IMB (fun s9 => CSQ fs fp td vd vl s9 ∧ IMS fs (QSF K ft V fp fe fs k) s9) n = IMB (fun s9 => CSQ gs gp td vd vl s9 ∧ IMS gs (QSF L gt U gp ge gs k) s9) n := by
  subst e
  have hSPg : SPI gs n kp := fun s hs9 => by rw [hs _ (by omega)]; exact hSP s hs9
  have hSOg : SPO gs n ke := fun s hs9 => by rw [hs _ (by omega), hs _ (by omega), hs _ (by omega)]; exact hSO s hs9
  refine IMB.cg n (fun s hs9 => ?_)
  refine and_congr (CSQ.iff hs hp hn hkp hSP hs9) ?_
  have q3 := hs (s * 8 + 3) (by omega)
  have q5 := hs (s * 8 + 5) (by omega)
  constructor
  · intro ⟨f, t, q, c⟩
    refine ⟨f, t, QSF.cg (fun i hi => (h i hi).symm) hk (fun p hp9 => (hv p hp9).symm) (fun i hi => (hp i hi).symm) (fun i hi => (he i hi).symm) (fun i hi => (hs i hi).symm) hn hkp hke hSPg hSOg hs9 q, ?_⟩
    rw [q3, q5]
    exact c
  · intro ⟨f, t, q, c⟩
    refine ⟨f, t, QSF.cg h hk hv hp he hs hn hkp hke hSP hSO hs9 q, ?_⟩
    rw [q3, q5] at c
    exact c
section WR
variable {p : Program} {l : Launch} {e : Env} {R : Room} {s : State} {m : MethodId} {args : Array Value} {below : List Frame} {meth : Method} {c : Code} {H : Heap} {locs : List Loc} {cells slots : Nat} {Q : State → Prop}
variable {pc : Nat} {ls : Array Slot} {rest : List Value} {G : GG} {ws : va_W} {A : Nat → Prop} {y0 : MethodName} {b0 : ByteArray} {mL0 : Nat} {rt0 : Option FieldType} {a : Nat} {H0 : Heap}
end WR
theorem NI.slow {f : Nat → Int32} (h : NI f) {e : Nat} (he : e < 10) : 0 ≤ (shf f 12 (e * 2 + 1)).toInt ∧ (shf f 12 (e * 2 + 1)).toInt ≤ 48 := by
  have h1 := h (12 + (e * 2 + 1))
  rw [bnd_per (by omega) (by omega)] at h1
  exact h1
section WR
variable {p : Program} {l : Launch} {e : Env} {R : Room} {s : State} {m : MethodId} {args : Array Value} {below : List Frame} {meth : Method} {c : Code} {H : Heap} {locs : List Loc} {cells slots : Nat} {Q : State → Prop}
variable {pc : Nat} {ls : Array Slot} {rest : List Value} {G : GG} {ws : va_W} {A : Nat → Prop} {y0 : MethodName} {b0 : ByteArray} {mL0 : Nat} {rt0 : Option FieldType} {a : Nat} {H0 : Heap}
end WR
theorem WGS.nn {P : Nat → Prop} {fs : Nat → Int32} {h : Int32} {ks kp : Nat} (hO : SPO fs ks kp) (h16 : ks ≤ 16) : ∀ n, n ≤ ks → ∃ w, w ≤ 9 * n ∧ WGS P fs h n = nI w
  | 0, _ => ⟨0, Nat.le_refl _, rfl⟩
  | n + 1, hn => by
    obtain ⟨w, h1, h2⟩ := WGS.nn (P := P) (fs := fs) (h := h) hO h16 n (by omega)
    obtain ⟨v, v1, v2⟩ := (hO n (by omega)).2.2
    by_cases c : P n ∧ AGF fs h n
    · exact ⟨w + v, by omega, (WGS.y rfl c).symm.trans (by rw [h2, v2, nI_add])⟩
    · exact ⟨w, by omega, (WGS.n rfl c).symm.trans h2⟩
theorem WGS.pos {P : Nat → Prop} {fs : Nat → Int32} {h : Int32} {ks kp : Nat} (hO : SPO fs ks kp) (h16 : ks ≤ 16) : ¬ WGS P fs h ks < 0 := by
  obtain ⟨w, h1, h2⟩ := WGS.nn (P := P) (h := h) hO h16 ks (Nat.le_refl _)
  rw [h2]
  exact nI_pos (by omega)
/-- the hours gone over so far, the best of them -/
def QLI (W : Int32 → Int32) (f t x be le : Int32) : Prop := f ≤ x ∧ x.toInt ≤ t.toInt + 1 ∧ ((le = (-1) ∧ x = f ∧ be = f) ∨ (f < x ∧ le = W be ∧ f ≤ be ∧ be < x ∧ (∀ y, f ≤ y → y < x → W be ≤ W y) ∧ ∀ y, f ≤ y → y < be → W be < W y))
theorem QLI.zero {W : Int32 → Int32} {f t : Int32} (h : f ≤ t) : QLI W f t f f (-1) := ⟨Int32.le_refl f, by rw [Int32.le_iff_toInt_le] at h; omega, Or.inl ⟨rfl, rfl, rfl⟩⟩
theorem inc_i {x t : Int32} (hx : ¬ t < x) (ht : t.toInt ≤ 1167) : (x + 1).toInt = x.toInt + 1 := by
  have h1 := Int32.not_lt.mp hx
  rw [Int32.le_iff_toInt_le] at h1
  have e1 : (1 : Int32).toInt = 1 := by decide
  have e := ti_add (a := x) (b := 1) (by rw [e1]; have := ti_lo x; omega) (by rw [e1]; omega)
  rw [e1] at e
  exact e
theorem QLI.new {W : Int32 → Int32} {f t x be le w : Int32} (h : QLI W f t x be le) (hx : ¬ t < x) (ht : t.toInt ≤ 1167) (hw : w = W x) (hW : ∀ y, ¬ W y < 0) (hc : le < 0 ∨ w < le) : QLI W f t (x + 1) x w := by
  obtain ⟨h0, h1, h2⟩ := h
  have e := inc_i hx ht
  have hx2 := Int32.not_lt.mp hx
  rw [Int32.le_iff_toInt_le] at hx2 h0
  refine ⟨by rw [Int32.le_iff_toInt_le]; omega, by omega, Or.inr ⟨by rw [Int32.lt_iff_toInt_lt]; omega, hw, by rw [Int32.le_iff_toInt_le]; omega, by rw [Int32.lt_iff_toInt_lt]; omega, fun y h3 h4 => ?_, fun y h3 h4 => ?_⟩⟩
  · by_cases c : y = x
    · rw [c]; exact Int32.le_refl _
    · have c2 : y.toInt ≠ x.toInt := fun e9 => c (Int32.toInt_inj.mp e9)
      rw [Int32.lt_iff_toInt_lt] at h4
      rcases h2 with ⟨a1, a2, a3⟩ | ⟨a1, a2, a3, a4, a5, a6⟩
      · rw [Int32.le_iff_toInt_le, ← a2] at h3
        omega
      · have q := a5 y h3 (by rw [Int32.lt_iff_toInt_lt]; omega)
        rw [← a2] at q
        rcases hc with hc | hc
        · exact absurd (a2 ▸ hc) (hW be)
        · rw [← hw]
          exact i_lt_le2 (i_lt_le hc q)
  · rcases h2 with ⟨a1, a2, a3⟩ | ⟨a1, a2, a3, a4, a5, a6⟩
    · rw [Int32.le_iff_toInt_le, ← a2] at h3
      rw [Int32.lt_iff_toInt_lt] at h4
      omega
    · have q := a5 y h3 h4
      rw [← a2] at q
      rcases hc with hc | hc
      · exact absurd (a2 ▸ hc) (hW be)
      · rw [← hw]
        exact i_lt_le hc q
theorem QLI.old {W : Int32 → Int32} {f t x be le w : Int32} (h : QLI W f t x be le) (hx : ¬ t < x) (ht : t.toInt ≤ 1167) (hw : w = W x) (h3 : ¬ le < 0) (hc : le ≤ w) : QLI W f t (x + 1) be le := by
  obtain ⟨h0, h1, h2⟩ := h
  have e := inc_i hx ht
  have hx2 := Int32.not_lt.mp hx
  rw [Int32.le_iff_toInt_le] at hx2 h0
  rcases h2 with ⟨a1, a2, a3⟩ | ⟨a1, a2, a3, a4, a5, a6⟩
  · rw [a1] at h3
    exact absurd (by decide) h3
  · rw [Int32.lt_iff_toInt_lt] at a1
    refine ⟨by rw [Int32.le_iff_toInt_le]; omega, by omega, Or.inr ⟨by rw [Int32.lt_iff_toInt_lt]; omega, a2, a3, by rw [Int32.lt_iff_toInt_lt] at *; omega, fun y h5 h6 => ?_, a6⟩⟩
    by_cases c : y = x
    · rw [c, ← hw, ← a2]; exact hc
    · have c2 : y.toInt ≠ x.toInt := fun e9 => c (Int32.toInt_inj.mp e9)
      rw [Int32.lt_iff_toInt_lt] at h6
      exact a5 y h5 (by rw [Int32.lt_iff_toInt_lt]; omega)
theorem QLI.bst {W : Int32 → Int32} {f t x be le : Int32} (h : QLI W f t x be le) (hx : t < x) (hft : f ≤ t) : BST W f t be le := by
  obtain ⟨h0, h1, h2⟩ := h
  rw [Int32.lt_iff_toInt_lt] at hx
  rw [Int32.le_iff_toInt_le] at hft
  rcases h2 with ⟨a1, a2, a3⟩ | ⟨a1, a2, a3, a4, a5, a6⟩
  · rw [a2] at hx
    omega
  · rw [Int32.lt_iff_toInt_lt] at a4
    exact ⟨a2, a3, by rw [Int32.le_iff_toInt_le]; omega, fun y h3 h4 => a5 y h3 (by rw [Int32.le_iff_toInt_le] at h4; rw [Int32.lt_iff_toInt_lt]; omega), a6⟩
theorem PWS.iff {fs gs fp gp : Nat → Int32} {td vd vl : Int32} {s n kp e p : Nat} (hs : ∀ i, i < 128 → gs i = fs i) (hp : ∀ i, i < 72 → gp i = fp i) (hn : n ≤ 16) (hkp : kp ≤ 12) (hSP : SPI fs n kp) (h : s < n) : PWS fs fp td vd vl e p s ↔ PWS gs gp td vd vl e p s := by
  unfold PWS
  rw [hs (s * 8 + 1) (by omega), hs (s * 8 + 2) (by omega)]
  exact and_congr_right (fun _ => and_congr_right (fun _ => CSQ.iff hs hp hn hkp hSP h))
theorem AGF.eq {fs gs : Nat → Int32} {h : Int32} {s n : Nat} (hs : ∀ i, i < 128 → gs i = fs i) (hn : n ≤ 16) (hs9 : s < n) : AGF gs h s = AGF fs h s := by
  unfold AGF
  rw [hs (s * 8 + 5) (by omega), hs (s * 8 + 3) (by omega)]
theorem QRQ.uq {K L : Nat → Nat → Int → Prop} {ft gt fp gp fe ge fs gs : Nat → Int32} {V U : Nat → Prop} {td vd vl x1 x2 x3 r t : Int32} {k n kp ke : Nat} (h1 : QRQ K ft V fp fe fs td vd vl k kp ke n x1 x2 x3 r) (h2 : QRQ L gt U gp ge gs td vd vl k kp ke n x1 x2 x3 t) (e : K = L) (h : ∀ i, i < 72 → gt i = ft i) (hk : k ≤ 24) (hv : ∀ p, p < 12 → (U p ↔ V p)) (hS : SVL ft k) (hp : ∀ i, i < 72 → gp i = fp i) (he : ∀ i, i < 20 → ge i = fe i) (hs : ∀ i, i < 128 → gs i = fs i) (hn : n ≤ 16) (hkp : kp ≤ 12) (hke : ke ≤ 10) (hSP : SPI fs n kp) : r = t := by
  subst e
  have ok : ∀ a b : Nat, a < ke → b < kp → x1 = nI a → x2 = nI b → Wi x3 0 1 → Hs x1 ke ∧ Hs x2 kp ∧ Wi x3 0 1 := fun a b q1 q2 q3 q4 q5 => ⟨by rw [q3]; exact Hs.of q1 (by omega), by rw [q4]; exact Hs.of q2 (by omega), q5⟩
  rcases h1 with ⟨a, b⟩ | ⟨a, b, a1, b1, ea, eb, w, z⟩
  · rcases h2 with ⟨c, d⟩ | ⟨c, d, c1, d1, ec, ed, w2, z2⟩
    · exact b.trans d.symm
    · exact absurd (ok c d c1 d1 ec ed w2) a
  · rcases h2 with ⟨c, d⟩ | ⟨c, d, c1, d1, ec, ed, w2, z2⟩
    · exact absurd (ok a b a1 b1 ea eb w) c
    · have e1 : c = a := (nI_eq (by omega) (by omega)).mp (ec.symm.trans ea)
      have e2 : d = b := (nI_eq (by omega) (by omega)).mp (ed.symm.trans eb)
      rw [e1, e2] at z2
      rcases z with ⟨z, y⟩ | ⟨z, f, tt, bb, ll, q1, q2, q3⟩
      · rcases z2 with ⟨z2, y2⟩ | ⟨z2, -⟩
        · exact y.trans y2.symm
        · exact absurd ((hv b (by omega)).mp z2) z
      · rcases z2 with ⟨z2, y2⟩ | ⟨z2, f2, t2, b2, l2, p1, p2, p3⟩
        · exact absurd ((hv b (by omega)).mpr z) z2
        · rw [hp (b * 6 + 0) (by omega), hp (b * 6 + 1) (by omega), he (a * 2 + 1) (by omega)] at p1
          obtain ⟨f1, f3⟩ := HIQ.uniq hS q1 (HIQ.cg h hk (hv b (by omega)) p1)
          have ew : (fun h9 => WGS (PWS gs gp td vd vl a b) gs h9 n) = (fun h9 => WGS (PWS fs fp td vd vl a b) fs h9 n) := by
            funext h9
            refine WGS.cg n (fun s hs9 => ⟨?_, hs (s * 8 + 4) (by omega)⟩)
            rw [AGF.eq hs hn hs9]
            exact and_congr (PWS.iff hs hp hn hkp hSP hs9).symm Iff.rfl
          rw [ew, ← f1, ← f3] at p2
          obtain ⟨g1, g2⟩ := BST.uniq q2 p2
          rcases q3 with ⟨m, y⟩ | ⟨m, y⟩
          · rcases p3 with ⟨m2, y2⟩ | ⟨m2, y2⟩
            · rw [y, y2, g2]
            · exact absurd m m2
          · rcases p3 with ⟨m2, y2⟩ | ⟨m2, y2⟩
            · exact absurd m2 m
            · rw [y, y2, g1]
theorem PSL.of {y fe : Nat → Int32} (h : NI y) (e : EQT y 12 20 fe) : PSL fe := fun p hp => by
  have q := NI.slow h hp
  have q2 : shf y 12 (p * 2 + 1) = fe (p * 2 + 1) := e (p * 2 + 1) (by omega)
  rw [q2] at q
  exact q
section WR
variable {p : Program} {l : Launch} {e : Env} {R : Room} {s : State} {m : MethodId} {args : Array Value} {below : List Frame} {meth : Method} {c : Code} {H : Heap} {locs : List Loc} {cells slots : Nat} {Q : State → Prop}
variable {pc : Nat} {ls : Array Slot} {rest : List Value} {G : GG} {ws : va_W} {A : Nat → Prop} {y0 : MethodName} {b0 : ByteArray} {mL0 : Nat} {rt0 : Option FieldType} {a : Nat} {H0 : Heap}
end WR
set_option maxHeartbeats 4000000 in
set_option maxRecDepth 100000 in
theorem p_sayingT (l : Launch) (G : GG) (h0 : Nat) (x1 : Int32) (x2 : Int32) (x3 : Int32) (x4 : Int32) (x5 : Int32) (x6 : Int32) (bb : Nat) (kk : Nat) (ikp : Int32) (sg : Nat) (do9 : Nat) (ru9 : Nat) (ta9 : Nat) (tp9 : Nat) (ro9 : Nat) (ho9 : Nat) (de9 : Nat) (bpersons : Nat) (bpapers : Nat) (bstamps : Nat) (bversions : Nat) (blines : Nat) (bsteps : Nat) (bsayings : Nat) (bfindings : Nat) (bwarnings : Nat) (bquestions : Nat) (td : Int32) (vd : Int32) (vl : Int32) (gp : Int32) (bsayingsc : Nat) (kbsayings : Nat) (fbsayings : Nat → Int32) (bpersonsc : Nat) (kbpersons : Nat) (bpapersc : Nat) (kbpapers : Nat) (hkbsayings : kbsayings ≤ 16) (hkbpersons : kbpersons ≤ 10) (hkbpapers : kbpapers ≤ 12) (hSP : SPI fbsayings kbsayings kbpapers) (hSO : SPO fbsayings kbsayings kbpersons) : MI l G yX11_saying cX11_saying 8 (some .int) 4 0 0 [.ref h0, .int x1, .int x2, .int x3, .int x4, .int x5, .int x6] [(h0, .inr (11, [.ref bb, .ref kk, .int ikp, .ref sg, .ref do9, .ref ru9, .ref ta9, .ref tp9, .ref ro9, .ref ho9, .ref de9])), (bb, .inr (0, [.ref bpersons, .ref bpapers, .ref bstamps, .ref bversions, .ref blines, .ref bsteps, .ref bsayings, .ref bfindings, .ref bwarnings, .ref bquestions, .int td, .int vd, .int vl, .int gp])), (bsayings, .inr (8, [.int 16, .int 8, .ref bsayingsc, .int (nI kbsayings)])), (bsayingsc, .inl (G.2.1, 128, .inl fbsayings)), (bpersons, .inr (8, [.int 10, .int 2, .ref bpersonsc, .int (nI kbpersons)])), (bpapers, .inr (8, [.int 12, .int 6, .ref bpapersc, .int (nI kbpapers)]))] (fun (r : Int32) (u : Nat × (Nat → Int32)) => (r = ifc (Hs x1 kbpersons) (ifc (Hs x2 kbpersons) (ifc (Hs x3 kbpapers) (ifc (HOW x4) (ifc (TLK x6 kbsayings) (ifc (16 ≤ kbsayings) (-2) (nI kbsayings)) (-1)) (-1)) (-1)) (-1)) (-1)) ∧ (u.1 ≤ 16 ∧ kbsayings ≤ u.1 ∧ nI u.1 = ifc (Hs x1 kbpersons) (ifc (Hs x2 kbpersons) (ifc (Hs x3 kbpapers) (ifc (HOW x4) (ifc (TLK x6 kbsayings) (ifc (16 ≤ kbsayings) (nI kbsayings) (nI (kbsayings + 1))) (nI kbsayings)) (nI kbsayings)) (nI kbsayings)) (nI kbsayings)) (nI kbsayings) ∧ SPI u.2 u.1 kbpapers ∧ SPO u.2 u.1 kbpersons ∧ ∀ i : Nat, u.2 i = ifc (Hs x1 kbpersons) (ifc (Hs x2 kbpersons) (ifc (Hs x3 kbpapers) (ifc (HOW x4) (ifc (TLK x6 kbsayings) (ifc (16 ≤ kbsayings) (fbsayings i) (rowu fbsayings (kbsayings * 8) [x1, x2, x3, x4 / 10, x4 - x4 / 10 * 10, ifc (x5 = 0) 0 1, x6, td] i)) (fbsayings i)) (fbsayings i)) (fbsayings i)) (fbsayings i)) (fbsayings i))) (fun u : Nat × (Nat → Int32) => [(h0, .inr (11, [.ref bb, .ref kk, .int ikp, .ref sg, .ref do9, .ref ru9, .ref ta9, .ref tp9, .ref ro9, .ref ho9, .ref de9])), (bb, .inr (0, [.ref bpersons, .ref bpapers, .ref bstamps, .ref bversions, .ref blines, .ref bsteps, .ref bsayings, .ref bfindings, .ref bwarnings, .ref bquestions, .int td, .int vd, .int vl, .int gp])), (bsayings, .inr (8, [.int 16, .int 8, .ref bsayingsc, .int (nI u.1)])), (bsayingsc, .inl (G.2.1, 128, .inl u.2)), (bpersons, .inr (8, [.int 10, .int 2, .ref bpersonsc, .int (nI kbpersons)])), (bpapers, .inr (8, [.int 12, .int 6, .ref bpapersc, .int (nI kbpapers)]))]) := by
  refine MI.start (by decide +kernel) (Nat.le_of_ble_eq_true rfl) ?_
  intro p e s m below meth c A ls hC hK hP hD hS hA hl
  have hl : lv_has ls 8 [(0, .ref h0), (1, .int x1), (2, .int x2), (3, .int x3), (4, .int x4), (5, .int x5), (6, .int x6)] := hl
  obtain ⟨hx, hb, hr, hml, hB, hown, hlocks, hnm⟩ := id hC
  refine lv_aload_n hx hb dX11_saying_0 rfl (lv_at hl 0 rfl) ?_
  refine gf_X11_15 hC rfl hK hP 0 rfl rfl dX11_saying_1 ?_
  refine gf_X11_107 hC rfl hK hP 1 rfl rfl dX11_saying_4 ?_
  refine lv_iload_n hx hb dX11_saying_7 rfl (lv_at hl 1 rfl) ?_
  refine pV hC hK hl hP hD (c_T_has l G bpersons x1 10 2 bpersonsc kbpersons) si_X11_124 [4] rfl rfl (by decide) rfl rfl rfl rfl rfl (Nat.le_of_ble_eq_true rfl) ⟨Nat.le_of_ble_eq_true rfl, Nat.le_of_ble_eq_true rfl⟩ ⟨by first | exact Nat.le_of_ble_eq_true rfl | exact Nat.zero_le _, by first | exact Nat.le_of_ble_eq_true rfl | exact Nat.zero_le _⟩ dX11_saying_8 (fun r10128 hr10128 => ?_)
  rcases hr10128 with ⟨rfl, a10129⟩ | ⟨rfl, a10129⟩
  · refine lv_if_eq (tgt := 42) hx hb dX11_saying_11 (by decide) (fun c9 => absurd c9 (by decide)) (fun _ => ?_)
    refine lv_aload_n hx hb dX11_saying_14 rfl (lv_at hl 0 rfl) ?_
    refine gf_X11_15 hC rfl hK hP 0 rfl rfl dX11_saying_15 ?_
    refine gf_X11_107 hC rfl hK hP 1 rfl rfl dX11_saying_18 ?_
    refine lv_iload_n hx hb dX11_saying_21 rfl (lv_at hl 2 rfl) ?_
    refine pV hC hK hl hP hD (c_T_has l G bpersons x2 10 2 bpersonsc kbpersons) si_X11_124 [4] rfl rfl (by decide) rfl rfl rfl rfl rfl (Nat.le_of_ble_eq_true rfl) ⟨Nat.le_of_ble_eq_true rfl, Nat.le_of_ble_eq_true rfl⟩ ⟨by first | exact Nat.le_of_ble_eq_true rfl | exact Nat.zero_le _, by first | exact Nat.le_of_ble_eq_true rfl | exact Nat.zero_le _⟩ dX11_saying_22 (fun r10130 hr10130 => ?_)
    rcases hr10130 with ⟨rfl, a10131⟩ | ⟨rfl, a10131⟩
    · refine lv_if_eq (tgt := 42) hx hb dX11_saying_25 (by decide) (fun c9 => absurd c9 (by decide)) (fun _ => ?_)
      refine lv_aload_n hx hb dX11_saying_28 rfl (lv_at hl 0 rfl) ?_
      refine gf_X11_15 hC rfl hK hP 0 rfl rfl dX11_saying_29 ?_
      refine gf_X11_144 hC rfl hK hP 1 rfl rfl dX11_saying_32 ?_
      refine lv_iload_n hx hb dX11_saying_35 rfl (lv_at hl 3 rfl) ?_
      refine pV hC hK hl hP hD (c_T_has l G bpapers x3 12 6 bpapersc kbpapers) si_X11_124 [5] rfl rfl (by decide) rfl rfl rfl rfl rfl (Nat.le_of_ble_eq_true rfl) ⟨Nat.le_of_ble_eq_true rfl, Nat.le_of_ble_eq_true rfl⟩ ⟨by first | exact Nat.le_of_ble_eq_true rfl | exact Nat.zero_le _, by first | exact Nat.le_of_ble_eq_true rfl | exact Nat.zero_le _⟩ dX11_saying_36 (fun r10132 hr10132 => ?_)
      rcases hr10132 with ⟨rfl, a10133⟩ | ⟨rfl, a10133⟩
      · refine lv_if_ne (tgt := 44) hx hb dX11_saying_39 (by decide) (fun _ => ?_) (fun c9 => absurd c9 (by decide))
        refine lv_iload hx hb dX11_saying_44 (lv_at hl 4 rfl) ?_
        refine lv_if_lt (tgt := 72) hx hb dX11_saying_46 (by decide) (fun c_46_10134 => ?_) (fun c_46_10134 => ?_)
        · refine lv_iconst (v := (-1)) hx hb dX11_saying_72 (by decide) ?_
          exact RI (v := (-1)) hC hP hD hS [0, 1, 2, 3, 4, 5] (kbsayings, fbsayings) rfl rfl (by decide) (⟨(by first | rfl | (simp only [ifc_t hkbsayings, ifc_t hkbpersons, ifc_t hkbpapers, ifc_t hSP, ifc_t hSO, ifc_t a10129, ifc_t a10131, ifc_t a10133, ifc_t c_46_10134, ifc_f (how0 c_46_10134)]; done) | (simp only [ifc_t hkbsayings, ifc_t hkbpersons, ifc_t hkbpapers, ifc_t hSP, ifc_t hSO, ifc_t a10129, ifc_t a10131, ifc_t a10133, ifc_t c_46_10134, ifc_f (how0 c_46_10134)]; rfl) | (dsimp only; simp only [ifc_t hkbsayings, ifc_t hkbpersons, ifc_t hkbpapers, ifc_t hSP, ifc_t hSO, ifc_t a10129, ifc_t a10131, ifc_t a10133, ifc_t c_46_10134, ifc_f (how0 c_46_10134)]; done)), ⟨by omega, by omega, (by first | rfl | (simp only [ifc_t hkbsayings, ifc_t hkbpersons, ifc_t hkbpapers, ifc_t hSP, ifc_t hSO, ifc_t a10129, ifc_t a10131, ifc_t a10133, ifc_t c_46_10134, ifc_f (how0 c_46_10134)]; done) | (simp only [ifc_t hkbsayings, ifc_t hkbpersons, ifc_t hkbpapers, ifc_t hSP, ifc_t hSO, ifc_t a10129, ifc_t a10131, ifc_t a10133, ifc_t c_46_10134, ifc_f (how0 c_46_10134)]; rfl) | (dsimp only; simp only [ifc_t hkbsayings, ifc_t hkbpersons, ifc_t hkbpapers, ifc_t hSP, ifc_t hSO, ifc_t a10129, ifc_t a10131, ifc_t a10133, ifc_t c_46_10134, ifc_f (how0 c_46_10134)]; done)), ⟨hSP, hSO⟩, (fun i => by first | rfl | (simp only [ifc_t hkbsayings, ifc_t hkbpersons, ifc_t hkbpapers, ifc_t hSP, ifc_t hSO, ifc_t a10129, ifc_t a10131, ifc_t a10133, ifc_t c_46_10134, ifc_f (how0 c_46_10134)]; done))⟩⟩) rfl dX11_saying_73
        · refine lv_iload hx hb dX11_saying_49 (lv_at hl 4 rfl) ?_
          refine lv_bipush (v := 10) hx hb dX11_saying_51 (by decide) ?_
          refine lv_idiv hx hb dX11_saying_53 (by decide) ?_
          refine lv_topi (fun x10135 ex10135 => ?_)
          refine lv_iconst (v := 0) hx hb dX11_saying_54 (by decide) ?_
          refine lv_sipush (v := 999) hx hb dX11_saying_55 (by decide) ?_
          refine pS hC hK hl (c_within l G x10135 0 999) si_X11_83 rfl rfl (Nat.le_of_ble_eq_true rfl) ⟨Nat.le_of_ble_eq_true rfl, Nat.le_of_ble_eq_true rfl⟩ ⟨by first | exact Nat.le_of_ble_eq_true rfl | exact Nat.zero_le _, by first | exact Nat.le_of_ble_eq_true rfl | exact Nat.zero_le _⟩ dX11_saying_58 (fun r10136 hr10136 => ?_)
          rcases hr10136 with ⟨rfl, a10137⟩ | ⟨rfl, a10137⟩
          · refine lv_if_eq (tgt := 72) hx hb dX11_saying_61 (by decide) (fun c9 => absurd c9 (by decide)) (fun _ => ?_)
            refine lv_iload hx hb dX11_saying_64 (lv_at hl 4 rfl) ?_
            refine lv_bipush (v := 10) hx hb dX11_saying_66 (by decide) ?_
            refine lv_irem hx hb dX11_saying_68 (by decide) ?_
            refine lv_topi (fun x10138 ex10138 => ?_)
            refine lv_if_ne (tgt := 74) hx hb dX11_saying_69 (by decide) (fun c_69_10139 => ?_) (fun c_69_10139 => ?_)
            · refine lv_iload hx hb dX11_saying_74 (lv_at hl 6 rfl) ?_
              refine lv_iconst (v := (-1)) hx hb dX11_saying_76 (by decide) ?_
              refine lv_icmp_eq (tgt := 97) hx hb dX11_saying_77 (by decide) (fun c_77_10140 => ?_) (fun c_77_10140 => ?_)
              · refine lv_aload_n hx hb dX11_saying_97 rfl (lv_at hl 0 rfl) ?_
                refine gf_X11_15 hC rfl hK hP 0 rfl rfl dX11_saying_98 ?_
                refine gf_X11_256 hC rfl hK hP 1 rfl rfl dX11_saying_101 ?_
                refine pV hC hK hl hP hD (c_T_isFull l G bsayings 16 8 bsayingsc kbsayings (hkbsayings) (by omega)) si_X11_111 [2] rfl rfl (by decide) rfl rfl rfl rfl rfl (Nat.le_of_ble_eq_true rfl) ⟨Nat.le_of_ble_eq_true rfl, Nat.le_of_ble_eq_true rfl⟩ ⟨by first | exact Nat.le_of_ble_eq_true rfl | exact Nat.zero_le _, by first | exact Nat.le_of_ble_eq_true rfl | exact Nat.zero_le _⟩ dX11_saying_104 (fun r10141 hr10141 => ?_)
                rcases hr10141 with ⟨rfl, a10142⟩ | ⟨rfl, a10142⟩
                · refine lv_if_eq (tgt := 113) hx hb dX11_saying_107 (by decide) (fun c9 => absurd c9 (by decide)) (fun _ => ?_)
                  refine lv_bipush (v := (-2)) hx hb dX11_saying_110 (by decide) ?_
                  exact RI (v := (-2)) hC hP hD hS [0, 1, 2, 3, 4, 5] (kbsayings, fbsayings) rfl rfl (by decide) (⟨(by first | rfl | (simp only [ifc_t hkbsayings, ifc_t hkbpersons, ifc_t hkbpapers, ifc_t hSP, ifc_t hSO, ifc_t a10129, ifc_t a10131, ifc_t a10133, ifc_f c_46_10134, ifc_t a10137, ifc_f c_69_10139, ifc_t c_77_10140, ifc_t a10142, ifc_t (howC c_46_10134 ex10135 a10137 ex10138 c_69_10139), ifc_t (q := TLK x6 kbsayings) (Or.inl c_77_10140)]; done) | (simp only [ifc_t hkbsayings, ifc_t hkbpersons, ifc_t hkbpapers, ifc_t hSP, ifc_t hSO, ifc_t a10129, ifc_t a10131, ifc_t a10133, ifc_f c_46_10134, ifc_t a10137, ifc_f c_69_10139, ifc_t c_77_10140, ifc_t a10142, ifc_t (howC c_46_10134 ex10135 a10137 ex10138 c_69_10139), ifc_t (q := TLK x6 kbsayings) (Or.inl c_77_10140)]; rfl) | (dsimp only; simp only [ifc_t hkbsayings, ifc_t hkbpersons, ifc_t hkbpapers, ifc_t hSP, ifc_t hSO, ifc_t a10129, ifc_t a10131, ifc_t a10133, ifc_f c_46_10134, ifc_t a10137, ifc_f c_69_10139, ifc_t c_77_10140, ifc_t a10142, ifc_t (howC c_46_10134 ex10135 a10137 ex10138 c_69_10139), ifc_t (q := TLK x6 kbsayings) (Or.inl c_77_10140)]; done)), ⟨by omega, by omega, (by first | rfl | (simp only [ifc_t hkbsayings, ifc_t hkbpersons, ifc_t hkbpapers, ifc_t hSP, ifc_t hSO, ifc_t a10129, ifc_t a10131, ifc_t a10133, ifc_f c_46_10134, ifc_t a10137, ifc_f c_69_10139, ifc_t c_77_10140, ifc_t a10142, ifc_t (howC c_46_10134 ex10135 a10137 ex10138 c_69_10139), ifc_t (q := TLK x6 kbsayings) (Or.inl c_77_10140)]; done) | (simp only [ifc_t hkbsayings, ifc_t hkbpersons, ifc_t hkbpapers, ifc_t hSP, ifc_t hSO, ifc_t a10129, ifc_t a10131, ifc_t a10133, ifc_f c_46_10134, ifc_t a10137, ifc_f c_69_10139, ifc_t c_77_10140, ifc_t a10142, ifc_t (howC c_46_10134 ex10135 a10137 ex10138 c_69_10139), ifc_t (q := TLK x6 kbsayings) (Or.inl c_77_10140)]; rfl) | (dsimp only; simp only [ifc_t hkbsayings, ifc_t hkbpersons, ifc_t hkbpapers, ifc_t hSP, ifc_t hSO, ifc_t a10129, ifc_t a10131, ifc_t a10133, ifc_f c_46_10134, ifc_t a10137, ifc_f c_69_10139, ifc_t c_77_10140, ifc_t a10142, ifc_t (howC c_46_10134 ex10135 a10137 ex10138 c_69_10139), ifc_t (q := TLK x6 kbsayings) (Or.inl c_77_10140)]; done)), ⟨hSP, hSO⟩, (fun i => by first | rfl | (simp only [ifc_t hkbsayings, ifc_t hkbpersons, ifc_t hkbpapers, ifc_t hSP, ifc_t hSO, ifc_t a10129, ifc_t a10131, ifc_t a10133, ifc_f c_46_10134, ifc_t a10137, ifc_f c_69_10139, ifc_t c_77_10140, ifc_t a10142, ifc_t (howC c_46_10134 ex10135 a10137 ex10138 c_69_10139), ifc_t (q := TLK x6 kbsayings) (Or.inl c_77_10140)]; done))⟩⟩) rfl dX11_saying_112
                · refine lv_if_eq (tgt := 113) hx hb dX11_saying_107 (by decide) (fun _ => ?_) (fun c9 => absurd (by decide) c9)
                  refine lv_aload_n hx hb dX11_saying_113 rfl (lv_at hl 0 rfl) ?_
                  refine gf_X11_15 hC rfl hK hP 0 rfl rfl dX11_saying_114 ?_
                  refine gf_X11_256 hC rfl hK hP 1 rfl rfl dX11_saying_117 ?_
                  refine iV (wr := [(h0, .inr (11, [.ref bb, .ref kk, .int ikp, .ref sg, .ref do9, .ref ru9, .ref ta9, .ref tp9, .ref ro9, .ref ho9, .ref de9])), (bb, .inr (0, [.ref bpersons, .ref bpapers, .ref bstamps, .ref bversions, .ref blines, .ref bsteps, .ref bsayings, .ref bfindings, .ref bwarnings, .ref bquestions, .int td, .int vd, .int vl, .int gp])), (bsayingsc, .inl (G.2.1, 128, .inl fbsayings)), (bpersons, .inr (8, [.int 10, .int 2, .ref bpersonsc, .int (nI kbpersons)])), (bpapers, .inr (8, [.int 12, .int 6, .ref bpapersc, .int (nI kbpapers)]))]) hC hK hl hP hD hS hA (c_T_append l G bsayings 16 8 bsayingsc kbsayings (a10142) (by omega)) si_X11_117 [2] [0, 1, 3, 4, 5] rfl rfl (by decide) rfl (by decide) (by decide) rfl rfl rfl rfl rfl (Nat.le_of_ble_eq_true rfl) ⟨Nat.le_of_ble_eq_true rfl, Nat.le_of_ble_eq_true rfl⟩ ⟨Nat.le_of_ble_eq_true rfl, Nat.le_of_ble_eq_true rfl⟩ dX11_saying_120 (fun r10143 u10144 H locs hr10143 hP hD hS => ?_)
                  have hPD : va_PD G A [(h0, .inr (11, [.ref bb, .ref kk, .int ikp, .ref sg, .ref do9, .ref ru9, .ref ta9, .ref tp9, .ref ro9, .ref ho9, .ref de9])), (bb, .inr (0, [.ref bpersons, .ref bpapers, .ref bstamps, .ref bversions, .ref blines, .ref bsteps, .ref bsayings, .ref bfindings, .ref bwarnings, .ref bquestions, .int td, .int vd, .int vl, .int gp])), (bsayingsc, .inl (G.2.1, 128, .inl fbsayings)), (bpersons, .inr (8, [.int 10, .int 2, .ref bpersonsc, .int (nI kbpersons)])), (bpapers, .inr (8, [.int 12, .int 6, .ref bpapersc, .int (nI kbpapers)])), (bsayings, .inr (8, [.int 16, .int 8, .ref bsayingsc, .int (nI (kbsayings + 1))]))] H := And.intro hP hD
                  obtain ⟨hP, hD⟩ := hPD
                  obtain rfl := hr10143
                  refine lv_istore (lv' := [(7, .int (nI kbsayings)), (0, .ref h0), (1, .int x1), (2, .int x2), (3, .int x3), (4, .int x4), (5, .int x5), (6, .int x6)]) hx hb dX11_saying_123 hl (by decide) rfl (fun ls hl => ?_)
                  refine lv_aload_n hx hb dX11_saying_125 rfl (lv_at hl 1 rfl) ?_
                  refine gf_X11_15 hC rfl hK hP 0 rfl rfl dX11_saying_126 ?_
                  refine gf_X11_256 hC rfl hK hP 1 rfl rfl dX11_saying_129 ?_
                  refine lv_iload hx hb dX11_saying_132 (lv_at hl 0 rfl) ?_
                  refine lv_iconst (v := 0) hx hb dX11_saying_134 (by decide) ?_
                  refine lv_iload_n hx hb dX11_saying_135 rfl (lv_at hl 2 rfl) ?_
                  refine vV (wr := [(h0, .inr (11, [.ref bb, .ref kk, .int ikp, .ref sg, .ref do9, .ref ru9, .ref ta9, .ref tp9, .ref ro9, .ref ho9, .ref de9])), (bb, .inr (0, [.ref bpersons, .ref bpapers, .ref bstamps, .ref bversions, .ref blines, .ref bsteps, .ref bsayings, .ref bfindings, .ref bwarnings, .ref bquestions, .int td, .int vd, .int vl, .int gp])), (bpersons, .inr (8, [.int 10, .int 2, .ref bpersonsc, .int (nI kbpersons)])), (bpapers, .inr (8, [.int 12, .int 6, .ref bpapersc, .int (nI kbpapers)]))]) hC hK hl hP hD hS hA (c_T_set l G bsayings (nI kbsayings) 0 x1 16 8 bsayingsc (kbsayings + 1) fbsayings (by omega) (by omega) (by omega)) si_X11_120 [5, 2] [0, 1, 3, 4] rfl rfl (by decide) rfl (by decide) (by decide) rfl rfl rfl rfl rfl (Nat.le_of_ble_eq_true rfl) ⟨Nat.le_of_ble_eq_true rfl, Nat.le_of_ble_eq_true rfl⟩ ⟨Nat.le_of_ble_eq_true rfl, Nat.le_of_ble_eq_true rfl⟩ dX11_saying_136 (fun u10147 H locs hr10146 hP hD hS => ?_)
                  obtain ⟨f110148, rfl⟩ : ∃ z9, z9 = u10147 := ⟨_, rfl⟩
                  try dsimp only at hr10146
                  have hPD : va_PD G A [(h0, .inr (11, [.ref bb, .ref kk, .int ikp, .ref sg, .ref do9, .ref ru9, .ref ta9, .ref tp9, .ref ro9, .ref ho9, .ref de9])), (bb, .inr (0, [.ref bpersons, .ref bpapers, .ref bstamps, .ref bversions, .ref blines, .ref bsteps, .ref bsayings, .ref bfindings, .ref bwarnings, .ref bquestions, .int td, .int vd, .int vl, .int gp])), (bpersons, .inr (8, [.int 10, .int 2, .ref bpersonsc, .int (nI kbpersons)])), (bpapers, .inr (8, [.int 12, .int 6, .ref bpapersc, .int (nI kbpapers)])), (bsayings, .inr (8, [.int 16, .int 8, .ref bsayingsc, .int (nI (kbsayings + 1))])), (bsayingsc, .inl (G.2.1, 128, .inl f110148))] H := And.intro hP hD
                  obtain ⟨hP, hD⟩ := hPD
                  have w10149 := hr10146
                  refine lv_aload_n hx hb dX11_saying_139 rfl (lv_at hl 1 rfl) ?_
                  refine gf_X11_15 hC rfl hK hP 0 rfl rfl dX11_saying_140 ?_
                  refine gf_X11_256 hC rfl hK hP 1 rfl rfl dX11_saying_143 ?_
                  refine lv_iload hx hb dX11_saying_146 (lv_at hl 0 rfl) ?_
                  refine lv_iconst (v := 1) hx hb dX11_saying_148 (by decide) ?_
                  refine lv_iload_n hx hb dX11_saying_149 rfl (lv_at hl 3 rfl) ?_
                  refine vV (wr := [(h0, .inr (11, [.ref bb, .ref kk, .int ikp, .ref sg, .ref do9, .ref ru9, .ref ta9, .ref tp9, .ref ro9, .ref ho9, .ref de9])), (bb, .inr (0, [.ref bpersons, .ref bpapers, .ref bstamps, .ref bversions, .ref blines, .ref bsteps, .ref bsayings, .ref bfindings, .ref bwarnings, .ref bquestions, .int td, .int vd, .int vl, .int gp])), (bpersons, .inr (8, [.int 10, .int 2, .ref bpersonsc, .int (nI kbpersons)])), (bpapers, .inr (8, [.int 12, .int 6, .ref bpapersc, .int (nI kbpapers)]))]) hC hK hl hP hD hS hA (c_T_set l G bsayings (nI kbsayings) 1 x2 16 8 bsayingsc (kbsayings + 1) f110148 (by omega) (by omega) (by omega)) si_X11_120 [4, 5] [0, 1, 2, 3] rfl rfl (by decide) rfl (by decide) (by decide) rfl rfl rfl rfl rfl (Nat.le_of_ble_eq_true rfl) ⟨Nat.le_of_ble_eq_true rfl, Nat.le_of_ble_eq_true rfl⟩ ⟨Nat.le_of_ble_eq_true rfl, Nat.le_of_ble_eq_true rfl⟩ dX11_saying_150 (fun u10151 H locs hr10150 hP hD hS => ?_)
                  obtain ⟨f110152, rfl⟩ : ∃ z9, z9 = u10151 := ⟨_, rfl⟩
                  try dsimp only at hr10150
                  have hPD : va_PD G A [(h0, .inr (11, [.ref bb, .ref kk, .int ikp, .ref sg, .ref do9, .ref ru9, .ref ta9, .ref tp9, .ref ro9, .ref ho9, .ref de9])), (bb, .inr (0, [.ref bpersons, .ref bpapers, .ref bstamps, .ref bversions, .ref blines, .ref bsteps, .ref bsayings, .ref bfindings, .ref bwarnings, .ref bquestions, .int td, .int vd, .int vl, .int gp])), (bpersons, .inr (8, [.int 10, .int 2, .ref bpersonsc, .int (nI kbpersons)])), (bpapers, .inr (8, [.int 12, .int 6, .ref bpapersc, .int (nI kbpapers)])), (bsayings, .inr (8, [.int 16, .int 8, .ref bsayingsc, .int (nI (kbsayings + 1))])), (bsayingsc, .inl (G.2.1, 128, .inl f110152))] H := And.intro hP hD
                  obtain ⟨hP, hD⟩ := hPD
                  have w10153 := hr10150
                  refine lv_aload_n hx hb dX11_saying_153 rfl (lv_at hl 1 rfl) ?_
                  refine gf_X11_15 hC rfl hK hP 0 rfl rfl dX11_saying_154 ?_
                  refine gf_X11_256 hC rfl hK hP 1 rfl rfl dX11_saying_157 ?_
                  refine lv_iload hx hb dX11_saying_160 (lv_at hl 0 rfl) ?_
                  refine lv_iconst (v := 2) hx hb dX11_saying_162 (by decide) ?_
                  refine lv_iload_n hx hb dX11_saying_163 rfl (lv_at hl 4 rfl) ?_
                  refine vV (wr := [(h0, .inr (11, [.ref bb, .ref kk, .int ikp, .ref sg, .ref do9, .ref ru9, .ref ta9, .ref tp9, .ref ro9, .ref ho9, .ref de9])), (bb, .inr (0, [.ref bpersons, .ref bpapers, .ref bstamps, .ref bversions, .ref blines, .ref bsteps, .ref bsayings, .ref bfindings, .ref bwarnings, .ref bquestions, .int td, .int vd, .int vl, .int gp])), (bpersons, .inr (8, [.int 10, .int 2, .ref bpersonsc, .int (nI kbpersons)])), (bpapers, .inr (8, [.int 12, .int 6, .ref bpapersc, .int (nI kbpapers)]))]) hC hK hl hP hD hS hA (c_T_set l G bsayings (nI kbsayings) 2 x3 16 8 bsayingsc (kbsayings + 1) f110152 (by omega) (by omega) (by omega)) si_X11_120 [4, 5] [0, 1, 2, 3] rfl rfl (by decide) rfl (by decide) (by decide) rfl rfl rfl rfl rfl (Nat.le_of_ble_eq_true rfl) ⟨Nat.le_of_ble_eq_true rfl, Nat.le_of_ble_eq_true rfl⟩ ⟨Nat.le_of_ble_eq_true rfl, Nat.le_of_ble_eq_true rfl⟩ dX11_saying_164 (fun u10155 H locs hr10154 hP hD hS => ?_)
                  obtain ⟨f110156, rfl⟩ : ∃ z9, z9 = u10155 := ⟨_, rfl⟩
                  try dsimp only at hr10154
                  have hPD : va_PD G A [(h0, .inr (11, [.ref bb, .ref kk, .int ikp, .ref sg, .ref do9, .ref ru9, .ref ta9, .ref tp9, .ref ro9, .ref ho9, .ref de9])), (bb, .inr (0, [.ref bpersons, .ref bpapers, .ref bstamps, .ref bversions, .ref blines, .ref bsteps, .ref bsayings, .ref bfindings, .ref bwarnings, .ref bquestions, .int td, .int vd, .int vl, .int gp])), (bpersons, .inr (8, [.int 10, .int 2, .ref bpersonsc, .int (nI kbpersons)])), (bpapers, .inr (8, [.int 12, .int 6, .ref bpapersc, .int (nI kbpapers)])), (bsayings, .inr (8, [.int 16, .int 8, .ref bsayingsc, .int (nI (kbsayings + 1))])), (bsayingsc, .inl (G.2.1, 128, .inl f110156))] H := And.intro hP hD
                  obtain ⟨hP, hD⟩ := hPD
                  have w10157 := hr10154
                  refine lv_aload_n hx hb dX11_saying_167 rfl (lv_at hl 1 rfl) ?_
                  refine gf_X11_15 hC rfl hK hP 0 rfl rfl dX11_saying_168 ?_
                  refine gf_X11_256 hC rfl hK hP 1 rfl rfl dX11_saying_171 ?_
                  refine lv_iload hx hb dX11_saying_174 (lv_at hl 0 rfl) ?_
                  refine lv_iconst (v := 3) hx hb dX11_saying_176 (by decide) ?_
                  refine lv_iload hx hb dX11_saying_177 (lv_at hl 5 rfl) ?_
                  refine lv_bipush (v := 10) hx hb dX11_saying_179 (by decide) ?_
                  refine lv_idiv hx hb dX11_saying_181 (by decide) ?_
                  refine lv_topi (fun x10158 ex10158 => ?_)
                  refine vV (wr := [(h0, .inr (11, [.ref bb, .ref kk, .int ikp, .ref sg, .ref do9, .ref ru9, .ref ta9, .ref tp9, .ref ro9, .ref ho9, .ref de9])), (bb, .inr (0, [.ref bpersons, .ref bpapers, .ref bstamps, .ref bversions, .ref blines, .ref bsteps, .ref bsayings, .ref bfindings, .ref bwarnings, .ref bquestions, .int td, .int vd, .int vl, .int gp])), (bpersons, .inr (8, [.int 10, .int 2, .ref bpersonsc, .int (nI kbpersons)])), (bpapers, .inr (8, [.int 12, .int 6, .ref bpapersc, .int (nI kbpapers)]))]) hC hK hl hP hD hS hA (c_T_set l G bsayings (nI kbsayings) 3 x10158 16 8 bsayingsc (kbsayings + 1) f110156 (by omega) (by omega) (by omega)) si_X11_120 [4, 5] [0, 1, 2, 3] rfl rfl (by decide) rfl (by decide) (by decide) rfl rfl rfl rfl rfl (Nat.le_of_ble_eq_true rfl) ⟨Nat.le_of_ble_eq_true rfl, Nat.le_of_ble_eq_true rfl⟩ ⟨Nat.le_of_ble_eq_true rfl, Nat.le_of_ble_eq_true rfl⟩ dX11_saying_182 (fun u10160 H locs hr10159 hP hD hS => ?_)
                  obtain ⟨f110161, rfl⟩ : ∃ z9, z9 = u10160 := ⟨_, rfl⟩
                  try dsimp only at hr10159
                  have hPD : va_PD G A [(h0, .inr (11, [.ref bb, .ref kk, .int ikp, .ref sg, .ref do9, .ref ru9, .ref ta9, .ref tp9, .ref ro9, .ref ho9, .ref de9])), (bb, .inr (0, [.ref bpersons, .ref bpapers, .ref bstamps, .ref bversions, .ref blines, .ref bsteps, .ref bsayings, .ref bfindings, .ref bwarnings, .ref bquestions, .int td, .int vd, .int vl, .int gp])), (bpersons, .inr (8, [.int 10, .int 2, .ref bpersonsc, .int (nI kbpersons)])), (bpapers, .inr (8, [.int 12, .int 6, .ref bpapersc, .int (nI kbpapers)])), (bsayings, .inr (8, [.int 16, .int 8, .ref bsayingsc, .int (nI (kbsayings + 1))])), (bsayingsc, .inl (G.2.1, 128, .inl f110161))] H := And.intro hP hD
                  obtain ⟨hP, hD⟩ := hPD
                  have w10162 := hr10159
                  refine lv_aload_n hx hb dX11_saying_185 rfl (lv_at hl 1 rfl) ?_
                  refine gf_X11_15 hC rfl hK hP 0 rfl rfl dX11_saying_186 ?_
                  refine gf_X11_256 hC rfl hK hP 1 rfl rfl dX11_saying_189 ?_
                  refine lv_iload hx hb dX11_saying_192 (lv_at hl 0 rfl) ?_
                  refine lv_iconst (v := 4) hx hb dX11_saying_194 (by decide) ?_
                  refine lv_iload hx hb dX11_saying_195 (lv_at hl 5 rfl) ?_
                  refine lv_bipush (v := 10) hx hb dX11_saying_197 (by decide) ?_
                  refine lv_irem hx hb dX11_saying_199 (by decide) ?_
                  refine lv_topi (fun x10163 ex10163 => ?_)
                  refine vV (wr := [(h0, .inr (11, [.ref bb, .ref kk, .int ikp, .ref sg, .ref do9, .ref ru9, .ref ta9, .ref tp9, .ref ro9, .ref ho9, .ref de9])), (bb, .inr (0, [.ref bpersons, .ref bpapers, .ref bstamps, .ref bversions, .ref blines, .ref bsteps, .ref bsayings, .ref bfindings, .ref bwarnings, .ref bquestions, .int td, .int vd, .int vl, .int gp])), (bpersons, .inr (8, [.int 10, .int 2, .ref bpersonsc, .int (nI kbpersons)])), (bpapers, .inr (8, [.int 12, .int 6, .ref bpapersc, .int (nI kbpapers)]))]) hC hK hl hP hD hS hA (c_T_set l G bsayings (nI kbsayings) 4 x10163 16 8 bsayingsc (kbsayings + 1) f110161 (by omega) (by omega) (by omega)) si_X11_120 [4, 5] [0, 1, 2, 3] rfl rfl (by decide) rfl (by decide) (by decide) rfl rfl rfl rfl rfl (Nat.le_of_ble_eq_true rfl) ⟨Nat.le_of_ble_eq_true rfl, Nat.le_of_ble_eq_true rfl⟩ ⟨Nat.le_of_ble_eq_true rfl, Nat.le_of_ble_eq_true rfl⟩ dX11_saying_200 (fun u10165 H locs hr10164 hP hD hS => ?_)
                  obtain ⟨f110166, rfl⟩ : ∃ z9, z9 = u10165 := ⟨_, rfl⟩
                  try dsimp only at hr10164
                  have hPD : va_PD G A [(h0, .inr (11, [.ref bb, .ref kk, .int ikp, .ref sg, .ref do9, .ref ru9, .ref ta9, .ref tp9, .ref ro9, .ref ho9, .ref de9])), (bb, .inr (0, [.ref bpersons, .ref bpapers, .ref bstamps, .ref bversions, .ref blines, .ref bsteps, .ref bsayings, .ref bfindings, .ref bwarnings, .ref bquestions, .int td, .int vd, .int vl, .int gp])), (bpersons, .inr (8, [.int 10, .int 2, .ref bpersonsc, .int (nI kbpersons)])), (bpapers, .inr (8, [.int 12, .int 6, .ref bpapersc, .int (nI kbpapers)])), (bsayings, .inr (8, [.int 16, .int 8, .ref bsayingsc, .int (nI (kbsayings + 1))])), (bsayingsc, .inl (G.2.1, 128, .inl f110166))] H := And.intro hP hD
                  obtain ⟨hP, hD⟩ := hPD
                  have w10167 := hr10164
                  refine lv_aload_n hx hb dX11_saying_203 rfl (lv_at hl 1 rfl) ?_
                  refine gf_X11_15 hC rfl hK hP 0 rfl rfl dX11_saying_204 ?_
                  refine gf_X11_256 hC rfl hK hP 1 rfl rfl dX11_saying_207 ?_
                  refine lv_iload hx hb dX11_saying_210 (lv_at hl 0 rfl) ?_
                  refine lv_iconst (v := 5) hx hb dX11_saying_212 (by decide) ?_
                  refine lv_iload hx hb dX11_saying_213 (lv_at hl 6 rfl) ?_
                  refine lv_if_eq (tgt := 222) hx hb dX11_saying_215 (by decide) (fun c_215_10168 => ?_) (fun c_215_10168 => ?_)
                  · refine lv_iconst (v := 0) hx hb dX11_saying_222 (by decide) ?_
                    refine vV (wr := [(h0, .inr (11, [.ref bb, .ref kk, .int ikp, .ref sg, .ref do9, .ref ru9, .ref ta9, .ref tp9, .ref ro9, .ref ho9, .ref de9])), (bb, .inr (0, [.ref bpersons, .ref bpapers, .ref bstamps, .ref bversions, .ref blines, .ref bsteps, .ref bsayings, .ref bfindings, .ref bwarnings, .ref bquestions, .int td, .int vd, .int vl, .int gp])), (bpersons, .inr (8, [.int 10, .int 2, .ref bpersonsc, .int (nI kbpersons)])), (bpapers, .inr (8, [.int 12, .int 6, .ref bpapersc, .int (nI kbpapers)]))]) hC hK hl hP hD hS hA (c_T_set l G bsayings (nI kbsayings) 5 0 16 8 bsayingsc (kbsayings + 1) f110166 (by omega) (by omega) (by omega)) si_X11_120 [4, 5] [0, 1, 2, 3] rfl rfl (by decide) rfl (by decide) (by decide) rfl rfl rfl rfl rfl (Nat.le_of_ble_eq_true rfl) ⟨Nat.le_of_ble_eq_true rfl, Nat.le_of_ble_eq_true rfl⟩ ⟨Nat.le_of_ble_eq_true rfl, Nat.le_of_ble_eq_true rfl⟩ dX11_saying_223 (fun u10170 H locs hr10169 hP hD hS => ?_)
                    obtain ⟨f110171, rfl⟩ : ∃ z9, z9 = u10170 := ⟨_, rfl⟩
                    try dsimp only at hr10169
                    have hPD : va_PD G A [(h0, .inr (11, [.ref bb, .ref kk, .int ikp, .ref sg, .ref do9, .ref ru9, .ref ta9, .ref tp9, .ref ro9, .ref ho9, .ref de9])), (bb, .inr (0, [.ref bpersons, .ref bpapers, .ref bstamps, .ref bversions, .ref blines, .ref bsteps, .ref bsayings, .ref bfindings, .ref bwarnings, .ref bquestions, .int td, .int vd, .int vl, .int gp])), (bpersons, .inr (8, [.int 10, .int 2, .ref bpersonsc, .int (nI kbpersons)])), (bpapers, .inr (8, [.int 12, .int 6, .ref bpapersc, .int (nI kbpapers)])), (bsayings, .inr (8, [.int 16, .int 8, .ref bsayingsc, .int (nI (kbsayings + 1))])), (bsayingsc, .inl (G.2.1, 128, .inl f110171))] H := And.intro hP hD
                    obtain ⟨hP, hD⟩ := hPD
                    have w10172 := hr10169
                    refine lv_aload_n hx hb dX11_saying_226 rfl (lv_at hl 1 rfl) ?_
                    refine gf_X11_15 hC rfl hK hP 0 rfl rfl dX11_saying_227 ?_
                    refine gf_X11_256 hC rfl hK hP 1 rfl rfl dX11_saying_230 ?_
                    refine lv_iload hx hb dX11_saying_233 (lv_at hl 0 rfl) ?_
                    refine lv_bipush (v := 6) hx hb dX11_saying_235 (by decide) ?_
                    refine lv_iload hx hb dX11_saying_237 (lv_at hl 7 rfl) ?_
                    refine vV (wr := [(h0, .inr (11, [.ref bb, .ref kk, .int ikp, .ref sg, .ref do9, .ref ru9, .ref ta9, .ref tp9, .ref ro9, .ref ho9, .ref de9])), (bb, .inr (0, [.ref bpersons, .ref bpapers, .ref bstamps, .ref bversions, .ref blines, .ref bsteps, .ref bsayings, .ref bfindings, .ref bwarnings, .ref bquestions, .int td, .int vd, .int vl, .int gp])), (bpersons, .inr (8, [.int 10, .int 2, .ref bpersonsc, .int (nI kbpersons)])), (bpapers, .inr (8, [.int 12, .int 6, .ref bpapersc, .int (nI kbpapers)]))]) hC hK hl hP hD hS hA (c_T_set l G bsayings (nI kbsayings) 6 x6 16 8 bsayingsc (kbsayings + 1) f110171 (by omega) (by omega) (by omega)) si_X11_120 [4, 5] [0, 1, 2, 3] rfl rfl (by decide) rfl (by decide) (by decide) rfl rfl rfl rfl rfl (Nat.le_of_ble_eq_true rfl) ⟨Nat.le_of_ble_eq_true rfl, Nat.le_of_ble_eq_true rfl⟩ ⟨Nat.le_of_ble_eq_true rfl, Nat.le_of_ble_eq_true rfl⟩ dX11_saying_239 (fun u10174 H locs hr10173 hP hD hS => ?_)
                    obtain ⟨f110175, rfl⟩ : ∃ z9, z9 = u10174 := ⟨_, rfl⟩
                    try dsimp only at hr10173
                    have hPD : va_PD G A [(h0, .inr (11, [.ref bb, .ref kk, .int ikp, .ref sg, .ref do9, .ref ru9, .ref ta9, .ref tp9, .ref ro9, .ref ho9, .ref de9])), (bb, .inr (0, [.ref bpersons, .ref bpapers, .ref bstamps, .ref bversions, .ref blines, .ref bsteps, .ref bsayings, .ref bfindings, .ref bwarnings, .ref bquestions, .int td, .int vd, .int vl, .int gp])), (bpersons, .inr (8, [.int 10, .int 2, .ref bpersonsc, .int (nI kbpersons)])), (bpapers, .inr (8, [.int 12, .int 6, .ref bpapersc, .int (nI kbpapers)])), (bsayings, .inr (8, [.int 16, .int 8, .ref bsayingsc, .int (nI (kbsayings + 1))])), (bsayingsc, .inl (G.2.1, 128, .inl f110175))] H := And.intro hP hD
                    obtain ⟨hP, hD⟩ := hPD
                    have w10176 := hr10173
                    refine lv_aload_n hx hb dX11_saying_242 rfl (lv_at hl 1 rfl) ?_
                    refine gf_X11_15 hC rfl hK hP 0 rfl rfl dX11_saying_243 ?_
                    refine gf_X11_256 hC rfl hK hP 1 rfl rfl dX11_saying_246 ?_
                    refine lv_iload hx hb dX11_saying_249 (lv_at hl 0 rfl) ?_
                    refine lv_bipush (v := 7) hx hb dX11_saying_251 (by decide) ?_
                    refine lv_aload_n hx hb dX11_saying_253 rfl (lv_at hl 1 rfl) ?_
                    refine gf_X11_15 hC rfl hK hP 0 rfl rfl dX11_saying_254 ?_
                    refine gf_X11_87 hC rfl hK hP 1 rfl rfl dX11_saying_257 ?_
                    refine vV (wr := [(h0, .inr (11, [.ref bb, .ref kk, .int ikp, .ref sg, .ref do9, .ref ru9, .ref ta9, .ref tp9, .ref ro9, .ref ho9, .ref de9])), (bb, .inr (0, [.ref bpersons, .ref bpapers, .ref bstamps, .ref bversions, .ref blines, .ref bsteps, .ref bsayings, .ref bfindings, .ref bwarnings, .ref bquestions, .int td, .int vd, .int vl, .int gp])), (bpersons, .inr (8, [.int 10, .int 2, .ref bpersonsc, .int (nI kbpersons)])), (bpapers, .inr (8, [.int 12, .int 6, .ref bpapersc, .int (nI kbpapers)]))]) hC hK hl hP hD hS hA (c_T_set l G bsayings (nI kbsayings) 7 td 16 8 bsayingsc (kbsayings + 1) f110175 (by omega) (by omega) (by omega)) si_X11_120 [4, 5] [0, 1, 2, 3] rfl rfl (by decide) rfl (by decide) (by decide) rfl rfl rfl rfl rfl (Nat.le_of_ble_eq_true rfl) ⟨Nat.le_of_ble_eq_true rfl, Nat.le_of_ble_eq_true rfl⟩ ⟨Nat.le_of_ble_eq_true rfl, Nat.le_of_ble_eq_true rfl⟩ dX11_saying_260 (fun u10178 H locs hr10177 hP hD hS => ?_)
                    obtain ⟨f110179, rfl⟩ : ∃ z9, z9 = u10178 := ⟨_, rfl⟩
                    try dsimp only at hr10177
                    have hPD : va_PD G A [(h0, .inr (11, [.ref bb, .ref kk, .int ikp, .ref sg, .ref do9, .ref ru9, .ref ta9, .ref tp9, .ref ro9, .ref ho9, .ref de9])), (bb, .inr (0, [.ref bpersons, .ref bpapers, .ref bstamps, .ref bversions, .ref blines, .ref bsteps, .ref bsayings, .ref bfindings, .ref bwarnings, .ref bquestions, .int td, .int vd, .int vl, .int gp])), (bpersons, .inr (8, [.int 10, .int 2, .ref bpersonsc, .int (nI kbpersons)])), (bpapers, .inr (8, [.int 12, .int 6, .ref bpapersc, .int (nI kbpapers)])), (bsayings, .inr (8, [.int 16, .int 8, .ref bsayingsc, .int (nI (kbsayings + 1))])), (bsayingsc, .inl (G.2.1, 128, .inl f110179))] H := And.intro hP hD
                    obtain ⟨hP, hD⟩ := hPD
                    have w10180 := hr10177
                    refine lv_iload hx hb dX11_saying_263 (lv_at hl 0 rfl) ?_
                    have tt10181 : f110148 = upd fbsayings (kbsayings * 8 + 0) x1 := w10149.symm.trans (ts1 (by decide) (by decide) (by omega) rfl)
                    have tt10182 : f110152 = upd f110148 (kbsayings * 8 + 1) x2 := w10153.symm.trans (ts1 (by decide) (by decide) (by omega) rfl)
                    have tt10183 : f110156 = upd f110152 (kbsayings * 8 + 2) x3 := w10157.symm.trans (ts1 (by decide) (by decide) (by omega) rfl)
                    have tt10184 : f110161 = upd f110156 (kbsayings * 8 + 3) x10158 := w10162.symm.trans (ts1 (by decide) (by decide) (by omega) rfl)
                    have tt10185 : f110166 = upd f110161 (kbsayings * 8 + 4) x10163 := w10167.symm.trans (ts1 (by decide) (by decide) (by omega) rfl)
                    have tt10186 : f110171 = upd f110166 (kbsayings * 8 + 5) 0 := w10172.symm.trans (ts1 (by decide) (by decide) (by omega) rfl)
                    have tt10187 : f110175 = upd f110171 (kbsayings * 8 + 6) x6 := w10176.symm.trans (ts1 (by decide) (by decide) (by omega) rfl)
                    have tt10188 : f110179 = upd f110175 (kbsayings * 8 + 7) td := w10180.symm.trans (ts1 (by decide) (by decide) (by omega) rfl)
                    have tu10189 : f110179 = rowu fbsayings (kbsayings * 8) [x1, x2, x3, x10158, x10163, 0, x6, td] := by rw [tt10188, tt10187, tt10186, tt10185, tt10184, tt10183, tt10182, tt10181]; rfl
                    exact RI (v := nI kbsayings) hC hP hD hS [0, 1, 4, 5, 2, 3] ((kbsayings + 1), f110179) rfl rfl (by decide) (⟨(by first | rfl | (simp only [ifc_t hkbsayings, ifc_t hkbpersons, ifc_t hkbpapers, ifc_t hSP, ifc_t hSO, ifc_t a10129, ifc_t a10131, ifc_t a10133, ifc_f c_46_10134, ifc_t a10137, ifc_f c_69_10139, ifc_t c_77_10140, ifc_t a10142, ifc_t c_215_10168, ifc_f (Nat.not_le.mpr a10142), ifc_t (howC c_46_10134 ex10135 a10137 ex10138 c_69_10139), ifc_t (q := TLK x6 kbsayings) (Or.inl c_77_10140)]; done) | (simp only [ifc_t hkbsayings, ifc_t hkbpersons, ifc_t hkbpapers, ifc_t hSP, ifc_t hSO, ifc_t a10129, ifc_t a10131, ifc_t a10133, ifc_f c_46_10134, ifc_t a10137, ifc_f c_69_10139, ifc_t c_77_10140, ifc_t a10142, ifc_t c_215_10168, ifc_f (Nat.not_le.mpr a10142), ifc_t (howC c_46_10134 ex10135 a10137 ex10138 c_69_10139), ifc_t (q := TLK x6 kbsayings) (Or.inl c_77_10140)]; rfl) | (dsimp only; simp only [ifc_t hkbsayings, ifc_t hkbpersons, ifc_t hkbpapers, ifc_t hSP, ifc_t hSO, ifc_t a10129, ifc_t a10131, ifc_t a10133, ifc_f c_46_10134, ifc_t a10137, ifc_f c_69_10139, ifc_t c_77_10140, ifc_t a10142, ifc_t c_215_10168, ifc_f (Nat.not_le.mpr a10142), ifc_t (howC c_46_10134 ex10135 a10137 ex10138 c_69_10139), ifc_t (q := TLK x6 kbsayings) (Or.inl c_77_10140)]; done)), ⟨by omega, by omega, (by first | rfl | (simp only [ifc_t hkbsayings, ifc_t hkbpersons, ifc_t hkbpapers, ifc_t hSP, ifc_t hSO, ifc_t a10129, ifc_t a10131, ifc_t a10133, ifc_f c_46_10134, ifc_t a10137, ifc_f c_69_10139, ifc_t c_77_10140, ifc_t a10142, ifc_t c_215_10168, ifc_f (Nat.not_le.mpr a10142), ifc_t (howC c_46_10134 ex10135 a10137 ex10138 c_69_10139), ifc_t (q := TLK x6 kbsayings) (Or.inl c_77_10140)]; done) | (simp only [ifc_t hkbsayings, ifc_t hkbpersons, ifc_t hkbpapers, ifc_t hSP, ifc_t hSO, ifc_t a10129, ifc_t a10131, ifc_t a10133, ifc_f c_46_10134, ifc_t a10137, ifc_f c_69_10139, ifc_t c_77_10140, ifc_t a10142, ifc_t c_215_10168, ifc_f (Nat.not_le.mpr a10142), ifc_t (howC c_46_10134 ex10135 a10137 ex10138 c_69_10139), ifc_t (q := TLK x6 kbsayings) (Or.inl c_77_10140)]; rfl) | (dsimp only; simp only [ifc_t hkbsayings, ifc_t hkbpersons, ifc_t hkbpapers, ifc_t hSP, ifc_t hSO, ifc_t a10129, ifc_t a10131, ifc_t a10133, ifc_f c_46_10134, ifc_t a10137, ifc_f c_69_10139, ifc_t c_77_10140, ifc_t a10142, ifc_t c_215_10168, ifc_f (Nat.not_le.mpr a10142), ifc_t (howC c_46_10134 ex10135 a10137 ex10138 c_69_10139), ifc_t (q := TLK x6 kbsayings) (Or.inl c_77_10140)]; done)), ⟨(by rw [tu10189]; exact SPI.row hSP a10133), (by rw [tu10189]; exact SPO.row hSO a10131 (HOW.hour (howC c_46_10134 ex10135 a10137 ex10138 c_69_10139) ex10158) (HOW.wgt (howC c_46_10134 ex10135 a10137 ex10138 c_69_10139) ex10163))⟩, (fun i => by simp only [ifc_t hkbsayings, ifc_t hkbpersons, ifc_t hkbpapers, ifc_t hSP, ifc_t hSO, ifc_t a10129, ifc_t a10131, ifc_t a10133, ifc_f c_46_10134, ifc_t a10137, ifc_f c_69_10139, ifc_t c_77_10140, ifc_t a10142, ifc_t c_215_10168, ifc_f (Nat.not_le.mpr a10142), ifc_t (howC c_46_10134 ex10135 a10137 ex10138 c_69_10139), ifc_t (q := TLK x6 kbsayings) (Or.inl c_77_10140)]; rw [tu10189]; simp only [ex10158, ex10163])⟩⟩) rfl dX11_saying_265
                  · refine lv_iconst (v := 1) hx hb dX11_saying_218 (by decide) ?_
                    refine lv_goto (tgt := 223) hx hb dX11_saying_219 (by decide) ?_
                    refine vV (wr := [(h0, .inr (11, [.ref bb, .ref kk, .int ikp, .ref sg, .ref do9, .ref ru9, .ref ta9, .ref tp9, .ref ro9, .ref ho9, .ref de9])), (bb, .inr (0, [.ref bpersons, .ref bpapers, .ref bstamps, .ref bversions, .ref blines, .ref bsteps, .ref bsayings, .ref bfindings, .ref bwarnings, .ref bquestions, .int td, .int vd, .int vl, .int gp])), (bpersons, .inr (8, [.int 10, .int 2, .ref bpersonsc, .int (nI kbpersons)])), (bpapers, .inr (8, [.int 12, .int 6, .ref bpapersc, .int (nI kbpapers)]))]) hC hK hl hP hD hS hA (c_T_set l G bsayings (nI kbsayings) 5 1 16 8 bsayingsc (kbsayings + 1) f110166 (by omega) (by omega) (by omega)) si_X11_120 [4, 5] [0, 1, 2, 3] rfl rfl (by decide) rfl (by decide) (by decide) rfl rfl rfl rfl rfl (Nat.le_of_ble_eq_true rfl) ⟨Nat.le_of_ble_eq_true rfl, Nat.le_of_ble_eq_true rfl⟩ ⟨Nat.le_of_ble_eq_true rfl, Nat.le_of_ble_eq_true rfl⟩ dX11_saying_223 (fun u10191 H locs hr10190 hP hD hS => ?_)
                    obtain ⟨f110192, rfl⟩ : ∃ z9, z9 = u10191 := ⟨_, rfl⟩
                    try dsimp only at hr10190
                    have hPD : va_PD G A [(h0, .inr (11, [.ref bb, .ref kk, .int ikp, .ref sg, .ref do9, .ref ru9, .ref ta9, .ref tp9, .ref ro9, .ref ho9, .ref de9])), (bb, .inr (0, [.ref bpersons, .ref bpapers, .ref bstamps, .ref bversions, .ref blines, .ref bsteps, .ref bsayings, .ref bfindings, .ref bwarnings, .ref bquestions, .int td, .int vd, .int vl, .int gp])), (bpersons, .inr (8, [.int 10, .int 2, .ref bpersonsc, .int (nI kbpersons)])), (bpapers, .inr (8, [.int 12, .int 6, .ref bpapersc, .int (nI kbpapers)])), (bsayings, .inr (8, [.int 16, .int 8, .ref bsayingsc, .int (nI (kbsayings + 1))])), (bsayingsc, .inl (G.2.1, 128, .inl f110192))] H := And.intro hP hD
                    obtain ⟨hP, hD⟩ := hPD
                    have w10193 := hr10190
                    refine lv_aload_n hx hb dX11_saying_226 rfl (lv_at hl 1 rfl) ?_
                    refine gf_X11_15 hC rfl hK hP 0 rfl rfl dX11_saying_227 ?_
                    refine gf_X11_256 hC rfl hK hP 1 rfl rfl dX11_saying_230 ?_
                    refine lv_iload hx hb dX11_saying_233 (lv_at hl 0 rfl) ?_
                    refine lv_bipush (v := 6) hx hb dX11_saying_235 (by decide) ?_
                    refine lv_iload hx hb dX11_saying_237 (lv_at hl 7 rfl) ?_
                    refine vV (wr := [(h0, .inr (11, [.ref bb, .ref kk, .int ikp, .ref sg, .ref do9, .ref ru9, .ref ta9, .ref tp9, .ref ro9, .ref ho9, .ref de9])), (bb, .inr (0, [.ref bpersons, .ref bpapers, .ref bstamps, .ref bversions, .ref blines, .ref bsteps, .ref bsayings, .ref bfindings, .ref bwarnings, .ref bquestions, .int td, .int vd, .int vl, .int gp])), (bpersons, .inr (8, [.int 10, .int 2, .ref bpersonsc, .int (nI kbpersons)])), (bpapers, .inr (8, [.int 12, .int 6, .ref bpapersc, .int (nI kbpapers)]))]) hC hK hl hP hD hS hA (c_T_set l G bsayings (nI kbsayings) 6 x6 16 8 bsayingsc (kbsayings + 1) f110192 (by omega) (by omega) (by omega)) si_X11_120 [4, 5] [0, 1, 2, 3] rfl rfl (by decide) rfl (by decide) (by decide) rfl rfl rfl rfl rfl (Nat.le_of_ble_eq_true rfl) ⟨Nat.le_of_ble_eq_true rfl, Nat.le_of_ble_eq_true rfl⟩ ⟨Nat.le_of_ble_eq_true rfl, Nat.le_of_ble_eq_true rfl⟩ dX11_saying_239 (fun u10195 H locs hr10194 hP hD hS => ?_)
                    obtain ⟨f110196, rfl⟩ : ∃ z9, z9 = u10195 := ⟨_, rfl⟩
                    try dsimp only at hr10194
                    have hPD : va_PD G A [(h0, .inr (11, [.ref bb, .ref kk, .int ikp, .ref sg, .ref do9, .ref ru9, .ref ta9, .ref tp9, .ref ro9, .ref ho9, .ref de9])), (bb, .inr (0, [.ref bpersons, .ref bpapers, .ref bstamps, .ref bversions, .ref blines, .ref bsteps, .ref bsayings, .ref bfindings, .ref bwarnings, .ref bquestions, .int td, .int vd, .int vl, .int gp])), (bpersons, .inr (8, [.int 10, .int 2, .ref bpersonsc, .int (nI kbpersons)])), (bpapers, .inr (8, [.int 12, .int 6, .ref bpapersc, .int (nI kbpapers)])), (bsayings, .inr (8, [.int 16, .int 8, .ref bsayingsc, .int (nI (kbsayings + 1))])), (bsayingsc, .inl (G.2.1, 128, .inl f110196))] H := And.intro hP hD
                    obtain ⟨hP, hD⟩ := hPD
                    have w10197 := hr10194
                    refine lv_aload_n hx hb dX11_saying_242 rfl (lv_at hl 1 rfl) ?_
                    refine gf_X11_15 hC rfl hK hP 0 rfl rfl dX11_saying_243 ?_
                    refine gf_X11_256 hC rfl hK hP 1 rfl rfl dX11_saying_246 ?_
                    refine lv_iload hx hb dX11_saying_249 (lv_at hl 0 rfl) ?_
                    refine lv_bipush (v := 7) hx hb dX11_saying_251 (by decide) ?_
                    refine lv_aload_n hx hb dX11_saying_253 rfl (lv_at hl 1 rfl) ?_
                    refine gf_X11_15 hC rfl hK hP 0 rfl rfl dX11_saying_254 ?_
                    refine gf_X11_87 hC rfl hK hP 1 rfl rfl dX11_saying_257 ?_
                    refine vV (wr := [(h0, .inr (11, [.ref bb, .ref kk, .int ikp, .ref sg, .ref do9, .ref ru9, .ref ta9, .ref tp9, .ref ro9, .ref ho9, .ref de9])), (bb, .inr (0, [.ref bpersons, .ref bpapers, .ref bstamps, .ref bversions, .ref blines, .ref bsteps, .ref bsayings, .ref bfindings, .ref bwarnings, .ref bquestions, .int td, .int vd, .int vl, .int gp])), (bpersons, .inr (8, [.int 10, .int 2, .ref bpersonsc, .int (nI kbpersons)])), (bpapers, .inr (8, [.int 12, .int 6, .ref bpapersc, .int (nI kbpapers)]))]) hC hK hl hP hD hS hA (c_T_set l G bsayings (nI kbsayings) 7 td 16 8 bsayingsc (kbsayings + 1) f110196 (by omega) (by omega) (by omega)) si_X11_120 [4, 5] [0, 1, 2, 3] rfl rfl (by decide) rfl (by decide) (by decide) rfl rfl rfl rfl rfl (Nat.le_of_ble_eq_true rfl) ⟨Nat.le_of_ble_eq_true rfl, Nat.le_of_ble_eq_true rfl⟩ ⟨Nat.le_of_ble_eq_true rfl, Nat.le_of_ble_eq_true rfl⟩ dX11_saying_260 (fun u10199 H locs hr10198 hP hD hS => ?_)
                    obtain ⟨f110200, rfl⟩ : ∃ z9, z9 = u10199 := ⟨_, rfl⟩
                    try dsimp only at hr10198
                    have hPD : va_PD G A [(h0, .inr (11, [.ref bb, .ref kk, .int ikp, .ref sg, .ref do9, .ref ru9, .ref ta9, .ref tp9, .ref ro9, .ref ho9, .ref de9])), (bb, .inr (0, [.ref bpersons, .ref bpapers, .ref bstamps, .ref bversions, .ref blines, .ref bsteps, .ref bsayings, .ref bfindings, .ref bwarnings, .ref bquestions, .int td, .int vd, .int vl, .int gp])), (bpersons, .inr (8, [.int 10, .int 2, .ref bpersonsc, .int (nI kbpersons)])), (bpapers, .inr (8, [.int 12, .int 6, .ref bpapersc, .int (nI kbpapers)])), (bsayings, .inr (8, [.int 16, .int 8, .ref bsayingsc, .int (nI (kbsayings + 1))])), (bsayingsc, .inl (G.2.1, 128, .inl f110200))] H := And.intro hP hD
                    obtain ⟨hP, hD⟩ := hPD
                    have w10201 := hr10198
                    refine lv_iload hx hb dX11_saying_263 (lv_at hl 0 rfl) ?_
                    have tt10202 : f110148 = upd fbsayings (kbsayings * 8 + 0) x1 := w10149.symm.trans (ts1 (by decide) (by decide) (by omega) rfl)
                    have tt10203 : f110152 = upd f110148 (kbsayings * 8 + 1) x2 := w10153.symm.trans (ts1 (by decide) (by decide) (by omega) rfl)
                    have tt10204 : f110156 = upd f110152 (kbsayings * 8 + 2) x3 := w10157.symm.trans (ts1 (by decide) (by decide) (by omega) rfl)
                    have tt10205 : f110161 = upd f110156 (kbsayings * 8 + 3) x10158 := w10162.symm.trans (ts1 (by decide) (by decide) (by omega) rfl)
                    have tt10206 : f110166 = upd f110161 (kbsayings * 8 + 4) x10163 := w10167.symm.trans (ts1 (by decide) (by decide) (by omega) rfl)
                    have tt10207 : f110192 = upd f110166 (kbsayings * 8 + 5) 1 := w10193.symm.trans (ts1 (by decide) (by decide) (by omega) rfl)
                    have tt10208 : f110196 = upd f110192 (kbsayings * 8 + 6) x6 := w10197.symm.trans (ts1 (by decide) (by decide) (by omega) rfl)
                    have tt10209 : f110200 = upd f110196 (kbsayings * 8 + 7) td := w10201.symm.trans (ts1 (by decide) (by decide) (by omega) rfl)
                    have tu10210 : f110200 = rowu fbsayings (kbsayings * 8) [x1, x2, x3, x10158, x10163, 1, x6, td] := by rw [tt10209, tt10208, tt10207, tt10206, tt10205, tt10204, tt10203, tt10202]; rfl
                    exact RI (v := nI kbsayings) hC hP hD hS [0, 1, 4, 5, 2, 3] ((kbsayings + 1), f110200) rfl rfl (by decide) (⟨(by first | rfl | (simp only [ifc_t hkbsayings, ifc_t hkbpersons, ifc_t hkbpapers, ifc_t hSP, ifc_t hSO, ifc_t a10129, ifc_t a10131, ifc_t a10133, ifc_f c_46_10134, ifc_t a10137, ifc_f c_69_10139, ifc_t c_77_10140, ifc_t a10142, ifc_f c_215_10168, ifc_f (Nat.not_le.mpr a10142), ifc_t (howC c_46_10134 ex10135 a10137 ex10138 c_69_10139), ifc_t (q := TLK x6 kbsayings) (Or.inl c_77_10140)]; done) | (simp only [ifc_t hkbsayings, ifc_t hkbpersons, ifc_t hkbpapers, ifc_t hSP, ifc_t hSO, ifc_t a10129, ifc_t a10131, ifc_t a10133, ifc_f c_46_10134, ifc_t a10137, ifc_f c_69_10139, ifc_t c_77_10140, ifc_t a10142, ifc_f c_215_10168, ifc_f (Nat.not_le.mpr a10142), ifc_t (howC c_46_10134 ex10135 a10137 ex10138 c_69_10139), ifc_t (q := TLK x6 kbsayings) (Or.inl c_77_10140)]; rfl) | (dsimp only; simp only [ifc_t hkbsayings, ifc_t hkbpersons, ifc_t hkbpapers, ifc_t hSP, ifc_t hSO, ifc_t a10129, ifc_t a10131, ifc_t a10133, ifc_f c_46_10134, ifc_t a10137, ifc_f c_69_10139, ifc_t c_77_10140, ifc_t a10142, ifc_f c_215_10168, ifc_f (Nat.not_le.mpr a10142), ifc_t (howC c_46_10134 ex10135 a10137 ex10138 c_69_10139), ifc_t (q := TLK x6 kbsayings) (Or.inl c_77_10140)]; done)), ⟨by omega, by omega, (by first | rfl | (simp only [ifc_t hkbsayings, ifc_t hkbpersons, ifc_t hkbpapers, ifc_t hSP, ifc_t hSO, ifc_t a10129, ifc_t a10131, ifc_t a10133, ifc_f c_46_10134, ifc_t a10137, ifc_f c_69_10139, ifc_t c_77_10140, ifc_t a10142, ifc_f c_215_10168, ifc_f (Nat.not_le.mpr a10142), ifc_t (howC c_46_10134 ex10135 a10137 ex10138 c_69_10139), ifc_t (q := TLK x6 kbsayings) (Or.inl c_77_10140)]; done) | (simp only [ifc_t hkbsayings, ifc_t hkbpersons, ifc_t hkbpapers, ifc_t hSP, ifc_t hSO, ifc_t a10129, ifc_t a10131, ifc_t a10133, ifc_f c_46_10134, ifc_t a10137, ifc_f c_69_10139, ifc_t c_77_10140, ifc_t a10142, ifc_f c_215_10168, ifc_f (Nat.not_le.mpr a10142), ifc_t (howC c_46_10134 ex10135 a10137 ex10138 c_69_10139), ifc_t (q := TLK x6 kbsayings) (Or.inl c_77_10140)]; rfl) | (dsimp only; simp only [ifc_t hkbsayings, ifc_t hkbpersons, ifc_t hkbpapers, ifc_t hSP, ifc_t hSO, ifc_t a10129, ifc_t a10131, ifc_t a10133, ifc_f c_46_10134, ifc_t a10137, ifc_f c_69_10139, ifc_t c_77_10140, ifc_t a10142, ifc_f c_215_10168, ifc_f (Nat.not_le.mpr a10142), ifc_t (howC c_46_10134 ex10135 a10137 ex10138 c_69_10139), ifc_t (q := TLK x6 kbsayings) (Or.inl c_77_10140)]; done)), ⟨(by rw [tu10210]; exact SPI.row hSP a10133), (by rw [tu10210]; exact SPO.row hSO a10131 (HOW.hour (howC c_46_10134 ex10135 a10137 ex10138 c_69_10139) ex10158) (HOW.wgt (howC c_46_10134 ex10135 a10137 ex10138 c_69_10139) ex10163))⟩, (fun i => by simp only [ifc_t hkbsayings, ifc_t hkbpersons, ifc_t hkbpapers, ifc_t hSP, ifc_t hSO, ifc_t a10129, ifc_t a10131, ifc_t a10133, ifc_f c_46_10134, ifc_t a10137, ifc_f c_69_10139, ifc_t c_77_10140, ifc_t a10142, ifc_f c_215_10168, ifc_f (Nat.not_le.mpr a10142), ifc_t (howC c_46_10134 ex10135 a10137 ex10138 c_69_10139), ifc_t (q := TLK x6 kbsayings) (Or.inl c_77_10140)]; rw [tu10210]; simp only [ex10158, ex10163])⟩⟩) rfl dX11_saying_265
              · refine lv_aload_n hx hb dX11_saying_80 rfl (lv_at hl 0 rfl) ?_
                refine gf_X11_15 hC rfl hK hP 0 rfl rfl dX11_saying_81 ?_
                refine gf_X11_256 hC rfl hK hP 1 rfl rfl dX11_saying_84 ?_
                refine lv_iload hx hb dX11_saying_87 (lv_at hl 6 rfl) ?_
                refine pV hC hK hl hP hD (c_T_has l G bsayings x6 16 8 bsayingsc kbsayings) si_X11_124 [2] rfl rfl (by decide) rfl rfl rfl rfl rfl (Nat.le_of_ble_eq_true rfl) ⟨Nat.le_of_ble_eq_true rfl, Nat.le_of_ble_eq_true rfl⟩ ⟨by first | exact Nat.le_of_ble_eq_true rfl | exact Nat.zero_le _, by first | exact Nat.le_of_ble_eq_true rfl | exact Nat.zero_le _⟩ dX11_saying_89 (fun r10211 hr10211 => ?_)
                rcases hr10211 with ⟨rfl, a10212⟩ | ⟨rfl, a10212⟩
                · refine lv_if_ne (tgt := 97) hx hb dX11_saying_92 (by decide) (fun _ => ?_) (fun c9 => absurd c9 (by decide))
                  refine lv_aload_n hx hb dX11_saying_97 rfl (lv_at hl 0 rfl) ?_
                  refine gf_X11_15 hC rfl hK hP 0 rfl rfl dX11_saying_98 ?_
                  refine gf_X11_256 hC rfl hK hP 1 rfl rfl dX11_saying_101 ?_
                  refine pV hC hK hl hP hD (c_T_isFull l G bsayings 16 8 bsayingsc kbsayings (hkbsayings) (by omega)) si_X11_111 [2] rfl rfl (by decide) rfl rfl rfl rfl rfl (Nat.le_of_ble_eq_true rfl) ⟨Nat.le_of_ble_eq_true rfl, Nat.le_of_ble_eq_true rfl⟩ ⟨by first | exact Nat.le_of_ble_eq_true rfl | exact Nat.zero_le _, by first | exact Nat.le_of_ble_eq_true rfl | exact Nat.zero_le _⟩ dX11_saying_104 (fun r10213 hr10213 => ?_)
                  rcases hr10213 with ⟨rfl, a10214⟩ | ⟨rfl, a10214⟩
                  · refine lv_if_eq (tgt := 113) hx hb dX11_saying_107 (by decide) (fun c9 => absurd c9 (by decide)) (fun _ => ?_)
                    refine lv_bipush (v := (-2)) hx hb dX11_saying_110 (by decide) ?_
                    exact RI (v := (-2)) hC hP hD hS [0, 1, 2, 3, 4, 5] (kbsayings, fbsayings) rfl rfl (by decide) (⟨(by first | rfl | (simp only [ifc_t hkbsayings, ifc_t hkbpersons, ifc_t hkbpapers, ifc_t hSP, ifc_t hSO, ifc_t a10129, ifc_t a10131, ifc_t a10133, ifc_f c_46_10134, ifc_t a10137, ifc_f c_69_10139, ifc_f c_77_10140, ifc_t a10212, ifc_t a10214, ifc_t (howC c_46_10134 ex10135 a10137 ex10138 c_69_10139), ifc_t (q := TLK x6 kbsayings) (Or.inr a10212)]; done) | (simp only [ifc_t hkbsayings, ifc_t hkbpersons, ifc_t hkbpapers, ifc_t hSP, ifc_t hSO, ifc_t a10129, ifc_t a10131, ifc_t a10133, ifc_f c_46_10134, ifc_t a10137, ifc_f c_69_10139, ifc_f c_77_10140, ifc_t a10212, ifc_t a10214, ifc_t (howC c_46_10134 ex10135 a10137 ex10138 c_69_10139), ifc_t (q := TLK x6 kbsayings) (Or.inr a10212)]; rfl) | (dsimp only; simp only [ifc_t hkbsayings, ifc_t hkbpersons, ifc_t hkbpapers, ifc_t hSP, ifc_t hSO, ifc_t a10129, ifc_t a10131, ifc_t a10133, ifc_f c_46_10134, ifc_t a10137, ifc_f c_69_10139, ifc_f c_77_10140, ifc_t a10212, ifc_t a10214, ifc_t (howC c_46_10134 ex10135 a10137 ex10138 c_69_10139), ifc_t (q := TLK x6 kbsayings) (Or.inr a10212)]; done)), ⟨by omega, by omega, (by first | rfl | (simp only [ifc_t hkbsayings, ifc_t hkbpersons, ifc_t hkbpapers, ifc_t hSP, ifc_t hSO, ifc_t a10129, ifc_t a10131, ifc_t a10133, ifc_f c_46_10134, ifc_t a10137, ifc_f c_69_10139, ifc_f c_77_10140, ifc_t a10212, ifc_t a10214, ifc_t (howC c_46_10134 ex10135 a10137 ex10138 c_69_10139), ifc_t (q := TLK x6 kbsayings) (Or.inr a10212)]; done) | (simp only [ifc_t hkbsayings, ifc_t hkbpersons, ifc_t hkbpapers, ifc_t hSP, ifc_t hSO, ifc_t a10129, ifc_t a10131, ifc_t a10133, ifc_f c_46_10134, ifc_t a10137, ifc_f c_69_10139, ifc_f c_77_10140, ifc_t a10212, ifc_t a10214, ifc_t (howC c_46_10134 ex10135 a10137 ex10138 c_69_10139), ifc_t (q := TLK x6 kbsayings) (Or.inr a10212)]; rfl) | (dsimp only; simp only [ifc_t hkbsayings, ifc_t hkbpersons, ifc_t hkbpapers, ifc_t hSP, ifc_t hSO, ifc_t a10129, ifc_t a10131, ifc_t a10133, ifc_f c_46_10134, ifc_t a10137, ifc_f c_69_10139, ifc_f c_77_10140, ifc_t a10212, ifc_t a10214, ifc_t (howC c_46_10134 ex10135 a10137 ex10138 c_69_10139), ifc_t (q := TLK x6 kbsayings) (Or.inr a10212)]; done)), ⟨hSP, hSO⟩, (fun i => by first | rfl | (simp only [ifc_t hkbsayings, ifc_t hkbpersons, ifc_t hkbpapers, ifc_t hSP, ifc_t hSO, ifc_t a10129, ifc_t a10131, ifc_t a10133, ifc_f c_46_10134, ifc_t a10137, ifc_f c_69_10139, ifc_f c_77_10140, ifc_t a10212, ifc_t a10214, ifc_t (howC c_46_10134 ex10135 a10137 ex10138 c_69_10139), ifc_t (q := TLK x6 kbsayings) (Or.inr a10212)]; done))⟩⟩) rfl dX11_saying_112
                  · refine lv_if_eq (tgt := 113) hx hb dX11_saying_107 (by decide) (fun _ => ?_) (fun c9 => absurd (by decide) c9)
                    refine lv_aload_n hx hb dX11_saying_113 rfl (lv_at hl 0 rfl) ?_
                    refine gf_X11_15 hC rfl hK hP 0 rfl rfl dX11_saying_114 ?_
                    refine gf_X11_256 hC rfl hK hP 1 rfl rfl dX11_saying_117 ?_
                    refine iV (wr := [(h0, .inr (11, [.ref bb, .ref kk, .int ikp, .ref sg, .ref do9, .ref ru9, .ref ta9, .ref tp9, .ref ro9, .ref ho9, .ref de9])), (bb, .inr (0, [.ref bpersons, .ref bpapers, .ref bstamps, .ref bversions, .ref blines, .ref bsteps, .ref bsayings, .ref bfindings, .ref bwarnings, .ref bquestions, .int td, .int vd, .int vl, .int gp])), (bsayingsc, .inl (G.2.1, 128, .inl fbsayings)), (bpersons, .inr (8, [.int 10, .int 2, .ref bpersonsc, .int (nI kbpersons)])), (bpapers, .inr (8, [.int 12, .int 6, .ref bpapersc, .int (nI kbpapers)]))]) hC hK hl hP hD hS hA (c_T_append l G bsayings 16 8 bsayingsc kbsayings (a10214) (by omega)) si_X11_117 [2] [0, 1, 3, 4, 5] rfl rfl (by decide) rfl (by decide) (by decide) rfl rfl rfl rfl rfl (Nat.le_of_ble_eq_true rfl) ⟨Nat.le_of_ble_eq_true rfl, Nat.le_of_ble_eq_true rfl⟩ ⟨Nat.le_of_ble_eq_true rfl, Nat.le_of_ble_eq_true rfl⟩ dX11_saying_120 (fun r10215 u10216 H locs hr10215 hP hD hS => ?_)
                    have hPD : va_PD G A [(h0, .inr (11, [.ref bb, .ref kk, .int ikp, .ref sg, .ref do9, .ref ru9, .ref ta9, .ref tp9, .ref ro9, .ref ho9, .ref de9])), (bb, .inr (0, [.ref bpersons, .ref bpapers, .ref bstamps, .ref bversions, .ref blines, .ref bsteps, .ref bsayings, .ref bfindings, .ref bwarnings, .ref bquestions, .int td, .int vd, .int vl, .int gp])), (bsayingsc, .inl (G.2.1, 128, .inl fbsayings)), (bpersons, .inr (8, [.int 10, .int 2, .ref bpersonsc, .int (nI kbpersons)])), (bpapers, .inr (8, [.int 12, .int 6, .ref bpapersc, .int (nI kbpapers)])), (bsayings, .inr (8, [.int 16, .int 8, .ref bsayingsc, .int (nI (kbsayings + 1))]))] H := And.intro hP hD
                    obtain ⟨hP, hD⟩ := hPD
                    obtain rfl := hr10215
                    refine lv_istore (lv' := [(7, .int (nI kbsayings)), (0, .ref h0), (1, .int x1), (2, .int x2), (3, .int x3), (4, .int x4), (5, .int x5), (6, .int x6)]) hx hb dX11_saying_123 hl (by decide) rfl (fun ls hl => ?_)
                    refine lv_aload_n hx hb dX11_saying_125 rfl (lv_at hl 1 rfl) ?_
                    refine gf_X11_15 hC rfl hK hP 0 rfl rfl dX11_saying_126 ?_
                    refine gf_X11_256 hC rfl hK hP 1 rfl rfl dX11_saying_129 ?_
                    refine lv_iload hx hb dX11_saying_132 (lv_at hl 0 rfl) ?_
                    refine lv_iconst (v := 0) hx hb dX11_saying_134 (by decide) ?_
                    refine lv_iload_n hx hb dX11_saying_135 rfl (lv_at hl 2 rfl) ?_
                    refine vV (wr := [(h0, .inr (11, [.ref bb, .ref kk, .int ikp, .ref sg, .ref do9, .ref ru9, .ref ta9, .ref tp9, .ref ro9, .ref ho9, .ref de9])), (bb, .inr (0, [.ref bpersons, .ref bpapers, .ref bstamps, .ref bversions, .ref blines, .ref bsteps, .ref bsayings, .ref bfindings, .ref bwarnings, .ref bquestions, .int td, .int vd, .int vl, .int gp])), (bpersons, .inr (8, [.int 10, .int 2, .ref bpersonsc, .int (nI kbpersons)])), (bpapers, .inr (8, [.int 12, .int 6, .ref bpapersc, .int (nI kbpapers)]))]) hC hK hl hP hD hS hA (c_T_set l G bsayings (nI kbsayings) 0 x1 16 8 bsayingsc (kbsayings + 1) fbsayings (by omega) (by omega) (by omega)) si_X11_120 [5, 2] [0, 1, 3, 4] rfl rfl (by decide) rfl (by decide) (by decide) rfl rfl rfl rfl rfl (Nat.le_of_ble_eq_true rfl) ⟨Nat.le_of_ble_eq_true rfl, Nat.le_of_ble_eq_true rfl⟩ ⟨Nat.le_of_ble_eq_true rfl, Nat.le_of_ble_eq_true rfl⟩ dX11_saying_136 (fun u10219 H locs hr10218 hP hD hS => ?_)
                    obtain ⟨f110220, rfl⟩ : ∃ z9, z9 = u10219 := ⟨_, rfl⟩
                    try dsimp only at hr10218
                    have hPD : va_PD G A [(h0, .inr (11, [.ref bb, .ref kk, .int ikp, .ref sg, .ref do9, .ref ru9, .ref ta9, .ref tp9, .ref ro9, .ref ho9, .ref de9])), (bb, .inr (0, [.ref bpersons, .ref bpapers, .ref bstamps, .ref bversions, .ref blines, .ref bsteps, .ref bsayings, .ref bfindings, .ref bwarnings, .ref bquestions, .int td, .int vd, .int vl, .int gp])), (bpersons, .inr (8, [.int 10, .int 2, .ref bpersonsc, .int (nI kbpersons)])), (bpapers, .inr (8, [.int 12, .int 6, .ref bpapersc, .int (nI kbpapers)])), (bsayings, .inr (8, [.int 16, .int 8, .ref bsayingsc, .int (nI (kbsayings + 1))])), (bsayingsc, .inl (G.2.1, 128, .inl f110220))] H := And.intro hP hD
                    obtain ⟨hP, hD⟩ := hPD
                    have w10221 := hr10218
                    refine lv_aload_n hx hb dX11_saying_139 rfl (lv_at hl 1 rfl) ?_
                    refine gf_X11_15 hC rfl hK hP 0 rfl rfl dX11_saying_140 ?_
                    refine gf_X11_256 hC rfl hK hP 1 rfl rfl dX11_saying_143 ?_
                    refine lv_iload hx hb dX11_saying_146 (lv_at hl 0 rfl) ?_
                    refine lv_iconst (v := 1) hx hb dX11_saying_148 (by decide) ?_
                    refine lv_iload_n hx hb dX11_saying_149 rfl (lv_at hl 3 rfl) ?_
                    refine vV (wr := [(h0, .inr (11, [.ref bb, .ref kk, .int ikp, .ref sg, .ref do9, .ref ru9, .ref ta9, .ref tp9, .ref ro9, .ref ho9, .ref de9])), (bb, .inr (0, [.ref bpersons, .ref bpapers, .ref bstamps, .ref bversions, .ref blines, .ref bsteps, .ref bsayings, .ref bfindings, .ref bwarnings, .ref bquestions, .int td, .int vd, .int vl, .int gp])), (bpersons, .inr (8, [.int 10, .int 2, .ref bpersonsc, .int (nI kbpersons)])), (bpapers, .inr (8, [.int 12, .int 6, .ref bpapersc, .int (nI kbpapers)]))]) hC hK hl hP hD hS hA (c_T_set l G bsayings (nI kbsayings) 1 x2 16 8 bsayingsc (kbsayings + 1) f110220 (by omega) (by omega) (by omega)) si_X11_120 [4, 5] [0, 1, 2, 3] rfl rfl (by decide) rfl (by decide) (by decide) rfl rfl rfl rfl rfl (Nat.le_of_ble_eq_true rfl) ⟨Nat.le_of_ble_eq_true rfl, Nat.le_of_ble_eq_true rfl⟩ ⟨Nat.le_of_ble_eq_true rfl, Nat.le_of_ble_eq_true rfl⟩ dX11_saying_150 (fun u10223 H locs hr10222 hP hD hS => ?_)
                    obtain ⟨f110224, rfl⟩ : ∃ z9, z9 = u10223 := ⟨_, rfl⟩
                    try dsimp only at hr10222
                    have hPD : va_PD G A [(h0, .inr (11, [.ref bb, .ref kk, .int ikp, .ref sg, .ref do9, .ref ru9, .ref ta9, .ref tp9, .ref ro9, .ref ho9, .ref de9])), (bb, .inr (0, [.ref bpersons, .ref bpapers, .ref bstamps, .ref bversions, .ref blines, .ref bsteps, .ref bsayings, .ref bfindings, .ref bwarnings, .ref bquestions, .int td, .int vd, .int vl, .int gp])), (bpersons, .inr (8, [.int 10, .int 2, .ref bpersonsc, .int (nI kbpersons)])), (bpapers, .inr (8, [.int 12, .int 6, .ref bpapersc, .int (nI kbpapers)])), (bsayings, .inr (8, [.int 16, .int 8, .ref bsayingsc, .int (nI (kbsayings + 1))])), (bsayingsc, .inl (G.2.1, 128, .inl f110224))] H := And.intro hP hD
                    obtain ⟨hP, hD⟩ := hPD
                    have w10225 := hr10222
                    refine lv_aload_n hx hb dX11_saying_153 rfl (lv_at hl 1 rfl) ?_
                    refine gf_X11_15 hC rfl hK hP 0 rfl rfl dX11_saying_154 ?_
                    refine gf_X11_256 hC rfl hK hP 1 rfl rfl dX11_saying_157 ?_
                    refine lv_iload hx hb dX11_saying_160 (lv_at hl 0 rfl) ?_
                    refine lv_iconst (v := 2) hx hb dX11_saying_162 (by decide) ?_
                    refine lv_iload_n hx hb dX11_saying_163 rfl (lv_at hl 4 rfl) ?_
                    refine vV (wr := [(h0, .inr (11, [.ref bb, .ref kk, .int ikp, .ref sg, .ref do9, .ref ru9, .ref ta9, .ref tp9, .ref ro9, .ref ho9, .ref de9])), (bb, .inr (0, [.ref bpersons, .ref bpapers, .ref bstamps, .ref bversions, .ref blines, .ref bsteps, .ref bsayings, .ref bfindings, .ref bwarnings, .ref bquestions, .int td, .int vd, .int vl, .int gp])), (bpersons, .inr (8, [.int 10, .int 2, .ref bpersonsc, .int (nI kbpersons)])), (bpapers, .inr (8, [.int 12, .int 6, .ref bpapersc, .int (nI kbpapers)]))]) hC hK hl hP hD hS hA (c_T_set l G bsayings (nI kbsayings) 2 x3 16 8 bsayingsc (kbsayings + 1) f110224 (by omega) (by omega) (by omega)) si_X11_120 [4, 5] [0, 1, 2, 3] rfl rfl (by decide) rfl (by decide) (by decide) rfl rfl rfl rfl rfl (Nat.le_of_ble_eq_true rfl) ⟨Nat.le_of_ble_eq_true rfl, Nat.le_of_ble_eq_true rfl⟩ ⟨Nat.le_of_ble_eq_true rfl, Nat.le_of_ble_eq_true rfl⟩ dX11_saying_164 (fun u10227 H locs hr10226 hP hD hS => ?_)
                    obtain ⟨f110228, rfl⟩ : ∃ z9, z9 = u10227 := ⟨_, rfl⟩
                    try dsimp only at hr10226
                    have hPD : va_PD G A [(h0, .inr (11, [.ref bb, .ref kk, .int ikp, .ref sg, .ref do9, .ref ru9, .ref ta9, .ref tp9, .ref ro9, .ref ho9, .ref de9])), (bb, .inr (0, [.ref bpersons, .ref bpapers, .ref bstamps, .ref bversions, .ref blines, .ref bsteps, .ref bsayings, .ref bfindings, .ref bwarnings, .ref bquestions, .int td, .int vd, .int vl, .int gp])), (bpersons, .inr (8, [.int 10, .int 2, .ref bpersonsc, .int (nI kbpersons)])), (bpapers, .inr (8, [.int 12, .int 6, .ref bpapersc, .int (nI kbpapers)])), (bsayings, .inr (8, [.int 16, .int 8, .ref bsayingsc, .int (nI (kbsayings + 1))])), (bsayingsc, .inl (G.2.1, 128, .inl f110228))] H := And.intro hP hD
                    obtain ⟨hP, hD⟩ := hPD
                    have w10229 := hr10226
                    refine lv_aload_n hx hb dX11_saying_167 rfl (lv_at hl 1 rfl) ?_
                    refine gf_X11_15 hC rfl hK hP 0 rfl rfl dX11_saying_168 ?_
                    refine gf_X11_256 hC rfl hK hP 1 rfl rfl dX11_saying_171 ?_
                    refine lv_iload hx hb dX11_saying_174 (lv_at hl 0 rfl) ?_
                    refine lv_iconst (v := 3) hx hb dX11_saying_176 (by decide) ?_
                    refine lv_iload hx hb dX11_saying_177 (lv_at hl 5 rfl) ?_
                    refine lv_bipush (v := 10) hx hb dX11_saying_179 (by decide) ?_
                    refine lv_idiv hx hb dX11_saying_181 (by decide) ?_
                    refine lv_topi (fun x10230 ex10230 => ?_)
                    refine vV (wr := [(h0, .inr (11, [.ref bb, .ref kk, .int ikp, .ref sg, .ref do9, .ref ru9, .ref ta9, .ref tp9, .ref ro9, .ref ho9, .ref de9])), (bb, .inr (0, [.ref bpersons, .ref bpapers, .ref bstamps, .ref bversions, .ref blines, .ref bsteps, .ref bsayings, .ref bfindings, .ref bwarnings, .ref bquestions, .int td, .int vd, .int vl, .int gp])), (bpersons, .inr (8, [.int 10, .int 2, .ref bpersonsc, .int (nI kbpersons)])), (bpapers, .inr (8, [.int 12, .int 6, .ref bpapersc, .int (nI kbpapers)]))]) hC hK hl hP hD hS hA (c_T_set l G bsayings (nI kbsayings) 3 x10230 16 8 bsayingsc (kbsayings + 1) f110228 (by omega) (by omega) (by omega)) si_X11_120 [4, 5] [0, 1, 2, 3] rfl rfl (by decide) rfl (by decide) (by decide) rfl rfl rfl rfl rfl (Nat.le_of_ble_eq_true rfl) ⟨Nat.le_of_ble_eq_true rfl, Nat.le_of_ble_eq_true rfl⟩ ⟨Nat.le_of_ble_eq_true rfl, Nat.le_of_ble_eq_true rfl⟩ dX11_saying_182 (fun u10232 H locs hr10231 hP hD hS => ?_)
                    obtain ⟨f110233, rfl⟩ : ∃ z9, z9 = u10232 := ⟨_, rfl⟩
                    try dsimp only at hr10231
                    have hPD : va_PD G A [(h0, .inr (11, [.ref bb, .ref kk, .int ikp, .ref sg, .ref do9, .ref ru9, .ref ta9, .ref tp9, .ref ro9, .ref ho9, .ref de9])), (bb, .inr (0, [.ref bpersons, .ref bpapers, .ref bstamps, .ref bversions, .ref blines, .ref bsteps, .ref bsayings, .ref bfindings, .ref bwarnings, .ref bquestions, .int td, .int vd, .int vl, .int gp])), (bpersons, .inr (8, [.int 10, .int 2, .ref bpersonsc, .int (nI kbpersons)])), (bpapers, .inr (8, [.int 12, .int 6, .ref bpapersc, .int (nI kbpapers)])), (bsayings, .inr (8, [.int 16, .int 8, .ref bsayingsc, .int (nI (kbsayings + 1))])), (bsayingsc, .inl (G.2.1, 128, .inl f110233))] H := And.intro hP hD
                    obtain ⟨hP, hD⟩ := hPD
                    have w10234 := hr10231
                    refine lv_aload_n hx hb dX11_saying_185 rfl (lv_at hl 1 rfl) ?_
                    refine gf_X11_15 hC rfl hK hP 0 rfl rfl dX11_saying_186 ?_
                    refine gf_X11_256 hC rfl hK hP 1 rfl rfl dX11_saying_189 ?_
                    refine lv_iload hx hb dX11_saying_192 (lv_at hl 0 rfl) ?_
                    refine lv_iconst (v := 4) hx hb dX11_saying_194 (by decide) ?_
                    refine lv_iload hx hb dX11_saying_195 (lv_at hl 5 rfl) ?_
                    refine lv_bipush (v := 10) hx hb dX11_saying_197 (by decide) ?_
                    refine lv_irem hx hb dX11_saying_199 (by decide) ?_
                    refine lv_topi (fun x10235 ex10235 => ?_)
                    refine vV (wr := [(h0, .inr (11, [.ref bb, .ref kk, .int ikp, .ref sg, .ref do9, .ref ru9, .ref ta9, .ref tp9, .ref ro9, .ref ho9, .ref de9])), (bb, .inr (0, [.ref bpersons, .ref bpapers, .ref bstamps, .ref bversions, .ref blines, .ref bsteps, .ref bsayings, .ref bfindings, .ref bwarnings, .ref bquestions, .int td, .int vd, .int vl, .int gp])), (bpersons, .inr (8, [.int 10, .int 2, .ref bpersonsc, .int (nI kbpersons)])), (bpapers, .inr (8, [.int 12, .int 6, .ref bpapersc, .int (nI kbpapers)]))]) hC hK hl hP hD hS hA (c_T_set l G bsayings (nI kbsayings) 4 x10235 16 8 bsayingsc (kbsayings + 1) f110233 (by omega) (by omega) (by omega)) si_X11_120 [4, 5] [0, 1, 2, 3] rfl rfl (by decide) rfl (by decide) (by decide) rfl rfl rfl rfl rfl (Nat.le_of_ble_eq_true rfl) ⟨Nat.le_of_ble_eq_true rfl, Nat.le_of_ble_eq_true rfl⟩ ⟨Nat.le_of_ble_eq_true rfl, Nat.le_of_ble_eq_true rfl⟩ dX11_saying_200 (fun u10237 H locs hr10236 hP hD hS => ?_)
                    obtain ⟨f110238, rfl⟩ : ∃ z9, z9 = u10237 := ⟨_, rfl⟩
                    try dsimp only at hr10236
                    have hPD : va_PD G A [(h0, .inr (11, [.ref bb, .ref kk, .int ikp, .ref sg, .ref do9, .ref ru9, .ref ta9, .ref tp9, .ref ro9, .ref ho9, .ref de9])), (bb, .inr (0, [.ref bpersons, .ref bpapers, .ref bstamps, .ref bversions, .ref blines, .ref bsteps, .ref bsayings, .ref bfindings, .ref bwarnings, .ref bquestions, .int td, .int vd, .int vl, .int gp])), (bpersons, .inr (8, [.int 10, .int 2, .ref bpersonsc, .int (nI kbpersons)])), (bpapers, .inr (8, [.int 12, .int 6, .ref bpapersc, .int (nI kbpapers)])), (bsayings, .inr (8, [.int 16, .int 8, .ref bsayingsc, .int (nI (kbsayings + 1))])), (bsayingsc, .inl (G.2.1, 128, .inl f110238))] H := And.intro hP hD
                    obtain ⟨hP, hD⟩ := hPD
                    have w10239 := hr10236
                    refine lv_aload_n hx hb dX11_saying_203 rfl (lv_at hl 1 rfl) ?_
                    refine gf_X11_15 hC rfl hK hP 0 rfl rfl dX11_saying_204 ?_
                    refine gf_X11_256 hC rfl hK hP 1 rfl rfl dX11_saying_207 ?_
                    refine lv_iload hx hb dX11_saying_210 (lv_at hl 0 rfl) ?_
                    refine lv_iconst (v := 5) hx hb dX11_saying_212 (by decide) ?_
                    refine lv_iload hx hb dX11_saying_213 (lv_at hl 6 rfl) ?_
                    refine lv_if_eq (tgt := 222) hx hb dX11_saying_215 (by decide) (fun c_215_10240 => ?_) (fun c_215_10240 => ?_)
                    · refine lv_iconst (v := 0) hx hb dX11_saying_222 (by decide) ?_
                      refine vV (wr := [(h0, .inr (11, [.ref bb, .ref kk, .int ikp, .ref sg, .ref do9, .ref ru9, .ref ta9, .ref tp9, .ref ro9, .ref ho9, .ref de9])), (bb, .inr (0, [.ref bpersons, .ref bpapers, .ref bstamps, .ref bversions, .ref blines, .ref bsteps, .ref bsayings, .ref bfindings, .ref bwarnings, .ref bquestions, .int td, .int vd, .int vl, .int gp])), (bpersons, .inr (8, [.int 10, .int 2, .ref bpersonsc, .int (nI kbpersons)])), (bpapers, .inr (8, [.int 12, .int 6, .ref bpapersc, .int (nI kbpapers)]))]) hC hK hl hP hD hS hA (c_T_set l G bsayings (nI kbsayings) 5 0 16 8 bsayingsc (kbsayings + 1) f110238 (by omega) (by omega) (by omega)) si_X11_120 [4, 5] [0, 1, 2, 3] rfl rfl (by decide) rfl (by decide) (by decide) rfl rfl rfl rfl rfl (Nat.le_of_ble_eq_true rfl) ⟨Nat.le_of_ble_eq_true rfl, Nat.le_of_ble_eq_true rfl⟩ ⟨Nat.le_of_ble_eq_true rfl, Nat.le_of_ble_eq_true rfl⟩ dX11_saying_223 (fun u10242 H locs hr10241 hP hD hS => ?_)
                      obtain ⟨f110243, rfl⟩ : ∃ z9, z9 = u10242 := ⟨_, rfl⟩
                      try dsimp only at hr10241
                      have hPD : va_PD G A [(h0, .inr (11, [.ref bb, .ref kk, .int ikp, .ref sg, .ref do9, .ref ru9, .ref ta9, .ref tp9, .ref ro9, .ref ho9, .ref de9])), (bb, .inr (0, [.ref bpersons, .ref bpapers, .ref bstamps, .ref bversions, .ref blines, .ref bsteps, .ref bsayings, .ref bfindings, .ref bwarnings, .ref bquestions, .int td, .int vd, .int vl, .int gp])), (bpersons, .inr (8, [.int 10, .int 2, .ref bpersonsc, .int (nI kbpersons)])), (bpapers, .inr (8, [.int 12, .int 6, .ref bpapersc, .int (nI kbpapers)])), (bsayings, .inr (8, [.int 16, .int 8, .ref bsayingsc, .int (nI (kbsayings + 1))])), (bsayingsc, .inl (G.2.1, 128, .inl f110243))] H := And.intro hP hD
                      obtain ⟨hP, hD⟩ := hPD
                      have w10244 := hr10241
                      refine lv_aload_n hx hb dX11_saying_226 rfl (lv_at hl 1 rfl) ?_
                      refine gf_X11_15 hC rfl hK hP 0 rfl rfl dX11_saying_227 ?_
                      refine gf_X11_256 hC rfl hK hP 1 rfl rfl dX11_saying_230 ?_
                      refine lv_iload hx hb dX11_saying_233 (lv_at hl 0 rfl) ?_
                      refine lv_bipush (v := 6) hx hb dX11_saying_235 (by decide) ?_
                      refine lv_iload hx hb dX11_saying_237 (lv_at hl 7 rfl) ?_
                      refine vV (wr := [(h0, .inr (11, [.ref bb, .ref kk, .int ikp, .ref sg, .ref do9, .ref ru9, .ref ta9, .ref tp9, .ref ro9, .ref ho9, .ref de9])), (bb, .inr (0, [.ref bpersons, .ref bpapers, .ref bstamps, .ref bversions, .ref blines, .ref bsteps, .ref bsayings, .ref bfindings, .ref bwarnings, .ref bquestions, .int td, .int vd, .int vl, .int gp])), (bpersons, .inr (8, [.int 10, .int 2, .ref bpersonsc, .int (nI kbpersons)])), (bpapers, .inr (8, [.int 12, .int 6, .ref bpapersc, .int (nI kbpapers)]))]) hC hK hl hP hD hS hA (c_T_set l G bsayings (nI kbsayings) 6 x6 16 8 bsayingsc (kbsayings + 1) f110243 (by omega) (by omega) (by omega)) si_X11_120 [4, 5] [0, 1, 2, 3] rfl rfl (by decide) rfl (by decide) (by decide) rfl rfl rfl rfl rfl (Nat.le_of_ble_eq_true rfl) ⟨Nat.le_of_ble_eq_true rfl, Nat.le_of_ble_eq_true rfl⟩ ⟨Nat.le_of_ble_eq_true rfl, Nat.le_of_ble_eq_true rfl⟩ dX11_saying_239 (fun u10246 H locs hr10245 hP hD hS => ?_)
                      obtain ⟨f110247, rfl⟩ : ∃ z9, z9 = u10246 := ⟨_, rfl⟩
                      try dsimp only at hr10245
                      have hPD : va_PD G A [(h0, .inr (11, [.ref bb, .ref kk, .int ikp, .ref sg, .ref do9, .ref ru9, .ref ta9, .ref tp9, .ref ro9, .ref ho9, .ref de9])), (bb, .inr (0, [.ref bpersons, .ref bpapers, .ref bstamps, .ref bversions, .ref blines, .ref bsteps, .ref bsayings, .ref bfindings, .ref bwarnings, .ref bquestions, .int td, .int vd, .int vl, .int gp])), (bpersons, .inr (8, [.int 10, .int 2, .ref bpersonsc, .int (nI kbpersons)])), (bpapers, .inr (8, [.int 12, .int 6, .ref bpapersc, .int (nI kbpapers)])), (bsayings, .inr (8, [.int 16, .int 8, .ref bsayingsc, .int (nI (kbsayings + 1))])), (bsayingsc, .inl (G.2.1, 128, .inl f110247))] H := And.intro hP hD
                      obtain ⟨hP, hD⟩ := hPD
                      have w10248 := hr10245
                      refine lv_aload_n hx hb dX11_saying_242 rfl (lv_at hl 1 rfl) ?_
                      refine gf_X11_15 hC rfl hK hP 0 rfl rfl dX11_saying_243 ?_
                      refine gf_X11_256 hC rfl hK hP 1 rfl rfl dX11_saying_246 ?_
                      refine lv_iload hx hb dX11_saying_249 (lv_at hl 0 rfl) ?_
                      refine lv_bipush (v := 7) hx hb dX11_saying_251 (by decide) ?_
                      refine lv_aload_n hx hb dX11_saying_253 rfl (lv_at hl 1 rfl) ?_
                      refine gf_X11_15 hC rfl hK hP 0 rfl rfl dX11_saying_254 ?_
                      refine gf_X11_87 hC rfl hK hP 1 rfl rfl dX11_saying_257 ?_
                      refine vV (wr := [(h0, .inr (11, [.ref bb, .ref kk, .int ikp, .ref sg, .ref do9, .ref ru9, .ref ta9, .ref tp9, .ref ro9, .ref ho9, .ref de9])), (bb, .inr (0, [.ref bpersons, .ref bpapers, .ref bstamps, .ref bversions, .ref blines, .ref bsteps, .ref bsayings, .ref bfindings, .ref bwarnings, .ref bquestions, .int td, .int vd, .int vl, .int gp])), (bpersons, .inr (8, [.int 10, .int 2, .ref bpersonsc, .int (nI kbpersons)])), (bpapers, .inr (8, [.int 12, .int 6, .ref bpapersc, .int (nI kbpapers)]))]) hC hK hl hP hD hS hA (c_T_set l G bsayings (nI kbsayings) 7 td 16 8 bsayingsc (kbsayings + 1) f110247 (by omega) (by omega) (by omega)) si_X11_120 [4, 5] [0, 1, 2, 3] rfl rfl (by decide) rfl (by decide) (by decide) rfl rfl rfl rfl rfl (Nat.le_of_ble_eq_true rfl) ⟨Nat.le_of_ble_eq_true rfl, Nat.le_of_ble_eq_true rfl⟩ ⟨Nat.le_of_ble_eq_true rfl, Nat.le_of_ble_eq_true rfl⟩ dX11_saying_260 (fun u10250 H locs hr10249 hP hD hS => ?_)
                      obtain ⟨f110251, rfl⟩ : ∃ z9, z9 = u10250 := ⟨_, rfl⟩
                      try dsimp only at hr10249
                      have hPD : va_PD G A [(h0, .inr (11, [.ref bb, .ref kk, .int ikp, .ref sg, .ref do9, .ref ru9, .ref ta9, .ref tp9, .ref ro9, .ref ho9, .ref de9])), (bb, .inr (0, [.ref bpersons, .ref bpapers, .ref bstamps, .ref bversions, .ref blines, .ref bsteps, .ref bsayings, .ref bfindings, .ref bwarnings, .ref bquestions, .int td, .int vd, .int vl, .int gp])), (bpersons, .inr (8, [.int 10, .int 2, .ref bpersonsc, .int (nI kbpersons)])), (bpapers, .inr (8, [.int 12, .int 6, .ref bpapersc, .int (nI kbpapers)])), (bsayings, .inr (8, [.int 16, .int 8, .ref bsayingsc, .int (nI (kbsayings + 1))])), (bsayingsc, .inl (G.2.1, 128, .inl f110251))] H := And.intro hP hD
                      obtain ⟨hP, hD⟩ := hPD
                      have w10252 := hr10249
                      refine lv_iload hx hb dX11_saying_263 (lv_at hl 0 rfl) ?_
                      have tt10253 : f110220 = upd fbsayings (kbsayings * 8 + 0) x1 := w10221.symm.trans (ts1 (by decide) (by decide) (by omega) rfl)
                      have tt10254 : f110224 = upd f110220 (kbsayings * 8 + 1) x2 := w10225.symm.trans (ts1 (by decide) (by decide) (by omega) rfl)
                      have tt10255 : f110228 = upd f110224 (kbsayings * 8 + 2) x3 := w10229.symm.trans (ts1 (by decide) (by decide) (by omega) rfl)
                      have tt10256 : f110233 = upd f110228 (kbsayings * 8 + 3) x10230 := w10234.symm.trans (ts1 (by decide) (by decide) (by omega) rfl)
                      have tt10257 : f110238 = upd f110233 (kbsayings * 8 + 4) x10235 := w10239.symm.trans (ts1 (by decide) (by decide) (by omega) rfl)
                      have tt10258 : f110243 = upd f110238 (kbsayings * 8 + 5) 0 := w10244.symm.trans (ts1 (by decide) (by decide) (by omega) rfl)
                      have tt10259 : f110247 = upd f110243 (kbsayings * 8 + 6) x6 := w10248.symm.trans (ts1 (by decide) (by decide) (by omega) rfl)
                      have tt10260 : f110251 = upd f110247 (kbsayings * 8 + 7) td := w10252.symm.trans (ts1 (by decide) (by decide) (by omega) rfl)
                      have tu10261 : f110251 = rowu fbsayings (kbsayings * 8) [x1, x2, x3, x10230, x10235, 0, x6, td] := by rw [tt10260, tt10259, tt10258, tt10257, tt10256, tt10255, tt10254, tt10253]; rfl
                      exact RI (v := nI kbsayings) hC hP hD hS [0, 1, 4, 5, 2, 3] ((kbsayings + 1), f110251) rfl rfl (by decide) (⟨(by first | rfl | (simp only [ifc_t hkbsayings, ifc_t hkbpersons, ifc_t hkbpapers, ifc_t hSP, ifc_t hSO, ifc_t a10129, ifc_t a10131, ifc_t a10133, ifc_f c_46_10134, ifc_t a10137, ifc_f c_69_10139, ifc_f c_77_10140, ifc_t a10212, ifc_t a10214, ifc_t c_215_10240, ifc_f (Nat.not_le.mpr a10214), ifc_t (howC c_46_10134 ex10135 a10137 ex10138 c_69_10139), ifc_t (q := TLK x6 kbsayings) (Or.inr a10212)]; done) | (simp only [ifc_t hkbsayings, ifc_t hkbpersons, ifc_t hkbpapers, ifc_t hSP, ifc_t hSO, ifc_t a10129, ifc_t a10131, ifc_t a10133, ifc_f c_46_10134, ifc_t a10137, ifc_f c_69_10139, ifc_f c_77_10140, ifc_t a10212, ifc_t a10214, ifc_t c_215_10240, ifc_f (Nat.not_le.mpr a10214), ifc_t (howC c_46_10134 ex10135 a10137 ex10138 c_69_10139), ifc_t (q := TLK x6 kbsayings) (Or.inr a10212)]; rfl) | (dsimp only; simp only [ifc_t hkbsayings, ifc_t hkbpersons, ifc_t hkbpapers, ifc_t hSP, ifc_t hSO, ifc_t a10129, ifc_t a10131, ifc_t a10133, ifc_f c_46_10134, ifc_t a10137, ifc_f c_69_10139, ifc_f c_77_10140, ifc_t a10212, ifc_t a10214, ifc_t c_215_10240, ifc_f (Nat.not_le.mpr a10214), ifc_t (howC c_46_10134 ex10135 a10137 ex10138 c_69_10139), ifc_t (q := TLK x6 kbsayings) (Or.inr a10212)]; done)), ⟨by omega, by omega, (by first | rfl | (simp only [ifc_t hkbsayings, ifc_t hkbpersons, ifc_t hkbpapers, ifc_t hSP, ifc_t hSO, ifc_t a10129, ifc_t a10131, ifc_t a10133, ifc_f c_46_10134, ifc_t a10137, ifc_f c_69_10139, ifc_f c_77_10140, ifc_t a10212, ifc_t a10214, ifc_t c_215_10240, ifc_f (Nat.not_le.mpr a10214), ifc_t (howC c_46_10134 ex10135 a10137 ex10138 c_69_10139), ifc_t (q := TLK x6 kbsayings) (Or.inr a10212)]; done) | (simp only [ifc_t hkbsayings, ifc_t hkbpersons, ifc_t hkbpapers, ifc_t hSP, ifc_t hSO, ifc_t a10129, ifc_t a10131, ifc_t a10133, ifc_f c_46_10134, ifc_t a10137, ifc_f c_69_10139, ifc_f c_77_10140, ifc_t a10212, ifc_t a10214, ifc_t c_215_10240, ifc_f (Nat.not_le.mpr a10214), ifc_t (howC c_46_10134 ex10135 a10137 ex10138 c_69_10139), ifc_t (q := TLK x6 kbsayings) (Or.inr a10212)]; rfl) | (dsimp only; simp only [ifc_t hkbsayings, ifc_t hkbpersons, ifc_t hkbpapers, ifc_t hSP, ifc_t hSO, ifc_t a10129, ifc_t a10131, ifc_t a10133, ifc_f c_46_10134, ifc_t a10137, ifc_f c_69_10139, ifc_f c_77_10140, ifc_t a10212, ifc_t a10214, ifc_t c_215_10240, ifc_f (Nat.not_le.mpr a10214), ifc_t (howC c_46_10134 ex10135 a10137 ex10138 c_69_10139), ifc_t (q := TLK x6 kbsayings) (Or.inr a10212)]; done)), ⟨(by rw [tu10261]; exact SPI.row hSP a10133), (by rw [tu10261]; exact SPO.row hSO a10131 (HOW.hour (howC c_46_10134 ex10135 a10137 ex10138 c_69_10139) ex10230) (HOW.wgt (howC c_46_10134 ex10135 a10137 ex10138 c_69_10139) ex10235))⟩, (fun i => by simp only [ifc_t hkbsayings, ifc_t hkbpersons, ifc_t hkbpapers, ifc_t hSP, ifc_t hSO, ifc_t a10129, ifc_t a10131, ifc_t a10133, ifc_f c_46_10134, ifc_t a10137, ifc_f c_69_10139, ifc_f c_77_10140, ifc_t a10212, ifc_t a10214, ifc_t c_215_10240, ifc_f (Nat.not_le.mpr a10214), ifc_t (howC c_46_10134 ex10135 a10137 ex10138 c_69_10139), ifc_t (q := TLK x6 kbsayings) (Or.inr a10212)]; rw [tu10261]; simp only [ex10230, ex10235])⟩⟩) rfl dX11_saying_265
                    · refine lv_iconst (v := 1) hx hb dX11_saying_218 (by decide) ?_
                      refine lv_goto (tgt := 223) hx hb dX11_saying_219 (by decide) ?_
                      refine vV (wr := [(h0, .inr (11, [.ref bb, .ref kk, .int ikp, .ref sg, .ref do9, .ref ru9, .ref ta9, .ref tp9, .ref ro9, .ref ho9, .ref de9])), (bb, .inr (0, [.ref bpersons, .ref bpapers, .ref bstamps, .ref bversions, .ref blines, .ref bsteps, .ref bsayings, .ref bfindings, .ref bwarnings, .ref bquestions, .int td, .int vd, .int vl, .int gp])), (bpersons, .inr (8, [.int 10, .int 2, .ref bpersonsc, .int (nI kbpersons)])), (bpapers, .inr (8, [.int 12, .int 6, .ref bpapersc, .int (nI kbpapers)]))]) hC hK hl hP hD hS hA (c_T_set l G bsayings (nI kbsayings) 5 1 16 8 bsayingsc (kbsayings + 1) f110238 (by omega) (by omega) (by omega)) si_X11_120 [4, 5] [0, 1, 2, 3] rfl rfl (by decide) rfl (by decide) (by decide) rfl rfl rfl rfl rfl (Nat.le_of_ble_eq_true rfl) ⟨Nat.le_of_ble_eq_true rfl, Nat.le_of_ble_eq_true rfl⟩ ⟨Nat.le_of_ble_eq_true rfl, Nat.le_of_ble_eq_true rfl⟩ dX11_saying_223 (fun u10263 H locs hr10262 hP hD hS => ?_)
                      obtain ⟨f110264, rfl⟩ : ∃ z9, z9 = u10263 := ⟨_, rfl⟩
                      try dsimp only at hr10262
                      have hPD : va_PD G A [(h0, .inr (11, [.ref bb, .ref kk, .int ikp, .ref sg, .ref do9, .ref ru9, .ref ta9, .ref tp9, .ref ro9, .ref ho9, .ref de9])), (bb, .inr (0, [.ref bpersons, .ref bpapers, .ref bstamps, .ref bversions, .ref blines, .ref bsteps, .ref bsayings, .ref bfindings, .ref bwarnings, .ref bquestions, .int td, .int vd, .int vl, .int gp])), (bpersons, .inr (8, [.int 10, .int 2, .ref bpersonsc, .int (nI kbpersons)])), (bpapers, .inr (8, [.int 12, .int 6, .ref bpapersc, .int (nI kbpapers)])), (bsayings, .inr (8, [.int 16, .int 8, .ref bsayingsc, .int (nI (kbsayings + 1))])), (bsayingsc, .inl (G.2.1, 128, .inl f110264))] H := And.intro hP hD
                      obtain ⟨hP, hD⟩ := hPD
                      have w10265 := hr10262
                      refine lv_aload_n hx hb dX11_saying_226 rfl (lv_at hl 1 rfl) ?_
                      refine gf_X11_15 hC rfl hK hP 0 rfl rfl dX11_saying_227 ?_
                      refine gf_X11_256 hC rfl hK hP 1 rfl rfl dX11_saying_230 ?_
                      refine lv_iload hx hb dX11_saying_233 (lv_at hl 0 rfl) ?_
                      refine lv_bipush (v := 6) hx hb dX11_saying_235 (by decide) ?_
                      refine lv_iload hx hb dX11_saying_237 (lv_at hl 7 rfl) ?_
                      refine vV (wr := [(h0, .inr (11, [.ref bb, .ref kk, .int ikp, .ref sg, .ref do9, .ref ru9, .ref ta9, .ref tp9, .ref ro9, .ref ho9, .ref de9])), (bb, .inr (0, [.ref bpersons, .ref bpapers, .ref bstamps, .ref bversions, .ref blines, .ref bsteps, .ref bsayings, .ref bfindings, .ref bwarnings, .ref bquestions, .int td, .int vd, .int vl, .int gp])), (bpersons, .inr (8, [.int 10, .int 2, .ref bpersonsc, .int (nI kbpersons)])), (bpapers, .inr (8, [.int 12, .int 6, .ref bpapersc, .int (nI kbpapers)]))]) hC hK hl hP hD hS hA (c_T_set l G bsayings (nI kbsayings) 6 x6 16 8 bsayingsc (kbsayings + 1) f110264 (by omega) (by omega) (by omega)) si_X11_120 [4, 5] [0, 1, 2, 3] rfl rfl (by decide) rfl (by decide) (by decide) rfl rfl rfl rfl rfl (Nat.le_of_ble_eq_true rfl) ⟨Nat.le_of_ble_eq_true rfl, Nat.le_of_ble_eq_true rfl⟩ ⟨Nat.le_of_ble_eq_true rfl, Nat.le_of_ble_eq_true rfl⟩ dX11_saying_239 (fun u10267 H locs hr10266 hP hD hS => ?_)
                      obtain ⟨f110268, rfl⟩ : ∃ z9, z9 = u10267 := ⟨_, rfl⟩
                      try dsimp only at hr10266
                      have hPD : va_PD G A [(h0, .inr (11, [.ref bb, .ref kk, .int ikp, .ref sg, .ref do9, .ref ru9, .ref ta9, .ref tp9, .ref ro9, .ref ho9, .ref de9])), (bb, .inr (0, [.ref bpersons, .ref bpapers, .ref bstamps, .ref bversions, .ref blines, .ref bsteps, .ref bsayings, .ref bfindings, .ref bwarnings, .ref bquestions, .int td, .int vd, .int vl, .int gp])), (bpersons, .inr (8, [.int 10, .int 2, .ref bpersonsc, .int (nI kbpersons)])), (bpapers, .inr (8, [.int 12, .int 6, .ref bpapersc, .int (nI kbpapers)])), (bsayings, .inr (8, [.int 16, .int 8, .ref bsayingsc, .int (nI (kbsayings + 1))])), (bsayingsc, .inl (G.2.1, 128, .inl f110268))] H := And.intro hP hD
                      obtain ⟨hP, hD⟩ := hPD
                      have w10269 := hr10266
                      refine lv_aload_n hx hb dX11_saying_242 rfl (lv_at hl 1 rfl) ?_
                      refine gf_X11_15 hC rfl hK hP 0 rfl rfl dX11_saying_243 ?_
                      refine gf_X11_256 hC rfl hK hP 1 rfl rfl dX11_saying_246 ?_
                      refine lv_iload hx hb dX11_saying_249 (lv_at hl 0 rfl) ?_
                      refine lv_bipush (v := 7) hx hb dX11_saying_251 (by decide) ?_
                      refine lv_aload_n hx hb dX11_saying_253 rfl (lv_at hl 1 rfl) ?_
                      refine gf_X11_15 hC rfl hK hP 0 rfl rfl dX11_saying_254 ?_
                      refine gf_X11_87 hC rfl hK hP 1 rfl rfl dX11_saying_257 ?_
                      refine vV (wr := [(h0, .inr (11, [.ref bb, .ref kk, .int ikp, .ref sg, .ref do9, .ref ru9, .ref ta9, .ref tp9, .ref ro9, .ref ho9, .ref de9])), (bb, .inr (0, [.ref bpersons, .ref bpapers, .ref bstamps, .ref bversions, .ref blines, .ref bsteps, .ref bsayings, .ref bfindings, .ref bwarnings, .ref bquestions, .int td, .int vd, .int vl, .int gp])), (bpersons, .inr (8, [.int 10, .int 2, .ref bpersonsc, .int (nI kbpersons)])), (bpapers, .inr (8, [.int 12, .int 6, .ref bpapersc, .int (nI kbpapers)]))]) hC hK hl hP hD hS hA (c_T_set l G bsayings (nI kbsayings) 7 td 16 8 bsayingsc (kbsayings + 1) f110268 (by omega) (by omega) (by omega)) si_X11_120 [4, 5] [0, 1, 2, 3] rfl rfl (by decide) rfl (by decide) (by decide) rfl rfl rfl rfl rfl (Nat.le_of_ble_eq_true rfl) ⟨Nat.le_of_ble_eq_true rfl, Nat.le_of_ble_eq_true rfl⟩ ⟨Nat.le_of_ble_eq_true rfl, Nat.le_of_ble_eq_true rfl⟩ dX11_saying_260 (fun u10271 H locs hr10270 hP hD hS => ?_)
                      obtain ⟨f110272, rfl⟩ : ∃ z9, z9 = u10271 := ⟨_, rfl⟩
                      try dsimp only at hr10270
                      have hPD : va_PD G A [(h0, .inr (11, [.ref bb, .ref kk, .int ikp, .ref sg, .ref do9, .ref ru9, .ref ta9, .ref tp9, .ref ro9, .ref ho9, .ref de9])), (bb, .inr (0, [.ref bpersons, .ref bpapers, .ref bstamps, .ref bversions, .ref blines, .ref bsteps, .ref bsayings, .ref bfindings, .ref bwarnings, .ref bquestions, .int td, .int vd, .int vl, .int gp])), (bpersons, .inr (8, [.int 10, .int 2, .ref bpersonsc, .int (nI kbpersons)])), (bpapers, .inr (8, [.int 12, .int 6, .ref bpapersc, .int (nI kbpapers)])), (bsayings, .inr (8, [.int 16, .int 8, .ref bsayingsc, .int (nI (kbsayings + 1))])), (bsayingsc, .inl (G.2.1, 128, .inl f110272))] H := And.intro hP hD
                      obtain ⟨hP, hD⟩ := hPD
                      have w10273 := hr10270
                      refine lv_iload hx hb dX11_saying_263 (lv_at hl 0 rfl) ?_
                      have tt10274 : f110220 = upd fbsayings (kbsayings * 8 + 0) x1 := w10221.symm.trans (ts1 (by decide) (by decide) (by omega) rfl)
                      have tt10275 : f110224 = upd f110220 (kbsayings * 8 + 1) x2 := w10225.symm.trans (ts1 (by decide) (by decide) (by omega) rfl)
                      have tt10276 : f110228 = upd f110224 (kbsayings * 8 + 2) x3 := w10229.symm.trans (ts1 (by decide) (by decide) (by omega) rfl)
                      have tt10277 : f110233 = upd f110228 (kbsayings * 8 + 3) x10230 := w10234.symm.trans (ts1 (by decide) (by decide) (by omega) rfl)
                      have tt10278 : f110238 = upd f110233 (kbsayings * 8 + 4) x10235 := w10239.symm.trans (ts1 (by decide) (by decide) (by omega) rfl)
                      have tt10279 : f110264 = upd f110238 (kbsayings * 8 + 5) 1 := w10265.symm.trans (ts1 (by decide) (by decide) (by omega) rfl)
                      have tt10280 : f110268 = upd f110264 (kbsayings * 8 + 6) x6 := w10269.symm.trans (ts1 (by decide) (by decide) (by omega) rfl)
                      have tt10281 : f110272 = upd f110268 (kbsayings * 8 + 7) td := w10273.symm.trans (ts1 (by decide) (by decide) (by omega) rfl)
                      have tu10282 : f110272 = rowu fbsayings (kbsayings * 8) [x1, x2, x3, x10230, x10235, 1, x6, td] := by rw [tt10281, tt10280, tt10279, tt10278, tt10277, tt10276, tt10275, tt10274]; rfl
                      exact RI (v := nI kbsayings) hC hP hD hS [0, 1, 4, 5, 2, 3] ((kbsayings + 1), f110272) rfl rfl (by decide) (⟨(by first | rfl | (simp only [ifc_t hkbsayings, ifc_t hkbpersons, ifc_t hkbpapers, ifc_t hSP, ifc_t hSO, ifc_t a10129, ifc_t a10131, ifc_t a10133, ifc_f c_46_10134, ifc_t a10137, ifc_f c_69_10139, ifc_f c_77_10140, ifc_t a10212, ifc_t a10214, ifc_f c_215_10240, ifc_f (Nat.not_le.mpr a10214), ifc_t (howC c_46_10134 ex10135 a10137 ex10138 c_69_10139), ifc_t (q := TLK x6 kbsayings) (Or.inr a10212)]; done) | (simp only [ifc_t hkbsayings, ifc_t hkbpersons, ifc_t hkbpapers, ifc_t hSP, ifc_t hSO, ifc_t a10129, ifc_t a10131, ifc_t a10133, ifc_f c_46_10134, ifc_t a10137, ifc_f c_69_10139, ifc_f c_77_10140, ifc_t a10212, ifc_t a10214, ifc_f c_215_10240, ifc_f (Nat.not_le.mpr a10214), ifc_t (howC c_46_10134 ex10135 a10137 ex10138 c_69_10139), ifc_t (q := TLK x6 kbsayings) (Or.inr a10212)]; rfl) | (dsimp only; simp only [ifc_t hkbsayings, ifc_t hkbpersons, ifc_t hkbpapers, ifc_t hSP, ifc_t hSO, ifc_t a10129, ifc_t a10131, ifc_t a10133, ifc_f c_46_10134, ifc_t a10137, ifc_f c_69_10139, ifc_f c_77_10140, ifc_t a10212, ifc_t a10214, ifc_f c_215_10240, ifc_f (Nat.not_le.mpr a10214), ifc_t (howC c_46_10134 ex10135 a10137 ex10138 c_69_10139), ifc_t (q := TLK x6 kbsayings) (Or.inr a10212)]; done)), ⟨by omega, by omega, (by first | rfl | (simp only [ifc_t hkbsayings, ifc_t hkbpersons, ifc_t hkbpapers, ifc_t hSP, ifc_t hSO, ifc_t a10129, ifc_t a10131, ifc_t a10133, ifc_f c_46_10134, ifc_t a10137, ifc_f c_69_10139, ifc_f c_77_10140, ifc_t a10212, ifc_t a10214, ifc_f c_215_10240, ifc_f (Nat.not_le.mpr a10214), ifc_t (howC c_46_10134 ex10135 a10137 ex10138 c_69_10139), ifc_t (q := TLK x6 kbsayings) (Or.inr a10212)]; done) | (simp only [ifc_t hkbsayings, ifc_t hkbpersons, ifc_t hkbpapers, ifc_t hSP, ifc_t hSO, ifc_t a10129, ifc_t a10131, ifc_t a10133, ifc_f c_46_10134, ifc_t a10137, ifc_f c_69_10139, ifc_f c_77_10140, ifc_t a10212, ifc_t a10214, ifc_f c_215_10240, ifc_f (Nat.not_le.mpr a10214), ifc_t (howC c_46_10134 ex10135 a10137 ex10138 c_69_10139), ifc_t (q := TLK x6 kbsayings) (Or.inr a10212)]; rfl) | (dsimp only; simp only [ifc_t hkbsayings, ifc_t hkbpersons, ifc_t hkbpapers, ifc_t hSP, ifc_t hSO, ifc_t a10129, ifc_t a10131, ifc_t a10133, ifc_f c_46_10134, ifc_t a10137, ifc_f c_69_10139, ifc_f c_77_10140, ifc_t a10212, ifc_t a10214, ifc_f c_215_10240, ifc_f (Nat.not_le.mpr a10214), ifc_t (howC c_46_10134 ex10135 a10137 ex10138 c_69_10139), ifc_t (q := TLK x6 kbsayings) (Or.inr a10212)]; done)), ⟨(by rw [tu10282]; exact SPI.row hSP a10133), (by rw [tu10282]; exact SPO.row hSO a10131 (HOW.hour (howC c_46_10134 ex10135 a10137 ex10138 c_69_10139) ex10230) (HOW.wgt (howC c_46_10134 ex10135 a10137 ex10138 c_69_10139) ex10235))⟩, (fun i => by simp only [ifc_t hkbsayings, ifc_t hkbpersons, ifc_t hkbpapers, ifc_t hSP, ifc_t hSO, ifc_t a10129, ifc_t a10131, ifc_t a10133, ifc_f c_46_10134, ifc_t a10137, ifc_f c_69_10139, ifc_f c_77_10140, ifc_t a10212, ifc_t a10214, ifc_f c_215_10240, ifc_f (Nat.not_le.mpr a10214), ifc_t (howC c_46_10134 ex10135 a10137 ex10138 c_69_10139), ifc_t (q := TLK x6 kbsayings) (Or.inr a10212)]; rw [tu10282]; simp only [ex10230, ex10235])⟩⟩) rfl dX11_saying_265
                · refine lv_if_ne (tgt := 97) hx hb dX11_saying_92 (by decide) (fun c9 => absurd (by decide) c9) (fun _ => ?_)
                  refine lv_iconst (v := (-1)) hx hb dX11_saying_95 (by decide) ?_
                  exact RI (v := (-1)) hC hP hD hS [0, 1, 2, 3, 4, 5] (kbsayings, fbsayings) rfl rfl (by decide) (⟨(by first | rfl | (simp only [ifc_t hkbsayings, ifc_t hkbpersons, ifc_t hkbpapers, ifc_t hSP, ifc_t hSO, ifc_t a10129, ifc_t a10131, ifc_t a10133, ifc_f c_46_10134, ifc_t a10137, ifc_f c_69_10139, ifc_f c_77_10140, ifc_f a10212, ifc_t (howC c_46_10134 ex10135 a10137 ex10138 c_69_10139), ifc_f (q := TLK x6 kbsayings) (fun h9 => h9.elim c_77_10140 a10212)]; done) | (simp only [ifc_t hkbsayings, ifc_t hkbpersons, ifc_t hkbpapers, ifc_t hSP, ifc_t hSO, ifc_t a10129, ifc_t a10131, ifc_t a10133, ifc_f c_46_10134, ifc_t a10137, ifc_f c_69_10139, ifc_f c_77_10140, ifc_f a10212, ifc_t (howC c_46_10134 ex10135 a10137 ex10138 c_69_10139), ifc_f (q := TLK x6 kbsayings) (fun h9 => h9.elim c_77_10140 a10212)]; rfl) | (dsimp only; simp only [ifc_t hkbsayings, ifc_t hkbpersons, ifc_t hkbpapers, ifc_t hSP, ifc_t hSO, ifc_t a10129, ifc_t a10131, ifc_t a10133, ifc_f c_46_10134, ifc_t a10137, ifc_f c_69_10139, ifc_f c_77_10140, ifc_f a10212, ifc_t (howC c_46_10134 ex10135 a10137 ex10138 c_69_10139), ifc_f (q := TLK x6 kbsayings) (fun h9 => h9.elim c_77_10140 a10212)]; done)), ⟨by omega, by omega, (by first | rfl | (simp only [ifc_t hkbsayings, ifc_t hkbpersons, ifc_t hkbpapers, ifc_t hSP, ifc_t hSO, ifc_t a10129, ifc_t a10131, ifc_t a10133, ifc_f c_46_10134, ifc_t a10137, ifc_f c_69_10139, ifc_f c_77_10140, ifc_f a10212, ifc_t (howC c_46_10134 ex10135 a10137 ex10138 c_69_10139), ifc_f (q := TLK x6 kbsayings) (fun h9 => h9.elim c_77_10140 a10212)]; done) | (simp only [ifc_t hkbsayings, ifc_t hkbpersons, ifc_t hkbpapers, ifc_t hSP, ifc_t hSO, ifc_t a10129, ifc_t a10131, ifc_t a10133, ifc_f c_46_10134, ifc_t a10137, ifc_f c_69_10139, ifc_f c_77_10140, ifc_f a10212, ifc_t (howC c_46_10134 ex10135 a10137 ex10138 c_69_10139), ifc_f (q := TLK x6 kbsayings) (fun h9 => h9.elim c_77_10140 a10212)]; rfl) | (dsimp only; simp only [ifc_t hkbsayings, ifc_t hkbpersons, ifc_t hkbpapers, ifc_t hSP, ifc_t hSO, ifc_t a10129, ifc_t a10131, ifc_t a10133, ifc_f c_46_10134, ifc_t a10137, ifc_f c_69_10139, ifc_f c_77_10140, ifc_f a10212, ifc_t (howC c_46_10134 ex10135 a10137 ex10138 c_69_10139), ifc_f (q := TLK x6 kbsayings) (fun h9 => h9.elim c_77_10140 a10212)]; done)), ⟨hSP, hSO⟩, (fun i => by first | rfl | (simp only [ifc_t hkbsayings, ifc_t hkbpersons, ifc_t hkbpapers, ifc_t hSP, ifc_t hSO, ifc_t a10129, ifc_t a10131, ifc_t a10133, ifc_f c_46_10134, ifc_t a10137, ifc_f c_69_10139, ifc_f c_77_10140, ifc_f a10212, ifc_t (howC c_46_10134 ex10135 a10137 ex10138 c_69_10139), ifc_f (q := TLK x6 kbsayings) (fun h9 => h9.elim c_77_10140 a10212)]; done))⟩⟩) rfl dX11_saying_96
            · refine lv_iconst (v := (-1)) hx hb dX11_saying_72 (by decide) ?_
              exact RI (v := (-1)) hC hP hD hS [0, 1, 2, 3, 4, 5] (kbsayings, fbsayings) rfl rfl (by decide) (⟨(by first | rfl | (simp only [ifc_t hkbsayings, ifc_t hkbpersons, ifc_t hkbpapers, ifc_t hSP, ifc_t hSO, ifc_t a10129, ifc_t a10131, ifc_t a10133, ifc_f c_46_10134, ifc_t a10137, ifc_t c_69_10139, ifc_f (how2 c_46_10134 ex10138 c_69_10139)]; done) | (simp only [ifc_t hkbsayings, ifc_t hkbpersons, ifc_t hkbpapers, ifc_t hSP, ifc_t hSO, ifc_t a10129, ifc_t a10131, ifc_t a10133, ifc_f c_46_10134, ifc_t a10137, ifc_t c_69_10139, ifc_f (how2 c_46_10134 ex10138 c_69_10139)]; rfl) | (dsimp only; simp only [ifc_t hkbsayings, ifc_t hkbpersons, ifc_t hkbpapers, ifc_t hSP, ifc_t hSO, ifc_t a10129, ifc_t a10131, ifc_t a10133, ifc_f c_46_10134, ifc_t a10137, ifc_t c_69_10139, ifc_f (how2 c_46_10134 ex10138 c_69_10139)]; done)), ⟨by omega, by omega, (by first | rfl | (simp only [ifc_t hkbsayings, ifc_t hkbpersons, ifc_t hkbpapers, ifc_t hSP, ifc_t hSO, ifc_t a10129, ifc_t a10131, ifc_t a10133, ifc_f c_46_10134, ifc_t a10137, ifc_t c_69_10139, ifc_f (how2 c_46_10134 ex10138 c_69_10139)]; done) | (simp only [ifc_t hkbsayings, ifc_t hkbpersons, ifc_t hkbpapers, ifc_t hSP, ifc_t hSO, ifc_t a10129, ifc_t a10131, ifc_t a10133, ifc_f c_46_10134, ifc_t a10137, ifc_t c_69_10139, ifc_f (how2 c_46_10134 ex10138 c_69_10139)]; rfl) | (dsimp only; simp only [ifc_t hkbsayings, ifc_t hkbpersons, ifc_t hkbpapers, ifc_t hSP, ifc_t hSO, ifc_t a10129, ifc_t a10131, ifc_t a10133, ifc_f c_46_10134, ifc_t a10137, ifc_t c_69_10139, ifc_f (how2 c_46_10134 ex10138 c_69_10139)]; done)), ⟨hSP, hSO⟩, (fun i => by first | rfl | (simp only [ifc_t hkbsayings, ifc_t hkbpersons, ifc_t hkbpapers, ifc_t hSP, ifc_t hSO, ifc_t a10129, ifc_t a10131, ifc_t a10133, ifc_f c_46_10134, ifc_t a10137, ifc_t c_69_10139, ifc_f (how2 c_46_10134 ex10138 c_69_10139)]; done))⟩⟩) rfl dX11_saying_73
          · refine lv_if_eq (tgt := 72) hx hb dX11_saying_61 (by decide) (fun _ => ?_) (fun c9 => absurd (by decide) c9)
            refine lv_iconst (v := (-1)) hx hb dX11_saying_72 (by decide) ?_
            exact RI (v := (-1)) hC hP hD hS [0, 1, 2, 3, 4, 5] (kbsayings, fbsayings) rfl rfl (by decide) (⟨(by first | rfl | (simp only [ifc_t hkbsayings, ifc_t hkbpersons, ifc_t hkbpapers, ifc_t hSP, ifc_t hSO, ifc_t a10129, ifc_t a10131, ifc_t a10133, ifc_f c_46_10134, ifc_f a10137, ifc_f (how1 c_46_10134 ex10135 a10137)]; done) | (simp only [ifc_t hkbsayings, ifc_t hkbpersons, ifc_t hkbpapers, ifc_t hSP, ifc_t hSO, ifc_t a10129, ifc_t a10131, ifc_t a10133, ifc_f c_46_10134, ifc_f a10137, ifc_f (how1 c_46_10134 ex10135 a10137)]; rfl) | (dsimp only; simp only [ifc_t hkbsayings, ifc_t hkbpersons, ifc_t hkbpapers, ifc_t hSP, ifc_t hSO, ifc_t a10129, ifc_t a10131, ifc_t a10133, ifc_f c_46_10134, ifc_f a10137, ifc_f (how1 c_46_10134 ex10135 a10137)]; done)), ⟨by omega, by omega, (by first | rfl | (simp only [ifc_t hkbsayings, ifc_t hkbpersons, ifc_t hkbpapers, ifc_t hSP, ifc_t hSO, ifc_t a10129, ifc_t a10131, ifc_t a10133, ifc_f c_46_10134, ifc_f a10137, ifc_f (how1 c_46_10134 ex10135 a10137)]; done) | (simp only [ifc_t hkbsayings, ifc_t hkbpersons, ifc_t hkbpapers, ifc_t hSP, ifc_t hSO, ifc_t a10129, ifc_t a10131, ifc_t a10133, ifc_f c_46_10134, ifc_f a10137, ifc_f (how1 c_46_10134 ex10135 a10137)]; rfl) | (dsimp only; simp only [ifc_t hkbsayings, ifc_t hkbpersons, ifc_t hkbpapers, ifc_t hSP, ifc_t hSO, ifc_t a10129, ifc_t a10131, ifc_t a10133, ifc_f c_46_10134, ifc_f a10137, ifc_f (how1 c_46_10134 ex10135 a10137)]; done)), ⟨hSP, hSO⟩, (fun i => by first | rfl | (simp only [ifc_t hkbsayings, ifc_t hkbpersons, ifc_t hkbpapers, ifc_t hSP, ifc_t hSO, ifc_t a10129, ifc_t a10131, ifc_t a10133, ifc_f c_46_10134, ifc_f a10137, ifc_f (how1 c_46_10134 ex10135 a10137)]; done))⟩⟩) rfl dX11_saying_73
      · refine lv_if_ne (tgt := 44) hx hb dX11_saying_39 (by decide) (fun c9 => absurd (by decide) c9) (fun _ => ?_)
        refine lv_iconst (v := (-1)) hx hb dX11_saying_42 (by decide) ?_
        exact RI (v := (-1)) hC hP hD hS [0, 1, 2, 3, 4, 5] (kbsayings, fbsayings) rfl rfl (by decide) (⟨(by first | rfl | (simp only [ifc_t hkbsayings, ifc_t hkbpersons, ifc_t hkbpapers, ifc_t hSP, ifc_t hSO, ifc_t a10129, ifc_t a10131, ifc_f a10133]; done) | (simp only [ifc_t hkbsayings, ifc_t hkbpersons, ifc_t hkbpapers, ifc_t hSP, ifc_t hSO, ifc_t a10129, ifc_t a10131, ifc_f a10133]; rfl) | (dsimp only; simp only [ifc_t hkbsayings, ifc_t hkbpersons, ifc_t hkbpapers, ifc_t hSP, ifc_t hSO, ifc_t a10129, ifc_t a10131, ifc_f a10133]; done)), ⟨by omega, by omega, (by first | rfl | (simp only [ifc_t hkbsayings, ifc_t hkbpersons, ifc_t hkbpapers, ifc_t hSP, ifc_t hSO, ifc_t a10129, ifc_t a10131, ifc_f a10133]; done) | (simp only [ifc_t hkbsayings, ifc_t hkbpersons, ifc_t hkbpapers, ifc_t hSP, ifc_t hSO, ifc_t a10129, ifc_t a10131, ifc_f a10133]; rfl) | (dsimp only; simp only [ifc_t hkbsayings, ifc_t hkbpersons, ifc_t hkbpapers, ifc_t hSP, ifc_t hSO, ifc_t a10129, ifc_t a10131, ifc_f a10133]; done)), ⟨hSP, hSO⟩, (fun i => by first | rfl | (simp only [ifc_t hkbsayings, ifc_t hkbpersons, ifc_t hkbpapers, ifc_t hSP, ifc_t hSO, ifc_t a10129, ifc_t a10131, ifc_f a10133]; done))⟩⟩) rfl dX11_saying_43
    · refine lv_if_eq (tgt := 42) hx hb dX11_saying_25 (by decide) (fun _ => ?_) (fun c9 => absurd (by decide) c9)
      refine lv_iconst (v := (-1)) hx hb dX11_saying_42 (by decide) ?_
      exact RI (v := (-1)) hC hP hD hS [0, 1, 2, 3, 4, 5] (kbsayings, fbsayings) rfl rfl (by decide) (⟨(by first | rfl | (simp only [ifc_t hkbsayings, ifc_t hkbpersons, ifc_t hkbpapers, ifc_t hSP, ifc_t hSO, ifc_t a10129, ifc_f a10131]; done) | (simp only [ifc_t hkbsayings, ifc_t hkbpersons, ifc_t hkbpapers, ifc_t hSP, ifc_t hSO, ifc_t a10129, ifc_f a10131]; rfl) | (dsimp only; simp only [ifc_t hkbsayings, ifc_t hkbpersons, ifc_t hkbpapers, ifc_t hSP, ifc_t hSO, ifc_t a10129, ifc_f a10131]; done)), ⟨by omega, by omega, (by first | rfl | (simp only [ifc_t hkbsayings, ifc_t hkbpersons, ifc_t hkbpapers, ifc_t hSP, ifc_t hSO, ifc_t a10129, ifc_f a10131]; done) | (simp only [ifc_t hkbsayings, ifc_t hkbpersons, ifc_t hkbpapers, ifc_t hSP, ifc_t hSO, ifc_t a10129, ifc_f a10131]; rfl) | (dsimp only; simp only [ifc_t hkbsayings, ifc_t hkbpersons, ifc_t hkbpapers, ifc_t hSP, ifc_t hSO, ifc_t a10129, ifc_f a10131]; done)), ⟨hSP, hSO⟩, (fun i => by first | rfl | (simp only [ifc_t hkbsayings, ifc_t hkbpersons, ifc_t hkbpapers, ifc_t hSP, ifc_t hSO, ifc_t a10129, ifc_f a10131]; done))⟩⟩) rfl dX11_saying_43
  · refine lv_if_eq (tgt := 42) hx hb dX11_saying_11 (by decide) (fun _ => ?_) (fun c9 => absurd (by decide) c9)
    refine lv_iconst (v := (-1)) hx hb dX11_saying_42 (by decide) ?_
    exact RI (v := (-1)) hC hP hD hS [0, 1, 2, 3, 4, 5] (kbsayings, fbsayings) rfl rfl (by decide) (⟨(by first | rfl | (simp only [ifc_t hkbsayings, ifc_t hkbpersons, ifc_t hkbpapers, ifc_t hSP, ifc_t hSO, ifc_f a10129]; done) | (simp only [ifc_t hkbsayings, ifc_t hkbpersons, ifc_t hkbpapers, ifc_t hSP, ifc_t hSO, ifc_f a10129]; rfl) | (dsimp only; simp only [ifc_t hkbsayings, ifc_t hkbpersons, ifc_t hkbpapers, ifc_t hSP, ifc_t hSO, ifc_f a10129]; done)), ⟨by omega, by omega, (by first | rfl | (simp only [ifc_t hkbsayings, ifc_t hkbpersons, ifc_t hkbpapers, ifc_t hSP, ifc_t hSO, ifc_f a10129]; done) | (simp only [ifc_t hkbsayings, ifc_t hkbpersons, ifc_t hkbpapers, ifc_t hSP, ifc_t hSO, ifc_f a10129]; rfl) | (dsimp only; simp only [ifc_t hkbsayings, ifc_t hkbpersons, ifc_t hkbpapers, ifc_t hSP, ifc_t hSO, ifc_f a10129]; done)), ⟨hSP, hSO⟩, (fun i => by first | rfl | (simp only [ifc_t hkbsayings, ifc_t hkbpersons, ifc_t hkbpapers, ifc_t hSP, ifc_t hSO, ifc_f a10129]; done))⟩⟩) rfl dX11_saying_43
set_option maxHeartbeats 4000000 in
set_option maxRecDepth 100000 in
theorem c_freeX (l : Launch) (G : GG) (h0 : Nat) (cm : Nat) (fm : Nat → Int32) : MV l G yX1_free cX1_free 4 1 0 0 [.ref h0] [(h0, .inr (1, [.ref cm])), (cm, .inl (G.2.1, 36, .inl fm))] (fun u : (Nat → Int32) => CLO KB (MAT u)) (fun u : (Nat → Int32) => [(h0, .inr (1, [.ref cm])), (cm, .inl (G.2.1, 36, .inl u))]) := by
  refine MV.start (by decide +kernel) (Nat.le_of_ble_eq_true rfl) ?_
  intro p e s m below meth c A ls hC hK hP hD hS hA hl
  have hl : lv_has ls 4 [(0, .ref h0)] := hl
  obtain ⟨hx, hb, hr, hml, hB, hown, hlocks, hnm⟩ := id hC
  refine lv_iconst (v := 0) hx hb dX1_free_0 (by decide) ?_
  refine lv_istore_n (lv' := [(1, .int 0), (0, .ref h0)]) hx hb dX1_free_1 rfl hl (by decide) rfl (fun ls hl => ?_)
  have keyA : ∀ (nA kA : Nat) (fa : Nat → Int32) (H : Heap) (locs : List Loc) (ls : Array Slot), kA + nA = 6 → (FRP kA 0 (MAT fa)) → va_PD G A [(h0, .inr (1, [.ref cm])), (cm, .inl (G.2.1, 36, .inl fa))] H → va_S A s.heap H locs → lv_has ls 4 [(1, .int (nI kA)), (0, .ref h0)] → W p l e (RM 1 0 0) s m ([.ref h0] : List Value).toArray below meth c H locs 0 0 (MQ below (QV G (fun u : (Nat → Int32) => CLO KB (MAT u)) (fun u : (Nat → Int32) => [(h0, .inr (1, [.ref cm])), (cm, .inl (G.2.1, 36, .inl u))]) A) ([.ref h0] : List Value).toArray s 0 0 A) (F0 m 2 ls []) := by
    intro nA
    induction nA with
    | zero =>
      intro kA fa H locs ls hkA hfa hPD hS hl
      obtain ⟨hP, hD⟩ := hPD
      obtain rfl : 6 = kA := by omega
      have hl : lv_has ls 4 [(1, .int 6), (0, .ref h0)] := hl
      refine lv_iload_n hx hb dX1_free_2 rfl (lv_at hl 0 rfl) ?_
      refine lv_bipush (v := 6) hx hb dX1_free_3 (by decide) ?_
      refine lv_icmp_ge (tgt := 65) hx hb dX1_free_5 (by decide) (fun _ => ?_) (fun c9 => absurd (by decide) c9)
      exact RV hC hP hD hS [0, 1] fa rfl rfl (by decide) (FRP.clo hfa) dX1_free_65
    | succ nA ihA =>
      intro kA fa H locs ls hkA hfa hPD hS hl
      obtain ⟨hP, hD⟩ := hPD
      refine lv_iload_n hx hb dX1_free_2 rfl (lv_at hl 0 rfl) ?_
      refine lv_bipush (v := 6) hx hb dX1_free_3 (by decide) ?_
      refine lv_icmp_ge (tgt := 65) hx hb dX1_free_5 (by decide) (fun c9 => absurd c9 (nI_ge (a := kA) (b := 6) (by omega) (by omega))) (fun _ => ?_)
      refine lv_iconst (v := 0) hx hb dX1_free_8 (by decide) ?_
      refine lv_istore_n (lv' := [(2, .int 0), (1, .int (nI kA)), (0, .ref h0)]) hx hb dX1_free_9 rfl hl (by decide) rfl (fun ls hl => ?_)
      have keyB : ∀ (nB kB : Nat) (fb : Nat → Int32) (H : Heap) (locs : List Loc) (ls : Array Slot), kB + nB = 6 → (FRP kA kB (MAT fb)) → va_PD G A [(h0, .inr (1, [.ref cm])), (cm, .inl (G.2.1, 36, .inl fb))] H → va_S A s.heap H locs → lv_has ls 4 [(2, .int (nI kB)), (1, .int (nI kA)), (0, .ref h0)] → W p l e (RM 1 0 0) s m ([.ref h0] : List Value).toArray below meth c H locs 0 0 (MQ below (QV G (fun u : (Nat → Int32) => CLO KB (MAT u)) (fun u : (Nat → Int32) => [(h0, .inr (1, [.ref cm])), (cm, .inl (G.2.1, 36, .inl u))]) A) ([.ref h0] : List Value).toArray s 0 0 A) (F0 m 10 ls []) := by
        intro nB
        induction nB with
        | zero =>
          intro kB fb H locs ls hkB hfb hPD hS hl
          obtain ⟨hP, hD⟩ := hPD
          obtain rfl : 6 = kB := by omega
          have hl : lv_has ls 4 [(2, .int 6), (1, .int (nI kA)), (0, .ref h0)] := hl
          refine lv_iload_n hx hb dX1_free_10 rfl (lv_at hl 0 rfl) ?_
          refine lv_bipush (v := 6) hx hb dX1_free_11 (by decide) ?_
          refine lv_icmp_ge (tgt := 59) hx hb dX1_free_13 (by decide) (fun _ => ?_) (fun c9 => absurd (by decide) c9)
          refine lv_iinc (v := nI (kA + 1)) (lv' := [(1, .int (nI (kA + 1))), (2, .int 6), (0, .ref h0)]) hx hb dX1_free_59 hl (k := 1) rfl (nI_1 _) (by decide) rfl (fun ls hl => ?_)
          refine lv_goto (tgt := 2) hx hb dX1_free_62 (by decide) ?_
          have hst8 : FRP (kA + 1) 0 (MAT fb) := FRP.row hfb
          exact ihA (kA + 1) fb _ _ _ (by omega) (by first | assumption | exact Or.inl rfl | exact Or.inr rfl | exact FRP.zero) (And.intro hP hD) hS (lv_sub hl [0, 2] rfl)
        | succ nB ihB =>
          intro kB fb H locs ls hkB hfb hPD hS hl
          obtain ⟨hP, hD⟩ := hPD
          refine lv_iload_n hx hb dX1_free_10 rfl (lv_at hl 0 rfl) ?_
          refine lv_bipush (v := 6) hx hb dX1_free_11 (by decide) ?_
          refine lv_icmp_ge (tgt := 59) hx hb dX1_free_13 (by decide) (fun c9 => absurd c9 (nI_ge (a := kB) (b := 6) (by omega) (by omega))) (fun _ => ?_)
          refine lv_iload_n hx hb dX1_free_16 rfl (lv_at hl 1 rfl) ?_
          refine lv_if_eq (tgt := 24) hx hb dX1_free_17 (by decide) (fun c_17_10283 => ?_) (fun c_17_10283 => ?_)
          · refine lv_bipush (v := 60) hx hb dX1_free_24 (by decide) ?_
            refine lv_goto (tgt := 31) hx hb dX1_free_26 (by decide) ?_
            refine lv_istore_n (lv' := [(3, .int 60), (2, .int (nI kB)), (1, .int (nI kA)), (0, .ref h0)]) hx hb dX1_free_31 rfl hl (by decide) rfl (fun ls hl => ?_)
            refine lv_aload_n hx hb dX1_free_32 rfl (lv_at hl 3 rfl) ?_
            refine gf_X1_9 hC rfl hK hP 0 rfl rfl dX1_free_33 ?_
            refine lv_iload_n hx hb dX1_free_36 rfl (lv_at hl 2 rfl) ?_
            refine lv_bipush (v := 6) hx hb dX1_free_37 (by decide) ?_
            refine lv_imul hx hb dX1_free_39 ?_
            refine eqi (x1 := nI (kA * 6)) (nI_mul kA 6) ?_
            refine lv_iload_n hx hb dX1_free_40 rfl (lv_at hl 1 rfl) ?_
            refine lv_iadd hx hb dX1_free_41 ?_
            refine eqi (x1 := nI (kA * 6 + kB)) (nI_add (kA * 6) kB) ?_
            refine lv_iload_n hx hb dX1_free_42 rfl (lv_at hl 2 rfl) ?_
            refine lv_iload_n hx hb dX1_free_43 rfl (lv_at hl 1 rfl) ?_
            refine lv_icmp_ne (tgt := 51) hx hb dX1_free_44 (by decide) (fun c_44_10284 => ?_) (fun c_44_10284 => ?_)
            · refine lv_iload_n hx hb dX1_free_51 rfl (lv_at hl 0 rfl) ?_
              refine ast hC hK hP hD hS 1 (ws' := [(h0, .inr (1, [.ref cm])), (cm, .inl (G.2.1, 36, .inl (upd fb (kA * 6 + kB) 60)))]) rfl (vp_in_nI (by omega) (by omega)) (k := (kA * 6 + kB)) (nI_clamp (by omega)) (rfl) dX1_free_52 (fun H locs hP hD hS => ?_)
              refine lv_iinc (v := nI (kB + 1)) (lv' := [(2, .int (nI (kB + 1))), (3, .int 60), (1, .int (nI kA)), (0, .ref h0)]) hx hb dX1_free_53 hl (k := 1) rfl (nI_1 _) (by decide) rfl (fun ls hl => ?_)
              refine lv_goto (tgt := 10) hx hb dX1_free_56 (by decide) ?_
              have n1 : kA = 0 := nI_z (by omega) c_17_10283
              have n3 : ¬ kA = kB := fun h9 => c_44_10284 (congrArg nI h9)
              have hst9 : FRP kA (kB + 1) (MAT (upd fb (kA * 6 + kB) 60)) := FRP.set hfb (by omega) (by have e0 : (0 : Int32).toInt = 0 := (by decide); have e60 : (60 : Int32).toInt = 60 := (by decide); have e120 : (120 : Int32).toInt = 120 := (by decide); unfold BASW; split <;> (first | omega | (split <;> omega)))
              exact ihB (kB + 1) (upd fb (kA * 6 + kB) 60) _ _ _ (by omega) (by first | assumption | exact Or.inl rfl | exact Or.inr rfl) (And.intro hP hD) hS (lv_sub hl [0, 2, 3] rfl)
            · refine lv_iconst (v := 0) hx hb dX1_free_47 (by decide) ?_
              refine lv_goto (tgt := 52) hx hb dX1_free_48 (by decide) ?_
              refine ast hC hK hP hD hS 1 (ws' := [(h0, .inr (1, [.ref cm])), (cm, .inl (G.2.1, 36, .inl (upd fb (kA * 6 + kB) 0)))]) rfl (vp_in_nI (by omega) (by omega)) (k := (kA * 6 + kB)) (nI_clamp (by omega)) (rfl) dX1_free_52 (fun H locs hP hD hS => ?_)
              refine lv_iinc (v := nI (kB + 1)) (lv' := [(2, .int (nI (kB + 1))), (3, .int 60), (1, .int (nI kA)), (0, .ref h0)]) hx hb dX1_free_53 hl (k := 1) rfl (nI_1 _) (by decide) rfl (fun ls hl => ?_)
              refine lv_goto (tgt := 10) hx hb dX1_free_56 (by decide) ?_
              have n1 : kA = 0 := nI_z (by omega) c_17_10283
              have n3 : kA = kB := (nI_eq (by omega) (by omega)).mp c_44_10284
              have hst9 : FRP kA (kB + 1) (MAT (upd fb (kA * 6 + kB) 0)) := FRP.set hfb (by omega) (by have e0 : (0 : Int32).toInt = 0 := (by decide); have e60 : (60 : Int32).toInt = 60 := (by decide); have e120 : (120 : Int32).toInt = 120 := (by decide); unfold BASW; split <;> (first | omega | (split <;> omega)))
              exact ihB (kB + 1) (upd fb (kA * 6 + kB) 0) _ _ _ (by omega) (by first | assumption | exact Or.inl rfl | exact Or.inr rfl) (And.intro hP hD) hS (lv_sub hl [0, 2, 3] rfl)
          · refine lv_iload_n hx hb dX1_free_20 rfl (lv_at hl 0 rfl) ?_
            refine lv_if_ne (tgt := 29) hx hb dX1_free_21 (by decide) (fun c_21_10285 => ?_) (fun c_21_10285 => ?_)
            · refine lv_bipush (v := 120) hx hb dX1_free_29 (by decide) ?_
              refine lv_istore_n (lv' := [(3, .int 120), (2, .int (nI kB)), (1, .int (nI kA)), (0, .ref h0)]) hx hb dX1_free_31 rfl hl (by decide) rfl (fun ls hl => ?_)
              refine lv_aload_n hx hb dX1_free_32 rfl (lv_at hl 3 rfl) ?_
              refine gf_X1_9 hC rfl hK hP 0 rfl rfl dX1_free_33 ?_
              refine lv_iload_n hx hb dX1_free_36 rfl (lv_at hl 2 rfl) ?_
              refine lv_bipush (v := 6) hx hb dX1_free_37 (by decide) ?_
              refine lv_imul hx hb dX1_free_39 ?_
              refine eqi (x1 := nI (kA * 6)) (nI_mul kA 6) ?_
              refine lv_iload_n hx hb dX1_free_40 rfl (lv_at hl 1 rfl) ?_
              refine lv_iadd hx hb dX1_free_41 ?_
              refine eqi (x1 := nI (kA * 6 + kB)) (nI_add (kA * 6) kB) ?_
              refine lv_iload_n hx hb dX1_free_42 rfl (lv_at hl 2 rfl) ?_
              refine lv_iload_n hx hb dX1_free_43 rfl (lv_at hl 1 rfl) ?_
              refine lv_icmp_ne (tgt := 51) hx hb dX1_free_44 (by decide) (fun c_44_10286 => ?_) (fun c_44_10286 => ?_)
              · refine lv_iload_n hx hb dX1_free_51 rfl (lv_at hl 0 rfl) ?_
                refine ast hC hK hP hD hS 1 (ws' := [(h0, .inr (1, [.ref cm])), (cm, .inl (G.2.1, 36, .inl (upd fb (kA * 6 + kB) 120)))]) rfl (vp_in_nI (by omega) (by omega)) (k := (kA * 6 + kB)) (nI_clamp (by omega)) (rfl) dX1_free_52 (fun H locs hP hD hS => ?_)
                refine lv_iinc (v := nI (kB + 1)) (lv' := [(2, .int (nI (kB + 1))), (3, .int 120), (1, .int (nI kA)), (0, .ref h0)]) hx hb dX1_free_53 hl (k := 1) rfl (nI_1 _) (by decide) rfl (fun ls hl => ?_)
                refine lv_goto (tgt := 10) hx hb dX1_free_56 (by decide) ?_
                have n1 : ¬ kA = 0 := fun h9 => c_17_10283 (congrArg nI h9)
                have n2 : ¬ kB = 0 := fun h9 => c_21_10285 (congrArg nI h9)
                have n3 : ¬ kA = kB := fun h9 => c_44_10286 (congrArg nI h9)
                have hst9 : FRP kA (kB + 1) (MAT (upd fb (kA * 6 + kB) 120)) := FRP.set hfb (by omega) (by have e0 : (0 : Int32).toInt = 0 := (by decide); have e60 : (60 : Int32).toInt = 60 := (by decide); have e120 : (120 : Int32).toInt = 120 := (by decide); unfold BASW; split <;> (first | omega | (split <;> omega)))
                exact ihB (kB + 1) (upd fb (kA * 6 + kB) 120) _ _ _ (by omega) (by first | assumption | exact Or.inl rfl | exact Or.inr rfl) (And.intro hP hD) hS (lv_sub hl [0, 2, 3] rfl)
              · refine lv_iconst (v := 0) hx hb dX1_free_47 (by decide) ?_
                refine lv_goto (tgt := 52) hx hb dX1_free_48 (by decide) ?_
                refine ast hC hK hP hD hS 1 (ws' := [(h0, .inr (1, [.ref cm])), (cm, .inl (G.2.1, 36, .inl (upd fb (kA * 6 + kB) 0)))]) rfl (vp_in_nI (by omega) (by omega)) (k := (kA * 6 + kB)) (nI_clamp (by omega)) (rfl) dX1_free_52 (fun H locs hP hD hS => ?_)
                refine lv_iinc (v := nI (kB + 1)) (lv' := [(2, .int (nI (kB + 1))), (3, .int 120), (1, .int (nI kA)), (0, .ref h0)]) hx hb dX1_free_53 hl (k := 1) rfl (nI_1 _) (by decide) rfl (fun ls hl => ?_)
                refine lv_goto (tgt := 10) hx hb dX1_free_56 (by decide) ?_
                have n1 : ¬ kA = 0 := fun h9 => c_17_10283 (congrArg nI h9)
                have n2 : ¬ kB = 0 := fun h9 => c_21_10285 (congrArg nI h9)
                have n3 : kA = kB := (nI_eq (by omega) (by omega)).mp c_44_10286
                have hst9 : FRP kA (kB + 1) (MAT (upd fb (kA * 6 + kB) 0)) := FRP.set hfb (by omega) (by have e0 : (0 : Int32).toInt = 0 := (by decide); have e60 : (60 : Int32).toInt = 60 := (by decide); have e120 : (120 : Int32).toInt = 120 := (by decide); unfold BASW; split <;> (first | omega | (split <;> omega)))
                exact ihB (kB + 1) (upd fb (kA * 6 + kB) 0) _ _ _ (by omega) (by first | assumption | exact Or.inl rfl | exact Or.inr rfl) (And.intro hP hD) hS (lv_sub hl [0, 2, 3] rfl)
            · refine lv_bipush (v := 60) hx hb dX1_free_24 (by decide) ?_
              refine lv_goto (tgt := 31) hx hb dX1_free_26 (by decide) ?_
              refine lv_istore_n (lv' := [(3, .int 60), (2, .int (nI kB)), (1, .int (nI kA)), (0, .ref h0)]) hx hb dX1_free_31 rfl hl (by decide) rfl (fun ls hl => ?_)
              refine lv_aload_n hx hb dX1_free_32 rfl (lv_at hl 3 rfl) ?_
              refine gf_X1_9 hC rfl hK hP 0 rfl rfl dX1_free_33 ?_
              refine lv_iload_n hx hb dX1_free_36 rfl (lv_at hl 2 rfl) ?_
              refine lv_bipush (v := 6) hx hb dX1_free_37 (by decide) ?_
              refine lv_imul hx hb dX1_free_39 ?_
              refine eqi (x1 := nI (kA * 6)) (nI_mul kA 6) ?_
              refine lv_iload_n hx hb dX1_free_40 rfl (lv_at hl 1 rfl) ?_
              refine lv_iadd hx hb dX1_free_41 ?_
              refine eqi (x1 := nI (kA * 6 + kB)) (nI_add (kA * 6) kB) ?_
              refine lv_iload_n hx hb dX1_free_42 rfl (lv_at hl 2 rfl) ?_
              refine lv_iload_n hx hb dX1_free_43 rfl (lv_at hl 1 rfl) ?_
              refine lv_icmp_ne (tgt := 51) hx hb dX1_free_44 (by decide) (fun c_44_10287 => ?_) (fun c_44_10287 => ?_)
              · refine lv_iload_n hx hb dX1_free_51 rfl (lv_at hl 0 rfl) ?_
                refine ast hC hK hP hD hS 1 (ws' := [(h0, .inr (1, [.ref cm])), (cm, .inl (G.2.1, 36, .inl (upd fb (kA * 6 + kB) 60)))]) rfl (vp_in_nI (by omega) (by omega)) (k := (kA * 6 + kB)) (nI_clamp (by omega)) (rfl) dX1_free_52 (fun H locs hP hD hS => ?_)
                refine lv_iinc (v := nI (kB + 1)) (lv' := [(2, .int (nI (kB + 1))), (3, .int 60), (1, .int (nI kA)), (0, .ref h0)]) hx hb dX1_free_53 hl (k := 1) rfl (nI_1 _) (by decide) rfl (fun ls hl => ?_)
                refine lv_goto (tgt := 10) hx hb dX1_free_56 (by decide) ?_
                have n1 : ¬ kA = 0 := fun h9 => c_17_10283 (congrArg nI h9)
                have n2 : kB = 0 := nI_z (by omega) c_21_10285
                have n3 : ¬ kA = kB := fun h9 => c_44_10287 (congrArg nI h9)
                have hst9 : FRP kA (kB + 1) (MAT (upd fb (kA * 6 + kB) 60)) := FRP.set hfb (by omega) (by have e0 : (0 : Int32).toInt = 0 := (by decide); have e60 : (60 : Int32).toInt = 60 := (by decide); have e120 : (120 : Int32).toInt = 120 := (by decide); unfold BASW; split <;> (first | omega | (split <;> omega)))
                exact ihB (kB + 1) (upd fb (kA * 6 + kB) 60) _ _ _ (by omega) (by first | assumption | exact Or.inl rfl | exact Or.inr rfl) (And.intro hP hD) hS (lv_sub hl [0, 2, 3] rfl)
              · refine lv_iconst (v := 0) hx hb dX1_free_47 (by decide) ?_
                refine lv_goto (tgt := 52) hx hb dX1_free_48 (by decide) ?_
                refine ast hC hK hP hD hS 1 (ws' := [(h0, .inr (1, [.ref cm])), (cm, .inl (G.2.1, 36, .inl (upd fb (kA * 6 + kB) 0)))]) rfl (vp_in_nI (by omega) (by omega)) (k := (kA * 6 + kB)) (nI_clamp (by omega)) (rfl) dX1_free_52 (fun H locs hP hD hS => ?_)
                refine lv_iinc (v := nI (kB + 1)) (lv' := [(2, .int (nI (kB + 1))), (3, .int 60), (1, .int (nI kA)), (0, .ref h0)]) hx hb dX1_free_53 hl (k := 1) rfl (nI_1 _) (by decide) rfl (fun ls hl => ?_)
                refine lv_goto (tgt := 10) hx hb dX1_free_56 (by decide) ?_
                have n1 : ¬ kA = 0 := fun h9 => c_17_10283 (congrArg nI h9)
                have n2 : kB = 0 := nI_z (by omega) c_21_10285
                have n3 : kA = kB := (nI_eq (by omega) (by omega)).mp c_44_10287
                have hst9 : FRP kA (kB + 1) (MAT (upd fb (kA * 6 + kB) 0)) := FRP.set hfb (by omega) (by have e0 : (0 : Int32).toInt = 0 := (by decide); have e60 : (60 : Int32).toInt = 60 := (by decide); have e120 : (120 : Int32).toInt = 120 := (by decide); unfold BASW; split <;> (first | omega | (split <;> omega)))
                exact ihB (kB + 1) (upd fb (kA * 6 + kB) 0) _ _ _ (by omega) (by first | assumption | exact Or.inl rfl | exact Or.inr rfl) (And.intro hP hD) hS (lv_sub hl [0, 2, 3] rfl)
      exact keyB 6 0 fa _ _ _ (by omega) (by first | assumption | exact Or.inl rfl | exact Or.inr rfl) (And.intro hP hD) hS (lv_sub hl [0, 1, 2] rfl)
  exact keyA 6 0 fm _ _ _ (by omega) (by first | assumption | exact Or.inl rfl | exact Or.inr rfl | exact FRP.zero) (And.intro hP hD) hS (lv_sub hl [0, 1] rfl)
set_option maxHeartbeats 4000000 in
set_option maxRecDepth 100000 in
theorem c_narrowX (l : Launch) (G : GG) (K9 : Nat → Nat → Int → Prop) (h0 : Nat) (jf : Nat) (jt : Nat) (bo : Int32) (cm : Nat) (fm : Nat → Int32) (hCB : CLB K9 (MAT fm)) (hb1 : -2000 ≤ bo.toInt) (hb2 : bo.toInt ≤ 2000) (hjf : jf < 6) (hjt : jt < 6) : MI l G yX1_narrow cX1_narrow 8 (some .boolean) 2 0 0 [.ref h0, .int (nI jf), .int (nI jt), .int bo] [(h0, .inr (1, [.ref cm])), (cm, .inl (G.2.1, 36, .inl fm))] (fun (r : Int32) (u : (Nat → Int32)) => ((r = 1 ∧ CLB (KAD K9 jf jt bo.toInt) (MAT u)) ∨ (r = 0 ∧ NOS (KAD K9 jf jt bo.toInt)))) (fun u : (Nat → Int32) => [(h0, .inr (1, [.ref cm])), (cm, .inl (G.2.1, 36, .inl u))]) := by
  refine MI.start (by decide +kernel) (Nat.le_of_ble_eq_true rfl) ?_
  intro p e s m below meth c A ls hC hK hP hD hS hA hl
  have hl : lv_has ls 8 [(0, .ref h0), (1, .int (nI jf)), (2, .int (nI jt)), (3, .int bo)] := hl
  obtain ⟨hx, hb, hr, hml, hB, hown, hlocks, hnm⟩ := id hC
  have wj1 : Wi (nI jf) 0 5 := Wi_j (N := 5) rfl (by decide) (by omega)
  have wj2 : Wi (nI jt) 0 5 := Wi_j (N := 5) rfl (by decide) (by omega)
  have hlm := hCB.lim
  have hlt := nar_lt (x := fm (jt * 6 + jf)) (y := bo) (a := MAT fm jt jf) rfl (hlm jt jf hjt hjf).1 (hlm jt jf hjt hjf).2 hb1 hb2
  refine lv_iload_n hx hb dX1_narrow_0 rfl (lv_at hl 1 rfl) ?_
  refine lv_iconst (v := 0) hx hb dX1_narrow_1 (by decide) ?_
  refine lv_iconst (v := 5) hx hb dX1_narrow_2 (by decide) ?_
  refine pSN hC hK hl (c_within l G (nI jf) 0 5) si_X1_31 rfl rfl (Nat.le_of_ble_eq_true rfl) ⟨Nat.le_of_ble_eq_true rfl, Nat.le_of_ble_eq_true rfl⟩ ⟨by first | exact Nat.le_of_ble_eq_true rfl | exact Nat.zero_le _, by first | exact Nat.le_of_ble_eq_true rfl | exact Nat.zero_le _⟩ dX1_narrow_3 (fun r10288 hr10288 => ?_)
  rcases hr10288 with ⟨rfl, a10289⟩ | ⟨rfl, a10289⟩
  · refine lv_if_eq (tgt := 18) hx hb dX1_narrow_6 (by decide) (fun c9 => absurd c9 (by decide)) (fun _ => ?_)
    refine lv_iload_n hx hb dX1_narrow_9 rfl (lv_at hl 2 rfl) ?_
    refine lv_iconst (v := 0) hx hb dX1_narrow_10 (by decide) ?_
    refine lv_iconst (v := 5) hx hb dX1_narrow_11 (by decide) ?_
    refine pSN hC hK hl (c_within l G (nI jt) 0 5) si_X1_31 rfl rfl (Nat.le_of_ble_eq_true rfl) ⟨Nat.le_of_ble_eq_true rfl, Nat.le_of_ble_eq_true rfl⟩ ⟨by first | exact Nat.le_of_ble_eq_true rfl | exact Nat.zero_le _, by first | exact Nat.le_of_ble_eq_true rfl | exact Nat.zero_le _⟩ dX1_narrow_12 (fun r10290 hr10290 => ?_)
    rcases hr10290 with ⟨rfl, a10291⟩ | ⟨rfl, a10291⟩
    · refine lv_if_ne (tgt := 20) hx hb dX1_narrow_15 (by decide) (fun _ => ?_) (fun c9 => absurd c9 (by decide))
      refine lv_aload_n hx hb dX1_narrow_20 rfl (lv_at hl 0 rfl) ?_
      refine gf_X1_9 hC rfl hK hP 0 rfl rfl dX1_narrow_21 ?_
      refine lv_iload_n hx hb dX1_narrow_24 rfl (lv_at hl 2 rfl) ?_
      refine lv_bipush (v := 6) hx hb dX1_narrow_25 (by decide) ?_
      refine lv_imul hx hb dX1_narrow_27 ?_
      refine eqi (x1 := nI (jt * 6)) (nI_mul jt 6) ?_
      refine lv_iload_n hx hb dX1_narrow_28 rfl (lv_at hl 1 rfl) ?_
      refine lv_iadd hx hb dX1_narrow_29 ?_
      refine eqi (x1 := nI (jt * 6 + jf)) (nI_add (jt * 6) jf) ?_
      refine ald hC hK hP 1 rfl (vp_in_nI (by omega) (by omega)) (k := (jt * 6 + jf)) (nI_clamp (by omega)) (v := fm (jt * 6 + jf)) rfl dX1_narrow_30 ?_
      refine lv_iload_n hx hb dX1_narrow_31 rfl (lv_at hl 3 rfl) ?_
      refine lv_iadd hx hb dX1_narrow_32 ?_
      refine lv_if_ge (tgt := 38) hx hb dX1_narrow_33 (by decide) (fun c_33_10292 => ?_) (fun c_33_10292 => ?_)
      · refine lv_iload_n hx hb dX1_narrow_38 rfl (lv_at hl 3 rfl) ?_
        refine lv_aload_n hx hb dX1_narrow_39 rfl (lv_at hl 0 rfl) ?_
        refine gf_X1_9 hC rfl hK hP 0 rfl rfl dX1_narrow_40 ?_
        refine lv_iload_n hx hb dX1_narrow_43 rfl (lv_at hl 1 rfl) ?_
        refine lv_bipush (v := 6) hx hb dX1_narrow_44 (by decide) ?_
        refine lv_imul hx hb dX1_narrow_46 ?_
        refine eqi (x1 := nI (jf * 6)) (nI_mul jf 6) ?_
        refine lv_iload_n hx hb dX1_narrow_47 rfl (lv_at hl 2 rfl) ?_
        refine lv_iadd hx hb dX1_narrow_48 ?_
        refine eqi (x1 := nI (jf * 6 + jt)) (nI_add (jf * 6) jt) ?_
        refine ald hC hK hP 1 rfl (vp_in_nI (by omega) (by omega)) (k := (jf * 6 + jt)) (nI_clamp (by omega)) (v := fm (jf * 6 + jt)) rfl dX1_narrow_49 ?_
        refine lv_icmp_lt (tgt := 55) hx hb dX1_narrow_50 (by decide) (fun c_50_10293 => ?_) (fun c_50_10293 => ?_)
        · refine lv_iconst (v := 0) hx hb dX1_narrow_55 (by decide) ?_
          refine lv_istore (lv' := [(4, .int 0), (0, .ref h0), (1, .int (nI jf)), (2, .int (nI jt)), (3, .int bo)]) hx hb dX1_narrow_56 hl (by decide) rfl (fun ls hl => ?_)
          have keyA : ∀ (nA kA : Nat) (fa : Nat → Int32) (H : Heap) (locs : List Loc) (ls : Array Slot), kA + nA = 6 → (NRP (MAT fm) jf jt bo.toInt kA 0 (MAT fa)) → va_PD G A [(h0, .inr (1, [.ref cm])), (cm, .inl (G.2.1, 36, .inl fa))] H → va_S A s.heap H locs → lv_has ls 8 [(4, .int (nI kA)), (0, .ref h0), (1, .int (nI jf)), (2, .int (nI jt)), (3, .int bo)] → W p l e (RM 2 0 0) s m ([.ref h0, .int (nI jf), .int (nI jt), .int bo] : List Value).toArray below meth c H locs 0 0 (MQ below (QI G (fun (r : Int32) (u : (Nat → Int32)) => ((r = 1 ∧ CLB (KAD K9 jf jt bo.toInt) (MAT u)) ∨ (r = 0 ∧ NOS (KAD K9 jf jt bo.toInt)))) (fun u : (Nat → Int32) => [(h0, .inr (1, [.ref cm])), (cm, .inl (G.2.1, 36, .inl u))]) A) ([.ref h0, .int (nI jf), .int (nI jt), .int bo] : List Value).toArray s 0 0 A) (F0 m 58 ls []) := by
            intro nA
            induction nA with
            | zero =>
              intro kA fa H locs ls hkA hnA hPD hS hl
              obtain ⟨hP, hD⟩ := hPD
              obtain rfl : 6 = kA := by omega
              have hl : lv_has ls 8 [(4, .int 6), (0, .ref h0), (1, .int (nI jf)), (2, .int (nI jt)), (3, .int bo)] := hl
              refine lv_iload hx hb dX1_narrow_58 (lv_at hl 0 rfl) ?_
              refine lv_bipush (v := 6) hx hb dX1_narrow_60 (by decide) ?_
              refine lv_icmp_ge (tgt := 153) hx hb dX1_narrow_62 (by decide) (fun _ => ?_) (fun c9 => absurd (by decide) c9)
              refine lv_iconst (v := 1) hx hb dX1_narrow_153 (by decide) ?_
              exact RI (v := 1) hC hP hD hS [0, 1] fa rfl rfl (by decide) (Or.inl ⟨rfl, NRP.clo hnA hCB.1 hjf hjt (hlt.mp c_33_10292), hCB.2.ad⟩) (by decide +kernel) dX1_narrow_154
            | succ nA ihA =>
              intro kA fa H locs ls hkA hnA hPD hS hl
              obtain ⟨hP, hD⟩ := hPD
              refine lv_iload hx hb dX1_narrow_58 (lv_at hl 0 rfl) ?_
              refine lv_bipush (v := 6) hx hb dX1_narrow_60 (by decide) ?_
              refine lv_icmp_ge (tgt := 153) hx hb dX1_narrow_62 (by decide) (fun c9 => absurd c9 (nI_ge (a := kA) (b := 6) (by omega) (by omega))) (fun _ => ?_)
              refine lv_aload_n hx hb dX1_narrow_65 rfl (lv_at hl 1 rfl) ?_
              refine gf_X1_9 hC rfl hK hP 0 rfl rfl dX1_narrow_66 ?_
              refine lv_iload hx hb dX1_narrow_69 (lv_at hl 0 rfl) ?_
              refine lv_bipush (v := 6) hx hb dX1_narrow_71 (by decide) ?_
              refine lv_imul hx hb dX1_narrow_73 ?_
              refine eqi (x1 := nI (kA * 6)) (nI_mul kA 6) ?_
              refine lv_iload_n hx hb dX1_narrow_74 rfl (lv_at hl 2 rfl) ?_
              refine lv_iadd hx hb dX1_narrow_75 ?_
              refine eqi (x1 := nI (kA * 6 + jf)) (nI_add (kA * 6) jf) ?_
              refine ald hC hK hP 1 rfl (vp_in_nI (by omega) (by omega)) (k := (kA * 6 + jf)) (nI_clamp (by omega)) (v := fa (kA * 6 + jf)) rfl dX1_narrow_76 ?_
              refine lv_iload_n hx hb dX1_narrow_77 rfl (lv_at hl 4 rfl) ?_
              refine lv_iadd hx hb dX1_narrow_78 ?_
              refine lv_istore (lv' := [(5, .int ((fa (kA * 6 + jf)) + bo)), (4, .int (nI kA)), (0, .ref h0), (1, .int (nI jf)), (2, .int (nI jt)), (3, .int bo)]) hx hb dX1_narrow_79 hl (by decide) rfl (fun ls hl => ?_)
              refine lv_iconst (v := 0) hx hb dX1_narrow_81 (by decide) ?_
              refine lv_istore (lv' := [(6, .int 0), (5, .int ((fa (kA * 6 + jf)) + bo)), (4, .int (nI kA)), (0, .ref h0), (1, .int (nI jf)), (2, .int (nI jt)), (3, .int bo)]) hx hb dX1_narrow_82 hl (by decide) rfl (fun ls hl => ?_)
              have keyB : ∀ (nB kB : Nat) (fb : Nat → Int32) (H : Heap) (locs : List Loc) (ls : Array Slot), kB + nB = 6 → (NRP (MAT fm) jf jt bo.toInt kA kB (MAT fb)) → va_PD G A [(h0, .inr (1, [.ref cm])), (cm, .inl (G.2.1, 36, .inl fb))] H → va_S A s.heap H locs → lv_has ls 8 [(6, .int (nI kB)), (5, .int ((fa (kA * 6 + jf)) + bo)), (4, .int (nI kA)), (0, .ref h0), (1, .int (nI jf)), (2, .int (nI jt)), (3, .int bo)] → W p l e (RM 2 0 0) s m ([.ref h0, .int (nI jf), .int (nI jt), .int bo] : List Value).toArray below meth c H locs 0 0 (MQ below (QI G (fun (r : Int32) (u : (Nat → Int32)) => ((r = 1 ∧ CLB (KAD K9 jf jt bo.toInt) (MAT u)) ∨ (r = 0 ∧ NOS (KAD K9 jf jt bo.toInt)))) (fun u : (Nat → Int32) => [(h0, .inr (1, [.ref cm])), (cm, .inl (G.2.1, 36, .inl u))]) A) ([.ref h0, .int (nI jf), .int (nI jt), .int bo] : List Value).toArray s 0 0 A) (F0 m 84 ls []) := by
                intro nB
                induction nB with
                | zero =>
                  intro kB fb H locs ls hkB hnB hPD hS hl
                  obtain ⟨hP, hD⟩ := hPD
                  obtain rfl : 6 = kB := by omega
                  have hl : lv_has ls 8 [(6, .int 6), (5, .int ((fa (kA * 6 + jf)) + bo)), (4, .int (nI kA)), (0, .ref h0), (1, .int (nI jf)), (2, .int (nI jt)), (3, .int bo)] := hl
                  refine lv_iload hx hb dX1_narrow_84 (lv_at hl 0 rfl) ?_
                  refine lv_bipush (v := 6) hx hb dX1_narrow_86 (by decide) ?_
                  refine lv_icmp_ge (tgt := 147) hx hb dX1_narrow_88 (by decide) (fun _ => ?_) (fun c9 => absurd (by decide) c9)
                  refine lv_iinc (v := nI (kA + 1)) (lv' := [(4, .int (nI (kA + 1))), (6, .int 6), (5, .int ((fa (kA * 6 + jf)) + bo)), (0, .ref h0), (1, .int (nI jf)), (2, .int (nI jt)), (3, .int bo)]) hx hb dX1_narrow_147 hl (k := 2) rfl (nI_1 _) (by decide) rfl (fun ls hl => ?_)
                  refine lv_goto (tgt := 58) hx hb dX1_narrow_150 (by decide) ?_
                  have hst8 : NRP (MAT fm) jf jt bo.toInt (kA + 1) 0 (MAT fb) := NRP.row hnB
                  exact ihA (kA + 1) fb _ _ _ (by omega) (by first | assumption | exact Or.inl rfl | exact Or.inr rfl | exact NRP.zero) (And.intro hP hD) hS (lv_sub hl [0, 3, 4, 5, 6] rfl)
                | succ nB ihB =>
                  intro kB fb H locs ls hkB hnB hPD hS hl
                  obtain ⟨hP, hD⟩ := hPD
                  refine lv_iload hx hb dX1_narrow_84 (lv_at hl 0 rfl) ?_
                  refine lv_bipush (v := 6) hx hb dX1_narrow_86 (by decide) ?_
                  refine lv_icmp_ge (tgt := 147) hx hb dX1_narrow_88 (by decide) (fun c9 => absurd c9 (nI_ge (a := kB) (b := 6) (by omega) (by omega))) (fun _ => ?_)
                  refine lv_iload hx hb dX1_narrow_91 (lv_at hl 1 rfl) ?_
                  refine lv_aload_n hx hb dX1_narrow_93 rfl (lv_at hl 3 rfl) ?_
                  refine gf_X1_9 hC rfl hK hP 0 rfl rfl dX1_narrow_94 ?_
                  refine lv_iload_n hx hb dX1_narrow_97 rfl (lv_at hl 5 rfl) ?_
                  refine lv_bipush (v := 6) hx hb dX1_narrow_98 (by decide) ?_
                  refine lv_imul hx hb dX1_narrow_100 ?_
                  refine eqi (x1 := nI (jt * 6)) (nI_mul jt 6) ?_
                  refine lv_iload hx hb dX1_narrow_101 (lv_at hl 0 rfl) ?_
                  refine lv_iadd hx hb dX1_narrow_103 ?_
                  refine eqi (x1 := nI (jt * 6 + kB)) (nI_add (jt * 6) kB) ?_
                  refine ald hC hK hP 1 rfl (vp_in_nI (by omega) (by omega)) (k := (jt * 6 + kB)) (nI_clamp (by omega)) (v := fb (jt * 6 + kB)) rfl dX1_narrow_104 ?_
                  refine lv_iadd hx hb dX1_narrow_105 ?_
                  refine lv_istore (lv' := [(7, .int (((fa (kA * 6 + jf)) + bo) + (fb (jt * 6 + kB)))), (6, .int (nI kB)), (5, .int ((fa (kA * 6 + jf)) + bo)), (4, .int (nI kA)), (0, .ref h0), (1, .int (nI jf)), (2, .int (nI jt)), (3, .int bo)]) hx hb dX1_narrow_106 hl (by decide) rfl (fun ls hl => ?_)
                  refine lv_iload hx hb dX1_narrow_108 (lv_at hl 0 rfl) ?_
                  refine lv_aload_n hx hb dX1_narrow_110 rfl (lv_at hl 4 rfl) ?_
                  refine gf_X1_9 hC rfl hK hP 0 rfl rfl dX1_narrow_111 ?_
                  refine lv_iload hx hb dX1_narrow_114 (lv_at hl 3 rfl) ?_
                  refine lv_bipush (v := 6) hx hb dX1_narrow_116 (by decide) ?_
                  refine lv_imul hx hb dX1_narrow_118 ?_
                  refine eqi (x1 := nI (kA * 6)) (nI_mul kA 6) ?_
                  refine lv_iload hx hb dX1_narrow_119 (lv_at hl 1 rfl) ?_
                  refine lv_iadd hx hb dX1_narrow_121 ?_
                  refine eqi (x1 := nI (kA * 6 + kB)) (nI_add (kA * 6) kB) ?_
                  refine ald hC hK hP 1 rfl (vp_in_nI (by omega) (by omega)) (k := (kA * 6 + kB)) (nI_clamp (by omega)) (v := fb (kA * 6 + kB)) rfl dX1_narrow_122 ?_
                  refine lv_icmp_ge (tgt := 141) hx hb dX1_narrow_123 (by decide) (fun c_123_10294 => ?_) (fun c_123_10294 => ?_)
                  · refine lv_iinc (v := nI (kB + 1)) (lv' := [(6, .int (nI (kB + 1))), (7, .int (((fa (kA * 6 + jf)) + bo) + (fb (jt * 6 + kB)))), (5, .int ((fa (kA * 6 + jf)) + bo)), (4, .int (nI kA)), (0, .ref h0), (1, .int (nI jf)), (2, .int (nI jt)), (3, .int bo)]) hx hb dX1_narrow_141 hl (k := 1) rfl (nI_1 _) (by decide) rfl (fun ls hl => ?_)
                    refine lv_goto (tgt := 84) hx hb dX1_narrow_144 (by decide) ?_
                    have hwy := NRP.way hnA hnB (by omega) (by omega) hjf hjt hlm hb1 hb2 (hlt.mp c_33_10292)
                    have hst9 : NRP (MAT fm) jf jt bo.toInt kA (kB + 1) (MAT fb) := NRP.skip hnB (by omega) (by omega) hwy c_123_10294
                    exact ihB (kB + 1) fb _ _ _ (by omega) (by first | assumption | exact Or.inl rfl | exact Or.inr rfl) (And.intro hP hD) hS (lv_sub hl [0, 2, 3, 4, 5, 6, 7] rfl)
                  · refine lv_aload_n hx hb dX1_narrow_126 rfl (lv_at hl 4 rfl) ?_
                    refine gf_X1_9 hC rfl hK hP 0 rfl rfl dX1_narrow_127 ?_
                    refine lv_iload hx hb dX1_narrow_130 (lv_at hl 3 rfl) ?_
                    refine lv_bipush (v := 6) hx hb dX1_narrow_132 (by decide) ?_
                    refine lv_imul hx hb dX1_narrow_134 ?_
                    refine eqi (x1 := nI (kA * 6)) (nI_mul kA 6) ?_
                    refine lv_iload hx hb dX1_narrow_135 (lv_at hl 1 rfl) ?_
                    refine lv_iadd hx hb dX1_narrow_137 ?_
                    refine eqi (x1 := nI (kA * 6 + kB)) (nI_add (kA * 6) kB) ?_
                    refine lv_iload hx hb dX1_narrow_138 (lv_at hl 0 rfl) ?_
                    refine ast hC hK hP hD hS 1 (ws' := [(h0, .inr (1, [.ref cm])), (cm, .inl (G.2.1, 36, .inl (upd fb (kA * 6 + kB) (((fa (kA * 6 + jf)) + bo) + (fb (jt * 6 + kB))))))]) rfl (vp_in_nI (by omega) (by omega)) (k := (kA * 6 + kB)) (nI_clamp (by omega)) (rfl) dX1_narrow_140 (fun H locs hP hD hS => ?_)
                    refine lv_iinc (v := nI (kB + 1)) (lv' := [(6, .int (nI (kB + 1))), (7, .int (((fa (kA * 6 + jf)) + bo) + (fb (jt * 6 + kB)))), (5, .int ((fa (kA * 6 + jf)) + bo)), (4, .int (nI kA)), (0, .ref h0), (1, .int (nI jf)), (2, .int (nI jt)), (3, .int bo)]) hx hb dX1_narrow_141 hl (k := 1) rfl (nI_1 _) (by decide) rfl (fun ls hl => ?_)
                    refine lv_goto (tgt := 84) hx hb dX1_narrow_144 (by decide) ?_
                    have hwy := NRP.way hnA hnB (by omega) (by omega) hjf hjt hlm hb1 hb2 (hlt.mp c_33_10292)
                    have hst9 : NRP (MAT fm) jf jt bo.toInt kA (kB + 1) (MAT (upd fb (kA * 6 + kB) (((fa (kA * 6 + jf)) + bo) + (fb (jt * 6 + kB))))) := NRP.put hnB (by omega) (by omega) hwy c_123_10294
                    exact ihB (kB + 1) (upd fb (kA * 6 + kB) (((fa (kA * 6 + jf)) + bo) + (fb (jt * 6 + kB)))) _ _ _ (by omega) (by first | assumption | exact Or.inl rfl | exact Or.inr rfl) (And.intro hP hD) hS (lv_sub hl [0, 2, 3, 4, 5, 6, 7] rfl)
              exact keyB 6 0 fa _ _ _ (by omega) (by first | assumption | exact Or.inl rfl | exact Or.inr rfl) (And.intro hP hD) hS (lv_sub hl [0, 1, 2, 3, 4, 5, 6] rfl)
          exact keyA 6 0 fm _ _ _ (by omega) (by first | assumption | exact Or.inl rfl | exact Or.inr rfl | exact NRP.zero) (And.intro hP hD) hS (lv_sub hl [0, 1, 2, 3, 4] rfl)
        · refine lv_iconst (v := 1) hx hb dX1_narrow_53 (by decide) ?_
          exact RI (v := 1) hC hP hD hS [0, 1] fm rfl rfl (by decide) (Or.inl ⟨rfl, hCB.1.same hjf hjt (by have h8 := Int32.not_lt.mp c_50_10293; rw [Int32.le_iff_toInt_le] at h8; exact h8), hCB.2.ad⟩) (by decide +kernel) dX1_narrow_54
      · refine lv_iconst (v := 0) hx hb dX1_narrow_36 (by decide) ?_
        exact RI (v := 0) hC hP hD hS [0, 1] fm rfl rfl (by decide) (Or.inr ⟨rfl, hCB.1.no hjf hjt (by have h8 : ¬ 0 ≤ MAT fm jt jf + bo.toInt := fun h9 => c_33_10292 (hlt.mpr h9); omega)⟩) (by decide +kernel) dX1_narrow_37
    · exact absurd wj2 a10291
  · exact absurd wj1 a10289
set_option maxHeartbeats 4000000 in
set_option maxRecDepth 100000 in
theorem c_followX (l : Launch) (G : GG) (K9 : Nat → Nat → Int → Prop) (h0 : Nat) (tt : Nat) (ja : Nat) (jb : Nat) (gp : Int32) (cm : Nat) (fm : Nat → Int32) (tc : Nat) (kt : Nat) (ft : Nat → Int32) (hCB : CLB K9 (MAT fm)) (hSV : SVL ft kt) (hgp : GPR gp) (hja : ja < kt) (hjb : jb < kt) (hkt : kt ≤ 24) : MI l G yX1_follow cX1_follow 8 (some .boolean) 3 0 0 [.ref h0, .ref tt, .int (nI ja), .int (nI jb), .int gp] [(h0, .inr (1, [.ref cm])), (cm, .inl (G.2.1, 36, .inl fm)), (tt, .inr (8, [.int 24, .int 3, .ref tc, .int (nI kt)])), (tc, .inl (G.2.1, 72, .inl ft))] (fun (r : Int32) (u : (Nat → Int32)) => ((r = 1 ∧ CLB (KFO K9 ft gp.toInt ja jb) (MAT u)) ∨ (r = 0 ∧ NOS (KFO K9 ft gp.toInt ja jb)))) (fun u : (Nat → Int32) => [(h0, .inr (1, [.ref cm])), (cm, .inl (G.2.1, 36, .inl u)), (tt, .inr (8, [.int 24, .int 3, .ref tc, .int (nI kt)])), (tc, .inl (G.2.1, 72, .inl ft))]) := by
  refine MI.start (by decide +kernel) (Nat.le_of_ble_eq_true rfl) ?_
  intro p e s m below meth c A ls hC hK hP hD hS hA hl
  have hl : lv_has ls 8 [(0, .ref h0), (1, .ref tt), (2, .int (nI ja)), (3, .int (nI jb)), (4, .int gp)] := hl
  obtain ⟨hx, hb, hr, hml, hB, hown, hlocks, hnm⟩ := id hC
  obtain ⟨-, ⟨ca, hca, eca⟩, ha0, ha9⟩ := hSV ja hja
  obtain ⟨-, ⟨cb, hcb, ecb⟩, hb0, hb9⟩ := hSV jb hjb
  have hsb := ti_sb (x := ft (jb * 3 + 2)) (y := ft (ja * 3 + 2)) (by omega) (by omega) (by omega) (by omega)
  have hsg := ti_sb (x := gp) (y := ft (jb * 3 + 2) - ft (ja * 3 + 2)) (by have := hgp.1; omega) (by have := hgp.2; omega) (by omega) (by omega)
  have hg1 := hgp.1
  have hg2 := hgp.2
  refine lv_aload_n hx hb dX1_follow_0 rfl (lv_at hl 1 rfl) ?_
  refine lv_iload_n hx hb dX1_follow_1 rfl (lv_at hl 2 rfl) ?_
  refine lv_iconst (v := 1) hx hb dX1_follow_2 (by decide) ?_
  refine pV hC hK hl hP hD (c_T_at l G tt (nI ja) 1 24 3 tc kt ft (hkt) (by omega) (by omega)) si_X1_21 [2, 3] rfl rfl (by decide) rfl rfl rfl rfl rfl (Nat.le_of_ble_eq_true rfl) ⟨Nat.le_of_ble_eq_true rfl, Nat.le_of_ble_eq_true rfl⟩ ⟨by first | exact Nat.le_of_ble_eq_true rfl | exact Nat.zero_le _, by first | exact Nat.le_of_ble_eq_true rfl | exact Nat.zero_le _⟩ dX1_follow_3 (fun r10295 hr10295 => ?_)
  refine eqi (x1 := nI ca) ((hr10295.trans (tatq (by omega) (by omega) (by decide) (by decide) rfl)).trans eca) ?_
  refine lv_istore (lv' := [(5, .int (nI ca)), (0, .ref h0), (1, .ref tt), (2, .int (nI ja)), (3, .int (nI jb)), (4, .int gp)]) hx hb dX1_follow_6 hl (by decide) rfl (fun ls hl => ?_)
  refine lv_aload_n hx hb dX1_follow_8 rfl (lv_at hl 2 rfl) ?_
  refine lv_iload_n hx hb dX1_follow_9 rfl (lv_at hl 4 rfl) ?_
  refine lv_iconst (v := 1) hx hb dX1_follow_10 (by decide) ?_
  refine pV hC hK hl hP hD (c_T_at l G tt (nI jb) 1 24 3 tc kt ft (hkt) (by omega) (by omega)) si_X1_21 [2, 3] rfl rfl (by decide) rfl rfl rfl rfl rfl (Nat.le_of_ble_eq_true rfl) ⟨Nat.le_of_ble_eq_true rfl, Nat.le_of_ble_eq_true rfl⟩ ⟨by first | exact Nat.le_of_ble_eq_true rfl | exact Nat.zero_le _, by first | exact Nat.le_of_ble_eq_true rfl | exact Nat.zero_le _⟩ dX1_follow_11 (fun r10297 hr10297 => ?_)
  refine eqi (x1 := nI cb) ((hr10297.trans (tatq (by omega) (by omega) (by decide) (by decide) rfl)).trans ecb) ?_
  refine lv_istore (lv' := [(6, .int (nI cb)), (5, .int (nI ca)), (0, .ref h0), (1, .ref tt), (2, .int (nI ja)), (3, .int (nI jb)), (4, .int gp)]) hx hb dX1_follow_14 hl (by decide) rfl (fun ls hl => ?_)
  refine lv_aload_n hx hb dX1_follow_16 rfl (lv_at hl 3 rfl) ?_
  refine lv_iload_n hx hb dX1_follow_17 rfl (lv_at hl 5 rfl) ?_
  refine lv_iconst (v := 2) hx hb dX1_follow_18 (by decide) ?_
  refine pV hC hK hl hP hD (c_T_at l G tt (nI jb) 2 24 3 tc kt ft (hkt) (by omega) (by omega)) si_X1_21 [2, 3] rfl rfl (by decide) rfl rfl rfl rfl rfl (Nat.le_of_ble_eq_true rfl) ⟨Nat.le_of_ble_eq_true rfl, Nat.le_of_ble_eq_true rfl⟩ ⟨by first | exact Nat.le_of_ble_eq_true rfl | exact Nat.zero_le _, by first | exact Nat.le_of_ble_eq_true rfl | exact Nat.zero_le _⟩ dX1_follow_19 (fun r10299 hr10299 => ?_)
  refine eqi (x1 := ft (jb * 3 + 2)) (hr10299.trans (tatq (by omega) (by omega) (by decide) (by decide) rfl)) ?_
  refine lv_aload_n hx hb dX1_follow_22 rfl (lv_at hl 3 rfl) ?_
  refine lv_iload_n hx hb dX1_follow_23 rfl (lv_at hl 4 rfl) ?_
  refine lv_iconst (v := 2) hx hb dX1_follow_24 (by decide) ?_
  refine pV hC hK hl hP hD (c_T_at l G tt (nI ja) 2 24 3 tc kt ft (hkt) (by omega) (by omega)) si_X1_21 [2, 3] rfl rfl (by decide) rfl rfl rfl rfl rfl (Nat.le_of_ble_eq_true rfl) ⟨Nat.le_of_ble_eq_true rfl, Nat.le_of_ble_eq_true rfl⟩ ⟨by first | exact Nat.le_of_ble_eq_true rfl | exact Nat.zero_le _, by first | exact Nat.le_of_ble_eq_true rfl | exact Nat.zero_le _⟩ dX1_follow_25 (fun r10301 hr10301 => ?_)
  refine eqi (x1 := ft (ja * 3 + 2)) (hr10301.trans (tatq (by omega) (by omega) (by decide) (by decide) rfl)) ?_
  refine lv_isub hx hb dX1_follow_28 ?_
  refine lv_istore (lv' := [(7, .int ((ft (jb * 3 + 2)) - (ft (ja * 3 + 2)))), (6, .int (nI cb)), (5, .int (nI ca)), (0, .ref h0), (1, .ref tt), (2, .int (nI ja)), (3, .int (nI jb)), (4, .int gp)]) hx hb dX1_follow_29 hl (by decide) rfl (fun ls hl => ?_)
  refine lv_aload_n hx hb dX1_follow_31 rfl (lv_at hl 3 rfl) ?_
  refine lv_iload hx hb dX1_follow_32 (lv_at hl 2 rfl) ?_
  refine lv_iload hx hb dX1_follow_34 (lv_at hl 1 rfl) ?_
  refine lv_iload hx hb dX1_follow_36 (lv_at hl 0 rfl) ?_
  refine iV (wr := [(tt, .inr (8, [.int 24, .int 3, .ref tc, .int (nI kt)])), (tc, .inl (G.2.1, 72, .inl ft))]) hC hK hl hP hD hS hA (c_narrowX l G K9 h0 ca cb ((ft (jb * 3 + 2)) - (ft (ja * 3 + 2))) cm fm (hCB) (by omega) (by omega) (by omega) (by omega)) si_X1_27 [0, 1] [2, 3] rfl rfl (by decide) rfl (by decide) (by decide) rfl rfl rfl rfl rfl (Nat.le_of_ble_eq_true rfl) ⟨Nat.le_of_ble_eq_true rfl, Nat.le_of_ble_eq_true rfl⟩ ⟨Nat.le_of_ble_eq_true rfl, Nat.le_of_ble_eq_true rfl⟩ dX1_follow_38 (fun r10303 u10304 H locs hr10303 hP hD hS => ?_)
  obtain ⟨f110305, rfl⟩ : ∃ z9, z9 = u10304 := ⟨_, rfl⟩
  try dsimp only at hr10303
  have hPD : va_PD G A [(tt, .inr (8, [.int 24, .int 3, .ref tc, .int (nI kt)])), (tc, .inl (G.2.1, 72, .inl ft)), (h0, .inr (1, [.ref cm])), (cm, .inl (G.2.1, 36, .inl f110305))] H := And.intro hP hD
  obtain ⟨hP, hD⟩ := hPD
  rcases hr10303 with ⟨rfl, a10306⟩ | ⟨rfl, a10306⟩
  · refine lv_if_eq (tgt := 64) hx hb dX1_follow_41 (by decide) (fun c9 => absurd c9 (by decide)) (fun _ => ?_)
    refine lv_aload_n hx hb dX1_follow_44 rfl (lv_at hl 3 rfl) ?_
    refine lv_iload hx hb dX1_follow_45 (lv_at hl 1 rfl) ?_
    refine lv_iload hx hb dX1_follow_47 (lv_at hl 2 rfl) ?_
    refine lv_iload hx hb dX1_follow_49 (lv_at hl 7 rfl) ?_
    refine lv_iload hx hb dX1_follow_51 (lv_at hl 0 rfl) ?_
    refine lv_isub hx hb dX1_follow_53 ?_
    refine iV (wr := [(tt, .inr (8, [.int 24, .int 3, .ref tc, .int (nI kt)])), (tc, .inl (G.2.1, 72, .inl ft))]) hC hK hl hP hD hS hA (c_narrowX l G (KAD K9 ca cb ((ft (jb * 3 + 2)) - (ft (ja * 3 + 2))).toInt) h0 cb ca (gp - ((ft (jb * 3 + 2)) - (ft (ja * 3 + 2)))) cm f110305 (a10306) (by omega) (by omega) (by omega) (by omega)) si_X1_27 [2, 3] [0, 1] rfl rfl (by decide) rfl (by decide) (by decide) rfl rfl rfl rfl rfl (Nat.le_of_ble_eq_true rfl) ⟨Nat.le_of_ble_eq_true rfl, Nat.le_of_ble_eq_true rfl⟩ ⟨Nat.le_of_ble_eq_true rfl, Nat.le_of_ble_eq_true rfl⟩ dX1_follow_54 (fun r10307 u10308 H locs hr10307 hP hD hS => ?_)
    obtain ⟨f110309, rfl⟩ : ∃ z9, z9 = u10308 := ⟨_, rfl⟩
    try dsimp only at hr10307
    have hPD : va_PD G A [(tt, .inr (8, [.int 24, .int 3, .ref tc, .int (nI kt)])), (tc, .inl (G.2.1, 72, .inl ft)), (h0, .inr (1, [.ref cm])), (cm, .inl (G.2.1, 36, .inl f110309))] H := And.intro hP hD
    obtain ⟨hP, hD⟩ := hPD
    rcases hr10307 with ⟨rfl, a10310⟩ | ⟨rfl, a10310⟩
    · refine lv_if_eq (tgt := 64) hx hb dX1_follow_57 (by decide) (fun c9 => absurd c9 (by decide)) (fun _ => ?_)
      refine lv_iconst (v := 1) hx hb dX1_follow_60 (by decide) ?_
      refine lv_goto (tgt := 65) hx hb dX1_follow_61 (by decide) ?_
      exact RI (v := 1) hC hP hD hS [2, 3, 0, 1] f110309 rfl rfl (by decide) (Or.inl ⟨rfl, by rw [(KFO.mk eca ecb hca hcb ha0 ha9 hb0 hb9 hgp)]; exact a10310⟩) (by decide +kernel) dX1_follow_65
    · refine lv_if_eq (tgt := 64) hx hb dX1_follow_57 (by decide) (fun _ => ?_) (fun c9 => absurd (by decide) c9)
      refine lv_iconst (v := 0) hx hb dX1_follow_64 (by decide) ?_
      exact RI (v := 0) hC hP hD hS [2, 3, 0, 1] f110309 rfl rfl (by decide) (Or.inr ⟨rfl, by rw [(KFO.mk eca ecb hca hcb ha0 ha9 hb0 hb9 hgp)]; exact a10310⟩) (by decide +kernel) dX1_follow_65
  · refine lv_if_eq (tgt := 64) hx hb dX1_follow_41 (by decide) (fun _ => ?_) (fun c9 => absurd (by decide) c9)
    refine lv_iconst (v := 0) hx hb dX1_follow_64 (by decide) ?_
    exact RI (v := 0) hC hP hD hS [2, 3, 0, 1] f110305 rfl rfl (by decide) (Or.inr ⟨rfl, by rw [(KFO.mk eca ecb hca hcb ha0 ha9 hb0 hb9 hgp)]; exact a10306.ad⟩) (by decide +kernel) dX1_follow_65
set_option maxHeartbeats 4000000 in
set_option maxRecDepth 100000 in
theorem c_mostAheadX (l : Launch) (G : GG) (h0 : Nat) (jf : Nat) (jt : Nat) (cm : Nat) (fm : Nat → Int32) (hjf : jf < 6) (hjt : jt < 6) : MP l G yX1_mostAhead cX1_mostAhead 3 (some .int) 1 [.ref h0, .int (nI jf), .int (nI jt)] [(h0, .inr (1, [.ref cm])), (cm, .inl (G.2.1, 36, .inl fm))] (fun r : Int32 => r = (fm (jf * 6 + jt))) := by
  refine MP.start (by decide +kernel) (Nat.le_of_ble_eq_true rfl) ?_
  intro p e s m below meth c ls hC hK hP hD hl
  have hl : lv_has ls 3 [(0, .ref h0), (1, .int (nI jf)), (2, .int (nI jt))] := hl
  obtain ⟨hx, hb, hr, hml, hB, hown, hlocks, hnm⟩ := id hC
  refine lv_iload_n hx hb dX1_mostAhead_0 rfl (lv_at hl 1 rfl) ?_
  refine lv_if_lt (tgt := 20) hx hb dX1_mostAhead_1 (by decide) (fun c9 => absurd c9 (nI_pos (by omega))) (fun _ => ?_)
  refine lv_iload_n hx hb dX1_mostAhead_4 rfl (lv_at hl 1 rfl) ?_
  refine lv_bipush (v := 6) hx hb dX1_mostAhead_5 (by decide) ?_
  refine lv_icmp_ge (tgt := 20) hx hb dX1_mostAhead_7 (by decide) (fun c9 => absurd c9 (nI_ge (a := jf) (b := 6) (by omega) (by omega))) (fun _ => ?_)
  refine lv_iload_n hx hb dX1_mostAhead_10 rfl (lv_at hl 2 rfl) ?_
  refine lv_if_lt (tgt := 20) hx hb dX1_mostAhead_11 (by decide) (fun c9 => absurd c9 (nI_pos (by omega))) (fun _ => ?_)
  refine lv_iload_n hx hb dX1_mostAhead_14 rfl (lv_at hl 2 rfl) ?_
  refine lv_bipush (v := 6) hx hb dX1_mostAhead_15 (by decide) ?_
  refine lv_icmp_lt (tgt := 22) hx hb dX1_mostAhead_17 (by decide) (fun _ => ?_) (fun c9 => absurd (nI_lt (by omega) (by decide)) c9)
  refine lv_aload_n hx hb dX1_mostAhead_22 rfl (lv_at hl 0 rfl) ?_
  refine gf_X1_9 hC rfl hK hP 0 rfl rfl dX1_mostAhead_23 ?_
  refine lv_iload_n hx hb dX1_mostAhead_26 rfl (lv_at hl 1 rfl) ?_
  refine lv_bipush (v := 6) hx hb dX1_mostAhead_27 (by decide) ?_
  refine lv_imul hx hb dX1_mostAhead_29 ?_
  refine eqi (x1 := nI (jf * 6)) (nI_mul jf 6) ?_
  refine lv_iload_n hx hb dX1_mostAhead_30 rfl (lv_at hl 2 rfl) ?_
  refine lv_iadd hx hb dX1_mostAhead_31 ?_
  refine eqi (x1 := nI (jf * 6 + jt)) (nI_add (jf * 6) jt) ?_
  refine ald hC hK hP 1 rfl (vp_in_nI (by omega) (by omega)) (k := (jf * 6 + jt)) (nI_clamp (by omega)) (v := fm (jf * 6 + jt)) rfl dX1_mostAhead_32 ?_
  exact RP (v := fm (jf * 6 + jt)) hC (rfl) rfl dX1_mostAhead_33
set_option maxHeartbeats 4000000 in
set_option maxRecDepth 100000 in
theorem c_trueHour0X (l : Launch) (G : GG) (h0 : Nat) (js : Nat) (bb : Nat) (clk : Nat) (fi : Nat) (la : Nat) (ml : Nat) (mm : Nat) (sl : Nat) (sm : Nat) (cl : Int32) (clm : Nat) (fclm : Nat → Int32) (bpersons : Nat) (bpapers : Nat) (bstamps : Nat) (bversions : Nat) (blines : Nat) (bsteps : Nat) (bsayings : Nat) (bfindings : Nat) (bwarnings : Nat) (bquestions : Nat) (td : Int32) (vd : Int32) (vl : Int32) (gp : Int32) (bstampsc : Nat) (kbstamps : Nat) (fbstamps : Nat → Int32) (hkbstamps : kbstamps ≤ 24) (hSV : SVL fbstamps kbstamps) (hjs : js < kbstamps) : MP l G yX7_trueHour cX7_trueHour 5 (some .int) 3 [.ref h0, .int (nI js), .int 0] [(h0, .inr (7, [.ref bb, .ref clk, .ref fi, .ref la, .ref ml, .ref mm, .ref sl, .ref sm, .int cl])), (clk, .inr (1, [.ref clm])), (clm, .inl (G.2.1, 36, .inl fclm)), (bb, .inr (0, [.ref bpersons, .ref bpapers, .ref bstamps, .ref bversions, .ref blines, .ref bsteps, .ref bsayings, .ref bfindings, .ref bwarnings, .ref bquestions, .int td, .int vd, .int vl, .int gp])), (bstamps, .inr (8, [.int 24, .int 3, .ref bstampsc, .int (nI kbstamps)])), (bstampsc, .inl (G.2.1, 72, .inl fbstamps))] (fun r : Int32 => r = (TR0 fbstamps fclm js)) := by
  refine MP.start (by decide +kernel) (Nat.le_of_ble_eq_true rfl) ?_
  intro p e s m below meth c ls hC hK hP hD hl
  have hl : lv_has ls 5 [(0, .ref h0), (1, .int (nI js)), (2, .int 0)] := hl
  obtain ⟨hx, hb, hr, hml, hB, hown, hlocks, hnm⟩ := id hC
  obtain ⟨-, ⟨jc, hjc, ejc⟩, -, -⟩ := hSV js hjs
  refine lv_aload_n hx hb dX7_trueHour_0 rfl (lv_at hl 0 rfl) ?_
  refine gf_X7_37 hC rfl hK hP 0 rfl rfl dX7_trueHour_1 ?_
  refine gf_X7_48 hC rfl hK hP 3 rfl rfl dX7_trueHour_4 ?_
  refine lv_iload_n hx hb dX7_trueHour_7 rfl (lv_at hl 1 rfl) ?_
  refine lv_iconst (v := 1) hx hb dX7_trueHour_8 (by decide) ?_
  refine pV hC hK hl hP hD (c_T_at l G bstamps (nI js) 1 24 3 bstampsc kbstamps fbstamps (hkbstamps) (by omega) (by omega)) si_X7_60 [4, 5] rfl rfl (by decide) rfl rfl rfl rfl rfl (Nat.le_of_ble_eq_true rfl) ⟨Nat.le_of_ble_eq_true rfl, Nat.le_of_ble_eq_true rfl⟩ ⟨by first | exact Nat.le_of_ble_eq_true rfl | exact Nat.zero_le _, by first | exact Nat.le_of_ble_eq_true rfl | exact Nat.zero_le _⟩ dX7_trueHour_9 (fun r10311 hr10311 => ?_)
  refine eqi (x1 := nI jc) ((hr10311.trans (tatq (by omega) (by omega) (by decide) (by decide) rfl)).trans ejc) ?_
  refine lv_istore_n (lv' := [(3, .int (nI jc)), (0, .ref h0), (1, .int (nI js)), (2, .int 0)]) hx hb dX7_trueHour_12 rfl hl (by decide) rfl (fun ls hl => ?_)
  refine lv_iload_n hx hb dX7_trueHour_13 rfl (lv_at hl 3 rfl) ?_
  refine lv_if_eq (tgt := 29) hx hb dX7_trueHour_14 (by decide) (fun _ => ?_) (fun c9 => absurd (by decide) c9)
  refine lv_aload_n hx hb dX7_trueHour_29 rfl (lv_at hl 1 rfl) ?_
  refine gf_X7_12 hC rfl hK hP 0 rfl rfl dX7_trueHour_30 ?_
  refine lv_iconst (v := 0) hx hb dX7_trueHour_33 (by decide) ?_
  refine lv_iload_n hx hb dX7_trueHour_34 rfl (lv_at hl 0 rfl) ?_
  refine pV hC hK hl hP hD (c_mostAheadX l G clk 0 jc clm fclm (by omega) (by omega)) si_X7_87 [1, 2] rfl rfl (by decide) rfl rfl rfl rfl rfl (Nat.le_of_ble_eq_true rfl) ⟨Nat.le_of_ble_eq_true rfl, Nat.le_of_ble_eq_true rfl⟩ ⟨by first | exact Nat.le_of_ble_eq_true rfl | exact Nat.zero_le _, by first | exact Nat.le_of_ble_eq_true rfl | exact Nat.zero_le _⟩ dX7_trueHour_35 (fun r10313 hr10313 => ?_)
  obtain rfl := hr10313
  refine lv_ineg hx hb dX7_trueHour_38 ?_
  refine lv_istore (lv' := [(4, .int (-(fclm (0 * 6 + jc)))), (3, .int (nI jc)), (0, .ref h0), (1, .int (nI js)), (2, .int 0)]) hx hb dX7_trueHour_39 hl (by decide) rfl (fun ls hl => ?_)
  refine lv_aload_n hx hb dX7_trueHour_41 rfl (lv_at hl 2 rfl) ?_
  refine gf_X7_37 hC rfl hK hP 0 rfl rfl dX7_trueHour_42 ?_
  refine gf_X7_48 hC rfl hK hP 3 rfl rfl dX7_trueHour_45 ?_
  refine lv_iload_n hx hb dX7_trueHour_48 rfl (lv_at hl 3 rfl) ?_
  refine lv_iconst (v := 2) hx hb dX7_trueHour_49 (by decide) ?_
  refine pV hC hK hl hP hD (c_T_at l G bstamps (nI js) 2 24 3 bstampsc kbstamps fbstamps (hkbstamps) (by omega) (by omega)) si_X7_60 [4, 5] rfl rfl (by decide) rfl rfl rfl rfl rfl (Nat.le_of_ble_eq_true rfl) ⟨Nat.le_of_ble_eq_true rfl, Nat.le_of_ble_eq_true rfl⟩ ⟨by first | exact Nat.le_of_ble_eq_true rfl | exact Nat.zero_le _, by first | exact Nat.le_of_ble_eq_true rfl | exact Nat.zero_le _⟩ dX7_trueHour_50 (fun r10315 hr10315 => ?_)
  refine eqi (x1 := fbstamps (js * 3 + 2)) (hr10315.trans (tatq (by omega) (by omega) (by decide) (by decide) rfl)) ?_
  refine lv_iload hx hb dX7_trueHour_53 (lv_at hl 0 rfl) ?_
  refine lv_iadd hx hb dX7_trueHour_55 ?_
  exact RP (v := (fbstamps (js * 3 + 2)) + (-(fclm (0 * 6 + jc)))) hC ((by unfold TR0 CKS; rw [ejc, nI_clamp (by omega)])) rfl dX7_trueHour_56
set_option maxHeartbeats 4000000 in
set_option maxRecDepth 100000 in
theorem c_trueHour1X (l : Launch) (G : GG) (h0 : Nat) (js : Nat) (bb : Nat) (clk : Nat) (fi : Nat) (la : Nat) (ml : Nat) (mm : Nat) (sl : Nat) (sm : Nat) (cl : Int32) (clm : Nat) (fclm : Nat → Int32) (bpersons : Nat) (bpapers : Nat) (bstamps : Nat) (bversions : Nat) (blines : Nat) (bsteps : Nat) (bsayings : Nat) (bfindings : Nat) (bwarnings : Nat) (bquestions : Nat) (td : Int32) (vd : Int32) (vl : Int32) (gp : Int32) (bstampsc : Nat) (kbstamps : Nat) (fbstamps : Nat → Int32) (hkbstamps : kbstamps ≤ 24) (hSV : SVL fbstamps kbstamps) (hjs : js < kbstamps) : MP l G yX7_trueHour cX7_trueHour 5 (some .int) 3 [.ref h0, .int (nI js), .int 1] [(h0, .inr (7, [.ref bb, .ref clk, .ref fi, .ref la, .ref ml, .ref mm, .ref sl, .ref sm, .int cl])), (clk, .inr (1, [.ref clm])), (clm, .inl (G.2.1, 36, .inl fclm)), (bb, .inr (0, [.ref bpersons, .ref bpapers, .ref bstamps, .ref bversions, .ref blines, .ref bsteps, .ref bsayings, .ref bfindings, .ref bwarnings, .ref bquestions, .int td, .int vd, .int vl, .int gp])), (bstamps, .inr (8, [.int 24, .int 3, .ref bstampsc, .int (nI kbstamps)])), (bstampsc, .inl (G.2.1, 72, .inl fbstamps))] (fun r : Int32 => r = (TR1 fbstamps fclm js)) := by
  refine MP.start (by decide +kernel) (Nat.le_of_ble_eq_true rfl) ?_
  intro p e s m below meth c ls hC hK hP hD hl
  have hl : lv_has ls 5 [(0, .ref h0), (1, .int (nI js)), (2, .int 1)] := hl
  obtain ⟨hx, hb, hr, hml, hB, hown, hlocks, hnm⟩ := id hC
  obtain ⟨-, ⟨jc, hjc, ejc⟩, -, -⟩ := hSV js hjs
  refine lv_aload_n hx hb dX7_trueHour_0 rfl (lv_at hl 0 rfl) ?_
  refine gf_X7_37 hC rfl hK hP 0 rfl rfl dX7_trueHour_1 ?_
  refine gf_X7_48 hC rfl hK hP 3 rfl rfl dX7_trueHour_4 ?_
  refine lv_iload_n hx hb dX7_trueHour_7 rfl (lv_at hl 1 rfl) ?_
  refine lv_iconst (v := 1) hx hb dX7_trueHour_8 (by decide) ?_
  refine pV hC hK hl hP hD (c_T_at l G bstamps (nI js) 1 24 3 bstampsc kbstamps fbstamps (hkbstamps) (by omega) (by omega)) si_X7_60 [4, 5] rfl rfl (by decide) rfl rfl rfl rfl rfl (Nat.le_of_ble_eq_true rfl) ⟨Nat.le_of_ble_eq_true rfl, Nat.le_of_ble_eq_true rfl⟩ ⟨by first | exact Nat.le_of_ble_eq_true rfl | exact Nat.zero_le _, by first | exact Nat.le_of_ble_eq_true rfl | exact Nat.zero_le _⟩ dX7_trueHour_9 (fun r10317 hr10317 => ?_)
  refine eqi (x1 := nI jc) ((hr10317.trans (tatq (by omega) (by omega) (by decide) (by decide) rfl)).trans ejc) ?_
  refine lv_istore_n (lv' := [(3, .int (nI jc)), (0, .ref h0), (1, .int (nI js)), (2, .int 1)]) hx hb dX7_trueHour_12 rfl hl (by decide) rfl (fun ls hl => ?_)
  refine lv_iload_n hx hb dX7_trueHour_13 rfl (lv_at hl 3 rfl) ?_
  refine lv_if_eq (tgt := 29) hx hb dX7_trueHour_14 (by decide) (fun c9 => absurd c9 (by decide)) (fun _ => ?_)
  refine lv_aload_n hx hb dX7_trueHour_17 rfl (lv_at hl 1 rfl) ?_
  refine gf_X7_12 hC rfl hK hP 0 rfl rfl dX7_trueHour_18 ?_
  refine lv_iload_n hx hb dX7_trueHour_21 rfl (lv_at hl 0 rfl) ?_
  refine lv_iconst (v := 0) hx hb dX7_trueHour_22 (by decide) ?_
  refine pV hC hK hl hP hD (c_mostAheadX l G clk jc 0 clm fclm (by omega) (by omega)) si_X7_87 [1, 2] rfl rfl (by decide) rfl rfl rfl rfl rfl (Nat.le_of_ble_eq_true rfl) ⟨Nat.le_of_ble_eq_true rfl, Nat.le_of_ble_eq_true rfl⟩ ⟨by first | exact Nat.le_of_ble_eq_true rfl | exact Nat.zero_le _, by first | exact Nat.le_of_ble_eq_true rfl | exact Nat.zero_le _⟩ dX7_trueHour_23 (fun r10319 hr10319 => ?_)
  obtain rfl := hr10319
  refine lv_goto (tgt := 39) hx hb dX7_trueHour_26 (by decide) ?_
  refine lv_istore (lv' := [(4, .int (fclm (jc * 6 + 0))), (3, .int (nI jc)), (0, .ref h0), (1, .int (nI js)), (2, .int 1)]) hx hb dX7_trueHour_39 hl (by decide) rfl (fun ls hl => ?_)
  refine lv_aload_n hx hb dX7_trueHour_41 rfl (lv_at hl 2 rfl) ?_
  refine gf_X7_37 hC rfl hK hP 0 rfl rfl dX7_trueHour_42 ?_
  refine gf_X7_48 hC rfl hK hP 3 rfl rfl dX7_trueHour_45 ?_
  refine lv_iload_n hx hb dX7_trueHour_48 rfl (lv_at hl 3 rfl) ?_
  refine lv_iconst (v := 2) hx hb dX7_trueHour_49 (by decide) ?_
  refine pV hC hK hl hP hD (c_T_at l G bstamps (nI js) 2 24 3 bstampsc kbstamps fbstamps (hkbstamps) (by omega) (by omega)) si_X7_60 [4, 5] rfl rfl (by decide) rfl rfl rfl rfl rfl (Nat.le_of_ble_eq_true rfl) ⟨Nat.le_of_ble_eq_true rfl, Nat.le_of_ble_eq_true rfl⟩ ⟨by first | exact Nat.le_of_ble_eq_true rfl | exact Nat.zero_le _, by first | exact Nat.le_of_ble_eq_true rfl | exact Nat.zero_le _⟩ dX7_trueHour_50 (fun r10321 hr10321 => ?_)
  refine eqi (x1 := fbstamps (js * 3 + 2)) (hr10321.trans (tatq (by omega) (by omega) (by decide) (by decide) rfl)) ?_
  refine lv_iload hx hb dX7_trueHour_53 (lv_at hl 0 rfl) ?_
  refine lv_iadd hx hb dX7_trueHour_55 ?_
  exact RP (v := (fbstamps (js * 3 + 2)) + (fclm (jc * 6 + 0))) hC ((by unfold TR1 CKS; rw [ejc, nI_clamp (by omega)])) rfl dX7_trueHour_56
set_option maxHeartbeats 4000000 in
set_option maxRecDepth 100000 in
theorem c_boundHoursX (l : Launch) (G : GG) (pp : Int32) (h0 : Nat) (bb : Nat) (clk : Nat) (fi : Nat) (la : Nat) (ml : Nat) (mm : Nat) (sl : Nat) (sm : Nat) (cl : Int32) (ffi : Nat → Int32) (fla : Nat → Int32) (fml : Nat → Int32) (fmm : Nat → Int32) (fsl : Nat → Int32) (fsm : Nat → Int32) (clm : Nat) (fclm : Nat → Int32) (bpersons : Nat) (bpapers : Nat) (bstamps : Nat) (bversions : Nat) (blines : Nat) (bsteps : Nat) (bsayings : Nat) (bfindings : Nat) (bwarnings : Nat) (bquestions : Nat) (td : Int32) (vd : Int32) (vl : Int32) (gp : Int32) (bstampsc : Nat) (kbstamps : Nat) (fbstamps : Nat → Int32) (hkbstamps : kbstamps ≤ 24) (hSV : SVL fbstamps kbstamps) (hAF : AFI fbstamps (VPP pp) kbstamps ffi) (hAL : ALA fbstamps (VPP pp) kbstamps fla) : MV l G yX7_boundHours cX7_boundHours 2 4 0 0 [.ref h0] [(h0, .inr (7, [.ref bb, .ref clk, .ref fi, .ref la, .ref ml, .ref mm, .ref sl, .ref sm, .int cl])), (fi, .inl (G.2.1, 12, .inl ffi)), (la, .inl (G.2.1, 12, .inl fla)), (ml, .inl (G.2.1, 12, .inl fml)), (mm, .inl (G.2.1, 12, .inl fmm)), (sl, .inl (G.2.1, 12, .inl fsl)), (sm, .inl (G.2.1, 12, .inl fsm)), (clk, .inr (1, [.ref clm])), (clm, .inl (G.2.1, 36, .inl fclm)), (bb, .inr (0, [.ref bpersons, .ref bpapers, .ref bstamps, .ref bversions, .ref blines, .ref bsteps, .ref bsayings, .ref bfindings, .ref bwarnings, .ref bquestions, .int td, .int vd, .int vl, .int gp])), (bstamps, .inr (8, [.int 24, .int 3, .ref bstampsc, .int (nI kbstamps)])), (bstampsc, .inl (G.2.1, 72, .inl fbstamps))] (fun u : (Nat → Int32) × (Nat → Int32) × (Nat → Int32) × (Nat → Int32) => BHP fbstamps fclm ffi fla u.1 u.2.1 u.2.2.1 u.2.2.2 12) (fun u : (Nat → Int32) × (Nat → Int32) × (Nat → Int32) × (Nat → Int32) => [(h0, .inr (7, [.ref bb, .ref clk, .ref fi, .ref la, .ref ml, .ref mm, .ref sl, .ref sm, .int cl])), (fi, .inl (G.2.1, 12, .inl ffi)), (la, .inl (G.2.1, 12, .inl fla)), (ml, .inl (G.2.1, 12, .inl u.1)), (mm, .inl (G.2.1, 12, .inl u.2.1)), (sl, .inl (G.2.1, 12, .inl u.2.2.1)), (sm, .inl (G.2.1, 12, .inl u.2.2.2)), (clk, .inr (1, [.ref clm])), (clm, .inl (G.2.1, 36, .inl fclm)), (bb, .inr (0, [.ref bpersons, .ref bpapers, .ref bstamps, .ref bversions, .ref blines, .ref bsteps, .ref bsayings, .ref bfindings, .ref bwarnings, .ref bquestions, .int td, .int vd, .int vl, .int gp])), (bstamps, .inr (8, [.int 24, .int 3, .ref bstampsc, .int (nI kbstamps)])), (bstampsc, .inl (G.2.1, 72, .inl fbstamps))]) := by
  refine MV.start (by decide +kernel) (Nat.le_of_ble_eq_true rfl) ?_
  intro p e s m below meth c A ls hC hK hP hD hS hA hl
  have hl : lv_has ls 2 [(0, .ref h0)] := hl
  obtain ⟨hx, hb, hr, hml, hB, hown, hlocks, hnm⟩ := id hC
  refine lv_iconst (v := 0) hx hb dX7_boundHours_0 (by decide) ?_
  refine lv_istore_n (lv' := [(1, .int 0), (0, .ref h0)]) hx hb dX7_boundHours_1 rfl hl (by decide) rfl (fun ls hl => ?_)
  have keyP : ∀ (nP kP : Nat) (vml : Nat → Int32) (vmm : Nat → Int32) (vsl : Nat → Int32) (vsm : Nat → Int32) (H : Heap) (locs : List Loc) (ls : Array Slot), kP + nP = 12 → (BHP fbstamps fclm ffi fla vml vmm vsl vsm kP) → va_PD G A [(h0, .inr (7, [.ref bb, .ref clk, .ref fi, .ref la, .ref ml, .ref mm, .ref sl, .ref sm, .int cl])), (fi, .inl (G.2.1, 12, .inl ffi)), (la, .inl (G.2.1, 12, .inl fla)), (ml, .inl (G.2.1, 12, .inl vml)), (mm, .inl (G.2.1, 12, .inl vmm)), (sl, .inl (G.2.1, 12, .inl vsl)), (sm, .inl (G.2.1, 12, .inl vsm)), (clk, .inr (1, [.ref clm])), (clm, .inl (G.2.1, 36, .inl fclm)), (bb, .inr (0, [.ref bpersons, .ref bpapers, .ref bstamps, .ref bversions, .ref blines, .ref bsteps, .ref bsayings, .ref bfindings, .ref bwarnings, .ref bquestions, .int td, .int vd, .int vl, .int gp])), (bstamps, .inr (8, [.int 24, .int 3, .ref bstampsc, .int (nI kbstamps)])), (bstampsc, .inl (G.2.1, 72, .inl fbstamps))] H → va_S A s.heap H locs → lv_has ls 2 [(1, .int (nI kP)), (0, .ref h0)] → W p l e (RM 4 0 0) s m ([.ref h0] : List Value).toArray below meth c H locs 0 0 (MQ below (QV G (fun u : (Nat → Int32) × (Nat → Int32) × (Nat → Int32) × (Nat → Int32) => BHP fbstamps fclm ffi fla u.1 u.2.1 u.2.2.1 u.2.2.2 12) (fun u : (Nat → Int32) × (Nat → Int32) × (Nat → Int32) × (Nat → Int32) => [(h0, .inr (7, [.ref bb, .ref clk, .ref fi, .ref la, .ref ml, .ref mm, .ref sl, .ref sm, .int cl])), (fi, .inl (G.2.1, 12, .inl ffi)), (la, .inl (G.2.1, 12, .inl fla)), (ml, .inl (G.2.1, 12, .inl u.1)), (mm, .inl (G.2.1, 12, .inl u.2.1)), (sl, .inl (G.2.1, 12, .inl u.2.2.1)), (sm, .inl (G.2.1, 12, .inl u.2.2.2)), (clk, .inr (1, [.ref clm])), (clm, .inl (G.2.1, 36, .inl fclm)), (bb, .inr (0, [.ref bpersons, .ref bpapers, .ref bstamps, .ref bversions, .ref blines, .ref bsteps, .ref bsayings, .ref bfindings, .ref bwarnings, .ref bquestions, .int td, .int vd, .int vl, .int gp])), (bstamps, .inr (8, [.int 24, .int 3, .ref bstampsc, .int (nI kbstamps)])), (bstampsc, .inl (G.2.1, 72, .inl fbstamps))]) A) ([.ref h0] : List Value).toArray s 0 0 A) (F0 m 2 ls []) := by
    intro nP
    induction nP with
    | zero =>
      intro kP vml vmm vsl vsm H locs ls hkP hbh hPD hS hl
      obtain ⟨hP, hD⟩ := hPD
      obtain rfl : 12 = kP := by omega
      have hl : lv_has ls 2 [(1, .int 12), (0, .ref h0)] := hl
      refine lv_iload_n hx hb dX7_boundHours_2 rfl (lv_at hl 0 rfl) ?_
      refine lv_bipush (v := 12) hx hb dX7_boundHours_3 (by decide) ?_
      refine lv_icmp_ge (tgt := 94) hx hb dX7_boundHours_5 (by decide) (fun _ => ?_) (fun c9 => absurd (by decide) c9)
      exact RV hC hP hD hS [0, 1, 2, 3, 4, 5, 6, 7, 8, 9, 10, 11] (vml, vmm, vsl, vsm) rfl rfl (by decide) (hbh) dX7_boundHours_94
    | succ nP ihP =>
      intro kP vml vmm vsl vsm H locs ls hkP hbh hPD hS hl
      obtain ⟨hP, hD⟩ := hPD
      refine lv_iload_n hx hb dX7_boundHours_2 rfl (lv_at hl 0 rfl) ?_
      refine lv_bipush (v := 12) hx hb dX7_boundHours_3 (by decide) ?_
      refine lv_icmp_ge (tgt := 94) hx hb dX7_boundHours_5 (by decide) (fun c9 => absurd c9 (nI_ge (a := kP) (b := 12) (by omega) (by omega))) (fun _ => ?_)
      refine lv_aload_n hx hb dX7_boundHours_8 rfl (lv_at hl 1 rfl) ?_
      refine gf_X7_22 hC rfl hK hP 0 rfl rfl dX7_boundHours_9 ?_
      refine lv_iload_n hx hb dX7_boundHours_12 rfl (lv_at hl 0 rfl) ?_
      refine ald hC hK hP 2 rfl (vp_in_nI (by omega) (by omega)) (k := kP) (nI_clamp (by omega)) (v := fla kP) rfl dX7_boundHours_13 ?_
      refine lv_if_ge (tgt := 20) hx hb dX7_boundHours_14 (by decide) (fun c_14_10323 => ?_) (fun c_14_10323 => ?_)
      · obtain ⟨js1, hjs1, ejs1, -⟩ := hAF.seen hAL (p := kP) (by omega) (Int32.not_lt.mpr c_14_10323)
        obtain ⟨js2, hjs2, ejs2, -, -⟩ := hAL.seen (p := kP) (by omega) (Int32.not_lt.mpr c_14_10323)
        refine lv_aload_n hx hb dX7_boundHours_20 rfl (lv_at hl 1 rfl) ?_
        refine gf_X7_25 hC rfl hK hP 0 rfl rfl dX7_boundHours_21 ?_
        refine lv_iload_n hx hb dX7_boundHours_24 rfl (lv_at hl 0 rfl) ?_
        refine lv_aload_n hx hb dX7_boundHours_25 rfl (lv_at hl 1 rfl) ?_
        refine lv_aload_n hx hb dX7_boundHours_26 rfl (lv_at hl 1 rfl) ?_
        refine gf_X7_18 hC rfl hK hP 0 rfl rfl dX7_boundHours_27 ?_
        refine lv_iload_n hx hb dX7_boundHours_30 rfl (lv_at hl 0 rfl) ?_
        refine ald hC hK hP 1 rfl (vp_in_nI (by omega) (by omega)) (k := kP) (nI_clamp (by omega)) (v := ffi kP) rfl dX7_boundHours_31 ?_
        refine eqi (x1 := nI js1) ejs1 ?_
        refine lv_iconst (v := 0) hx hb dX7_boundHours_32 (by decide) ?_
        refine pV hC hK hl hP hD (c_trueHour0X l G h0 js1 bb clk fi la ml mm sl sm cl clm fclm bpersons bpapers bstamps bversions blines bsteps bsayings bfindings bwarnings bquestions td vd vl gp bstampsc kbstamps fbstamps (hkbstamps) (hSV) (by omega)) si_X7_83 [0, 7, 8, 9, 10, 11] rfl rfl (by decide) rfl rfl rfl rfl rfl (Nat.le_of_ble_eq_true rfl) ⟨Nat.le_of_ble_eq_true rfl, Nat.le_of_ble_eq_true rfl⟩ ⟨by first | exact Nat.le_of_ble_eq_true rfl | exact Nat.zero_le _, by first | exact Nat.le_of_ble_eq_true rfl | exact Nat.zero_le _⟩ dX7_boundHours_33 (fun r10324 hr10324 => ?_)
        obtain rfl := hr10324
        refine ast hC hK hP hD hS 3 (ws' := [(h0, .inr (7, [.ref bb, .ref clk, .ref fi, .ref la, .ref ml, .ref mm, .ref sl, .ref sm, .int cl])), (fi, .inl (G.2.1, 12, .inl ffi)), (la, .inl (G.2.1, 12, .inl fla)), (ml, .inl (G.2.1, 12, .inl (upd vml kP (TR0 fbstamps fclm js1)))), (mm, .inl (G.2.1, 12, .inl vmm)), (sl, .inl (G.2.1, 12, .inl vsl)), (sm, .inl (G.2.1, 12, .inl vsm)), (clk, .inr (1, [.ref clm])), (clm, .inl (G.2.1, 36, .inl fclm)), (bb, .inr (0, [.ref bpersons, .ref bpapers, .ref bstamps, .ref bversions, .ref blines, .ref bsteps, .ref bsayings, .ref bfindings, .ref bwarnings, .ref bquestions, .int td, .int vd, .int vl, .int gp])), (bstamps, .inr (8, [.int 24, .int 3, .ref bstampsc, .int (nI kbstamps)])), (bstampsc, .inl (G.2.1, 72, .inl fbstamps))]) rfl (vp_in_nI (by omega) (by omega)) (k := kP) (nI_clamp (by omega)) (rfl) dX7_boundHours_36 (fun H locs hP hD hS => ?_)
        refine lv_aload_n hx hb dX7_boundHours_37 rfl (lv_at hl 1 rfl) ?_
        refine gf_X7_28 hC rfl hK hP 0 rfl rfl dX7_boundHours_38 ?_
        refine lv_iload_n hx hb dX7_boundHours_41 rfl (lv_at hl 0 rfl) ?_
        refine lv_aload_n hx hb dX7_boundHours_42 rfl (lv_at hl 1 rfl) ?_
        refine lv_aload_n hx hb dX7_boundHours_43 rfl (lv_at hl 1 rfl) ?_
        refine gf_X7_18 hC rfl hK hP 0 rfl rfl dX7_boundHours_44 ?_
        refine lv_iload_n hx hb dX7_boundHours_47 rfl (lv_at hl 0 rfl) ?_
        refine ald hC hK hP 1 rfl (vp_in_nI (by omega) (by omega)) (k := kP) (nI_clamp (by omega)) (v := ffi kP) rfl dX7_boundHours_48 ?_
        refine eqi (x1 := nI js1) ejs1 ?_
        refine lv_iconst (v := 1) hx hb dX7_boundHours_49 (by decide) ?_
        refine pV hC hK hl hP hD (c_trueHour1X l G h0 js1 bb clk fi la ml mm sl sm cl clm fclm bpersons bpapers bstamps bversions blines bsteps bsayings bfindings bwarnings bquestions td vd vl gp bstampsc kbstamps fbstamps (hkbstamps) (hSV) (by omega)) si_X7_83 [0, 7, 8, 9, 10, 11] rfl rfl (by decide) rfl rfl rfl rfl rfl (Nat.le_of_ble_eq_true rfl) ⟨Nat.le_of_ble_eq_true rfl, Nat.le_of_ble_eq_true rfl⟩ ⟨by first | exact Nat.le_of_ble_eq_true rfl | exact Nat.zero_le _, by first | exact Nat.le_of_ble_eq_true rfl | exact Nat.zero_le _⟩ dX7_boundHours_50 (fun r10326 hr10326 => ?_)
        obtain rfl := hr10326
        refine ast hC hK hP hD hS 4 (ws' := [(h0, .inr (7, [.ref bb, .ref clk, .ref fi, .ref la, .ref ml, .ref mm, .ref sl, .ref sm, .int cl])), (fi, .inl (G.2.1, 12, .inl ffi)), (la, .inl (G.2.1, 12, .inl fla)), (ml, .inl (G.2.1, 12, .inl (upd vml kP (TR0 fbstamps fclm js1)))), (mm, .inl (G.2.1, 12, .inl (upd vmm kP (TR1 fbstamps fclm js1)))), (sl, .inl (G.2.1, 12, .inl vsl)), (sm, .inl (G.2.1, 12, .inl vsm)), (clk, .inr (1, [.ref clm])), (clm, .inl (G.2.1, 36, .inl fclm)), (bb, .inr (0, [.ref bpersons, .ref bpapers, .ref bstamps, .ref bversions, .ref blines, .ref bsteps, .ref bsayings, .ref bfindings, .ref bwarnings, .ref bquestions, .int td, .int vd, .int vl, .int gp])), (bstamps, .inr (8, [.int 24, .int 3, .ref bstampsc, .int (nI kbstamps)])), (bstampsc, .inl (G.2.1, 72, .inl fbstamps))]) rfl (vp_in_nI (by omega) (by omega)) (k := kP) (nI_clamp (by omega)) (rfl) dX7_boundHours_53 (fun H locs hP hD hS => ?_)
        refine lv_aload_n hx hb dX7_boundHours_54 rfl (lv_at hl 1 rfl) ?_
        refine gf_X7_31 hC rfl hK hP 0 rfl rfl dX7_boundHours_55 ?_
        refine lv_iload_n hx hb dX7_boundHours_58 rfl (lv_at hl 0 rfl) ?_
        refine lv_aload_n hx hb dX7_boundHours_59 rfl (lv_at hl 1 rfl) ?_
        refine lv_aload_n hx hb dX7_boundHours_60 rfl (lv_at hl 1 rfl) ?_
        refine gf_X7_22 hC rfl hK hP 0 rfl rfl dX7_boundHours_61 ?_
        refine lv_iload_n hx hb dX7_boundHours_64 rfl (lv_at hl 0 rfl) ?_
        refine ald hC hK hP 2 rfl (vp_in_nI (by omega) (by omega)) (k := kP) (nI_clamp (by omega)) (v := fla kP) rfl dX7_boundHours_65 ?_
        refine eqi (x1 := nI js2) ejs2 ?_
        refine lv_iconst (v := 0) hx hb dX7_boundHours_66 (by decide) ?_
        refine pV hC hK hl hP hD (c_trueHour0X l G h0 js2 bb clk fi la ml mm sl sm cl clm fclm bpersons bpapers bstamps bversions blines bsteps bsayings bfindings bwarnings bquestions td vd vl gp bstampsc kbstamps fbstamps (hkbstamps) (hSV) (by omega)) si_X7_83 [0, 7, 8, 9, 10, 11] rfl rfl (by decide) rfl rfl rfl rfl rfl (Nat.le_of_ble_eq_true rfl) ⟨Nat.le_of_ble_eq_true rfl, Nat.le_of_ble_eq_true rfl⟩ ⟨by first | exact Nat.le_of_ble_eq_true rfl | exact Nat.zero_le _, by first | exact Nat.le_of_ble_eq_true rfl | exact Nat.zero_le _⟩ dX7_boundHours_67 (fun r10328 hr10328 => ?_)
        obtain rfl := hr10328
        refine ast hC hK hP hD hS 5 (ws' := [(h0, .inr (7, [.ref bb, .ref clk, .ref fi, .ref la, .ref ml, .ref mm, .ref sl, .ref sm, .int cl])), (fi, .inl (G.2.1, 12, .inl ffi)), (la, .inl (G.2.1, 12, .inl fla)), (ml, .inl (G.2.1, 12, .inl (upd vml kP (TR0 fbstamps fclm js1)))), (mm, .inl (G.2.1, 12, .inl (upd vmm kP (TR1 fbstamps fclm js1)))), (sl, .inl (G.2.1, 12, .inl (upd vsl kP (TR0 fbstamps fclm js2)))), (sm, .inl (G.2.1, 12, .inl vsm)), (clk, .inr (1, [.ref clm])), (clm, .inl (G.2.1, 36, .inl fclm)), (bb, .inr (0, [.ref bpersons, .ref bpapers, .ref bstamps, .ref bversions, .ref blines, .ref bsteps, .ref bsayings, .ref bfindings, .ref bwarnings, .ref bquestions, .int td, .int vd, .int vl, .int gp])), (bstamps, .inr (8, [.int 24, .int 3, .ref bstampsc, .int (nI kbstamps)])), (bstampsc, .inl (G.2.1, 72, .inl fbstamps))]) rfl (vp_in_nI (by omega) (by omega)) (k := kP) (nI_clamp (by omega)) (rfl) dX7_boundHours_70 (fun H locs hP hD hS => ?_)
        refine lv_aload_n hx hb dX7_boundHours_71 rfl (lv_at hl 1 rfl) ?_
        refine gf_X7_34 hC rfl hK hP 0 rfl rfl dX7_boundHours_72 ?_
        refine lv_iload_n hx hb dX7_boundHours_75 rfl (lv_at hl 0 rfl) ?_
        refine lv_aload_n hx hb dX7_boundHours_76 rfl (lv_at hl 1 rfl) ?_
        refine lv_aload_n hx hb dX7_boundHours_77 rfl (lv_at hl 1 rfl) ?_
        refine gf_X7_22 hC rfl hK hP 0 rfl rfl dX7_boundHours_78 ?_
        refine lv_iload_n hx hb dX7_boundHours_81 rfl (lv_at hl 0 rfl) ?_
        refine ald hC hK hP 2 rfl (vp_in_nI (by omega) (by omega)) (k := kP) (nI_clamp (by omega)) (v := fla kP) rfl dX7_boundHours_82 ?_
        refine eqi (x1 := nI js2) ejs2 ?_
        refine lv_iconst (v := 1) hx hb dX7_boundHours_83 (by decide) ?_
        refine pV hC hK hl hP hD (c_trueHour1X l G h0 js2 bb clk fi la ml mm sl sm cl clm fclm bpersons bpapers bstamps bversions blines bsteps bsayings bfindings bwarnings bquestions td vd vl gp bstampsc kbstamps fbstamps (hkbstamps) (hSV) (by omega)) si_X7_83 [0, 7, 8, 9, 10, 11] rfl rfl (by decide) rfl rfl rfl rfl rfl (Nat.le_of_ble_eq_true rfl) ⟨Nat.le_of_ble_eq_true rfl, Nat.le_of_ble_eq_true rfl⟩ ⟨by first | exact Nat.le_of_ble_eq_true rfl | exact Nat.zero_le _, by first | exact Nat.le_of_ble_eq_true rfl | exact Nat.zero_le _⟩ dX7_boundHours_84 (fun r10330 hr10330 => ?_)
        obtain rfl := hr10330
        refine ast hC hK hP hD hS 6 (ws' := [(h0, .inr (7, [.ref bb, .ref clk, .ref fi, .ref la, .ref ml, .ref mm, .ref sl, .ref sm, .int cl])), (fi, .inl (G.2.1, 12, .inl ffi)), (la, .inl (G.2.1, 12, .inl fla)), (ml, .inl (G.2.1, 12, .inl (upd vml kP (TR0 fbstamps fclm js1)))), (mm, .inl (G.2.1, 12, .inl (upd vmm kP (TR1 fbstamps fclm js1)))), (sl, .inl (G.2.1, 12, .inl (upd vsl kP (TR0 fbstamps fclm js2)))), (sm, .inl (G.2.1, 12, .inl (upd vsm kP (TR1 fbstamps fclm js2)))), (clk, .inr (1, [.ref clm])), (clm, .inl (G.2.1, 36, .inl fclm)), (bb, .inr (0, [.ref bpersons, .ref bpapers, .ref bstamps, .ref bversions, .ref blines, .ref bsteps, .ref bsayings, .ref bfindings, .ref bwarnings, .ref bquestions, .int td, .int vd, .int vl, .int gp])), (bstamps, .inr (8, [.int 24, .int 3, .ref bstampsc, .int (nI kbstamps)])), (bstampsc, .inl (G.2.1, 72, .inl fbstamps))]) rfl (vp_in_nI (by omega) (by omega)) (k := kP) (nI_clamp (by omega)) (rfl) dX7_boundHours_87 (fun H locs hP hD hS => ?_)
        refine lv_iinc (v := nI (kP + 1)) (lv' := [(1, .int (nI (kP + 1))), (0, .ref h0)]) hx hb dX7_boundHours_88 hl (k := 0) rfl (nI_1 _) (by decide) rfl (fun ls hl => ?_)
        refine lv_goto (tgt := 2) hx hb dX7_boundHours_91 (by decide) ?_
        have hst9 : BHP fbstamps fclm ffi fla (upd vml kP (TR0 fbstamps fclm js1)) (upd vmm kP (TR1 fbstamps fclm js1)) (upd vsl kP (TR0 fbstamps fclm js2)) (upd vsm kP (TR1 fbstamps fclm js2)) (kP + 1) := BHP.put hbh ejs1 ejs2 (by omega) (by omega)
        exact ihP (kP + 1) (upd vml kP (TR0 fbstamps fclm js1)) (upd vmm kP (TR1 fbstamps fclm js1)) (upd vsl kP (TR0 fbstamps fclm js2)) (upd vsm kP (TR1 fbstamps fclm js2)) _ _ _ (by omega) (by first | assumption | exact Or.inl rfl | exact Or.inr rfl | exact BHP.zero) (And.intro hP hD) hS (lv_sub hl [0, 1] rfl)
      · refine lv_goto (tgt := 88) hx hb dX7_boundHours_17 (by decide) ?_
        refine lv_iinc (v := nI (kP + 1)) (lv' := [(1, .int (nI (kP + 1))), (0, .ref h0)]) hx hb dX7_boundHours_88 hl (k := 0) rfl (nI_1 _) (by decide) rfl (fun ls hl => ?_)
        refine lv_goto (tgt := 2) hx hb dX7_boundHours_91 (by decide) ?_
        have hst9 : BHP fbstamps fclm ffi fla vml vmm vsl vsm (kP + 1) := BHP.skip hbh (Int32.not_le.mp c_14_10323)
        exact ihP (kP + 1) vml vmm vsl vsm _ _ _ (by omega) (by first | assumption | exact Or.inl rfl | exact Or.inr rfl | exact BHP.zero) (And.intro hP hD) hS (lv_sub hl [0, 1] rfl)
  exact keyP 12 0 fml fmm fsl fsm _ _ _ (by omega) (by first | assumption | exact Or.inl rfl | exact Or.inr rfl | exact BHP.zero) (And.intro hP hD) hS (lv_sub hl [0, 1] rfl)
set_option maxHeartbeats 4000000 in
set_option maxRecDepth 100000 in
theorem c_lookX (l : Launch) (G : GG) (h0 : Nat) (pp : Int32) (bb : Nat) (clk : Nat) (fi : Nat) (la : Nat) (ml : Nat) (mm : Nat) (sl : Nat) (sm : Nat) (cl : Int32) (clm : Nat) (fclm : Nat → Int32) (ffi : Nat → Int32) (fla : Nat → Int32) (fml : Nat → Int32) (fmm : Nat → Int32) (fsl : Nat → Int32) (fsm : Nat → Int32) (bpersons : Nat) (bpapers : Nat) (bstamps : Nat) (bversions : Nat) (blines : Nat) (bsteps : Nat) (bsayings : Nat) (bfindings : Nat) (bwarnings : Nat) (bquestions : Nat) (td : Int32) (vd : Int32) (vl : Int32) (gp : Int32) (bstampsc : Nat) (kbstamps : Nat) (fbstamps : Nat → Int32) (hkbstamps : kbstamps ≤ 24) (hSV : SVL fbstamps kbstamps) (hgp : GPR gp) : MV l G yX7_look cX7_look 4 5 0 0 [.ref h0, .int pp] [(h0, .inr (7, [.ref bb, .ref clk, .ref fi, .ref la, .ref ml, .ref mm, .ref sl, .ref sm, .int cl])), (clk, .inr (1, [.ref clm])), (clm, .inl (G.2.1, 36, .inl fclm)), (fi, .inl (G.2.1, 12, .inl ffi)), (la, .inl (G.2.1, 12, .inl fla)), (ml, .inl (G.2.1, 12, .inl fml)), (mm, .inl (G.2.1, 12, .inl fmm)), (sl, .inl (G.2.1, 12, .inl fsl)), (sm, .inl (G.2.1, 12, .inl fsm)), (bb, .inr (0, [.ref bpersons, .ref bpapers, .ref bstamps, .ref bversions, .ref blines, .ref bsteps, .ref bsayings, .ref bfindings, .ref bwarnings, .ref bquestions, .int td, .int vd, .int vl, .int gp])), (bstamps, .inr (8, [.int 24, .int 3, .ref bstampsc, .int (nI kbstamps)])), (bstampsc, .inl (G.2.1, 72, .inl fbstamps))] (fun u : Int32 × (Nat → Int32) × (Nat → Int32) × (Nat → Int32) × (Nat → Int32) × (Nat → Int32) × (Nat → Int32) × (Nat → Int32) => (u.1 = 0 ∨ u.1 = 1) ∧ LKP fbstamps pp gp kbstamps u.1 u.2.1 u.2.2.1 u.2.2.2.1 u.2.2.2.2.1 u.2.2.2.2.2.1 u.2.2.2.2.2.2.1 u.2.2.2.2.2.2.2) (fun u : Int32 × (Nat → Int32) × (Nat → Int32) × (Nat → Int32) × (Nat → Int32) × (Nat → Int32) × (Nat → Int32) × (Nat → Int32) => [(h0, .inr (7, [.ref bb, .ref clk, .ref fi, .ref la, .ref ml, .ref mm, .ref sl, .ref sm, .int u.1])), (clk, .inr (1, [.ref clm])), (clm, .inl (G.2.1, 36, .inl u.2.1)), (fi, .inl (G.2.1, 12, .inl u.2.2.1)), (la, .inl (G.2.1, 12, .inl u.2.2.2.1)), (ml, .inl (G.2.1, 12, .inl u.2.2.2.2.1)), (mm, .inl (G.2.1, 12, .inl u.2.2.2.2.2.1)), (sl, .inl (G.2.1, 12, .inl u.2.2.2.2.2.2.1)), (sm, .inl (G.2.1, 12, .inl u.2.2.2.2.2.2.2)), (bb, .inr (0, [.ref bpersons, .ref bpapers, .ref bstamps, .ref bversions, .ref blines, .ref bsteps, .ref bsayings, .ref bfindings, .ref bwarnings, .ref bquestions, .int td, .int vd, .int vl, .int gp])), (bstamps, .inr (8, [.int 24, .int 3, .ref bstampsc, .int (nI kbstamps)])), (bstampsc, .inl (G.2.1, 72, .inl fbstamps))]) := by
  refine MV.start (by decide +kernel) (Nat.le_of_ble_eq_true rfl) ?_
  intro p e s m below meth c A ls hC hK hP hD hS hA hl
  have hl : lv_has ls 4 [(0, .ref h0), (1, .int pp)] := hl
  obtain ⟨hx, hb, hr, hml, hB, hown, hlocks, hnm⟩ := id hC
  refine lv_aload_n hx hb dX7_look_0 rfl (lv_at hl 0 rfl) ?_
  refine lv_iconst (v := 0) hx hb dX7_look_1 (by decide) ?_
  refine pf_X7_41 hC rfl hK hP hD hS 0 (ws' := [(h0, .inr (7, [.ref bb, .ref clk, .ref fi, .ref la, .ref ml, .ref mm, .ref sl, .ref sm, .int 0])), (clk, .inr (1, [.ref clm])), (clm, .inl (G.2.1, 36, .inl fclm)), (fi, .inl (G.2.1, 12, .inl ffi)), (la, .inl (G.2.1, 12, .inl fla)), (ml, .inl (G.2.1, 12, .inl fml)), (mm, .inl (G.2.1, 12, .inl fmm)), (sl, .inl (G.2.1, 12, .inl fsl)), (sm, .inl (G.2.1, 12, .inl fsm)), (bb, .inr (0, [.ref bpersons, .ref bpapers, .ref bstamps, .ref bversions, .ref blines, .ref bsteps, .ref bsayings, .ref bfindings, .ref bwarnings, .ref bquestions, .int td, .int vd, .int vl, .int gp])), (bstamps, .inr (8, [.int 24, .int 3, .ref bstampsc, .int (nI kbstamps)])), (bstampsc, .inl (G.2.1, 72, .inl fbstamps))]) rfl (Nat.le_of_ble_eq_true rfl) rfl (by decide +kernel) (by decide +kernel) dX7_look_2 (fun H locs hP hD hS => ?_)
  refine lv_aload_n hx hb dX7_look_5 rfl (lv_at hl 0 rfl) ?_
  refine gf_X7_12 hC rfl hK hP 0 rfl rfl dX7_look_6 ?_
  refine vV (wr := [(h0, .inr (7, [.ref bb, .ref clk, .ref fi, .ref la, .ref ml, .ref mm, .ref sl, .ref sm, .int 0])), (fi, .inl (G.2.1, 12, .inl ffi)), (la, .inl (G.2.1, 12, .inl fla)), (ml, .inl (G.2.1, 12, .inl fml)), (mm, .inl (G.2.1, 12, .inl fmm)), (sl, .inl (G.2.1, 12, .inl fsl)), (sm, .inl (G.2.1, 12, .inl fsm)), (bb, .inr (0, [.ref bpersons, .ref bpapers, .ref bstamps, .ref bversions, .ref blines, .ref bsteps, .ref bsayings, .ref bfindings, .ref bwarnings, .ref bquestions, .int td, .int vd, .int vl, .int gp])), (bstamps, .inr (8, [.int 24, .int 3, .ref bstampsc, .int (nI kbstamps)])), (bstampsc, .inl (G.2.1, 72, .inl fbstamps))]) hC hK hl hP hD hS hA (c_freeX l G clk clm fclm) si_X7_45 [1, 2] [0, 3, 4, 5, 6, 7, 8, 9, 10, 11] rfl rfl (by decide) rfl (by decide) (by decide) rfl rfl rfl rfl rfl (Nat.le_of_ble_eq_true rfl) ⟨Nat.le_of_ble_eq_true rfl, Nat.le_of_ble_eq_true rfl⟩ ⟨Nat.le_of_ble_eq_true rfl, Nat.le_of_ble_eq_true rfl⟩ dX7_look_9 (fun u10333 H locs hr10332 hP hD hS => ?_)
  obtain ⟨f110334, rfl⟩ : ∃ z9, z9 = u10333 := ⟨_, rfl⟩
  try dsimp only at hr10332
  have hPD : va_PD G A [(h0, .inr (7, [.ref bb, .ref clk, .ref fi, .ref la, .ref ml, .ref mm, .ref sl, .ref sm, .int 0])), (fi, .inl (G.2.1, 12, .inl ffi)), (la, .inl (G.2.1, 12, .inl fla)), (ml, .inl (G.2.1, 12, .inl fml)), (mm, .inl (G.2.1, 12, .inl fmm)), (sl, .inl (G.2.1, 12, .inl fsl)), (sm, .inl (G.2.1, 12, .inl fsm)), (bb, .inr (0, [.ref bpersons, .ref bpapers, .ref bstamps, .ref bversions, .ref blines, .ref bsteps, .ref bsayings, .ref bfindings, .ref bwarnings, .ref bquestions, .int td, .int vd, .int vl, .int gp])), (bstamps, .inr (8, [.int 24, .int 3, .ref bstampsc, .int (nI kbstamps)])), (bstampsc, .inl (G.2.1, 72, .inl fbstamps)), (clk, .inr (1, [.ref clm])), (clm, .inl (G.2.1, 36, .inl f110334))] H := And.intro hP hD
  obtain ⟨hP, hD⟩ := hPD
  have w10335 := hr10332
  refine lv_iconst (v := 0) hx hb dX7_look_12 (by decide) ?_
  refine lv_istore_n (lv' := [(2, .int 0), (0, .ref h0), (1, .int pp)]) hx hb dX7_look_13 rfl hl (by decide) rfl (fun ls hl => ?_)
  have keyP : ∀ (nP kP : Nat) (vfi : Nat → Int32) (vla : Nat → Int32) (H : Heap) (locs : List Loc) (ls : Array Slot), kP + nP = 12 → (M1P kP vfi vla) → va_PD G A [(h0, .inr (7, [.ref bb, .ref clk, .ref fi, .ref la, .ref ml, .ref mm, .ref sl, .ref sm, .int 0])), (fi, .inl (G.2.1, 12, .inl vfi)), (la, .inl (G.2.1, 12, .inl vla)), (ml, .inl (G.2.1, 12, .inl fml)), (mm, .inl (G.2.1, 12, .inl fmm)), (sl, .inl (G.2.1, 12, .inl fsl)), (sm, .inl (G.2.1, 12, .inl fsm)), (bb, .inr (0, [.ref bpersons, .ref bpapers, .ref bstamps, .ref bversions, .ref blines, .ref bsteps, .ref bsayings, .ref bfindings, .ref bwarnings, .ref bquestions, .int td, .int vd, .int vl, .int gp])), (bstamps, .inr (8, [.int 24, .int 3, .ref bstampsc, .int (nI kbstamps)])), (bstampsc, .inl (G.2.1, 72, .inl fbstamps)), (clk, .inr (1, [.ref clm])), (clm, .inl (G.2.1, 36, .inl f110334))] H → va_S A s.heap H locs → lv_has ls 4 [(2, .int (nI kP)), (0, .ref h0), (1, .int pp)] → W p l e (RM 5 0 0) s m ([.ref h0, .int pp] : List Value).toArray below meth c H locs 0 0 (MQ below (QV G (fun u : Int32 × (Nat → Int32) × (Nat → Int32) × (Nat → Int32) × (Nat → Int32) × (Nat → Int32) × (Nat → Int32) × (Nat → Int32) => (u.1 = 0 ∨ u.1 = 1) ∧ LKP fbstamps pp gp kbstamps u.1 u.2.1 u.2.2.1 u.2.2.2.1 u.2.2.2.2.1 u.2.2.2.2.2.1 u.2.2.2.2.2.2.1 u.2.2.2.2.2.2.2) (fun u : Int32 × (Nat → Int32) × (Nat → Int32) × (Nat → Int32) × (Nat → Int32) × (Nat → Int32) × (Nat → Int32) × (Nat → Int32) => [(h0, .inr (7, [.ref bb, .ref clk, .ref fi, .ref la, .ref ml, .ref mm, .ref sl, .ref sm, .int u.1])), (clk, .inr (1, [.ref clm])), (clm, .inl (G.2.1, 36, .inl u.2.1)), (fi, .inl (G.2.1, 12, .inl u.2.2.1)), (la, .inl (G.2.1, 12, .inl u.2.2.2.1)), (ml, .inl (G.2.1, 12, .inl u.2.2.2.2.1)), (mm, .inl (G.2.1, 12, .inl u.2.2.2.2.2.1)), (sl, .inl (G.2.1, 12, .inl u.2.2.2.2.2.2.1)), (sm, .inl (G.2.1, 12, .inl u.2.2.2.2.2.2.2)), (bb, .inr (0, [.ref bpersons, .ref bpapers, .ref bstamps, .ref bversions, .ref blines, .ref bsteps, .ref bsayings, .ref bfindings, .ref bwarnings, .ref bquestions, .int td, .int vd, .int vl, .int gp])), (bstamps, .inr (8, [.int 24, .int 3, .ref bstampsc, .int (nI kbstamps)])), (bstampsc, .inl (G.2.1, 72, .inl fbstamps))]) A) ([.ref h0, .int pp] : List Value).toArray s 0 0 A) (F0 m 14 ls []) := by
    intro nP
    induction nP with
    | zero =>
      intro kP vfi vla H locs ls hkP hm1 hPD hS hl
      obtain ⟨hP, hD⟩ := hPD
      obtain rfl : 12 = kP := by omega
      have hl : lv_has ls 4 [(2, .int 12), (0, .ref h0), (1, .int pp)] := hl
      refine lv_iload_n hx hb dX7_look_14 rfl (lv_at hl 0 rfl) ?_
      refine lv_bipush (v := 12) hx hb dX7_look_15 (by decide) ?_
      refine lv_icmp_ge (tgt := 40) hx hb dX7_look_17 (by decide) (fun _ => ?_) (fun c9 => absurd (by decide) c9)
      refine lv_iconst (v := 0) hx hb dX7_look_40 (by decide) ?_
      refine lv_istore_n (lv' := [(2, .int 0), (0, .ref h0), (1, .int pp)]) hx hb dX7_look_41 rfl hl (by decide) rfl (fun ls hl => ?_)
      have hz6 : CCS 0 (KST fbstamps (VPP pp) gp.toInt 0) (MAT f110334) := CCS.zero w10335
      have hz7 : AFI fbstamps (VPP pp) 0 vfi := AFI.zero hm1
      have hz8 : ALA fbstamps (VPP pp) 0 vla := ALA.zero hm1
      have keyQ : ∀ (nQ kQ : Nat) (wcl : Int32) (wfi : Nat → Int32) (wla : Nat → Int32) (wclm : Nat → Int32) (H : Heap) (locs : List Loc) (ls : Array Slot), kQ + nQ = kbstamps → (wcl = 0 ∨ wcl = 1) → (CCS wcl (KST fbstamps (VPP pp) gp.toInt kQ) (MAT wclm)) → (AFI fbstamps (VPP pp) kQ wfi) → (ALA fbstamps (VPP pp) kQ wla) → va_PD G A [(h0, .inr (7, [.ref bb, .ref clk, .ref fi, .ref la, .ref ml, .ref mm, .ref sl, .ref sm, .int wcl])), (fi, .inl (G.2.1, 12, .inl wfi)), (la, .inl (G.2.1, 12, .inl wla)), (ml, .inl (G.2.1, 12, .inl fml)), (mm, .inl (G.2.1, 12, .inl fmm)), (sl, .inl (G.2.1, 12, .inl fsl)), (sm, .inl (G.2.1, 12, .inl fsm)), (bb, .inr (0, [.ref bpersons, .ref bpapers, .ref bstamps, .ref bversions, .ref blines, .ref bsteps, .ref bsayings, .ref bfindings, .ref bwarnings, .ref bquestions, .int td, .int vd, .int vl, .int gp])), (bstamps, .inr (8, [.int 24, .int 3, .ref bstampsc, .int (nI kbstamps)])), (bstampsc, .inl (G.2.1, 72, .inl fbstamps)), (clk, .inr (1, [.ref clm])), (clm, .inl (G.2.1, 36, .inl wclm))] H → va_S A s.heap H locs → lv_has ls 4 [(2, .int (nI kQ)), (0, .ref h0), (1, .int pp)] → W p l e (RM 5 0 0) s m ([.ref h0, .int pp] : List Value).toArray below meth c H locs 0 0 (MQ below (QV G (fun u : Int32 × (Nat → Int32) × (Nat → Int32) × (Nat → Int32) × (Nat → Int32) × (Nat → Int32) × (Nat → Int32) × (Nat → Int32) => (u.1 = 0 ∨ u.1 = 1) ∧ LKP fbstamps pp gp kbstamps u.1 u.2.1 u.2.2.1 u.2.2.2.1 u.2.2.2.2.1 u.2.2.2.2.2.1 u.2.2.2.2.2.2.1 u.2.2.2.2.2.2.2) (fun u : Int32 × (Nat → Int32) × (Nat → Int32) × (Nat → Int32) × (Nat → Int32) × (Nat → Int32) × (Nat → Int32) × (Nat → Int32) => [(h0, .inr (7, [.ref bb, .ref clk, .ref fi, .ref la, .ref ml, .ref mm, .ref sl, .ref sm, .int u.1])), (clk, .inr (1, [.ref clm])), (clm, .inl (G.2.1, 36, .inl u.2.1)), (fi, .inl (G.2.1, 12, .inl u.2.2.1)), (la, .inl (G.2.1, 12, .inl u.2.2.2.1)), (ml, .inl (G.2.1, 12, .inl u.2.2.2.2.1)), (mm, .inl (G.2.1, 12, .inl u.2.2.2.2.2.1)), (sl, .inl (G.2.1, 12, .inl u.2.2.2.2.2.2.1)), (sm, .inl (G.2.1, 12, .inl u.2.2.2.2.2.2.2)), (bb, .inr (0, [.ref bpersons, .ref bpapers, .ref bstamps, .ref bversions, .ref blines, .ref bsteps, .ref bsayings, .ref bfindings, .ref bwarnings, .ref bquestions, .int td, .int vd, .int vl, .int gp])), (bstamps, .inr (8, [.int 24, .int 3, .ref bstampsc, .int (nI kbstamps)])), (bstampsc, .inl (G.2.1, 72, .inl fbstamps))]) A) ([.ref h0, .int pp] : List Value).toArray s 0 0 A) (F0 m 42 ls []) := by
        intro nQ
        induction nQ with
        | zero =>
          intro kQ wcl wfi wla wclm H locs ls hkQ hwcl hcc hfi hla hPD hS hl
          obtain ⟨hP, hD⟩ := hPD
          obtain rfl : kbstamps = kQ := by omega
          have hl : lv_has ls 4 [(2, .int (nI kbstamps)), (0, .ref h0), (1, .int pp)] := hl
          refine lv_iload_n hx hb dX7_look_42 rfl (lv_at hl 0 rfl) ?_
          refine lv_aload_n hx hb dX7_look_43 rfl (lv_at hl 1 rfl) ?_
          refine gf_X7_37 hC rfl hK hP 0 rfl rfl dX7_look_44 ?_
          refine gf_X7_48 hC rfl hK hP 7 rfl rfl dX7_look_47 ?_
          refine pV hC hK hl hP hD (c_T_count l G bstamps 24 3 bstampsc kbstamps) si_X7_54 [8] rfl rfl (by decide) rfl rfl rfl rfl rfl (Nat.le_of_ble_eq_true rfl) ⟨Nat.le_of_ble_eq_true rfl, Nat.le_of_ble_eq_true rfl⟩ ⟨by first | exact Nat.le_of_ble_eq_true rfl | exact Nat.zero_le _, by first | exact Nat.le_of_ble_eq_true rfl | exact Nat.zero_le _⟩ dX7_look_50 (fun r10336 hr10336 => ?_)
          obtain rfl := hr10336
          refine lv_icmp_ge (tgt := 169) hx hb dX7_look_53 (by decide) (fun _ => ?_) (fun c9 => absurd (Int32.le_refl _) c9)
          refine lv_aload_n hx hb dX7_look_169 rfl (lv_at hl 1 rfl) ?_
          refine vV (wr := []) hC hK hl hP hD hS hA (c_boundHoursX l G pp h0 bb clk fi la ml mm sl sm wcl wfi wla fml fmm fsl fsm clm wclm bpersons bpapers bstamps bversions blines bsteps bsayings bfindings bwarnings bquestions td vd vl gp bstampsc kbstamps fbstamps (hkbstamps) (hSV) (hfi) (hla)) si_X7_80 [0, 1, 2, 3, 4, 5, 6, 10, 11, 7, 8, 9] [] rfl rfl (by decide) rfl (by decide) (by decide) rfl rfl rfl rfl rfl (Nat.le_of_ble_eq_true rfl) ⟨Nat.le_of_ble_eq_true rfl, Nat.le_of_ble_eq_true rfl⟩ ⟨Nat.le_of_ble_eq_true rfl, Nat.le_of_ble_eq_true rfl⟩ dX7_look_170 (fun u10339 H locs hr10338 hP hD hS => ?_)
          obtain ⟨gml10340, gmm10341, gsl10342, gsm10343⟩ := u10339
          try dsimp only at hr10338
          have hPD : va_PD G A [(h0, .inr (7, [.ref bb, .ref clk, .ref fi, .ref la, .ref ml, .ref mm, .ref sl, .ref sm, .int wcl])), (fi, .inl (G.2.1, 12, .inl wfi)), (la, .inl (G.2.1, 12, .inl wla)), (ml, .inl (G.2.1, 12, .inl gml10340)), (mm, .inl (G.2.1, 12, .inl gmm10341)), (sl, .inl (G.2.1, 12, .inl gsl10342)), (sm, .inl (G.2.1, 12, .inl gsm10343)), (clk, .inr (1, [.ref clm])), (clm, .inl (G.2.1, 36, .inl wclm)), (bb, .inr (0, [.ref bpersons, .ref bpapers, .ref bstamps, .ref bversions, .ref blines, .ref bsteps, .ref bsayings, .ref bfindings, .ref bwarnings, .ref bquestions, .int td, .int vd, .int vl, .int gp])), (bstamps, .inr (8, [.int 24, .int 3, .ref bstampsc, .int (nI kbstamps)])), (bstampsc, .inl (G.2.1, 72, .inl fbstamps))] H := And.intro hP hD
          obtain ⟨hP, hD⟩ := hPD
          have w10344 := hr10338
          exact RV hC hP hD hS [0, 7, 8, 1, 2, 3, 4, 5, 6, 9, 10, 11] (wcl, wclm, wfi, wla, gml10340, gmm10341, gsl10342, gsm10343) rfl rfl (by decide) (⟨hcc.b, hcc, hfi, hla, w10344⟩) dX7_look_173
        | succ nQ ihQ =>
          intro kQ wcl wfi wla wclm H locs ls hkQ hwcl hcc hfi hla hPD hS hl
          obtain ⟨hP, hD⟩ := hPD
          refine lv_iload_n hx hb dX7_look_42 rfl (lv_at hl 0 rfl) ?_
          refine lv_aload_n hx hb dX7_look_43 rfl (lv_at hl 1 rfl) ?_
          refine gf_X7_37 hC rfl hK hP 0 rfl rfl dX7_look_44 ?_
          refine gf_X7_48 hC rfl hK hP 7 rfl rfl dX7_look_47 ?_
          refine pV hC hK hl hP hD (c_T_count l G bstamps 24 3 bstampsc kbstamps) si_X7_54 [8] rfl rfl (by decide) rfl rfl rfl rfl rfl (Nat.le_of_ble_eq_true rfl) ⟨Nat.le_of_ble_eq_true rfl, Nat.le_of_ble_eq_true rfl⟩ ⟨by first | exact Nat.le_of_ble_eq_true rfl | exact Nat.zero_le _, by first | exact Nat.le_of_ble_eq_true rfl | exact Nat.zero_le _⟩ dX7_look_50 (fun r10345 hr10345 => ?_)
          obtain rfl := hr10345
          refine lv_icmp_ge (tgt := 169) hx hb dX7_look_53 (by decide) (fun c9 => absurd c9 (nI_ge (a := kQ) (b := kbstamps) (by omega) (by omega))) (fun _ => ?_)
          refine lv_aload_n hx hb dX7_look_56 rfl (lv_at hl 1 rfl) ?_
          refine gf_X7_37 hC rfl hK hP 0 rfl rfl dX7_look_57 ?_
          refine gf_X7_48 hC rfl hK hP 7 rfl rfl dX7_look_60 ?_
          refine lv_iload_n hx hb dX7_look_63 rfl (lv_at hl 0 rfl) ?_
          refine lv_iconst (v := 0) hx hb dX7_look_64 (by decide) ?_
          refine pV hC hK hl hP hD (c_T_at l G bstamps (nI kQ) 0 24 3 bstampsc kbstamps fbstamps (hkbstamps) (by omega) (by omega)) si_X7_60 [8, 9] rfl rfl (by decide) rfl rfl rfl rfl rfl (Nat.le_of_ble_eq_true rfl) ⟨Nat.le_of_ble_eq_true rfl, Nat.le_of_ble_eq_true rfl⟩ ⟨by first | exact Nat.le_of_ble_eq_true rfl | exact Nat.zero_le _, by first | exact Nat.le_of_ble_eq_true rfl | exact Nat.zero_le _⟩ dX7_look_65 (fun r10347 hr10347 => ?_)
          obtain ⟨jp, hjp, ejp⟩ := (hSV kQ (by omega)).1
          refine eqi (x1 := nI jp) ((hr10347.trans (tatq (by omega) (by omega) (by decide) (by decide) rfl)).trans ejp) ?_
          have wjp : Wi (nI jp) 0 11 := Wi_j (N := 11) rfl (by decide) (by omega)
          refine lv_istore_n (lv' := [(3, .int (nI jp)), (2, .int (nI kQ)), (0, .ref h0), (1, .int pp)]) hx hb dX7_look_68 rfl hl (by decide) rfl (fun ls hl => ?_)
          refine lv_iload_n hx hb dX7_look_69 rfl (lv_at hl 0 rfl) ?_
          refine lv_iconst (v := 0) hx hb dX7_look_70 (by decide) ?_
          refine lv_bipush (v := 11) hx hb dX7_look_71 (by decide) ?_
          refine pSN hC hK hl (c_within l G (nI jp) 0 11) si_X7_64 rfl rfl (Nat.le_of_ble_eq_true rfl) ⟨Nat.le_of_ble_eq_true rfl, Nat.le_of_ble_eq_true rfl⟩ ⟨by first | exact Nat.le_of_ble_eq_true rfl | exact Nat.zero_le _, by first | exact Nat.le_of_ble_eq_true rfl | exact Nat.zero_le _⟩ dX7_look_73 (fun r10349 hr10349 => ?_)
          rcases hr10349 with ⟨rfl, a10350⟩ | ⟨rfl, a10350⟩
          · refine lv_if_eq (tgt := 163) hx hb dX7_look_76 (by decide) (fun c9 => absurd c9 (by decide)) (fun _ => ?_)
            refine lv_iload_n hx hb dX7_look_79 rfl (lv_at hl 3 rfl) ?_
            refine lv_iload_n hx hb dX7_look_80 rfl (lv_at hl 0 rfl) ?_
            refine pSN hC hK hl (c_hasBit l G pp (nI jp)) si_X7_68 rfl rfl (Nat.le_of_ble_eq_true rfl) ⟨Nat.le_of_ble_eq_true rfl, Nat.le_of_ble_eq_true rfl⟩ ⟨by first | exact Nat.le_of_ble_eq_true rfl | exact Nat.zero_le _, by first | exact Nat.le_of_ble_eq_true rfl | exact Nat.zero_le _⟩ dX7_look_81 (fun r10351 hr10351 => ?_)
            rcases hr10351 with ⟨rfl, a10352⟩ | ⟨rfl, a10352⟩
            · refine lv_if_ne (tgt := 90) hx hb dX7_look_84 (by decide) (fun _ => ?_) (fun c9 => absurd c9 (by decide))
              refine lv_aload_n hx hb dX7_look_90 rfl (lv_at hl 2 rfl) ?_
              refine gf_X7_22 hC rfl hK hP 0 rfl rfl dX7_look_91 ?_
              refine lv_iload_n hx hb dX7_look_94 rfl (lv_at hl 0 rfl) ?_
              refine ald hC hK hP 2 rfl (vp_in_nI (by omega) (by omega)) (k := jp) (nI_clamp (by omega)) (v := wla jp) rfl dX7_look_95 ?_
              refine lv_if_ge (tgt := 109) hx hb dX7_look_96 (by decide) (fun c_96_10353 => ?_) (fun c_96_10353 => ?_)
              · refine lv_aload_n hx hb dX7_look_109 rfl (lv_at hl 2 rfl) ?_
                refine gf_X7_41 hC rfl hK hP 0 rfl rfl dX7_look_110 ?_
                refine lv_if_ne (tgt := 156) hx hb dX7_look_113 (by decide) (fun c_113_10354 => ?_) (fun c_113_10354 => ?_)
                · refine lv_aload_n hx hb dX7_look_156 rfl (lv_at hl 2 rfl) ?_
                  refine gf_X7_22 hC rfl hK hP 0 rfl rfl dX7_look_157 ?_
                  refine lv_iload_n hx hb dX7_look_160 rfl (lv_at hl 0 rfl) ?_
                  refine lv_iload_n hx hb dX7_look_161 rfl (lv_at hl 1 rfl) ?_
                  refine ast hC hK hP hD hS 2 (ws' := [(h0, .inr (7, [.ref bb, .ref clk, .ref fi, .ref la, .ref ml, .ref mm, .ref sl, .ref sm, .int wcl])), (fi, .inl (G.2.1, 12, .inl wfi)), (la, .inl (G.2.1, 12, .inl (upd wla jp (nI kQ)))), (ml, .inl (G.2.1, 12, .inl fml)), (mm, .inl (G.2.1, 12, .inl fmm)), (sl, .inl (G.2.1, 12, .inl fsl)), (sm, .inl (G.2.1, 12, .inl fsm)), (bb, .inr (0, [.ref bpersons, .ref bpapers, .ref bstamps, .ref bversions, .ref blines, .ref bsteps, .ref bsayings, .ref bfindings, .ref bwarnings, .ref bquestions, .int td, .int vd, .int vl, .int gp])), (bstamps, .inr (8, [.int 24, .int 3, .ref bstampsc, .int (nI kbstamps)])), (bstampsc, .inl (G.2.1, 72, .inl fbstamps)), (clk, .inr (1, [.ref clm])), (clm, .inl (G.2.1, 36, .inl wclm))]) rfl (vp_in_nI (by omega) (by omega)) (k := jp) (nI_clamp (by omega)) (rfl) dX7_look_162 (fun H locs hP hD hS => ?_)
                  refine lv_iinc (v := nI (kQ + 1)) (lv' := [(2, .int (nI (kQ + 1))), (3, .int (nI jp)), (0, .ref h0), (1, .int pp)]) hx hb dX7_look_163 hl (k := 1) rfl (nI_1 _) (by decide) rfl (fun ls hl => ?_)
                  refine lv_goto (tgt := 42) hx hb dX7_look_166 (by decide) ?_
                  have hst6 : CCS wcl (KST fbstamps (VPP pp) gp.toInt (kQ + 1)) (MAT wclm) := CCS.stay hcc c_113_10354 ((hla jp hjp).prc (LAS.nneg (Int32.not_lt.mpr c_96_10353)) (by omega) ejp)
                  have hst5 := CCS.b hst6
                  have hst7 : AFI fbstamps (VPP pp) (kQ + 1) wfi := hfi.keep hla (Int32.not_lt.mpr c_96_10353) (by omega) ejp hjp
                  have hst8 : ALA fbstamps (VPP pp) (kQ + 1) (upd wla jp (nI kQ)) := hla.put ejp hjp a10352
                  exact ihQ (kQ + 1) wcl wfi (upd wla jp (nI kQ)) wclm _ _ _ (by omega) (by first | assumption | exact Or.inl rfl | exact Or.inr rfl) (by first | assumption | exact Or.inl rfl | exact Or.inr rfl) (by first | assumption | exact Or.inl rfl | exact Or.inr rfl) (by first | assumption | exact Or.inl rfl | exact Or.inr rfl) (And.intro hP hD) hS (lv_sub hl [0, 2, 3] rfl)
                · obtain ⟨js, hjs, ejs, hpc⟩ := (hla jp hjp).prc (LAS.nneg (Int32.not_lt.mpr c_96_10353)) (by omega) ejp
                  have hCB : CLB (KST fbstamps (VPP pp) gp.toInt kQ) (MAT wclm) := hcc.get c_113_10354
                  refine lv_aload_n hx hb dX7_look_116 rfl (lv_at hl 2 rfl) ?_
                  refine lv_aload_n hx hb dX7_look_117 rfl (lv_at hl 2 rfl) ?_
                  refine gf_X7_12 hC rfl hK hP 0 rfl rfl dX7_look_118 ?_
                  refine lv_aload_n hx hb dX7_look_121 rfl (lv_at hl 2 rfl) ?_
                  refine gf_X7_37 hC rfl hK hP 0 rfl rfl dX7_look_122 ?_
                  refine gf_X7_48 hC rfl hK hP 7 rfl rfl dX7_look_125 ?_
                  refine lv_aload_n hx hb dX7_look_128 rfl (lv_at hl 2 rfl) ?_
                  refine gf_X7_22 hC rfl hK hP 0 rfl rfl dX7_look_129 ?_
                  refine lv_iload_n hx hb dX7_look_132 rfl (lv_at hl 0 rfl) ?_
                  refine ald hC hK hP 2 rfl (vp_in_nI (by omega) (by omega)) (k := jp) (nI_clamp (by omega)) (v := wla jp) rfl dX7_look_133 ?_
                  refine eqi (x1 := nI js) ejs ?_
                  refine lv_iload_n hx hb dX7_look_134 rfl (lv_at hl 1 rfl) ?_
                  refine lv_aload_n hx hb dX7_look_135 rfl (lv_at hl 2 rfl) ?_
                  refine gf_X7_37 hC rfl hK hP 0 rfl rfl dX7_look_136 ?_
                  refine gf_X7_72 hC rfl hK hP 7 rfl rfl dX7_look_139 ?_
                  refine iV (wr := [(h0, .inr (7, [.ref bb, .ref clk, .ref fi, .ref la, .ref ml, .ref mm, .ref sl, .ref sm, .int wcl])), (fi, .inl (G.2.1, 12, .inl wfi)), (la, .inl (G.2.1, 12, .inl wla)), (ml, .inl (G.2.1, 12, .inl fml)), (mm, .inl (G.2.1, 12, .inl fmm)), (sl, .inl (G.2.1, 12, .inl fsl)), (sm, .inl (G.2.1, 12, .inl fsm)), (bb, .inr (0, [.ref bpersons, .ref bpapers, .ref bstamps, .ref bversions, .ref blines, .ref bsteps, .ref bsayings, .ref bfindings, .ref bwarnings, .ref bquestions, .int td, .int vd, .int vl, .int gp]))]) hC hK hl hP hD hS hA (c_followX l G (KST fbstamps (VPP pp) gp.toInt kQ) clk bstamps js kQ gp clm wclm bstampsc kbstamps fbstamps (hCB) (hSV) (hgp) (by omega) (by omega) (hkbstamps)) si_X7_76 [10, 11, 8, 9] [0, 1, 2, 3, 4, 5, 6, 7] rfl rfl (by decide) rfl (by decide) (by decide) rfl rfl rfl rfl rfl (Nat.le_of_ble_eq_true rfl) ⟨Nat.le_of_ble_eq_true rfl, Nat.le_of_ble_eq_true rfl⟩ ⟨Nat.le_of_ble_eq_true rfl, Nat.le_of_ble_eq_true rfl⟩ dX7_look_142 (fun r10355 u10356 H locs hr10355 hP hD hS => ?_)
                  obtain ⟨f110357, rfl⟩ : ∃ z9, z9 = u10356 := ⟨_, rfl⟩
                  try dsimp only at hr10355
                  have hPD : va_PD G A [(h0, .inr (7, [.ref bb, .ref clk, .ref fi, .ref la, .ref ml, .ref mm, .ref sl, .ref sm, .int wcl])), (fi, .inl (G.2.1, 12, .inl wfi)), (la, .inl (G.2.1, 12, .inl wla)), (ml, .inl (G.2.1, 12, .inl fml)), (mm, .inl (G.2.1, 12, .inl fmm)), (sl, .inl (G.2.1, 12, .inl fsl)), (sm, .inl (G.2.1, 12, .inl fsm)), (bb, .inr (0, [.ref bpersons, .ref bpapers, .ref bstamps, .ref bversions, .ref blines, .ref bsteps, .ref bsayings, .ref bfindings, .ref bwarnings, .ref bquestions, .int td, .int vd, .int vl, .int gp])), (clk, .inr (1, [.ref clm])), (clm, .inl (G.2.1, 36, .inl f110357)), (bstamps, .inr (8, [.int 24, .int 3, .ref bstampsc, .int (nI kbstamps)])), (bstampsc, .inl (G.2.1, 72, .inl fbstamps))] H := And.intro hP hD
                  obtain ⟨hP, hD⟩ := hPD
                  rcases hr10355 with ⟨rfl, a10358⟩ | ⟨rfl, a10358⟩
                  · refine lv_if_ne (tgt := 152) hx hb dX7_look_145 (by decide) (fun _ => ?_) (fun c9 => absurd c9 (by decide))
                    refine lv_iconst (v := 0) hx hb dX7_look_152 (by decide) ?_
                    refine pf_X7_41 hC rfl hK hP hD hS 0 (ws' := [(h0, .inr (7, [.ref bb, .ref clk, .ref fi, .ref la, .ref ml, .ref mm, .ref sl, .ref sm, .int 0])), (fi, .inl (G.2.1, 12, .inl wfi)), (la, .inl (G.2.1, 12, .inl wla)), (ml, .inl (G.2.1, 12, .inl fml)), (mm, .inl (G.2.1, 12, .inl fmm)), (sl, .inl (G.2.1, 12, .inl fsl)), (sm, .inl (G.2.1, 12, .inl fsm)), (bb, .inr (0, [.ref bpersons, .ref bpapers, .ref bstamps, .ref bversions, .ref blines, .ref bsteps, .ref bsayings, .ref bfindings, .ref bwarnings, .ref bquestions, .int td, .int vd, .int vl, .int gp])), (clk, .inr (1, [.ref clm])), (clm, .inl (G.2.1, 36, .inl f110357)), (bstamps, .inr (8, [.int 24, .int 3, .ref bstampsc, .int (nI kbstamps)])), (bstampsc, .inl (G.2.1, 72, .inl fbstamps))]) rfl (Nat.le_of_ble_eq_true rfl) rfl (by decide +kernel) (by decide +kernel) dX7_look_153 (fun H locs hP hD hS => ?_)
                    refine lv_aload_n hx hb dX7_look_156 rfl (lv_at hl 2 rfl) ?_
                    refine gf_X7_22 hC rfl hK hP 0 rfl rfl dX7_look_157 ?_
                    refine lv_iload_n hx hb dX7_look_160 rfl (lv_at hl 0 rfl) ?_
                    refine lv_iload_n hx hb dX7_look_161 rfl (lv_at hl 1 rfl) ?_
                    refine ast hC hK hP hD hS 2 (ws' := [(h0, .inr (7, [.ref bb, .ref clk, .ref fi, .ref la, .ref ml, .ref mm, .ref sl, .ref sm, .int 0])), (fi, .inl (G.2.1, 12, .inl wfi)), (la, .inl (G.2.1, 12, .inl (upd wla jp (nI kQ)))), (ml, .inl (G.2.1, 12, .inl fml)), (mm, .inl (G.2.1, 12, .inl fmm)), (sl, .inl (G.2.1, 12, .inl fsl)), (sm, .inl (G.2.1, 12, .inl fsm)), (bb, .inr (0, [.ref bpersons, .ref bpapers, .ref bstamps, .ref bversions, .ref blines, .ref bsteps, .ref bsayings, .ref bfindings, .ref bwarnings, .ref bquestions, .int td, .int vd, .int vl, .int gp])), (clk, .inr (1, [.ref clm])), (clm, .inl (G.2.1, 36, .inl f110357)), (bstamps, .inr (8, [.int 24, .int 3, .ref bstampsc, .int (nI kbstamps)])), (bstampsc, .inl (G.2.1, 72, .inl fbstamps))]) rfl (vp_in_nI (by omega) (by omega)) (k := jp) (nI_clamp (by omega)) (rfl) dX7_look_162 (fun H locs hP hD hS => ?_)
                    refine lv_iinc (v := nI (kQ + 1)) (lv' := [(2, .int (nI (kQ + 1))), (3, .int (nI jp)), (0, .ref h0), (1, .int pp)]) hx hb dX7_look_163 hl (k := 1) rfl (nI_1 _) (by decide) rfl (fun ls hl => ?_)
                    refine lv_goto (tgt := 42) hx hb dX7_look_166 (by decide) ?_
                    obtain ⟨hP, hD⟩ := PD_sub (ws' := [(h0, .inr (7, [.ref bb, .ref clk, .ref fi, .ref la, .ref ml, .ref mm, .ref sl, .ref sm, .int 0])), (fi, .inl (G.2.1, 12, .inl wfi)), (la, .inl (G.2.1, 12, .inl (upd wla jp (nI kQ)))), (ml, .inl (G.2.1, 12, .inl fml)), (mm, .inl (G.2.1, 12, .inl fmm)), (sl, .inl (G.2.1, 12, .inl fsl)), (sm, .inl (G.2.1, 12, .inl fsm)), (bb, .inr (0, [.ref bpersons, .ref bpapers, .ref bstamps, .ref bversions, .ref blines, .ref bsteps, .ref bsayings, .ref bfindings, .ref bwarnings, .ref bquestions, .int td, .int vd, .int vl, .int gp])), (bstamps, .inr (8, [.int 24, .int 3, .ref bstampsc, .int (nI kbstamps)])), (bstampsc, .inl (G.2.1, 72, .inl fbstamps)), (clk, .inr (1, [.ref clm])), (clm, .inl (G.2.1, 36, .inl f110357))]) hP hD [0, 1, 2, 3, 4, 5, 6, 7, 10, 11, 8, 9] rfl (by decide +kernel) rfl
                    have hst6 : CCS 0 (KST fbstamps (VPP pp) gp.toInt (kQ + 1)) (MAT f110357) := CCS.yes1 hpc a10358
                    have hst5 := CCS.b hst6
                    have hst7 : AFI fbstamps (VPP pp) (kQ + 1) wfi := hfi.keep hla (Int32.not_lt.mpr c_96_10353) (by omega) ejp hjp
                    have hst8 : ALA fbstamps (VPP pp) (kQ + 1) (upd wla jp (nI kQ)) := hla.put ejp hjp a10352
                    exact ihQ (kQ + 1) 0 wfi (upd wla jp (nI kQ)) f110357 _ _ _ (by omega) (by first | assumption | exact Or.inl rfl | exact Or.inr rfl) (by first | assumption | exact Or.inl rfl | exact Or.inr rfl) (by first | assumption | exact Or.inl rfl | exact Or.inr rfl) (by first | assumption | exact Or.inl rfl | exact Or.inr rfl) (And.intro hP hD) hS (lv_sub hl [0, 2, 3] rfl)
                  · refine lv_if_ne (tgt := 152) hx hb dX7_look_145 (by decide) (fun c9 => absurd (by decide) c9) (fun _ => ?_)
                    refine lv_iconst (v := 1) hx hb dX7_look_148 (by decide) ?_
                    refine lv_goto (tgt := 153) hx hb dX7_look_149 (by decide) ?_
                    refine pf_X7_41 hC rfl hK hP hD hS 0 (ws' := [(h0, .inr (7, [.ref bb, .ref clk, .ref fi, .ref la, .ref ml, .ref mm, .ref sl, .ref sm, .int 1])), (fi, .inl (G.2.1, 12, .inl wfi)), (la, .inl (G.2.1, 12, .inl wla)), (ml, .inl (G.2.1, 12, .inl fml)), (mm, .inl (G.2.1, 12, .inl fmm)), (sl, .inl (G.2.1, 12, .inl fsl)), (sm, .inl (G.2.1, 12, .inl fsm)), (bb, .inr (0, [.ref bpersons, .ref bpapers, .ref bstamps, .ref bversions, .ref blines, .ref bsteps, .ref bsayings, .ref bfindings, .ref bwarnings, .ref bquestions, .int td, .int vd, .int vl, .int gp])), (clk, .inr (1, [.ref clm])), (clm, .inl (G.2.1, 36, .inl f110357)), (bstamps, .inr (8, [.int 24, .int 3, .ref bstampsc, .int (nI kbstamps)])), (bstampsc, .inl (G.2.1, 72, .inl fbstamps))]) rfl (Nat.le_of_ble_eq_true rfl) rfl (by decide +kernel) (by decide +kernel) dX7_look_153 (fun H locs hP hD hS => ?_)
                    refine lv_aload_n hx hb dX7_look_156 rfl (lv_at hl 2 rfl) ?_
                    refine gf_X7_22 hC rfl hK hP 0 rfl rfl dX7_look_157 ?_
                    refine lv_iload_n hx hb dX7_look_160 rfl (lv_at hl 0 rfl) ?_
                    refine lv_iload_n hx hb dX7_look_161 rfl (lv_at hl 1 rfl) ?_
                    refine ast hC hK hP hD hS 2 (ws' := [(h0, .inr (7, [.ref bb, .ref clk, .ref fi, .ref la, .ref ml, .ref mm, .ref sl, .ref sm, .int 1])), (fi, .inl (G.2.1, 12, .inl wfi)), (la, .inl (G.2.1, 12, .inl (upd wla jp (nI kQ)))), (ml, .inl (G.2.1, 12, .inl fml)), (mm, .inl (G.2.1, 12, .inl fmm)), (sl, .inl (G.2.1, 12, .inl fsl)), (sm, .inl (G.2.1, 12, .inl fsm)), (bb, .inr (0, [.ref bpersons, .ref bpapers, .ref bstamps, .ref bversions, .ref blines, .ref bsteps, .ref bsayings, .ref bfindings, .ref bwarnings, .ref bquestions, .int td, .int vd, .int vl, .int gp])), (clk, .inr (1, [.ref clm])), (clm, .inl (G.2.1, 36, .inl f110357)), (bstamps, .inr (8, [.int 24, .int 3, .ref bstampsc, .int (nI kbstamps)])), (bstampsc, .inl (G.2.1, 72, .inl fbstamps))]) rfl (vp_in_nI (by omega) (by omega)) (k := jp) (nI_clamp (by omega)) (rfl) dX7_look_162 (fun H locs hP hD hS => ?_)
                    refine lv_iinc (v := nI (kQ + 1)) (lv' := [(2, .int (nI (kQ + 1))), (3, .int (nI jp)), (0, .ref h0), (1, .int pp)]) hx hb dX7_look_163 hl (k := 1) rfl (nI_1 _) (by decide) rfl (fun ls hl => ?_)
                    refine lv_goto (tgt := 42) hx hb dX7_look_166 (by decide) ?_
                    obtain ⟨hP, hD⟩ := PD_sub (ws' := [(h0, .inr (7, [.ref bb, .ref clk, .ref fi, .ref la, .ref ml, .ref mm, .ref sl, .ref sm, .int 1])), (fi, .inl (G.2.1, 12, .inl wfi)), (la, .inl (G.2.1, 12, .inl (upd wla jp (nI kQ)))), (ml, .inl (G.2.1, 12, .inl fml)), (mm, .inl (G.2.1, 12, .inl fmm)), (sl, .inl (G.2.1, 12, .inl fsl)), (sm, .inl (G.2.1, 12, .inl fsm)), (bb, .inr (0, [.ref bpersons, .ref bpapers, .ref bstamps, .ref bversions, .ref blines, .ref bsteps, .ref bsayings, .ref bfindings, .ref bwarnings, .ref bquestions, .int td, .int vd, .int vl, .int gp])), (bstamps, .inr (8, [.int 24, .int 3, .ref bstampsc, .int (nI kbstamps)])), (bstampsc, .inl (G.2.1, 72, .inl fbstamps)), (clk, .inr (1, [.ref clm])), (clm, .inl (G.2.1, 36, .inl f110357))]) hP hD [0, 1, 2, 3, 4, 5, 6, 7, 10, 11, 8, 9] rfl (by decide +kernel) rfl
                    have hst6 : CCS 1 (KST fbstamps (VPP pp) gp.toInt (kQ + 1)) (MAT f110357) := CCS.yes0 hpc a10358
                    have hst5 := CCS.b hst6
                    have hst7 : AFI fbstamps (VPP pp) (kQ + 1) wfi := hfi.keep hla (Int32.not_lt.mpr c_96_10353) (by omega) ejp hjp
                    have hst8 : ALA fbstamps (VPP pp) (kQ + 1) (upd wla jp (nI kQ)) := hla.put ejp hjp a10352
                    exact ihQ (kQ + 1) 1 wfi (upd wla jp (nI kQ)) f110357 _ _ _ (by omega) (by first | assumption | exact Or.inl rfl | exact Or.inr rfl) (by first | assumption | exact Or.inl rfl | exact Or.inr rfl) (by first | assumption | exact Or.inl rfl | exact Or.inr rfl) (by first | assumption | exact Or.inl rfl | exact Or.inr rfl) (And.intro hP hD) hS (lv_sub hl [0, 2, 3] rfl)
              · refine lv_aload_n hx hb dX7_look_99 rfl (lv_at hl 2 rfl) ?_
                refine gf_X7_18 hC rfl hK hP 0 rfl rfl dX7_look_100 ?_
                refine lv_iload_n hx hb dX7_look_103 rfl (lv_at hl 0 rfl) ?_
                refine lv_iload_n hx hb dX7_look_104 rfl (lv_at hl 1 rfl) ?_
                refine ast hC hK hP hD hS 1 (ws' := [(h0, .inr (7, [.ref bb, .ref clk, .ref fi, .ref la, .ref ml, .ref mm, .ref sl, .ref sm, .int wcl])), (fi, .inl (G.2.1, 12, .inl (upd wfi jp (nI kQ)))), (la, .inl (G.2.1, 12, .inl wla)), (ml, .inl (G.2.1, 12, .inl fml)), (mm, .inl (G.2.1, 12, .inl fmm)), (sl, .inl (G.2.1, 12, .inl fsl)), (sm, .inl (G.2.1, 12, .inl fsm)), (bb, .inr (0, [.ref bpersons, .ref bpapers, .ref bstamps, .ref bversions, .ref blines, .ref bsteps, .ref bsayings, .ref bfindings, .ref bwarnings, .ref bquestions, .int td, .int vd, .int vl, .int gp])), (bstamps, .inr (8, [.int 24, .int 3, .ref bstampsc, .int (nI kbstamps)])), (bstampsc, .inl (G.2.1, 72, .inl fbstamps)), (clk, .inr (1, [.ref clm])), (clm, .inl (G.2.1, 36, .inl wclm))]) rfl (vp_in_nI (by omega) (by omega)) (k := jp) (nI_clamp (by omega)) (rfl) dX7_look_105 (fun H locs hP hD hS => ?_)
                refine lv_goto (tgt := 156) hx hb dX7_look_106 (by decide) ?_
                refine lv_aload_n hx hb dX7_look_156 rfl (lv_at hl 2 rfl) ?_
                refine gf_X7_22 hC rfl hK hP 0 rfl rfl dX7_look_157 ?_
                refine lv_iload_n hx hb dX7_look_160 rfl (lv_at hl 0 rfl) ?_
                refine lv_iload_n hx hb dX7_look_161 rfl (lv_at hl 1 rfl) ?_
                refine ast hC hK hP hD hS 2 (ws' := [(h0, .inr (7, [.ref bb, .ref clk, .ref fi, .ref la, .ref ml, .ref mm, .ref sl, .ref sm, .int wcl])), (fi, .inl (G.2.1, 12, .inl (upd wfi jp (nI kQ)))), (la, .inl (G.2.1, 12, .inl (upd wla jp (nI kQ)))), (ml, .inl (G.2.1, 12, .inl fml)), (mm, .inl (G.2.1, 12, .inl fmm)), (sl, .inl (G.2.1, 12, .inl fsl)), (sm, .inl (G.2.1, 12, .inl fsm)), (bb, .inr (0, [.ref bpersons, .ref bpapers, .ref bstamps, .ref bversions, .ref blines, .ref bsteps, .ref bsayings, .ref bfindings, .ref bwarnings, .ref bquestions, .int td, .int vd, .int vl, .int gp])), (bstamps, .inr (8, [.int 24, .int 3, .ref bstampsc, .int (nI kbstamps)])), (bstampsc, .inl (G.2.1, 72, .inl fbstamps)), (clk, .inr (1, [.ref clm])), (clm, .inl (G.2.1, 36, .inl wclm))]) rfl (vp_in_nI (by omega) (by omega)) (k := jp) (nI_clamp (by omega)) (rfl) dX7_look_162 (fun H locs hP hD hS => ?_)
                refine lv_iinc (v := nI (kQ + 1)) (lv' := [(2, .int (nI (kQ + 1))), (3, .int (nI jp)), (0, .ref h0), (1, .int pp)]) hx hb dX7_look_163 hl (k := 1) rfl (nI_1 _) (by decide) rfl (fun ls hl => ?_)
                refine lv_goto (tgt := 42) hx hb dX7_look_166 (by decide) ?_
                have hst6 : CCS wcl (KST fbstamps (VPP pp) gp.toInt (kQ + 1)) (MAT wclm) := CCS.no hcc ((hla jp hjp).nop ((hla jp hjp).neg (Int32.not_le.mp c_96_10353) (by omega)) (by omega) (by omega) ejp)
                have hst5 := CCS.b hst6
                have hst7 : AFI fbstamps (VPP pp) (kQ + 1) (upd wfi jp (nI kQ)) := hfi.put hla (Int32.not_le.mp c_96_10353) (by omega) ejp hjp a10352
                have hst8 : ALA fbstamps (VPP pp) (kQ + 1) (upd wla jp (nI kQ)) := hla.put ejp hjp a10352
                exact ihQ (kQ + 1) wcl (upd wfi jp (nI kQ)) (upd wla jp (nI kQ)) wclm _ _ _ (by omega) (by first | assumption | exact Or.inl rfl | exact Or.inr rfl) (by first | assumption | exact Or.inl rfl | exact Or.inr rfl) (by first | assumption | exact Or.inl rfl | exact Or.inr rfl) (by first | assumption | exact Or.inl rfl | exact Or.inr rfl) (And.intro hP hD) hS (lv_sub hl [0, 2, 3] rfl)
            · refine lv_if_ne (tgt := 90) hx hb dX7_look_84 (by decide) (fun c9 => absurd (by decide) c9) (fun _ => ?_)
              refine lv_goto (tgt := 163) hx hb dX7_look_87 (by decide) ?_
              refine lv_iinc (v := nI (kQ + 1)) (lv' := [(2, .int (nI (kQ + 1))), (3, .int (nI jp)), (0, .ref h0), (1, .int pp)]) hx hb dX7_look_163 hl (k := 1) rfl (nI_1 _) (by decide) rfl (fun ls hl => ?_)
              refine lv_goto (tgt := 42) hx hb dX7_look_166 (by decide) ?_
              have hst6 : CCS wcl (KST fbstamps (VPP pp) gp.toInt (kQ + 1)) (MAT wclm) := CCS.no hcc (PRC.unseen (p := jp) (by omega) ejp a10352)
              have hst5 := CCS.b hst6
              have hst7 : AFI fbstamps (VPP pp) (kQ + 1) wfi := hfi.skip ejp hjp a10352
              have hst8 : ALA fbstamps (VPP pp) (kQ + 1) wla := hla.skip ejp hjp a10352
              exact ihQ (kQ + 1) wcl wfi wla wclm _ _ _ (by omega) (by first | assumption | exact Or.inl rfl | exact Or.inr rfl) (by first | assumption | exact Or.inl rfl | exact Or.inr rfl) (by first | assumption | exact Or.inl rfl | exact Or.inr rfl) (by first | assumption | exact Or.inl rfl | exact Or.inr rfl) (And.intro hP hD) hS (lv_sub hl [0, 2, 3] rfl)
          · exact absurd wjp a10350
      exact keyQ kbstamps 0 0 vfi vla f110334 _ _ _ (by omega) (by first | assumption | exact Or.inl rfl | exact Or.inr rfl) (by first | assumption | exact Or.inl rfl | exact Or.inr rfl) (by first | assumption | exact Or.inl rfl | exact Or.inr rfl) (by first | assumption | exact Or.inl rfl | exact Or.inr rfl) (And.intro hP hD) hS (lv_sub hl [0, 1, 2] rfl)
    | succ nP ihP =>
      intro kP vfi vla H locs ls hkP hm1 hPD hS hl
      obtain ⟨hP, hD⟩ := hPD
      refine lv_iload_n hx hb dX7_look_14 rfl (lv_at hl 0 rfl) ?_
      refine lv_bipush (v := 12) hx hb dX7_look_15 (by decide) ?_
      refine lv_icmp_ge (tgt := 40) hx hb dX7_look_17 (by decide) (fun c9 => absurd c9 (nI_ge (a := kP) (b := 12) (by omega) (by omega))) (fun _ => ?_)
      refine lv_aload_n hx hb dX7_look_20 rfl (lv_at hl 1 rfl) ?_
      refine gf_X7_18 hC rfl hK hP 0 rfl rfl dX7_look_21 ?_
      refine lv_iload_n hx hb dX7_look_24 rfl (lv_at hl 0 rfl) ?_
      refine lv_iconst (v := (-1)) hx hb dX7_look_25 (by decide) ?_
      refine ast hC hK hP hD hS 1 (ws' := [(h0, .inr (7, [.ref bb, .ref clk, .ref fi, .ref la, .ref ml, .ref mm, .ref sl, .ref sm, .int 0])), (fi, .inl (G.2.1, 12, .inl (upd vfi kP (-1)))), (la, .inl (G.2.1, 12, .inl vla)), (ml, .inl (G.2.1, 12, .inl fml)), (mm, .inl (G.2.1, 12, .inl fmm)), (sl, .inl (G.2.1, 12, .inl fsl)), (sm, .inl (G.2.1, 12, .inl fsm)), (bb, .inr (0, [.ref bpersons, .ref bpapers, .ref bstamps, .ref bversions, .ref blines, .ref bsteps, .ref bsayings, .ref bfindings, .ref bwarnings, .ref bquestions, .int td, .int vd, .int vl, .int gp])), (bstamps, .inr (8, [.int 24, .int 3, .ref bstampsc, .int (nI kbstamps)])), (bstampsc, .inl (G.2.1, 72, .inl fbstamps)), (clk, .inr (1, [.ref clm])), (clm, .inl (G.2.1, 36, .inl f110334))]) rfl (vp_in_nI (by omega) (by omega)) (k := kP) (nI_clamp (by omega)) (rfl) dX7_look_26 (fun H locs hP hD hS => ?_)
      refine lv_aload_n hx hb dX7_look_27 rfl (lv_at hl 1 rfl) ?_
      refine gf_X7_22 hC rfl hK hP 0 rfl rfl dX7_look_28 ?_
      refine lv_iload_n hx hb dX7_look_31 rfl (lv_at hl 0 rfl) ?_
      refine lv_iconst (v := (-1)) hx hb dX7_look_32 (by decide) ?_
      refine ast hC hK hP hD hS 2 (ws' := [(h0, .inr (7, [.ref bb, .ref clk, .ref fi, .ref la, .ref ml, .ref mm, .ref sl, .ref sm, .int 0])), (fi, .inl (G.2.1, 12, .inl (upd vfi kP (-1)))), (la, .inl (G.2.1, 12, .inl (upd vla kP (-1)))), (ml, .inl (G.2.1, 12, .inl fml)), (mm, .inl (G.2.1, 12, .inl fmm)), (sl, .inl (G.2.1, 12, .inl fsl)), (sm, .inl (G.2.1, 12, .inl fsm)), (bb, .inr (0, [.ref bpersons, .ref bpapers, .ref bstamps, .ref bversions, .ref blines, .ref bsteps, .ref bsayings, .ref bfindings, .ref bwarnings, .ref bquestions, .int td, .int vd, .int vl, .int gp])), (bstamps, .inr (8, [.int 24, .int 3, .ref bstampsc, .int (nI kbstamps)])), (bstampsc, .inl (G.2.1, 72, .inl fbstamps)), (clk, .inr (1, [.ref clm])), (clm, .inl (G.2.1, 36, .inl f110334))]) rfl (vp_in_nI (by omega) (by omega)) (k := kP) (nI_clamp (by omega)) (rfl) dX7_look_33 (fun H locs hP hD hS => ?_)
      refine lv_iinc (v := nI (kP + 1)) (lv' := [(2, .int (nI (kP + 1))), (0, .ref h0), (1, .int pp)]) hx hb dX7_look_34 hl (k := 0) rfl (nI_1 _) (by decide) rfl (fun ls hl => ?_)
      refine lv_goto (tgt := 14) hx hb dX7_look_37 (by decide) ?_
      exact ihP (kP + 1) (upd vfi kP (-1)) (upd vla kP (-1)) _ _ _ (by omega) (by first | assumption | exact Or.inl rfl | exact Or.inr rfl | exact M1P.zero | exact M1P.next hm1) (And.intro hP hD) hS (lv_sub hl [0, 1, 2] rfl)
  exact keyP 12 0 ffi fla _ _ _ (by omega) (by first | assumption | exact Or.inl rfl | exact Or.inr rfl | exact M1P.zero | exact M1P.next hm1) (And.intro hP hD) hS (lv_sub hl [0, 1, 2] rfl)
set_option maxHeartbeats 4000000 in
set_option maxRecDepth 100000 in
theorem c_aheadX (l : Launch) (G : GG) (h0 : Nat) (jc : Nat) (mo : Int32) (bb : Nat) (clk : Nat) (fi : Nat) (la : Nat) (ml : Nat) (mm : Nat) (sl : Nat) (sm : Nat) (cl : Int32) (clm : Nat) (fclm : Nat → Int32) (hjc : jc < 6) : MP l G yX7_ahead cX7_ahead 3 (some .int) 2 [.ref h0, .int (nI jc), .int mo] [(h0, .inr (7, [.ref bb, .ref clk, .ref fi, .ref la, .ref ml, .ref mm, .ref sl, .ref sm, .int cl])), (clk, .inr (1, [.ref clm])), (clm, .inl (G.2.1, 36, .inl fclm))] (fun r : Int32 => (r = (fclm (0 * 6 + jc)) ∧ ¬ mo = 0) ∨ (r = (-(fclm (jc * 6 + 0))) ∧ mo = 0)) := by
  refine MP.start (by decide +kernel) (Nat.le_of_ble_eq_true rfl) ?_
  intro p e s m below meth c ls hC hK hP hD hl
  have hl : lv_has ls 3 [(0, .ref h0), (1, .int (nI jc)), (2, .int mo)] := hl
  obtain ⟨hx, hb, hr, hml, hB, hown, hlocks, hnm⟩ := id hC
  refine lv_iload_n hx hb dX7_ahead_0 rfl (lv_at hl 2 rfl) ?_
  refine lv_if_eq (tgt := 16) hx hb dX7_ahead_1 (by decide) (fun c_1_10359 => ?_) (fun c_1_10359 => ?_)
  · refine lv_aload_n hx hb dX7_ahead_16 rfl (lv_at hl 0 rfl) ?_
    refine gf_X7_12 hC rfl hK hP 0 rfl rfl dX7_ahead_17 ?_
    refine lv_iload_n hx hb dX7_ahead_20 rfl (lv_at hl 1 rfl) ?_
    refine lv_iconst (v := 0) hx hb dX7_ahead_21 (by decide) ?_
    refine pV hC hK hl hP hD (c_mostAheadX l G clk jc 0 clm fclm (hjc) (by omega)) si_X7_87 [1, 2] rfl rfl (by decide) rfl rfl rfl rfl rfl (Nat.le_of_ble_eq_true rfl) ⟨Nat.le_of_ble_eq_true rfl, Nat.le_of_ble_eq_true rfl⟩ ⟨by first | exact Nat.le_of_ble_eq_true rfl | exact Nat.zero_le _, by first | exact Nat.le_of_ble_eq_true rfl | exact Nat.zero_le _⟩ dX7_ahead_22 (fun r10360 hr10360 => ?_)
    obtain rfl := hr10360
    refine lv_ineg hx hb dX7_ahead_25 ?_
    exact RP (v := -(fclm (jc * 6 + 0))) hC (Or.inr ⟨rfl, c_1_10359⟩) rfl dX7_ahead_26
  · refine lv_aload_n hx hb dX7_ahead_4 rfl (lv_at hl 0 rfl) ?_
    refine gf_X7_12 hC rfl hK hP 0 rfl rfl dX7_ahead_5 ?_
    refine lv_iconst (v := 0) hx hb dX7_ahead_8 (by decide) ?_
    refine lv_iload_n hx hb dX7_ahead_9 rfl (lv_at hl 1 rfl) ?_
    refine pV hC hK hl hP hD (c_mostAheadX l G clk 0 jc clm fclm (by omega) (hjc)) si_X7_87 [1, 2] rfl rfl (by decide) rfl rfl rfl rfl rfl (Nat.le_of_ble_eq_true rfl) ⟨Nat.le_of_ble_eq_true rfl, Nat.le_of_ble_eq_true rfl⟩ ⟨by first | exact Nat.le_of_ble_eq_true rfl | exact Nat.zero_le _, by first | exact Nat.le_of_ble_eq_true rfl | exact Nat.zero_le _⟩ dX7_ahead_10 (fun r10362 hr10362 => ?_)
    obtain rfl := hr10362
    refine lv_goto (tgt := 26) hx hb dX7_ahead_13 (by decide) ?_
    exact RP (v := (fclm (0 * 6 + jc))) hC (Or.inl ⟨rfl, c_1_10359⟩) rfl dX7_ahead_26
set_option maxHeartbeats 4000000 in
set_option maxRecDepth 100000 in
theorem c_clashesX (l : Launch) (G : GG) (h0 : Nat) (bb : Nat) (clk : Nat) (fi : Nat) (la : Nat) (ml : Nat) (mm : Nat) (sl : Nat) (sm : Nat) (cl : Int32) (hcl : cl = 0 ∨ cl = 1) : MP l G yX7_clashes cX7_clashes 1 (some .boolean) 1 [.ref h0] [(h0, .inr (7, [.ref bb, .ref clk, .ref fi, .ref la, .ref ml, .ref mm, .ref sl, .ref sm, .int cl]))] (fun r : Int32 => (r = 1 ∧ cl = 1) ∨ (r = 0 ∧ cl = 0)) := by
  refine MP.start (by decide +kernel) (Nat.le_of_ble_eq_true rfl) ?_
  intro p e s m below meth c ls hC hK hP hD hl
  have hl : lv_has ls 1 [(0, .ref h0)] := hl
  obtain ⟨hx, hb, hr, hml, hB, hown, hlocks, hnm⟩ := id hC
  rcases hcl with rfl | rfl
  · refine lv_aload_n hx hb dX7_clashes_0 rfl (lv_at hl 0 rfl) ?_
    refine gf_X7_41 hC rfl hK hP 0 rfl rfl dX7_clashes_1 ?_
    exact RP (v := 0) hC (Or.inr ⟨rfl, rfl⟩) (by decide +kernel) dX7_clashes_4
  · refine lv_aload_n hx hb dX7_clashes_0 rfl (lv_at hl 0 rfl) ?_
    refine gf_X7_41 hC rfl hK hP 0 rfl rfl dX7_clashes_1 ?_
    exact RP (v := 1) hC (Or.inl ⟨rfl, rfl⟩) (by decide +kernel) dX7_clashes_4
set_option maxHeartbeats 4000000 in
set_option maxRecDepth 100000 in
theorem c_isSentX (l : Launch) (G : GG) (h0 : Nat) (jp : Nat) (bb : Nat) (clk : Nat) (fi : Nat) (la : Nat) (ml : Nat) (mm : Nat) (sl : Nat) (sm : Nat) (cl : Int32) (fla : Nat → Int32) (hjp : jp < 12) : MP l G yX7_isSent cX7_isSent 2 (some .boolean) 1 [.ref h0, .int (nI jp)] [(h0, .inr (7, [.ref bb, .ref clk, .ref fi, .ref la, .ref ml, .ref mm, .ref sl, .ref sm, .int cl])), (la, .inl (G.2.1, 12, .inl fla))] (fun r : Int32 => (r = 1 ∧ (cl = 0 ∧ ¬ fla jp < 0)) ∨ (r = 0 ∧ ¬ (cl = 0 ∧ ¬ fla jp < 0))) := by
  refine MP.start (by decide +kernel) (Nat.le_of_ble_eq_true rfl) ?_
  intro p e s m below meth c ls hC hK hP hD hl
  have hl : lv_has ls 2 [(0, .ref h0), (1, .int (nI jp))] := hl
  obtain ⟨hx, hb, hr, hml, hB, hown, hlocks, hnm⟩ := id hC
  refine lv_aload_n hx hb dX7_isSent_0 rfl (lv_at hl 0 rfl) ?_
  refine gf_X7_41 hC rfl hK hP 0 rfl rfl dX7_isSent_1 ?_
  refine lv_if_ne (tgt := 30) hx hb dX7_isSent_4 (by decide) (fun c_4_10364 => ?_) (fun c_4_10364 => ?_)
  · refine lv_iconst (v := 0) hx hb dX7_isSent_30 (by decide) ?_
    exact RP (v := 0) hC (Or.inr ⟨rfl, fun h9 => c_4_10364 h9.1⟩) (by decide +kernel) dX7_isSent_31
  · refine lv_iload_n hx hb dX7_isSent_7 rfl (lv_at hl 1 rfl) ?_
    refine lv_if_lt (tgt := 30) hx hb dX7_isSent_8 (by decide) (fun c9 => absurd c9 (nI_pos (by omega))) (fun _ => ?_)
    refine lv_iload_n hx hb dX7_isSent_11 rfl (lv_at hl 1 rfl) ?_
    refine lv_bipush (v := 12) hx hb dX7_isSent_12 (by decide) ?_
    refine lv_icmp_ge (tgt := 30) hx hb dX7_isSent_14 (by decide) (fun c9 => absurd c9 (nI_ge (a := jp) (b := 12) (by omega) (by omega))) (fun _ => ?_)
    refine lv_aload_n hx hb dX7_isSent_17 rfl (lv_at hl 0 rfl) ?_
    refine gf_X7_22 hC rfl hK hP 0 rfl rfl dX7_isSent_18 ?_
    refine lv_iload_n hx hb dX7_isSent_21 rfl (lv_at hl 1 rfl) ?_
    refine ald hC hK hP 1 rfl (vp_in_nI (by omega) (by omega)) (k := jp) (nI_clamp (by omega)) (v := fla jp) rfl dX7_isSent_22 ?_
    refine lv_if_lt (tgt := 30) hx hb dX7_isSent_23 (by decide) (fun c_23_10365 => ?_) (fun c_23_10365 => ?_)
    · refine lv_iconst (v := 0) hx hb dX7_isSent_30 (by decide) ?_
      exact RP (v := 0) hC (Or.inr ⟨rfl, fun h9 => h9.2 c_23_10365⟩) (by decide +kernel) dX7_isSent_31
    · refine lv_iconst (v := 1) hx hb dX7_isSent_26 (by decide) ?_
      refine lv_goto (tgt := 31) hx hb dX7_isSent_27 (by decide) ?_
      exact RP (v := 1) hC (Or.inl ⟨rfl, c_4_10364, c_23_10365⟩) (by decide +kernel) dX7_isSent_31
set_option maxHeartbeats 4000000 in
set_option maxRecDepth 100000 in
theorem c_sentHourX (l : Launch) (G : GG) (h0 : Nat) (jp : Nat) (mo : Int32) (bb : Nat) (clk : Nat) (fi : Nat) (la : Nat) (ml : Nat) (mm : Nat) (sl : Nat) (sm : Nat) (cl : Int32) (fla : Nat → Int32) (fsl : Nat → Int32) (fsm : Nat → Int32) (hsn : (cl = 0 ∧ ¬ fla jp < 0)) (hjp : jp < 12) : MP l G yX7_sentHour cX7_sentHour 3 (some .int) 2 [.ref h0, .int (nI jp), .int mo] [(h0, .inr (7, [.ref bb, .ref clk, .ref fi, .ref la, .ref ml, .ref mm, .ref sl, .ref sm, .int cl])), (la, .inl (G.2.1, 12, .inl fla)), (sl, .inl (G.2.1, 12, .inl fsl)), (sm, .inl (G.2.1, 12, .inl fsm))] (fun r : Int32 => (r = (fsm jp) ∧ ¬ mo = 0) ∨ (r = (fsl jp) ∧ mo = 0)) := by
  refine MP.start (by decide +kernel) (Nat.le_of_ble_eq_true rfl) ?_
  intro p e s m below meth c ls hC hK hP hD hl
  have hl : lv_has ls 3 [(0, .ref h0), (1, .int (nI jp)), (2, .int mo)] := hl
  obtain ⟨hx, hb, hr, hml, hB, hown, hlocks, hnm⟩ := id hC
  refine lv_aload_n hx hb dX7_sentHour_0 rfl (lv_at hl 0 rfl) ?_
  refine lv_iload_n hx hb dX7_sentHour_1 rfl (lv_at hl 1 rfl) ?_
  refine pV hC hK hl hP hD (c_isSentX l G h0 jp bb clk fi la ml mm sl sm cl fla (hjp)) si_X7_90 [0, 1] rfl rfl (by decide) rfl rfl rfl rfl rfl (Nat.le_of_ble_eq_true rfl) ⟨Nat.le_of_ble_eq_true rfl, Nat.le_of_ble_eq_true rfl⟩ ⟨by first | exact Nat.le_of_ble_eq_true rfl | exact Nat.zero_le _, by first | exact Nat.le_of_ble_eq_true rfl | exact Nat.zero_le _⟩ dX7_sentHour_2 (fun r10366 hr10366 => ?_)
  rcases hr10366 with ⟨rfl, a10367⟩ | ⟨rfl, a10367⟩
  · refine lv_if_ne (tgt := 10) hx hb dX7_sentHour_5 (by decide) (fun _ => ?_) (fun c9 => absurd c9 (by decide))
    refine lv_iload_n hx hb dX7_sentHour_10 rfl (lv_at hl 2 rfl) ?_
    refine lv_if_eq (tgt := 23) hx hb dX7_sentHour_11 (by decide) (fun c_11_10368 => ?_) (fun c_11_10368 => ?_)
    · refine lv_aload_n hx hb dX7_sentHour_23 rfl (lv_at hl 0 rfl) ?_
      refine gf_X7_31 hC rfl hK hP 0 rfl rfl dX7_sentHour_24 ?_
      refine lv_iload_n hx hb dX7_sentHour_27 rfl (lv_at hl 1 rfl) ?_
      refine ald hC hK hP 2 rfl (vp_in_nI (by omega) (by omega)) (k := jp) (nI_clamp (by omega)) (v := fsl jp) rfl dX7_sentHour_28 ?_
      exact RP (v := fsl jp) hC (Or.inr ⟨rfl, c_11_10368⟩) rfl dX7_sentHour_29
    · refine lv_aload_n hx hb dX7_sentHour_14 rfl (lv_at hl 0 rfl) ?_
      refine gf_X7_34 hC rfl hK hP 0 rfl rfl dX7_sentHour_15 ?_
      refine lv_iload_n hx hb dX7_sentHour_18 rfl (lv_at hl 1 rfl) ?_
      refine ald hC hK hP 3 rfl (vp_in_nI (by omega) (by omega)) (k := jp) (nI_clamp (by omega)) (v := fsm jp) rfl dX7_sentHour_19 ?_
      refine lv_goto (tgt := 29) hx hb dX7_sentHour_20 (by decide) ?_
      exact RP (v := fsm jp) hC (Or.inl ⟨rfl, c_11_10368⟩) rfl dX7_sentHour_29
  · exact absurd hsn a10367
set_option maxHeartbeats 4000000 in
set_option maxRecDepth 100000 in
theorem c_isInHandX (l : Launch) (G : GG) (h0 : Nat) (jp : Nat) (je : Nat) (bb : Nat) (clk : Nat) (fi : Nat) (la : Nat) (ml : Nat) (mm : Nat) (sl : Nat) (sm : Nat) (cl : Int32) (fla : Nat → Int32) (bpersons : Nat) (bpapers : Nat) (bstamps : Nat) (bversions : Nat) (blines : Nat) (bsteps : Nat) (bsayings : Nat) (bfindings : Nat) (bwarnings : Nat) (bquestions : Nat) (td : Int32) (vd : Int32) (vl : Int32) (gp : Int32) (bpapersc : Nat) (kbpapers : Nat) (fbpapers : Nat → Int32) (hkbpapers : kbpapers ≤ 12) (hjp : jp < kbpapers) (hje : je < 10) : MP l G yX7_isInHand cX7_isInHand 3 (some .boolean) 3 [.ref h0, .int (nI jp), .int (nI je)] [(h0, .inr (7, [.ref bb, .ref clk, .ref fi, .ref la, .ref ml, .ref mm, .ref sl, .ref sm, .int cl])), (la, .inl (G.2.1, 12, .inl fla)), (bb, .inr (0, [.ref bpersons, .ref bpapers, .ref bstamps, .ref bversions, .ref blines, .ref bsteps, .ref bsayings, .ref bfindings, .ref bwarnings, .ref bquestions, .int td, .int vd, .int vl, .int gp])), (bpapers, .inr (8, [.int 12, .int 6, .ref bpapersc, .int (nI kbpapers)])), (bpapersc, .inl (G.2.1, 72, .inl fbpapers))] (fun r : Int32 => (r = 1 ∧ ((cl = 0 ∧ ¬ fla jp < 0) ∧ (fbpapers (jp * 6 + 0) = nI je ∨ HB (fbpapers (jp * 6 + 1)) (nI je)))) ∨ (r = 0 ∧ ¬ ((cl = 0 ∧ ¬ fla jp < 0) ∧ (fbpapers (jp * 6 + 0) = nI je ∨ HB (fbpapers (jp * 6 + 1)) (nI je))))) := by
  refine MP.start (by decide +kernel) (Nat.le_of_ble_eq_true rfl) ?_
  intro p e s m below meth c ls hC hK hP hD hl
  have hl : lv_has ls 3 [(0, .ref h0), (1, .int (nI jp)), (2, .int (nI je))] := hl
  obtain ⟨hx, hb, hr, hml, hB, hown, hlocks, hnm⟩ := id hC
  refine lv_aload_n hx hb dX7_isInHand_0 rfl (lv_at hl 0 rfl) ?_
  refine lv_iload_n hx hb dX7_isInHand_1 rfl (lv_at hl 1 rfl) ?_
  refine pV hC hK hl hP hD (c_isSentX l G h0 jp bb clk fi la ml mm sl sm cl fla (by omega)) si_X7_90 [0, 1] rfl rfl (by decide) rfl rfl rfl rfl rfl (Nat.le_of_ble_eq_true rfl) ⟨Nat.le_of_ble_eq_true rfl, Nat.le_of_ble_eq_true rfl⟩ ⟨by first | exact Nat.le_of_ble_eq_true rfl | exact Nat.zero_le _, by first | exact Nat.le_of_ble_eq_true rfl | exact Nat.zero_le _⟩ dX7_isInHand_2 (fun r10369 hr10369 => ?_)
  rcases hr10369 with ⟨rfl, a10370⟩ | ⟨rfl, a10370⟩
  · refine lv_if_eq (tgt := 47) hx hb dX7_isInHand_5 (by decide) (fun c9 => absurd c9 (by decide)) (fun _ => ?_)
    refine lv_aload_n hx hb dX7_isInHand_8 rfl (lv_at hl 0 rfl) ?_
    refine gf_X7_37 hC rfl hK hP 0 rfl rfl dX7_isInHand_9 ?_
    refine gf_X7_94 hC rfl hK hP 2 rfl rfl dX7_isInHand_12 ?_
    refine lv_iload_n hx hb dX7_isInHand_15 rfl (lv_at hl 1 rfl) ?_
    refine lv_iconst (v := 0) hx hb dX7_isInHand_16 (by decide) ?_
    refine pV hC hK hl hP hD (c_T_at l G bpapers (nI jp) 0 12 6 bpapersc kbpapers fbpapers (hkbpapers) (by omega) (by omega)) si_X7_60 [3, 4] rfl rfl (by decide) rfl rfl rfl rfl rfl (Nat.le_of_ble_eq_true rfl) ⟨Nat.le_of_ble_eq_true rfl, Nat.le_of_ble_eq_true rfl⟩ ⟨by first | exact Nat.le_of_ble_eq_true rfl | exact Nat.zero_le _, by first | exact Nat.le_of_ble_eq_true rfl | exact Nat.zero_le _⟩ dX7_isInHand_17 (fun r10371 hr10371 => ?_)
    refine eqi (x1 := fbpapers (jp * 6 + 0)) (hr10371.trans (tatq (by omega) (by omega) (by decide) (by decide) rfl)) ?_
    refine lv_iload_n hx hb dX7_isInHand_20 rfl (lv_at hl 2 rfl) ?_
    refine lv_icmp_eq (tgt := 43) hx hb dX7_isInHand_21 (by decide) (fun c_21_10373 => ?_) (fun c_21_10373 => ?_)
    · refine lv_iconst (v := 1) hx hb dX7_isInHand_43 (by decide) ?_
      refine lv_goto (tgt := 48) hx hb dX7_isInHand_44 (by decide) ?_
      exact RP (v := 1) hC (Or.inl ⟨rfl, a10370, Or.inl c_21_10373⟩) (by decide +kernel) dX7_isInHand_48
    · refine lv_aload_n hx hb dX7_isInHand_24 rfl (lv_at hl 0 rfl) ?_
      refine gf_X7_37 hC rfl hK hP 0 rfl rfl dX7_isInHand_25 ?_
      refine gf_X7_94 hC rfl hK hP 2 rfl rfl dX7_isInHand_28 ?_
      refine lv_iload_n hx hb dX7_isInHand_31 rfl (lv_at hl 1 rfl) ?_
      refine lv_iconst (v := 1) hx hb dX7_isInHand_32 (by decide) ?_
      refine pV hC hK hl hP hD (c_T_at l G bpapers (nI jp) 1 12 6 bpapersc kbpapers fbpapers (hkbpapers) (by omega) (by omega)) si_X7_60 [3, 4] rfl rfl (by decide) rfl rfl rfl rfl rfl (Nat.le_of_ble_eq_true rfl) ⟨Nat.le_of_ble_eq_true rfl, Nat.le_of_ble_eq_true rfl⟩ ⟨by first | exact Nat.le_of_ble_eq_true rfl | exact Nat.zero_le _, by first | exact Nat.le_of_ble_eq_true rfl | exact Nat.zero_le _⟩ dX7_isInHand_33 (fun r10374 hr10374 => ?_)
      refine eqi (x1 := fbpapers (jp * 6 + 1)) (hr10374.trans (tatq (by omega) (by omega) (by decide) (by decide) rfl)) ?_
      refine lv_iload_n hx hb dX7_isInHand_36 rfl (lv_at hl 2 rfl) ?_
      refine pSN hC hK hl (c_hasBit l G (fbpapers (jp * 6 + 1)) (nI je)) si_X7_68 rfl rfl (Nat.le_of_ble_eq_true rfl) ⟨Nat.le_of_ble_eq_true rfl, Nat.le_of_ble_eq_true rfl⟩ ⟨by first | exact Nat.le_of_ble_eq_true rfl | exact Nat.zero_le _, by first | exact Nat.le_of_ble_eq_true rfl | exact Nat.zero_le _⟩ dX7_isInHand_37 (fun r10376 hr10376 => ?_)
      rcases hr10376 with ⟨rfl, a10377⟩ | ⟨rfl, a10377⟩
      · refine lv_if_eq (tgt := 47) hx hb dX7_isInHand_40 (by decide) (fun c9 => absurd c9 (by decide)) (fun _ => ?_)
        refine lv_iconst (v := 1) hx hb dX7_isInHand_43 (by decide) ?_
        refine lv_goto (tgt := 48) hx hb dX7_isInHand_44 (by decide) ?_
        exact RP (v := 1) hC (Or.inl ⟨rfl, a10370, Or.inr a10377⟩) (by decide +kernel) dX7_isInHand_48
      · refine lv_if_eq (tgt := 47) hx hb dX7_isInHand_40 (by decide) (fun _ => ?_) (fun c9 => absurd (by decide) c9)
        refine lv_iconst (v := 0) hx hb dX7_isInHand_47 (by decide) ?_
        exact RP (v := 0) hC (Or.inr ⟨rfl, fun h9 => h9.2.elim c_21_10373 a10377⟩) (by decide +kernel) dX7_isInHand_48
  · refine lv_if_eq (tgt := 47) hx hb dX7_isInHand_5 (by decide) (fun _ => ?_) (fun c9 => absurd (by decide) c9)
    refine lv_iconst (v := 0) hx hb dX7_isInHand_47 (by decide) ?_
    exact RP (v := 0) hC (Or.inr ⟨rfl, fun h9 => a10370 h9.1⟩) (by decide +kernel) dX7_isInHand_48
set_option maxHeartbeats 4000000 in
set_option maxRecDepth 100000 in
theorem c_handHourX (l : Launch) (G : GG) (h0 : Nat) (jp : Nat) (je : Nat) (mo : Int32) (bb : Nat) (clk : Nat) (fi : Nat) (la : Nat) (ml : Nat) (mm : Nat) (sl : Nat) (sm : Nat) (cl : Int32) (fla : Nat → Int32) (fml : Nat → Int32) (fmm : Nat → Int32) (fsl : Nat → Int32) (fsm : Nat → Int32) (bpersons : Nat) (bpapers : Nat) (bstamps : Nat) (bversions : Nat) (blines : Nat) (bsteps : Nat) (bsayings : Nat) (bfindings : Nat) (bwarnings : Nat) (bquestions : Nat) (td : Int32) (vd : Int32) (vl : Int32) (gp : Int32) (bpapersc : Nat) (kbpapers : Nat) (fbpapers : Nat → Int32) (bpersonsc : Nat) (kbpersons : Nat) (fbpersons : Nat → Int32) (hkbpapers : kbpapers ≤ 12) (hkbpersons : kbpersons ≤ 10) (hsn : (cl = 0 ∧ ¬ fla jp < 0)) (hjp : jp < kbpapers) (hje : je < kbpersons) : MP l G yX7_handHour cX7_handHour 4 (some .int) 3 [.ref h0, .int (nI jp), .int (nI je), .int mo] [(h0, .inr (7, [.ref bb, .ref clk, .ref fi, .ref la, .ref ml, .ref mm, .ref sl, .ref sm, .int cl])), (la, .inl (G.2.1, 12, .inl fla)), (ml, .inl (G.2.1, 12, .inl fml)), (mm, .inl (G.2.1, 12, .inl fmm)), (sl, .inl (G.2.1, 12, .inl fsl)), (sm, .inl (G.2.1, 12, .inl fsm)), (bb, .inr (0, [.ref bpersons, .ref bpapers, .ref bstamps, .ref bversions, .ref blines, .ref bsteps, .ref bsayings, .ref bfindings, .ref bwarnings, .ref bquestions, .int td, .int vd, .int vl, .int gp])), (bpapers, .inr (8, [.int 12, .int 6, .ref bpapersc, .int (nI kbpapers)])), (bpapersc, .inl (G.2.1, 72, .inl fbpapers)), (bpersons, .inr (8, [.int 10, .int 2, .ref bpersonsc, .int (nI kbpersons)])), (bpersonsc, .inl (G.2.1, 20, .inl fbpersons))] (fun r : Int32 => (r = (fmm jp) ∧ (fbpapers (jp * 6 + 0) = nI je ∧ ¬ mo = 0)) ∨ (r = (fml jp) ∧ (fbpapers (jp * 6 + 0) = nI je ∧ mo = 0)) ∨ (r = (fsm jp + fbpersons (je * 2 + 1)) ∧ (¬ fbpapers (jp * 6 + 0) = nI je ∧ ¬ mo = 0)) ∨ (r = (fsl jp) ∧ (¬ fbpapers (jp * 6 + 0) = nI je ∧ mo = 0))) := by
  refine MP.start (by decide +kernel) (Nat.le_of_ble_eq_true rfl) ?_
  intro p e s m below meth c ls hC hK hP hD hl
  have hl : lv_has ls 4 [(0, .ref h0), (1, .int (nI jp)), (2, .int (nI je)), (3, .int mo)] := hl
  obtain ⟨hx, hb, hr, hml, hB, hown, hlocks, hnm⟩ := id hC
  refine lv_aload_n hx hb dX7_handHour_0 rfl (lv_at hl 0 rfl) ?_
  refine lv_iload_n hx hb dX7_handHour_1 rfl (lv_at hl 1 rfl) ?_
  refine pV hC hK hl hP hD (c_isSentX l G h0 jp bb clk fi la ml mm sl sm cl fla (by omega)) si_X7_90 [0, 1] rfl rfl (by decide) rfl rfl rfl rfl rfl (Nat.le_of_ble_eq_true rfl) ⟨Nat.le_of_ble_eq_true rfl, Nat.le_of_ble_eq_true rfl⟩ ⟨by first | exact Nat.le_of_ble_eq_true rfl | exact Nat.zero_le _, by first | exact Nat.le_of_ble_eq_true rfl | exact Nat.zero_le _⟩ dX7_handHour_2 (fun r10378 hr10378 => ?_)
  rcases hr10378 with ⟨rfl, a10379⟩ | ⟨rfl, a10379⟩
  · refine lv_if_ne (tgt := 10) hx hb dX7_handHour_5 (by decide) (fun _ => ?_) (fun c9 => absurd c9 (by decide))
    refine lv_aload_n hx hb dX7_handHour_10 rfl (lv_at hl 0 rfl) ?_
    refine gf_X7_37 hC rfl hK hP 0 rfl rfl dX7_handHour_11 ?_
    refine gf_X7_94 hC rfl hK hP 6 rfl rfl dX7_handHour_14 ?_
    refine lv_iload_n hx hb dX7_handHour_17 rfl (lv_at hl 1 rfl) ?_
    refine lv_iconst (v := 0) hx hb dX7_handHour_18 (by decide) ?_
    refine pV hC hK hl hP hD (c_T_at l G bpapers (nI jp) 0 12 6 bpapersc kbpapers fbpapers (hkbpapers) (by omega) (by omega)) si_X7_60 [7, 8] rfl rfl (by decide) rfl rfl rfl rfl rfl (Nat.le_of_ble_eq_true rfl) ⟨Nat.le_of_ble_eq_true rfl, Nat.le_of_ble_eq_true rfl⟩ ⟨by first | exact Nat.le_of_ble_eq_true rfl | exact Nat.zero_le _, by first | exact Nat.le_of_ble_eq_true rfl | exact Nat.zero_le _⟩ dX7_handHour_19 (fun r10380 hr10380 => ?_)
    refine eqi (x1 := fbpapers (jp * 6 + 0)) (hr10380.trans (tatq (by omega) (by omega) (by decide) (by decide) rfl)) ?_
    refine lv_iload_n hx hb dX7_handHour_22 rfl (lv_at hl 2 rfl) ?_
    refine lv_icmp_ne (tgt := 46) hx hb dX7_handHour_23 (by decide) (fun c_23_10382 => ?_) (fun c_23_10382 => ?_)
    · refine lv_iload_n hx hb dX7_handHour_46 rfl (lv_at hl 3 rfl) ?_
      refine lv_if_eq (tgt := 72) hx hb dX7_handHour_47 (by decide) (fun c_47_10383 => ?_) (fun c_47_10383 => ?_)
      · refine lv_aload_n hx hb dX7_handHour_72 rfl (lv_at hl 0 rfl) ?_
        refine gf_X7_31 hC rfl hK hP 0 rfl rfl dX7_handHour_73 ?_
        refine lv_iload_n hx hb dX7_handHour_76 rfl (lv_at hl 1 rfl) ?_
        refine ald hC hK hP 4 rfl (vp_in_nI (by omega) (by omega)) (k := jp) (nI_clamp (by omega)) (v := fsl jp) rfl dX7_handHour_77 ?_
        exact RP (v := fsl jp) hC (Or.inr (Or.inr (Or.inr (⟨rfl, c_23_10382, c_47_10383⟩)))) rfl dX7_handHour_78
      · refine lv_aload_n hx hb dX7_handHour_50 rfl (lv_at hl 0 rfl) ?_
        refine gf_X7_34 hC rfl hK hP 0 rfl rfl dX7_handHour_51 ?_
        refine lv_iload_n hx hb dX7_handHour_54 rfl (lv_at hl 1 rfl) ?_
        refine ald hC hK hP 5 rfl (vp_in_nI (by omega) (by omega)) (k := jp) (nI_clamp (by omega)) (v := fsm jp) rfl dX7_handHour_55 ?_
        refine lv_aload_n hx hb dX7_handHour_56 rfl (lv_at hl 0 rfl) ?_
        refine gf_X7_37 hC rfl hK hP 0 rfl rfl dX7_handHour_57 ?_
        refine gf_X7_97 hC rfl hK hP 6 rfl rfl dX7_handHour_60 ?_
        refine lv_iload_n hx hb dX7_handHour_63 rfl (lv_at hl 2 rfl) ?_
        refine lv_iconst (v := 1) hx hb dX7_handHour_64 (by decide) ?_
        refine pV hC hK hl hP hD (c_T_at l G bpersons (nI je) 1 10 2 bpersonsc kbpersons fbpersons (hkbpersons) (by omega) (by omega)) si_X7_60 [9, 10] rfl rfl (by decide) rfl rfl rfl rfl rfl (Nat.le_of_ble_eq_true rfl) ⟨Nat.le_of_ble_eq_true rfl, Nat.le_of_ble_eq_true rfl⟩ ⟨by first | exact Nat.le_of_ble_eq_true rfl | exact Nat.zero_le _, by first | exact Nat.le_of_ble_eq_true rfl | exact Nat.zero_le _⟩ dX7_handHour_65 (fun r10384 hr10384 => ?_)
        refine eqi (x1 := fbpersons (je * 2 + 1)) (hr10384.trans (tatq (by omega) (by omega) (by decide) (by decide) rfl)) ?_
        refine lv_iadd hx hb dX7_handHour_68 ?_
        refine lv_goto (tgt := 78) hx hb dX7_handHour_69 (by decide) ?_
        exact RP (v := (fsm jp) + (fbpersons (je * 2 + 1))) hC (Or.inr (Or.inr (Or.inl ⟨rfl, c_23_10382, c_47_10383⟩))) rfl dX7_handHour_78
    · refine lv_iload_n hx hb dX7_handHour_26 rfl (lv_at hl 3 rfl) ?_
      refine lv_if_eq (tgt := 39) hx hb dX7_handHour_27 (by decide) (fun c_27_10386 => ?_) (fun c_27_10386 => ?_)
      · refine lv_aload_n hx hb dX7_handHour_39 rfl (lv_at hl 0 rfl) ?_
        refine gf_X7_25 hC rfl hK hP 0 rfl rfl dX7_handHour_40 ?_
        refine lv_iload_n hx hb dX7_handHour_43 rfl (lv_at hl 1 rfl) ?_
        refine ald hC hK hP 2 rfl (vp_in_nI (by omega) (by omega)) (k := jp) (nI_clamp (by omega)) (v := fml jp) rfl dX7_handHour_44 ?_
        exact RP (v := fml jp) hC (Or.inr (Or.inl ⟨rfl, c_23_10382, c_27_10386⟩)) rfl dX7_handHour_45
      · refine lv_aload_n hx hb dX7_handHour_30 rfl (lv_at hl 0 rfl) ?_
        refine gf_X7_28 hC rfl hK hP 0 rfl rfl dX7_handHour_31 ?_
        refine lv_iload_n hx hb dX7_handHour_34 rfl (lv_at hl 1 rfl) ?_
        refine ald hC hK hP 3 rfl (vp_in_nI (by omega) (by omega)) (k := jp) (nI_clamp (by omega)) (v := fmm jp) rfl dX7_handHour_35 ?_
        refine lv_goto (tgt := 45) hx hb dX7_handHour_36 (by decide) ?_
        exact RP (v := fmm jp) hC (Or.inl ⟨rfl, c_23_10382, c_27_10386⟩) rfl dX7_handHour_45
  · exact absurd hsn a10379
set_option maxHeartbeats 4000000 in
set_option maxRecDepth 100000 in
theorem p_handT (l : Launch) (G : GG) (h0 : Nat) (x1 : Int32) (x2 : Int32) (x3 : Int32) (bb : Nat) (kk : Nat) (ikp : Int32) (sg : Nat) (do9 : Nat) (ru9 : Nat) (ta9 : Nat) (tp9 : Nat) (ro9 : Nat) (ho9 : Nat) (de9 : Nat) (bpersons : Nat) (bpapers : Nat) (bstamps : Nat) (bversions : Nat) (blines : Nat) (bsteps : Nat) (bsayings : Nat) (bfindings : Nat) (bwarnings : Nat) (bquestions : Nat) (td : Int32) (vd : Int32) (vl : Int32) (gp : Int32) (clk : Nat) (fi : Nat) (la : Nat) (ml : Nat) (mm : Nat) (sl : Nat) (sm : Nat) (cl : Int32) (clm : Nat) (fclm : Nat → Int32) (ffi : Nat → Int32) (fla : Nat → Int32) (fml : Nat → Int32) (fmm : Nat → Int32) (fsl : Nat → Int32) (fsm : Nat → Int32) (bpapersc : Nat) (kbpapers : Nat) (fbpapers : Nat → Int32) (bstampsc : Nat) (kbstamps : Nat) (fbstamps : Nat → Int32) (bpersonsc : Nat) (kbpersons : Nat) (fbpersons : Nat → Int32) (hkbpapers : kbpapers ≤ 12) (hkbstamps : kbstamps ≤ 24) (hkbpersons : kbpersons ≤ 10) (hcl : cl = 0 ∨ cl = 1) (hSV : SVL fbstamps kbstamps) (hgp : GPR gp) : MI l G yX11_hand cX11_hand 4 (some .int) 7 0 0 [.ref h0, .int x1, .int x2, .int x3] [(h0, .inr (11, [.ref bb, .ref kk, .int ikp, .ref sg, .ref do9, .ref ru9, .ref ta9, .ref tp9, .ref ro9, .ref ho9, .ref de9])), (bb, .inr (0, [.ref bpersons, .ref bpapers, .ref bstamps, .ref bversions, .ref blines, .ref bsteps, .ref bsayings, .ref bfindings, .ref bwarnings, .ref bquestions, .int td, .int vd, .int vl, .int gp])), (sg, .inr (7, [.ref bb, .ref clk, .ref fi, .ref la, .ref ml, .ref mm, .ref sl, .ref sm, .int cl])), (clk, .inr (1, [.ref clm])), (clm, .inl (G.2.1, 36, .inl fclm)), (fi, .inl (G.2.1, 12, .inl ffi)), (la, .inl (G.2.1, 12, .inl fla)), (ml, .inl (G.2.1, 12, .inl fml)), (mm, .inl (G.2.1, 12, .inl fmm)), (sl, .inl (G.2.1, 12, .inl fsl)), (sm, .inl (G.2.1, 12, .inl fsm)), (bpapers, .inr (8, [.int 12, .int 6, .ref bpapersc, .int (nI kbpapers)])), (bpapersc, .inl (G.2.1, 72, .inl fbpapers)), (bstamps, .inr (8, [.int 24, .int 3, .ref bstampsc, .int (nI kbstamps)])), (bstampsc, .inl (G.2.1, 72, .inl fbstamps)), (bpersons, .inr (8, [.int 10, .int 2, .ref bpersonsc, .int (nI kbpersons)])), (bpersonsc, .inl (G.2.1, 20, .inl fbpersons))] (fun (r : Int32) (u : Int32 × (Nat → Int32) × (Nat → Int32) × (Nat → Int32) × (Nat → Int32) × (Nat → Int32) × (Nat → Int32) × (Nat → Int32)) => (∃ s9, (HNQ (KST fbstamps (VPP (IVW fbpapers td vd vl kbpapers)) gp.toInt kbstamps) fbstamps (VPP (IVW fbpapers td vd vl kbpapers)) fbpapers fbpersons kbstamps kbpapers kbpersons x1 x2 x3 s9) ∧ r = s9) ∧ (u.1 = 0 ∨ u.1 = 1)) (fun u : Int32 × (Nat → Int32) × (Nat → Int32) × (Nat → Int32) × (Nat → Int32) × (Nat → Int32) × (Nat → Int32) × (Nat → Int32) => [(h0, .inr (11, [.ref bb, .ref kk, .int ikp, .ref sg, .ref do9, .ref ru9, .ref ta9, .ref tp9, .ref ro9, .ref ho9, .ref de9])), (bb, .inr (0, [.ref bpersons, .ref bpapers, .ref bstamps, .ref bversions, .ref blines, .ref bsteps, .ref bsayings, .ref bfindings, .ref bwarnings, .ref bquestions, .int td, .int vd, .int vl, .int gp])), (sg, .inr (7, [.ref bb, .ref clk, .ref fi, .ref la, .ref ml, .ref mm, .ref sl, .ref sm, .int u.1])), (clk, .inr (1, [.ref clm])), (clm, .inl (G.2.1, 36, .inl u.2.1)), (fi, .inl (G.2.1, 12, .inl u.2.2.1)), (la, .inl (G.2.1, 12, .inl u.2.2.2.1)), (ml, .inl (G.2.1, 12, .inl u.2.2.2.2.1)), (mm, .inl (G.2.1, 12, .inl u.2.2.2.2.2.1)), (sl, .inl (G.2.1, 12, .inl u.2.2.2.2.2.2.1)), (sm, .inl (G.2.1, 12, .inl u.2.2.2.2.2.2.2)), (bpapers, .inr (8, [.int 12, .int 6, .ref bpapersc, .int (nI kbpapers)])), (bpapersc, .inl (G.2.1, 72, .inl fbpapers)), (bstamps, .inr (8, [.int 24, .int 3, .ref bstampsc, .int (nI kbstamps)])), (bstampsc, .inl (G.2.1, 72, .inl fbstamps)), (bpersons, .inr (8, [.int 10, .int 2, .ref bpersonsc, .int (nI kbpersons)])), (bpersonsc, .inl (G.2.1, 20, .inl fbpersons))]) := by
  refine MI.start (by decide +kernel) (Nat.le_of_ble_eq_true rfl) ?_
  intro p e s m below meth c A ls hC hK hP hD hS hA hl
  have hl : lv_has ls 4 [(0, .ref h0), (1, .int x1), (2, .int x2), (3, .int x3)] := hl
  obtain ⟨hx, hb, hr, hml, hB, hown, hlocks, hnm⟩ := id hC
  refine lv_aload_n hx hb dX11_hand_0 rfl (lv_at hl 0 rfl) ?_
  refine gf_X11_15 hC rfl hK hP 0 rfl rfl dX11_hand_1 ?_
  refine gf_X11_144 hC rfl hK hP 1 rfl rfl dX11_hand_4 ?_
  refine lv_iload_n hx hb dX11_hand_7 rfl (lv_at hl 1 rfl) ?_
  refine pV hC hK hl hP hD (c_T_has l G bpapers x1 12 6 bpapersc kbpapers) si_X11_124 [11] rfl rfl (by decide) rfl rfl rfl rfl rfl (Nat.le_of_ble_eq_true rfl) ⟨Nat.le_of_ble_eq_true rfl, Nat.le_of_ble_eq_true rfl⟩ ⟨by first | exact Nat.le_of_ble_eq_true rfl | exact Nat.zero_le _, by first | exact Nat.le_of_ble_eq_true rfl | exact Nat.zero_le _⟩ dX11_hand_8 (fun r10387 hr10387 => ?_)
  rcases hr10387 with ⟨rfl, a10388⟩ | ⟨rfl, a10388⟩
  · refine lv_if_eq (tgt := 28) hx hb dX11_hand_11 (by decide) (fun c9 => absurd c9 (by decide)) (fun _ => ?_)
    refine lv_aload_n hx hb dX11_hand_14 rfl (lv_at hl 0 rfl) ?_
    refine gf_X11_15 hC rfl hK hP 0 rfl rfl dX11_hand_15 ?_
    refine gf_X11_107 hC rfl hK hP 1 rfl rfl dX11_hand_18 ?_
    refine lv_iload_n hx hb dX11_hand_21 rfl (lv_at hl 2 rfl) ?_
    refine pV hC hK hl hP hD (c_T_has l G bpersons x2 10 2 bpersonsc kbpersons) si_X11_124 [15] rfl rfl (by decide) rfl rfl rfl rfl rfl (Nat.le_of_ble_eq_true rfl) ⟨Nat.le_of_ble_eq_true rfl, Nat.le_of_ble_eq_true rfl⟩ ⟨by first | exact Nat.le_of_ble_eq_true rfl | exact Nat.zero_le _, by first | exact Nat.le_of_ble_eq_true rfl | exact Nat.zero_le _⟩ dX11_hand_22 (fun r10389 hr10389 => ?_)
    rcases hr10389 with ⟨rfl, a10390⟩ | ⟨rfl, a10390⟩
    · refine lv_if_ne (tgt := 30) hx hb dX11_hand_25 (by decide) (fun _ => ?_) (fun c9 => absurd c9 (by decide))
      obtain ⟨jp, hjp, rfl⟩ := Hs_nat (by omega) a10388
      obtain ⟨je, hje, rfl⟩ := Hs_nat (by omega) a10390
      refine lv_aload_n hx hb dX11_hand_30 rfl (lv_at hl 0 rfl) ?_
      refine gf_X11_28 hC rfl hK hP 0 rfl rfl dX11_hand_31 ?_
      refine lv_aload_n hx hb dX11_hand_34 rfl (lv_at hl 0 rfl) ?_
      refine gf_X11_15 hC rfl hK hP 0 rfl rfl dX11_hand_35 ?_
      refine pV hC hK hl hP hD (c_inViewX l G bb bpersons bpapers bstamps bversions blines bsteps bsayings bfindings bwarnings bquestions td vd vl gp bpapersc kbpapers fbpapers (hkbpapers)) si_X11_97 [1, 11, 12] rfl rfl (by decide) rfl rfl rfl rfl rfl (Nat.le_of_ble_eq_true rfl) ⟨Nat.le_of_ble_eq_true rfl, Nat.le_of_ble_eq_true rfl⟩ ⟨by first | exact Nat.le_of_ble_eq_true rfl | exact Nat.zero_le _, by first | exact Nat.le_of_ble_eq_true rfl | exact Nat.zero_le _⟩ dX11_hand_38 (fun r10391 hr10391 => ?_)
      obtain rfl := hr10391
      refine vV (wr := [(h0, .inr (11, [.ref bb, .ref kk, .int ikp, .ref sg, .ref do9, .ref ru9, .ref ta9, .ref tp9, .ref ro9, .ref ho9, .ref de9])), (bpapers, .inr (8, [.int 12, .int 6, .ref bpapersc, .int (nI kbpapers)])), (bpapersc, .inl (G.2.1, 72, .inl fbpapers)), (bpersons, .inr (8, [.int 10, .int 2, .ref bpersonsc, .int (nI kbpersons)])), (bpersonsc, .inl (G.2.1, 20, .inl fbpersons))]) hC hK hl hP hD hS hA (c_lookX l G sg (IVW fbpapers td vd vl kbpapers) bb clk fi la ml mm sl sm cl clm fclm ffi fla fml fmm fsl fsm bpersons bpapers bstamps bversions blines bsteps bsayings bfindings bwarnings bquestions td vd vl gp bstampsc kbstamps fbstamps (hkbstamps) (hSV) (hgp)) si_X11_183 [2, 3, 4, 5, 6, 7, 8, 9, 10, 1, 13, 14] [0, 11, 12, 15, 16] rfl rfl (by decide) rfl (by decide) (by decide) rfl rfl rfl rfl rfl (Nat.le_of_ble_eq_true rfl) ⟨Nat.le_of_ble_eq_true rfl, Nat.le_of_ble_eq_true rfl⟩ ⟨Nat.le_of_ble_eq_true rfl, Nat.le_of_ble_eq_true rfl⟩ dX11_hand_41 (fun u10394 H locs hr10393 hP hD hS => ?_)
      obtain ⟨cl110395, gclm10396, gfi10397, gla10398, gml10399, gmm10400, gsl10401, gsm10402⟩ := u10394
      try dsimp only at hr10393
      have hPD : va_PD G A [(h0, .inr (11, [.ref bb, .ref kk, .int ikp, .ref sg, .ref do9, .ref ru9, .ref ta9, .ref tp9, .ref ro9, .ref ho9, .ref de9])), (bpapers, .inr (8, [.int 12, .int 6, .ref bpapersc, .int (nI kbpapers)])), (bpapersc, .inl (G.2.1, 72, .inl fbpapers)), (bpersons, .inr (8, [.int 10, .int 2, .ref bpersonsc, .int (nI kbpersons)])), (bpersonsc, .inl (G.2.1, 20, .inl fbpersons)), (sg, .inr (7, [.ref bb, .ref clk, .ref fi, .ref la, .ref ml, .ref mm, .ref sl, .ref sm, .int cl110395])), (clk, .inr (1, [.ref clm])), (clm, .inl (G.2.1, 36, .inl gclm10396)), (fi, .inl (G.2.1, 12, .inl gfi10397)), (la, .inl (G.2.1, 12, .inl gla10398)), (ml, .inl (G.2.1, 12, .inl gml10399)), (mm, .inl (G.2.1, 12, .inl gmm10400)), (sl, .inl (G.2.1, 12, .inl gsl10401)), (sm, .inl (G.2.1, 12, .inl gsm10402)), (bb, .inr (0, [.ref bpersons, .ref bpapers, .ref bstamps, .ref bversions, .ref blines, .ref bsteps, .ref bsayings, .ref bfindings, .ref bwarnings, .ref bquestions, .int td, .int vd, .int vl, .int gp])), (bstamps, .inr (8, [.int 24, .int 3, .ref bstampsc, .int (nI kbstamps)])), (bstampsc, .inl (G.2.1, 72, .inl fbstamps))] H := And.intro hP hD
      obtain ⟨hP, hD⟩ := hPD
      have w10403 := hr10393
      refine lv_aload_n hx hb dX11_hand_44 rfl (lv_at hl 0 rfl) ?_
      refine gf_X11_28 hC rfl hK hP 0 rfl rfl dX11_hand_45 ?_
      refine lv_iload_n hx hb dX11_hand_48 rfl (lv_at hl 1 rfl) ?_
      refine lv_iload_n hx hb dX11_hand_49 rfl (lv_at hl 2 rfl) ?_
      refine pV hC hK hl hP hD (c_isInHandX l G sg jp je bb clk fi la ml mm sl sm cl110395 gla10398 bpersons bpapers bstamps bversions blines bsteps bsayings bfindings bwarnings bquestions td vd vl gp bpapersc kbpapers fbpapers (hkbpapers) (by omega) (by omega)) si_X11_200 [5, 9, 14, 1, 2] rfl rfl (by decide) rfl rfl rfl rfl rfl (Nat.le_of_ble_eq_true rfl) ⟨Nat.le_of_ble_eq_true rfl, Nat.le_of_ble_eq_true rfl⟩ ⟨by first | exact Nat.le_of_ble_eq_true rfl | exact Nat.zero_le _, by first | exact Nat.le_of_ble_eq_true rfl | exact Nat.zero_le _⟩ dX11_hand_50 (fun r10404 hr10404 => ?_)
      rcases hr10404 with ⟨rfl, a10405⟩ | ⟨rfl, a10405⟩
      · refine lv_if_ne (tgt := 59) hx hb dX11_hand_53 (by decide) (fun _ => ?_) (fun c9 => absurd c9 (by decide))
        refine lv_aload_n hx hb dX11_hand_59 rfl (lv_at hl 0 rfl) ?_
        refine gf_X11_28 hC rfl hK hP 0 rfl rfl dX11_hand_60 ?_
        refine lv_iload_n hx hb dX11_hand_63 rfl (lv_at hl 1 rfl) ?_
        refine lv_iload_n hx hb dX11_hand_64 rfl (lv_at hl 2 rfl) ?_
        refine lv_iload_n hx hb dX11_hand_65 rfl (lv_at hl 3 rfl) ?_
        refine pV hC hK hl hP hD (c_handHourX l G sg jp je x3 bb clk fi la ml mm sl sm cl110395 gla10398 gml10399 gmm10400 gsl10401 gsm10402 bpersons bpapers bstamps bversions blines bsteps bsayings bfindings bwarnings bquestions td vd vl gp bpapersc kbpapers fbpapers bpersonsc kbpersons fbpersons (hkbpapers) (hkbpersons) (a10405.1) (by omega) (by omega)) si_X11_203 [5, 9, 10, 11, 12, 13, 14, 1, 2, 3, 4] rfl rfl (by decide) rfl rfl rfl rfl rfl (Nat.le_of_ble_eq_true rfl) ⟨Nat.le_of_ble_eq_true rfl, Nat.le_of_ble_eq_true rfl⟩ ⟨by first | exact Nat.le_of_ble_eq_true rfl | exact Nat.zero_le _, by first | exact Nat.le_of_ble_eq_true rfl | exact Nat.zero_le _⟩ dX11_hand_66 (fun r10406 hr10406 => ?_)
        rcases hr10406 with ⟨rfl, a10407⟩ | ⟨rfl, a10407⟩ | ⟨rfl, a10407⟩ | ⟨rfl, a10407⟩
        · refine lv_sipush (v := 1000) hx hb dX11_hand_69 (by decide) ?_
          refine lv_iadd hx hb dX11_hand_72 ?_
          exact RI (v := (gmm10400 jp) + 1000) hC hP hD hS [0, 14, 5, 6, 7, 8, 9, 10, 11, 12, 13, 1, 2, 15, 16, 3, 4] (cl110395, gclm10396, gfi10397, gla10398, gml10399, gmm10400, gsl10401, gsm10402) rfl rfl (by decide) (⟨⟨(gmm10400 jp) + 1000, Or.inr ⟨jp, je, hjp, hje, rfl, rfl, HAQ.made w10403.2 (by omega) (by omega) a10405.1 a10407.1 (Or.inr ⟨a10407.2, rfl⟩)⟩, rfl⟩, w10403.1⟩) rfl dX11_hand_73
        · refine lv_sipush (v := 1000) hx hb dX11_hand_69 (by decide) ?_
          refine lv_iadd hx hb dX11_hand_72 ?_
          exact RI (v := (gml10399 jp) + 1000) hC hP hD hS [0, 14, 5, 6, 7, 8, 9, 10, 11, 12, 13, 1, 2, 15, 16, 3, 4] (cl110395, gclm10396, gfi10397, gla10398, gml10399, gmm10400, gsl10401, gsm10402) rfl rfl (by decide) (⟨⟨(gml10399 jp) + 1000, Or.inr ⟨jp, je, hjp, hje, rfl, rfl, HAQ.made w10403.2 (by omega) (by omega) a10405.1 a10407.1 (Or.inl ⟨a10407.2, rfl⟩)⟩, rfl⟩, w10403.1⟩) rfl dX11_hand_73
        · refine lv_sipush (v := 1000) hx hb dX11_hand_69 (by decide) ?_
          refine lv_iadd hx hb dX11_hand_72 ?_
          exact RI (v := (gsm10402 jp + fbpersons (je * 2 + 1)) + 1000) hC hP hD hS [0, 14, 5, 6, 7, 8, 9, 10, 11, 12, 13, 1, 2, 15, 16, 3, 4] (cl110395, gclm10396, gfi10397, gla10398, gml10399, gmm10400, gsl10401, gsm10402) rfl rfl (by decide) (⟨⟨(gsm10402 jp + fbpersons (je * 2 + 1)) + 1000, Or.inr ⟨jp, je, hjp, hje, rfl, rfl, HAQ.sent w10403.2 (by omega) (by omega) a10405.1 a10407.1 (a10405.2.resolve_left a10407.1) (Or.inr ⟨a10407.2, rfl⟩)⟩, rfl⟩, w10403.1⟩) rfl dX11_hand_73
        · refine lv_sipush (v := 1000) hx hb dX11_hand_69 (by decide) ?_
          refine lv_iadd hx hb dX11_hand_72 ?_
          exact RI (v := (gsl10401 jp) + 1000) hC hP hD hS [0, 14, 5, 6, 7, 8, 9, 10, 11, 12, 13, 1, 2, 15, 16, 3, 4] (cl110395, gclm10396, gfi10397, gla10398, gml10399, gmm10400, gsl10401, gsm10402) rfl rfl (by decide) (⟨⟨(gsl10401 jp) + 1000, Or.inr ⟨jp, je, hjp, hje, rfl, rfl, HAQ.sent w10403.2 (by omega) (by omega) a10405.1 a10407.1 (a10405.2.resolve_left a10407.1) (Or.inl ⟨a10407.2, rfl⟩)⟩, rfl⟩, w10403.1⟩) rfl dX11_hand_73
      · refine lv_if_ne (tgt := 59) hx hb dX11_hand_53 (by decide) (fun c9 => absurd (by decide) c9) (fun _ => ?_)
        refine lv_bipush (v := (-3)) hx hb dX11_hand_56 (by decide) ?_
        exact RI (v := (-3)) hC hP hD hS [0, 14, 5, 6, 7, 8, 9, 10, 11, 12, 13, 1, 2, 15, 16, 3, 4] (cl110395, gclm10396, gfi10397, gla10398, gml10399, gmm10400, gsl10401, gsm10402) rfl rfl (by decide) (⟨⟨(-3), Or.inr ⟨jp, je, hjp, hje, rfl, rfl, HAQ.no w10403.2 (by omega) (by omega) a10405⟩, rfl⟩, w10403.1⟩) rfl dX11_hand_58
    · refine lv_if_ne (tgt := 30) hx hb dX11_hand_25 (by decide) (fun c9 => absurd (by decide) c9) (fun _ => ?_)
      refine lv_iconst (v := (-1)) hx hb dX11_hand_28 (by decide) ?_
      exact RI (v := (-1)) hC hP hD hS [0, 1, 2, 3, 4, 5, 6, 7, 8, 9, 10, 11, 12, 13, 14, 15, 16] (cl, fclm, ffi, fla, fml, fmm, fsl, fsm) rfl rfl (by decide) (⟨⟨(-1), Or.inl ⟨fun h9 => a10390 h9.2, rfl⟩, rfl⟩, hcl⟩) rfl dX11_hand_29
  · refine lv_if_eq (tgt := 28) hx hb dX11_hand_11 (by decide) (fun _ => ?_) (fun c9 => absurd (by decide) c9)
    refine lv_iconst (v := (-1)) hx hb dX11_hand_28 (by decide) ?_
    exact RI (v := (-1)) hC hP hD hS [0, 1, 2, 3, 4, 5, 6, 7, 8, 9, 10, 11, 12, 13, 14, 15, 16] (cl, fclm, ffi, fla, fml, fmm, fsl, fsm) rfl rfl (by decide) (⟨⟨(-1), Or.inl ⟨fun h9 => a10388 h9.1, rfl⟩, rfl⟩, hcl⟩) rfl dX11_hand_29
set_option maxHeartbeats 4000000 in
set_option maxRecDepth 100000 in
theorem c_clockOfX (l : Launch) (G : GG) (h0 : Nat) (jp : Nat) (js : Nat) (bb : Nat) (clk : Nat) (fi : Nat) (la : Nat) (ml : Nat) (mm : Nat) (sl : Nat) (sm : Nat) (cl : Int32) (fla : Nat → Int32) (bpersons : Nat) (bpapers : Nat) (bstamps : Nat) (bversions : Nat) (blines : Nat) (bsteps : Nat) (bsayings : Nat) (bfindings : Nat) (bwarnings : Nat) (bquestions : Nat) (td : Int32) (vd : Int32) (vl : Int32) (gp : Int32) (bstampsc : Nat) (kbstamps : Nat) (fbstamps : Nat → Int32) (hkbstamps : kbstamps ≤ 24) (hSV : SVL fbstamps kbstamps) (hls : fla jp = nI js) (hjp : jp < 12) (hjs : js < kbstamps) : MP l G yX7_clockOf cX7_clockOf 2 (some .int) 3 [.ref h0, .int (nI jp)] [(h0, .inr (7, [.ref bb, .ref clk, .ref fi, .ref la, .ref ml, .ref mm, .ref sl, .ref sm, .int cl])), (la, .inl (G.2.1, 12, .inl fla)), (bb, .inr (0, [.ref bpersons, .ref bpapers, .ref bstamps, .ref bversions, .ref blines, .ref bsteps, .ref bsayings, .ref bfindings, .ref bwarnings, .ref bquestions, .int td, .int vd, .int vl, .int gp])), (bstamps, .inr (8, [.int 24, .int 3, .ref bstampsc, .int (nI kbstamps)])), (bstampsc, .inl (G.2.1, 72, .inl fbstamps))] (fun r : Int32 => r = nI (CKS fbstamps js)) := by
  refine MP.start (by decide +kernel) (Nat.le_of_ble_eq_true rfl) ?_
  intro p e s m below meth c ls hC hK hP hD hl
  have hl : lv_has ls 2 [(0, .ref h0), (1, .int (nI jp))] := hl
  obtain ⟨hx, hb, hr, hml, hB, hown, hlocks, hnm⟩ := id hC
  have wjp : Wi (nI jp) 0 11 := Wi_j (N := 11) rfl (by decide) (by omega)
  refine lv_iload_n hx hb dX7_clockOf_0 rfl (lv_at hl 1 rfl) ?_
  refine lv_iconst (v := 0) hx hb dX7_clockOf_1 (by decide) ?_
  refine lv_bipush (v := 11) hx hb dX7_clockOf_2 (by decide) ?_
  refine pSN hC hK hl (c_within l G (nI jp) 0 11) si_X7_64 rfl rfl (Nat.le_of_ble_eq_true rfl) ⟨Nat.le_of_ble_eq_true rfl, Nat.le_of_ble_eq_true rfl⟩ ⟨by first | exact Nat.le_of_ble_eq_true rfl | exact Nat.zero_le _, by first | exact Nat.le_of_ble_eq_true rfl | exact Nat.zero_le _⟩ dX7_clockOf_4 (fun r10408 hr10408 => ?_)
  rcases hr10408 with ⟨rfl, a10409⟩ | ⟨rfl, a10409⟩
  · refine lv_if_eq (tgt := 30) hx hb dX7_clockOf_7 (by decide) (fun c9 => absurd c9 (by decide)) (fun _ => ?_)
    refine lv_aload_n hx hb dX7_clockOf_10 rfl (lv_at hl 0 rfl) ?_
    refine gf_X7_37 hC rfl hK hP 0 rfl rfl dX7_clockOf_11 ?_
    refine gf_X7_48 hC rfl hK hP 2 rfl rfl dX7_clockOf_14 ?_
    refine lv_aload_n hx hb dX7_clockOf_17 rfl (lv_at hl 0 rfl) ?_
    refine gf_X7_22 hC rfl hK hP 0 rfl rfl dX7_clockOf_18 ?_
    refine lv_iload_n hx hb dX7_clockOf_21 rfl (lv_at hl 1 rfl) ?_
    refine ald hC hK hP 1 rfl (vp_in_nI (by omega) (by omega)) (k := jp) (nI_clamp (by omega)) (v := fla jp) rfl dX7_clockOf_22 ?_
    refine eqi (x1 := nI js) (hls) ?_
    refine lv_iconst (v := 1) hx hb dX7_clockOf_23 (by decide) ?_
    refine pV hC hK hl hP hD (c_T_at l G bstamps (nI js) 1 24 3 bstampsc kbstamps fbstamps (hkbstamps) (by omega) (by omega)) si_X7_60 [3, 4] rfl rfl (by decide) rfl rfl rfl rfl rfl (Nat.le_of_ble_eq_true rfl) ⟨Nat.le_of_ble_eq_true rfl, Nat.le_of_ble_eq_true rfl⟩ ⟨by first | exact Nat.le_of_ble_eq_true rfl | exact Nat.zero_le _, by first | exact Nat.le_of_ble_eq_true rfl | exact Nat.zero_le _⟩ dX7_clockOf_24 (fun r10410 hr10410 => ?_)
    refine eqi (x1 := nI (CKS fbstamps js)) ((hr10410.trans (tatq (by omega) (by omega) (by decide) (by decide) rfl)).trans (hSV.cke hjs)) ?_
    refine lv_goto (tgt := 31) hx hb dX7_clockOf_27 (by decide) ?_
    exact RP (v := nI (CKS fbstamps js)) hC (rfl) rfl dX7_clockOf_31
  · exact absurd wjp a10409
set_option maxHeartbeats 4000000 in
set_option maxRecDepth 100000 in
theorem c_readBetweenX (l : Launch) (G : GG) (h0 : Nat) (jp : Nat) (jo : Nat) (js : Nat) (jt : Nat) (bb : Nat) (clk : Nat) (fi : Nat) (la : Nat) (ml : Nat) (mm : Nat) (sl : Nat) (sm : Nat) (cl : Int32) (fla : Nat → Int32) (bpersons : Nat) (bpapers : Nat) (bstamps : Nat) (bversions : Nat) (blines : Nat) (bsteps : Nat) (bsayings : Nat) (bfindings : Nat) (bwarnings : Nat) (bquestions : Nat) (td : Int32) (vd : Int32) (vl : Int32) (gp : Int32) (bstampsc : Nat) (kbstamps : Nat) (fbstamps : Nat → Int32) (hkbstamps : kbstamps ≤ 24) (hSV : SVL fbstamps kbstamps) (hs1 : (cl = 0 ∧ ¬ fla jp < 0)) (hs2 : (cl = 0 ∧ ¬ fla jo < 0)) (hls : fla jp = nI js) (hlt : fla jo = nI jt) (hjp : jp < 12) (hjo : jo < 12) (hjs : js < kbstamps) (hjt : jt < kbstamps) : MP l G yX7_readBetween cX7_readBetween 3 (some .int) 3 [.ref h0, .int (nI jp), .int (nI jo)] [(h0, .inr (7, [.ref bb, .ref clk, .ref fi, .ref la, .ref ml, .ref mm, .ref sl, .ref sm, .int cl])), (la, .inl (G.2.1, 12, .inl fla)), (bb, .inr (0, [.ref bpersons, .ref bpapers, .ref bstamps, .ref bversions, .ref blines, .ref bsteps, .ref bsayings, .ref bfindings, .ref bwarnings, .ref bquestions, .int td, .int vd, .int vl, .int gp])), (bstamps, .inr (8, [.int 24, .int 3, .ref bstampsc, .int (nI kbstamps)])), (bstampsc, .inl (G.2.1, 72, .inl fbstamps))] (fun r : Int32 => r = (fbstamps (jt * 3 + 2) - fbstamps (js * 3 + 2))) := by
  refine MP.start (by decide +kernel) (Nat.le_of_ble_eq_true rfl) ?_
  intro p e s m below meth c ls hC hK hP hD hl
  have hl : lv_has ls 3 [(0, .ref h0), (1, .int (nI jp)), (2, .int (nI jo))] := hl
  obtain ⟨hx, hb, hr, hml, hB, hown, hlocks, hnm⟩ := id hC
  refine lv_aload_n hx hb dX7_readBetween_0 rfl (lv_at hl 0 rfl) ?_
  refine lv_iload_n hx hb dX7_readBetween_1 rfl (lv_at hl 1 rfl) ?_
  refine pV hC hK hl hP hD (c_isSentX l G h0 jp bb clk fi la ml mm sl sm cl fla (hjp)) si_X7_90 [0, 1] rfl rfl (by decide) rfl rfl rfl rfl rfl (Nat.le_of_ble_eq_true rfl) ⟨Nat.le_of_ble_eq_true rfl, Nat.le_of_ble_eq_true rfl⟩ ⟨by first | exact Nat.le_of_ble_eq_true rfl | exact Nat.zero_le _, by first | exact Nat.le_of_ble_eq_true rfl | exact Nat.zero_le _⟩ dX7_readBetween_2 (fun r10412 hr10412 => ?_)
  rcases hr10412 with ⟨rfl, a10413⟩ | ⟨rfl, a10413⟩
  · refine lv_if_eq (tgt := 16) hx hb dX7_readBetween_5 (by decide) (fun c9 => absurd c9 (by decide)) (fun _ => ?_)
    refine lv_aload_n hx hb dX7_readBetween_8 rfl (lv_at hl 0 rfl) ?_
    refine lv_iload_n hx hb dX7_readBetween_9 rfl (lv_at hl 2 rfl) ?_
    refine pV hC hK hl hP hD (c_isSentX l G h0 jo bb clk fi la ml mm sl sm cl fla (hjo)) si_X7_90 [0, 1] rfl rfl (by decide) rfl rfl rfl rfl rfl (Nat.le_of_ble_eq_true rfl) ⟨Nat.le_of_ble_eq_true rfl, Nat.le_of_ble_eq_true rfl⟩ ⟨by first | exact Nat.le_of_ble_eq_true rfl | exact Nat.zero_le _, by first | exact Nat.le_of_ble_eq_true rfl | exact Nat.zero_le _⟩ dX7_readBetween_10 (fun r10414 hr10414 => ?_)
    rcases hr10414 with ⟨rfl, a10415⟩ | ⟨rfl, a10415⟩
    · refine lv_if_ne (tgt := 18) hx hb dX7_readBetween_13 (by decide) (fun _ => ?_) (fun c9 => absurd c9 (by decide))
      refine lv_aload_n hx hb dX7_readBetween_18 rfl (lv_at hl 0 rfl) ?_
      refine gf_X7_37 hC rfl hK hP 0 rfl rfl dX7_readBetween_19 ?_
      refine gf_X7_48 hC rfl hK hP 2 rfl rfl dX7_readBetween_22 ?_
      refine lv_aload_n hx hb dX7_readBetween_25 rfl (lv_at hl 0 rfl) ?_
      refine gf_X7_22 hC rfl hK hP 0 rfl rfl dX7_readBetween_26 ?_
      refine lv_iload_n hx hb dX7_readBetween_29 rfl (lv_at hl 2 rfl) ?_
      refine ald hC hK hP 1 rfl (vp_in_nI (by omega) (by omega)) (k := jo) (nI_clamp (by omega)) (v := fla jo) rfl dX7_readBetween_30 ?_
      refine eqi (x1 := nI jt) (hlt) ?_
      refine lv_iconst (v := 2) hx hb dX7_readBetween_31 (by decide) ?_
      refine pV hC hK hl hP hD (c_T_at l G bstamps (nI jt) 2 24 3 bstampsc kbstamps fbstamps (hkbstamps) (by omega) (by omega)) si_X7_60 [3, 4] rfl rfl (by decide) rfl rfl rfl rfl rfl (Nat.le_of_ble_eq_true rfl) ⟨Nat.le_of_ble_eq_true rfl, Nat.le_of_ble_eq_true rfl⟩ ⟨by first | exact Nat.le_of_ble_eq_true rfl | exact Nat.zero_le _, by first | exact Nat.le_of_ble_eq_true rfl | exact Nat.zero_le _⟩ dX7_readBetween_32 (fun r10416 hr10416 => ?_)
      refine eqi (x1 := fbstamps (jt * 3 + 2)) (hr10416.trans (tatq (by omega) (by omega) (by decide) (by decide) rfl)) ?_
      refine lv_aload_n hx hb dX7_readBetween_35 rfl (lv_at hl 0 rfl) ?_
      refine gf_X7_37 hC rfl hK hP 0 rfl rfl dX7_readBetween_36 ?_
      refine gf_X7_48 hC rfl hK hP 2 rfl rfl dX7_readBetween_39 ?_
      refine lv_aload_n hx hb dX7_readBetween_42 rfl (lv_at hl 0 rfl) ?_
      refine gf_X7_22 hC rfl hK hP 0 rfl rfl dX7_readBetween_43 ?_
      refine lv_iload_n hx hb dX7_readBetween_46 rfl (lv_at hl 1 rfl) ?_
      refine ald hC hK hP 1 rfl (vp_in_nI (by omega) (by omega)) (k := jp) (nI_clamp (by omega)) (v := fla jp) rfl dX7_readBetween_47 ?_
      refine eqi (x1 := nI js) (hls) ?_
      refine lv_iconst (v := 2) hx hb dX7_readBetween_48 (by decide) ?_
      refine pV hC hK hl hP hD (c_T_at l G bstamps (nI js) 2 24 3 bstampsc kbstamps fbstamps (hkbstamps) (by omega) (by omega)) si_X7_60 [3, 4] rfl rfl (by decide) rfl rfl rfl rfl rfl (Nat.le_of_ble_eq_true rfl) ⟨Nat.le_of_ble_eq_true rfl, Nat.le_of_ble_eq_true rfl⟩ ⟨by first | exact Nat.le_of_ble_eq_true rfl | exact Nat.zero_le _, by first | exact Nat.le_of_ble_eq_true rfl | exact Nat.zero_le _⟩ dX7_readBetween_49 (fun r10418 hr10418 => ?_)
      refine eqi (x1 := fbstamps (js * 3 + 2)) (hr10418.trans (tatq (by omega) (by omega) (by decide) (by decide) rfl)) ?_
      refine lv_isub hx hb dX7_readBetween_52 ?_
      exact RP (v := (fbstamps (jt * 3 + 2)) - (fbstamps (js * 3 + 2))) hC (rfl) rfl dX7_readBetween_53
    · exact absurd hs2 a10415
  · exact absurd hs1 a10413
set_option maxHeartbeats 4000000 in
set_option maxRecDepth 100000 in
theorem c_leastBetweenX (l : Launch) (G : GG) (h0 : Nat) (jp : Nat) (jo : Nat) (js : Nat) (jt : Nat) (bb : Nat) (clk : Nat) (fi : Nat) (la : Nat) (ml : Nat) (mm : Nat) (sl : Nat) (sm : Nat) (cl : Int32) (fla : Nat → Int32) (clm : Nat) (fclm : Nat → Int32) (bpersons : Nat) (bpapers : Nat) (bstamps : Nat) (bversions : Nat) (blines : Nat) (bsteps : Nat) (bsayings : Nat) (bfindings : Nat) (bwarnings : Nat) (bquestions : Nat) (td : Int32) (vd : Int32) (vl : Int32) (gp : Int32) (bstampsc : Nat) (kbstamps : Nat) (fbstamps : Nat → Int32) (hkbstamps : kbstamps ≤ 24) (hSV : SVL fbstamps kbstamps) (hs1 : (cl = 0 ∧ ¬ fla jp < 0)) (hs2 : (cl = 0 ∧ ¬ fla jo < 0)) (hls : fla jp = nI js) (hlt : fla jo = nI jt) (hjp : jp < 12) (hjo : jo < 12) (hjs : js < kbstamps) (hjt : jt < kbstamps) : MP l G yX7_leastBetween cX7_leastBetween 3 (some .int) 4 [.ref h0, .int (nI jp), .int (nI jo)] [(h0, .inr (7, [.ref bb, .ref clk, .ref fi, .ref la, .ref ml, .ref mm, .ref sl, .ref sm, .int cl])), (la, .inl (G.2.1, 12, .inl fla)), (clk, .inr (1, [.ref clm])), (clm, .inl (G.2.1, 36, .inl fclm)), (bb, .inr (0, [.ref bpersons, .ref bpapers, .ref bstamps, .ref bversions, .ref blines, .ref bsteps, .ref bsayings, .ref bfindings, .ref bwarnings, .ref bquestions, .int td, .int vd, .int vl, .int gp])), (bstamps, .inr (8, [.int 24, .int 3, .ref bstampsc, .int (nI kbstamps)])), (bstampsc, .inl (G.2.1, 72, .inl fbstamps))] (fun r : Int32 => r = (fbstamps (jt * 3 + 2) - fbstamps (js * 3 + 2) - fclm (CKS fbstamps js * 6 + CKS fbstamps jt))) := by
  refine MP.start (by decide +kernel) (Nat.le_of_ble_eq_true rfl) ?_
  intro p e s m below meth c ls hC hK hP hD hl
  have hl : lv_has ls 3 [(0, .ref h0), (1, .int (nI jp)), (2, .int (nI jo))] := hl
  obtain ⟨hx, hb, hr, hml, hB, hown, hlocks, hnm⟩ := id hC
  have hck1 := hSV.ck hjs
  have hck2 := hSV.ck hjt
  refine lv_aload_n hx hb dX7_leastBetween_0 rfl (lv_at hl 0 rfl) ?_
  refine lv_iload_n hx hb dX7_leastBetween_1 rfl (lv_at hl 1 rfl) ?_
  refine lv_iload_n hx hb dX7_leastBetween_2 rfl (lv_at hl 2 rfl) ?_
  refine pV hC hK hl hP hD (c_readBetweenX l G h0 jp jo js jt bb clk fi la ml mm sl sm cl fla bpersons bpapers bstamps bversions blines bsteps bsayings bfindings bwarnings bquestions td vd vl gp bstampsc kbstamps fbstamps (hkbstamps) (hSV) (hs1) (hs2) (hls) (hlt) (hjp) (hjo) (hjs) (hjt)) si_X7_113 [0, 1, 4, 5, 6] rfl rfl (by decide) rfl rfl rfl rfl rfl (Nat.le_of_ble_eq_true rfl) ⟨Nat.le_of_ble_eq_true rfl, Nat.le_of_ble_eq_true rfl⟩ ⟨by first | exact Nat.le_of_ble_eq_true rfl | exact Nat.zero_le _, by first | exact Nat.le_of_ble_eq_true rfl | exact Nat.zero_le _⟩ dX7_leastBetween_3 (fun r10420 hr10420 => ?_)
  obtain rfl := hr10420
  refine lv_aload_n hx hb dX7_leastBetween_6 rfl (lv_at hl 0 rfl) ?_
  refine gf_X7_12 hC rfl hK hP 0 rfl rfl dX7_leastBetween_7 ?_
  refine lv_aload_n hx hb dX7_leastBetween_10 rfl (lv_at hl 0 rfl) ?_
  refine lv_iload_n hx hb dX7_leastBetween_11 rfl (lv_at hl 1 rfl) ?_
  refine pV hC hK hl hP hD (c_clockOfX l G h0 jp js bb clk fi la ml mm sl sm cl fla bpersons bpapers bstamps bversions blines bsteps bsayings bfindings bwarnings bquestions td vd vl gp bstampsc kbstamps fbstamps (hkbstamps) (hSV) (hls) (hjp) (hjs)) si_X7_116 [0, 1, 4, 5, 6] rfl rfl (by decide) rfl rfl rfl rfl rfl (Nat.le_of_ble_eq_true rfl) ⟨Nat.le_of_ble_eq_true rfl, Nat.le_of_ble_eq_true rfl⟩ ⟨by first | exact Nat.le_of_ble_eq_true rfl | exact Nat.zero_le _, by first | exact Nat.le_of_ble_eq_true rfl | exact Nat.zero_le _⟩ dX7_leastBetween_12 (fun r10422 hr10422 => ?_)
  obtain rfl := hr10422
  refine lv_aload_n hx hb dX7_leastBetween_15 rfl (lv_at hl 0 rfl) ?_
  refine lv_iload_n hx hb dX7_leastBetween_16 rfl (lv_at hl 2 rfl) ?_
  refine pV hC hK hl hP hD (c_clockOfX l G h0 jo jt bb clk fi la ml mm sl sm cl fla bpersons bpapers bstamps bversions blines bsteps bsayings bfindings bwarnings bquestions td vd vl gp bstampsc kbstamps fbstamps (hkbstamps) (hSV) (hlt) (hjo) (hjt)) si_X7_116 [0, 1, 4, 5, 6] rfl rfl (by decide) rfl rfl rfl rfl rfl (Nat.le_of_ble_eq_true rfl) ⟨Nat.le_of_ble_eq_true rfl, Nat.le_of_ble_eq_true rfl⟩ ⟨by first | exact Nat.le_of_ble_eq_true rfl | exact Nat.zero_le _, by first | exact Nat.le_of_ble_eq_true rfl | exact Nat.zero_le _⟩ dX7_leastBetween_17 (fun r10424 hr10424 => ?_)
  obtain rfl := hr10424
  refine pV hC hK hl hP hD (c_mostAheadX l G clk (CKS fbstamps js) (CKS fbstamps jt) clm fclm (by omega) (by omega)) si_X7_87 [2, 3] rfl rfl (by decide) rfl rfl rfl rfl rfl (Nat.le_of_ble_eq_true rfl) ⟨Nat.le_of_ble_eq_true rfl, Nat.le_of_ble_eq_true rfl⟩ ⟨by first | exact Nat.le_of_ble_eq_true rfl | exact Nat.zero_le _, by first | exact Nat.le_of_ble_eq_true rfl | exact Nat.zero_le _⟩ dX7_leastBetween_20 (fun r10426 hr10426 => ?_)
  obtain rfl := hr10426
  refine lv_isub hx hb dX7_leastBetween_23 ?_
  exact RP (v := (fbstamps (jt * 3 + 2) - fbstamps (js * 3 + 2)) - (fclm ((CKS fbstamps js) * 6 + (CKS fbstamps jt)))) hC (rfl) rfl dX7_leastBetween_24
set_option maxHeartbeats 4000000 in
set_option maxRecDepth 100000 in
theorem c_mostBetweenX (l : Launch) (G : GG) (h0 : Nat) (jp : Nat) (jo : Nat) (js : Nat) (jt : Nat) (bb : Nat) (clk : Nat) (fi : Nat) (la : Nat) (ml : Nat) (mm : Nat) (sl : Nat) (sm : Nat) (cl : Int32) (fla : Nat → Int32) (clm : Nat) (fclm : Nat → Int32) (bpersons : Nat) (bpapers : Nat) (bstamps : Nat) (bversions : Nat) (blines : Nat) (bsteps : Nat) (bsayings : Nat) (bfindings : Nat) (bwarnings : Nat) (bquestions : Nat) (td : Int32) (vd : Int32) (vl : Int32) (gp : Int32) (bstampsc : Nat) (kbstamps : Nat) (fbstamps : Nat → Int32) (hkbstamps : kbstamps ≤ 24) (hSV : SVL fbstamps kbstamps) (hs1 : (cl = 0 ∧ ¬ fla jp < 0)) (hs2 : (cl = 0 ∧ ¬ fla jo < 0)) (hls : fla jp = nI js) (hlt : fla jo = nI jt) (hjp : jp < 12) (hjo : jo < 12) (hjs : js < kbstamps) (hjt : jt < kbstamps) : MP l G yX7_mostBetween cX7_mostBetween 3 (some .int) 4 [.ref h0, .int (nI jp), .int (nI jo)] [(h0, .inr (7, [.ref bb, .ref clk, .ref fi, .ref la, .ref ml, .ref mm, .ref sl, .ref sm, .int cl])), (la, .inl (G.2.1, 12, .inl fla)), (clk, .inr (1, [.ref clm])), (clm, .inl (G.2.1, 36, .inl fclm)), (bb, .inr (0, [.ref bpersons, .ref bpapers, .ref bstamps, .ref bversions, .ref blines, .ref bsteps, .ref bsayings, .ref bfindings, .ref bwarnings, .ref bquestions, .int td, .int vd, .int vl, .int gp])), (bstamps, .inr (8, [.int 24, .int 3, .ref bstampsc, .int (nI kbstamps)])), (bstampsc, .inl (G.2.1, 72, .inl fbstamps))] (fun r : Int32 => r = (fbstamps (jt * 3 + 2) - fbstamps (js * 3 + 2) + fclm (CKS fbstamps jt * 6 + CKS fbstamps js))) := by
  refine MP.start (by decide +kernel) (Nat.le_of_ble_eq_true rfl) ?_
  intro p e s m below meth c ls hC hK hP hD hl
  have hl : lv_has ls 3 [(0, .ref h0), (1, .int (nI jp)), (2, .int (nI jo))] := hl
  obtain ⟨hx, hb, hr, hml, hB, hown, hlocks, hnm⟩ := id hC
  have hck1 := hSV.ck hjs
  have hck2 := hSV.ck hjt
  refine lv_aload_n hx hb dX7_mostBetween_0 rfl (lv_at hl 0 rfl) ?_
  refine lv_iload_n hx hb dX7_mostBetween_1 rfl (lv_at hl 1 rfl) ?_
  refine lv_iload_n hx hb dX7_mostBetween_2 rfl (lv_at hl 2 rfl) ?_
  refine pV hC hK hl hP hD (c_readBetweenX l G h0 jp jo js jt bb clk fi la ml mm sl sm cl fla bpersons bpapers bstamps bversions blines bsteps bsayings bfindings bwarnings bquestions td vd vl gp bstampsc kbstamps fbstamps (hkbstamps) (hSV) (hs1) (hs2) (hls) (hlt) (hjp) (hjo) (hjs) (hjt)) si_X7_113 [0, 1, 4, 5, 6] rfl rfl (by decide) rfl rfl rfl rfl rfl (Nat.le_of_ble_eq_true rfl) ⟨Nat.le_of_ble_eq_true rfl, Nat.le_of_ble_eq_true rfl⟩ ⟨by first | exact Nat.le_of_ble_eq_true rfl | exact Nat.zero_le _, by first | exact Nat.le_of_ble_eq_true rfl | exact Nat.zero_le _⟩ dX7_mostBetween_3 (fun r10428 hr10428 => ?_)
  obtain rfl := hr10428
  refine lv_aload_n hx hb dX7_mostBetween_6 rfl (lv_at hl 0 rfl) ?_
  refine gf_X7_12 hC rfl hK hP 0 rfl rfl dX7_mostBetween_7 ?_
  refine lv_aload_n hx hb dX7_mostBetween_10 rfl (lv_at hl 0 rfl) ?_
  refine lv_iload_n hx hb dX7_mostBetween_11 rfl (lv_at hl 2 rfl) ?_
  refine pV hC hK hl hP hD (c_clockOfX l G h0 jo jt bb clk fi la ml mm sl sm cl fla bpersons bpapers bstamps bversions blines bsteps bsayings bfindings bwarnings bquestions td vd vl gp bstampsc kbstamps fbstamps (hkbstamps) (hSV) (hlt) (hjo) (hjt)) si_X7_116 [0, 1, 4, 5, 6] rfl rfl (by decide) rfl rfl rfl rfl rfl (Nat.le_of_ble_eq_true rfl) ⟨Nat.le_of_ble_eq_true rfl, Nat.le_of_ble_eq_true rfl⟩ ⟨by first | exact Nat.le_of_ble_eq_true rfl | exact Nat.zero_le _, by first | exact Nat.le_of_ble_eq_true rfl | exact Nat.zero_le _⟩ dX7_mostBetween_12 (fun r10430 hr10430 => ?_)
  obtain rfl := hr10430
  refine lv_aload_n hx hb dX7_mostBetween_15 rfl (lv_at hl 0 rfl) ?_
  refine lv_iload_n hx hb dX7_mostBetween_16 rfl (lv_at hl 1 rfl) ?_
  refine pV hC hK hl hP hD (c_clockOfX l G h0 jp js bb clk fi la ml mm sl sm cl fla bpersons bpapers bstamps bversions blines bsteps bsayings bfindings bwarnings bquestions td vd vl gp bstampsc kbstamps fbstamps (hkbstamps) (hSV) (hls) (hjp) (hjs)) si_X7_116 [0, 1, 4, 5, 6] rfl rfl (by decide) rfl rfl rfl rfl rfl (Nat.le_of_ble_eq_true rfl) ⟨Nat.le_of_ble_eq_true rfl, Nat.le_of_ble_eq_true rfl⟩ ⟨by first | exact Nat.le_of_ble_eq_true rfl | exact Nat.zero_le _, by first | exact Nat.le_of_ble_eq_true rfl | exact Nat.zero_le _⟩ dX7_mostBetween_17 (fun r10432 hr10432 => ?_)
  obtain rfl := hr10432
  refine pV hC hK hl hP hD (c_mostAheadX l G clk (CKS fbstamps jt) (CKS fbstamps js) clm fclm (by omega) (by omega)) si_X7_87 [2, 3] rfl rfl (by decide) rfl rfl rfl rfl rfl (Nat.le_of_ble_eq_true rfl) ⟨Nat.le_of_ble_eq_true rfl, Nat.le_of_ble_eq_true rfl⟩ ⟨by first | exact Nat.le_of_ble_eq_true rfl | exact Nat.zero_le _, by first | exact Nat.le_of_ble_eq_true rfl | exact Nat.zero_le _⟩ dX7_mostBetween_20 (fun r10434 hr10434 => ?_)
  obtain rfl := hr10434
  refine lv_iadd hx hb dX7_mostBetween_23 ?_
  exact RP (v := (fbstamps (jt * 3 + 2) - fbstamps (js * 3 + 2)) + (fclm ((CKS fbstamps jt) * 6 + (CKS fbstamps js)))) hC (rfl) rfl dX7_mostBetween_24
set_option maxHeartbeats 4000000 in
set_option maxRecDepth 100000 in
theorem p_beforeT (l : Launch) (G : GG) (h0 : Nat) (x1 : Int32) (x2 : Int32) (bb : Nat) (kk : Nat) (ikp : Int32) (sg : Nat) (do9 : Nat) (ru9 : Nat) (ta9 : Nat) (tp9 : Nat) (ro9 : Nat) (ho9 : Nat) (de9 : Nat) (bpersons : Nat) (bpapers : Nat) (bstamps : Nat) (bversions : Nat) (blines : Nat) (bsteps : Nat) (bsayings : Nat) (bfindings : Nat) (bwarnings : Nat) (bquestions : Nat) (td : Int32) (vd : Int32) (vl : Int32) (gp : Int32) (clk : Nat) (fi : Nat) (la : Nat) (ml : Nat) (mm : Nat) (sl : Nat) (sm : Nat) (cl : Int32) (clm : Nat) (fclm : Nat → Int32) (ffi : Nat → Int32) (fla : Nat → Int32) (fml : Nat → Int32) (fmm : Nat → Int32) (fsl : Nat → Int32) (fsm : Nat → Int32) (bpapersc : Nat) (kbpapers : Nat) (fbpapers : Nat → Int32) (bstampsc : Nat) (kbstamps : Nat) (fbstamps : Nat → Int32) (hkbpapers : kbpapers ≤ 12) (hkbstamps : kbstamps ≤ 24) (hcl : cl = 0 ∨ cl = 1) (hSV : SVL fbstamps kbstamps) (hgp : GPR gp) : MI l G yX11_before cX11_before 3 (some .int) 7 0 0 [.ref h0, .int x1, .int x2] [(h0, .inr (11, [.ref bb, .ref kk, .int ikp, .ref sg, .ref do9, .ref ru9, .ref ta9, .ref tp9, .ref ro9, .ref ho9, .ref de9])), (bb, .inr (0, [.ref bpersons, .ref bpapers, .ref bstamps, .ref bversions, .ref blines, .ref bsteps, .ref bsayings, .ref bfindings, .ref bwarnings, .ref bquestions, .int td, .int vd, .int vl, .int gp])), (sg, .inr (7, [.ref bb, .ref clk, .ref fi, .ref la, .ref ml, .ref mm, .ref sl, .ref sm, .int cl])), (clk, .inr (1, [.ref clm])), (clm, .inl (G.2.1, 36, .inl fclm)), (fi, .inl (G.2.1, 12, .inl ffi)), (la, .inl (G.2.1, 12, .inl fla)), (ml, .inl (G.2.1, 12, .inl fml)), (mm, .inl (G.2.1, 12, .inl fmm)), (sl, .inl (G.2.1, 12, .inl fsl)), (sm, .inl (G.2.1, 12, .inl fsm)), (bpapers, .inr (8, [.int 12, .int 6, .ref bpapersc, .int (nI kbpapers)])), (bpapersc, .inl (G.2.1, 72, .inl fbpapers)), (bstamps, .inr (8, [.int 24, .int 3, .ref bstampsc, .int (nI kbstamps)])), (bstampsc, .inl (G.2.1, 72, .inl fbstamps))] (fun (r : Int32) (u : Int32 × (Nat → Int32) × (Nat → Int32) × (Nat → Int32) × (Nat → Int32) × (Nat → Int32) × (Nat → Int32) × (Nat → Int32)) => (∃ s9, (BFQ (KST fbstamps (VPP (IVW fbpapers td vd vl kbpapers)) gp.toInt kbstamps) fbstamps (VPP (IVW fbpapers td vd vl kbpapers)) kbstamps kbpapers x1 x2 s9) ∧ r = s9) ∧ (u.1 = 0 ∨ u.1 = 1)) (fun u : Int32 × (Nat → Int32) × (Nat → Int32) × (Nat → Int32) × (Nat → Int32) × (Nat → Int32) × (Nat → Int32) × (Nat → Int32) => [(h0, .inr (11, [.ref bb, .ref kk, .int ikp, .ref sg, .ref do9, .ref ru9, .ref ta9, .ref tp9, .ref ro9, .ref ho9, .ref de9])), (bb, .inr (0, [.ref bpersons, .ref bpapers, .ref bstamps, .ref bversions, .ref blines, .ref bsteps, .ref bsayings, .ref bfindings, .ref bwarnings, .ref bquestions, .int td, .int vd, .int vl, .int gp])), (sg, .inr (7, [.ref bb, .ref clk, .ref fi, .ref la, .ref ml, .ref mm, .ref sl, .ref sm, .int u.1])), (clk, .inr (1, [.ref clm])), (clm, .inl (G.2.1, 36, .inl u.2.1)), (fi, .inl (G.2.1, 12, .inl u.2.2.1)), (la, .inl (G.2.1, 12, .inl u.2.2.2.1)), (ml, .inl (G.2.1, 12, .inl u.2.2.2.2.1)), (mm, .inl (G.2.1, 12, .inl u.2.2.2.2.2.1)), (sl, .inl (G.2.1, 12, .inl u.2.2.2.2.2.2.1)), (sm, .inl (G.2.1, 12, .inl u.2.2.2.2.2.2.2)), (bpapers, .inr (8, [.int 12, .int 6, .ref bpapersc, .int (nI kbpapers)])), (bpapersc, .inl (G.2.1, 72, .inl fbpapers)), (bstamps, .inr (8, [.int 24, .int 3, .ref bstampsc, .int (nI kbstamps)])), (bstampsc, .inl (G.2.1, 72, .inl fbstamps))]) := by
  refine MI.start (by decide +kernel) (Nat.le_of_ble_eq_true rfl) ?_
  intro p e s m below meth c A ls hC hK hP hD hS hA hl
  have hl : lv_has ls 3 [(0, .ref h0), (1, .int x1), (2, .int x2)] := hl
  obtain ⟨hx, hb, hr, hml, hB, hown, hlocks, hnm⟩ := id hC
  refine lv_aload_n hx hb dX11_before_0 rfl (lv_at hl 0 rfl) ?_
  refine gf_X11_15 hC rfl hK hP 0 rfl rfl dX11_before_1 ?_
  refine gf_X11_144 hC rfl hK hP 1 rfl rfl dX11_before_4 ?_
  refine lv_iload_n hx hb dX11_before_7 rfl (lv_at hl 1 rfl) ?_
  refine pV hC hK hl hP hD (c_T_has l G bpapers x1 12 6 bpapersc kbpapers) si_X11_124 [11] rfl rfl (by decide) rfl rfl rfl rfl rfl (Nat.le_of_ble_eq_true rfl) ⟨Nat.le_of_ble_eq_true rfl, Nat.le_of_ble_eq_true rfl⟩ ⟨by first | exact Nat.le_of_ble_eq_true rfl | exact Nat.zero_le _, by first | exact Nat.le_of_ble_eq_true rfl | exact Nat.zero_le _⟩ dX11_before_8 (fun r10436 hr10436 => ?_)
  rcases hr10436 with ⟨rfl, a10437⟩ | ⟨rfl, a10437⟩
  · refine lv_if_eq (tgt := 33) hx hb dX11_before_11 (by decide) (fun c9 => absurd c9 (by decide)) (fun _ => ?_)
    refine lv_aload_n hx hb dX11_before_14 rfl (lv_at hl 0 rfl) ?_
    refine gf_X11_15 hC rfl hK hP 0 rfl rfl dX11_before_15 ?_
    refine gf_X11_144 hC rfl hK hP 1 rfl rfl dX11_before_18 ?_
    refine lv_iload_n hx hb dX11_before_21 rfl (lv_at hl 2 rfl) ?_
    refine pV hC hK hl hP hD (c_T_has l G bpapers x2 12 6 bpapersc kbpapers) si_X11_124 [11] rfl rfl (by decide) rfl rfl rfl rfl rfl (Nat.le_of_ble_eq_true rfl) ⟨Nat.le_of_ble_eq_true rfl, Nat.le_of_ble_eq_true rfl⟩ ⟨by first | exact Nat.le_of_ble_eq_true rfl | exact Nat.zero_le _, by first | exact Nat.le_of_ble_eq_true rfl | exact Nat.zero_le _⟩ dX11_before_22 (fun r10438 hr10438 => ?_)
    rcases hr10438 with ⟨rfl, a10439⟩ | ⟨rfl, a10439⟩
    · refine lv_if_eq (tgt := 33) hx hb dX11_before_25 (by decide) (fun c9 => absurd c9 (by decide)) (fun _ => ?_)
      refine lv_iload_n hx hb dX11_before_28 rfl (lv_at hl 1 rfl) ?_
      refine lv_iload_n hx hb dX11_before_29 rfl (lv_at hl 2 rfl) ?_
      refine lv_icmp_ne (tgt := 35) hx hb dX11_before_30 (by decide) (fun c_30_10440 => ?_) (fun c_30_10440 => ?_)
      · obtain ⟨jp, hjp, rfl⟩ := Hs_nat (by omega) a10437
        obtain ⟨jo, hjo, rfl⟩ := Hs_nat (by omega) a10439
        refine lv_aload_n hx hb dX11_before_35 rfl (lv_at hl 0 rfl) ?_
        refine gf_X11_28 hC rfl hK hP 0 rfl rfl dX11_before_36 ?_
        refine lv_aload_n hx hb dX11_before_39 rfl (lv_at hl 0 rfl) ?_
        refine gf_X11_15 hC rfl hK hP 0 rfl rfl dX11_before_40 ?_
        refine pV hC hK hl hP hD (c_inViewX l G bb bpersons bpapers bstamps bversions blines bsteps bsayings bfindings bwarnings bquestions td vd vl gp bpapersc kbpapers fbpapers (hkbpapers)) si_X11_97 [1, 11, 12] rfl rfl (by decide) rfl rfl rfl rfl rfl (Nat.le_of_ble_eq_true rfl) ⟨Nat.le_of_ble_eq_true rfl, Nat.le_of_ble_eq_true rfl⟩ ⟨by first | exact Nat.le_of_ble_eq_true rfl | exact Nat.zero_le _, by first | exact Nat.le_of_ble_eq_true rfl | exact Nat.zero_le _⟩ dX11_before_43 (fun r10441 hr10441 => ?_)
        obtain rfl := hr10441
        refine vV (wr := [(h0, .inr (11, [.ref bb, .ref kk, .int ikp, .ref sg, .ref do9, .ref ru9, .ref ta9, .ref tp9, .ref ro9, .ref ho9, .ref de9])), (bpapers, .inr (8, [.int 12, .int 6, .ref bpapersc, .int (nI kbpapers)])), (bpapersc, .inl (G.2.1, 72, .inl fbpapers))]) hC hK hl hP hD hS hA (c_lookX l G sg (IVW fbpapers td vd vl kbpapers) bb clk fi la ml mm sl sm cl clm fclm ffi fla fml fmm fsl fsm bpersons bpapers bstamps bversions blines bsteps bsayings bfindings bwarnings bquestions td vd vl gp bstampsc kbstamps fbstamps (hkbstamps) (hSV) (hgp)) si_X11_183 [2, 3, 4, 5, 6, 7, 8, 9, 10, 1, 13, 14] [0, 11, 12] rfl rfl (by decide) rfl (by decide) (by decide) rfl rfl rfl rfl rfl (Nat.le_of_ble_eq_true rfl) ⟨Nat.le_of_ble_eq_true rfl, Nat.le_of_ble_eq_true rfl⟩ ⟨Nat.le_of_ble_eq_true rfl, Nat.le_of_ble_eq_true rfl⟩ dX11_before_46 (fun u10444 H locs hr10443 hP hD hS => ?_)
        obtain ⟨cl110445, gclm10446, gfi10447, gla10448, gml10449, gmm10450, gsl10451, gsm10452⟩ := u10444
        try dsimp only at hr10443
        have hPD : va_PD G A [(h0, .inr (11, [.ref bb, .ref kk, .int ikp, .ref sg, .ref do9, .ref ru9, .ref ta9, .ref tp9, .ref ro9, .ref ho9, .ref de9])), (bpapers, .inr (8, [.int 12, .int 6, .ref bpapersc, .int (nI kbpapers)])), (bpapersc, .inl (G.2.1, 72, .inl fbpapers)), (sg, .inr (7, [.ref bb, .ref clk, .ref fi, .ref la, .ref ml, .ref mm, .ref sl, .ref sm, .int cl110445])), (clk, .inr (1, [.ref clm])), (clm, .inl (G.2.1, 36, .inl gclm10446)), (fi, .inl (G.2.1, 12, .inl gfi10447)), (la, .inl (G.2.1, 12, .inl gla10448)), (ml, .inl (G.2.1, 12, .inl gml10449)), (mm, .inl (G.2.1, 12, .inl gmm10450)), (sl, .inl (G.2.1, 12, .inl gsl10451)), (sm, .inl (G.2.1, 12, .inl gsm10452)), (bb, .inr (0, [.ref bpersons, .ref bpapers, .ref bstamps, .ref bversions, .ref blines, .ref bsteps, .ref bsayings, .ref bfindings, .ref bwarnings, .ref bquestions, .int td, .int vd, .int vl, .int gp])), (bstamps, .inr (8, [.int 24, .int 3, .ref bstampsc, .int (nI kbstamps)])), (bstampsc, .inl (G.2.1, 72, .inl fbstamps))] H := And.intro hP hD
        obtain ⟨hP, hD⟩ := hPD
        have w10453 := hr10443
        refine lv_aload_n hx hb dX11_before_49 rfl (lv_at hl 0 rfl) ?_
        refine gf_X11_28 hC rfl hK hP 0 rfl rfl dX11_before_50 ?_
        refine lv_iload_n hx hb dX11_before_53 rfl (lv_at hl 1 rfl) ?_
        refine pV hC hK hl hP hD (c_isSentX l G sg jp bb clk fi la ml mm sl sm cl110445 gla10448 (by omega)) si_X11_194 [3, 7] rfl rfl (by decide) rfl rfl rfl rfl rfl (Nat.le_of_ble_eq_true rfl) ⟨Nat.le_of_ble_eq_true rfl, Nat.le_of_ble_eq_true rfl⟩ ⟨by first | exact Nat.le_of_ble_eq_true rfl | exact Nat.zero_le _, by first | exact Nat.le_of_ble_eq_true rfl | exact Nat.zero_le _⟩ dX11_before_54 (fun r10454 hr10454 => ?_)
        rcases hr10454 with ⟨rfl, a10455⟩ | ⟨rfl, a10455⟩
        · refine lv_if_eq (tgt := 71) hx hb dX11_before_57 (by decide) (fun c9 => absurd c9 (by decide)) (fun _ => ?_)
          refine lv_aload_n hx hb dX11_before_60 rfl (lv_at hl 0 rfl) ?_
          refine gf_X11_28 hC rfl hK hP 0 rfl rfl dX11_before_61 ?_
          refine lv_iload_n hx hb dX11_before_64 rfl (lv_at hl 2 rfl) ?_
          refine pV hC hK hl hP hD (c_isSentX l G sg jo bb clk fi la ml mm sl sm cl110445 gla10448 (by omega)) si_X11_194 [3, 7] rfl rfl (by decide) rfl rfl rfl rfl rfl (Nat.le_of_ble_eq_true rfl) ⟨Nat.le_of_ble_eq_true rfl, Nat.le_of_ble_eq_true rfl⟩ ⟨by first | exact Nat.le_of_ble_eq_true rfl | exact Nat.zero_le _, by first | exact Nat.le_of_ble_eq_true rfl | exact Nat.zero_le _⟩ dX11_before_65 (fun r10456 hr10456 => ?_)
          rcases hr10456 with ⟨rfl, a10457⟩ | ⟨rfl, a10457⟩
          · refine lv_if_ne (tgt := 74) hx hb dX11_before_68 (by decide) (fun _ => ?_) (fun c9 => absurd c9 (by decide))
            obtain ⟨hcb9, hvjp, js, hljp, eljp⟩ := LKP.lastn w10453.2 (p := jp) (by omega) a10455
            have hjs := hljp.1
            obtain ⟨hcb9, hvjo, jt, hljo, eljo⟩ := LKP.lastn w10453.2 (p := jo) (by omega) a10457
            have hjt := hljo.1
            refine lv_aload_n hx hb dX11_before_74 rfl (lv_at hl 0 rfl) ?_
            refine gf_X11_28 hC rfl hK hP 0 rfl rfl dX11_before_75 ?_
            refine lv_iload_n hx hb dX11_before_78 rfl (lv_at hl 1 rfl) ?_
            refine lv_iload_n hx hb dX11_before_79 rfl (lv_at hl 2 rfl) ?_
            refine pV hC hK hl hP hD (c_leastBetweenX l G sg jp jo js jt bb clk fi la ml mm sl sm cl110445 gla10448 clm gclm10446 bpersons bpapers bstamps bversions blines bsteps bsayings bfindings bwarnings bquestions td vd vl gp bstampsc kbstamps fbstamps (hkbstamps) (hSV) (a10455) (a10457) (eljp) (eljo) (by omega) (by omega) (by omega) (by omega)) si_X11_207 [3, 7, 4, 5, 12, 13, 14] rfl rfl (by decide) rfl rfl rfl rfl rfl (Nat.le_of_ble_eq_true rfl) ⟨Nat.le_of_ble_eq_true rfl, Nat.le_of_ble_eq_true rfl⟩ ⟨by first | exact Nat.le_of_ble_eq_true rfl | exact Nat.zero_le _, by first | exact Nat.le_of_ble_eq_true rfl | exact Nat.zero_le _⟩ dX11_before_80 (fun r10458 hr10458 => ?_)
            obtain rfl := hr10458
            refine lv_if_le (tgt := 88) hx hb dX11_before_83 (by decide) (fun c_83_10460 => ?_) (fun c_83_10460 => ?_)
            · refine lv_aload_n hx hb dX11_before_88 rfl (lv_at hl 0 rfl) ?_
              refine gf_X11_28 hC rfl hK hP 0 rfl rfl dX11_before_89 ?_
              refine lv_iload_n hx hb dX11_before_92 rfl (lv_at hl 1 rfl) ?_
              refine lv_iload_n hx hb dX11_before_93 rfl (lv_at hl 2 rfl) ?_
              refine pV hC hK hl hP hD (c_mostBetweenX l G sg jp jo js jt bb clk fi la ml mm sl sm cl110445 gla10448 clm gclm10446 bpersons bpapers bstamps bversions blines bsteps bsayings bfindings bwarnings bquestions td vd vl gp bstampsc kbstamps fbstamps (hkbstamps) (hSV) (a10455) (a10457) (eljp) (eljo) (by omega) (by omega) (by omega) (by omega)) si_X11_210 [3, 7, 4, 5, 12, 13, 14] rfl rfl (by decide) rfl rfl rfl rfl rfl (Nat.le_of_ble_eq_true rfl) ⟨Nat.le_of_ble_eq_true rfl, Nat.le_of_ble_eq_true rfl⟩ ⟨by first | exact Nat.le_of_ble_eq_true rfl | exact Nat.zero_le _, by first | exact Nat.le_of_ble_eq_true rfl | exact Nat.zero_le _⟩ dX11_before_94 (fun r10461 hr10461 => ?_)
              obtain rfl := hr10461
              refine lv_if_le (tgt := 104) hx hb dX11_before_97 (by decide) (fun c_97_10463 => ?_) (fun c_97_10463 => ?_)
              · refine lv_iconst (v := 0) hx hb dX11_before_104 (by decide) ?_
                exact RI (v := 0) hC hP hD hS [0, 12, 3, 4, 5, 6, 7, 8, 9, 10, 11, 1, 2, 13, 14] (cl110445, gclm10446, gfi10447, gla10448, gml10449, gmm10450, gsl10451, gsm10452) rfl rfl (by decide) (⟨⟨0, Or.inr ⟨jp, jo, hjp, hjo, rfl, rfl, fun h9 => c_30_10440 (congrArg nI h9), Or.inr ⟨_, js, jt, hcb9, hvjp, hvjo, hljp, hljo, BFV.nil ((BFV.least hcb9 hSV hjs hjt).mp c_83_10460) ((BFV.most hcb9 hSV hjs hjt).mp c_97_10463)⟩⟩, rfl⟩, w10453.1⟩) rfl dX11_before_105
              · refine lv_iconst (v := 1) hx hb dX11_before_100 (by decide) ?_
                refine lv_goto (tgt := 105) hx hb dX11_before_101 (by decide) ?_
                exact RI (v := 1) hC hP hD hS [0, 12, 3, 4, 5, 6, 7, 8, 9, 10, 11, 1, 2, 13, 14] (cl110445, gclm10446, gfi10447, gla10448, gml10449, gmm10450, gsl10451, gsm10452) rfl rfl (by decide) (⟨⟨1, Or.inr ⟨jp, jo, hjp, hjo, rfl, rfl, fun h9 => c_30_10440 (congrArg nI h9), Or.inr ⟨_, js, jt, hcb9, hvjp, hvjo, hljp, hljo, BFV.one ((BFV.least hcb9 hSV hjs hjt).mp c_83_10460) (Classical.byContradiction fun h8 => c_97_10463 ((BFV.most hcb9 hSV hjs hjt).mpr h8))⟩⟩, rfl⟩, w10453.1⟩) rfl dX11_before_105
            · refine lv_iconst (v := 2) hx hb dX11_before_86 (by decide) ?_
              exact RI (v := 2) hC hP hD hS [0, 12, 3, 4, 5, 6, 7, 8, 9, 10, 11, 1, 2, 13, 14] (cl110445, gclm10446, gfi10447, gla10448, gml10449, gmm10450, gsl10451, gsm10452) rfl rfl (by decide) (⟨⟨2, Or.inr ⟨jp, jo, hjp, hjo, rfl, rfl, fun h9 => c_30_10440 (congrArg nI h9), Or.inr ⟨_, js, jt, hcb9, hvjp, hvjo, hljp, hljo, BFV.two (Classical.byContradiction fun h8 => c_83_10460 ((BFV.least hcb9 hSV hjs hjt).mpr h8))⟩⟩, rfl⟩, w10453.1⟩) rfl dX11_before_87
          · refine lv_if_ne (tgt := 74) hx hb dX11_before_68 (by decide) (fun c9 => absurd (by decide) c9) (fun _ => ?_)
            refine lv_bipush (v := (-3)) hx hb dX11_before_71 (by decide) ?_
            exact RI (v := (-3)) hC hP hD hS [0, 12, 3, 4, 5, 6, 7, 8, 9, 10, 11, 1, 2, 13, 14] (cl110445, gclm10446, gfi10447, gla10448, gml10449, gmm10450, gsl10451, gsm10452) rfl rfl (by decide) (⟨⟨(-3), Or.inr ⟨jp, jo, hjp, hjo, rfl, rfl, fun h9 => c_30_10440 (congrArg nI h9), Or.inl ⟨(LKP.uns w10453.2 (p := jo) (by omega) (by omega) a10457).elim Or.inl (fun h9 => Or.inr (Or.inr h9)), rfl⟩⟩, rfl⟩, w10453.1⟩) rfl dX11_before_73
        · refine lv_if_eq (tgt := 71) hx hb dX11_before_57 (by decide) (fun _ => ?_) (fun c9 => absurd (by decide) c9)
          refine lv_bipush (v := (-3)) hx hb dX11_before_71 (by decide) ?_
          exact RI (v := (-3)) hC hP hD hS [0, 12, 3, 4, 5, 6, 7, 8, 9, 10, 11, 1, 2, 13, 14] (cl110445, gclm10446, gfi10447, gla10448, gml10449, gmm10450, gsl10451, gsm10452) rfl rfl (by decide) (⟨⟨(-3), Or.inr ⟨jp, jo, hjp, hjo, rfl, rfl, fun h9 => c_30_10440 (congrArg nI h9), Or.inl ⟨(LKP.uns w10453.2 (p := jp) (by omega) (by omega) a10455).elim Or.inl (fun h9 => Or.inr (Or.inl h9)), rfl⟩⟩, rfl⟩, w10453.1⟩) rfl dX11_before_73
      · refine lv_iconst (v := (-1)) hx hb dX11_before_33 (by decide) ?_
        exact RI (v := (-1)) hC hP hD hS [0, 1, 2, 3, 4, 5, 6, 7, 8, 9, 10, 11, 12, 13, 14] (cl, fclm, ffi, fla, fml, fmm, fsl, fsm) rfl rfl (by decide) (⟨⟨(-1), Or.inl ⟨fun h9 => h9.2.2 c_30_10440, rfl⟩, rfl⟩, hcl⟩) rfl dX11_before_34
    · refine lv_if_eq (tgt := 33) hx hb dX11_before_25 (by decide) (fun _ => ?_) (fun c9 => absurd (by decide) c9)
      refine lv_iconst (v := (-1)) hx hb dX11_before_33 (by decide) ?_
      exact RI (v := (-1)) hC hP hD hS [0, 1, 2, 3, 4, 5, 6, 7, 8, 9, 10, 11, 12, 13, 14] (cl, fclm, ffi, fla, fml, fmm, fsl, fsm) rfl rfl (by decide) (⟨⟨(-1), Or.inl ⟨fun h9 => a10439 h9.2.1, rfl⟩, rfl⟩, hcl⟩) rfl dX11_before_34
  · refine lv_if_eq (tgt := 33) hx hb dX11_before_11 (by decide) (fun _ => ?_) (fun c9 => absurd (by decide) c9)
    refine lv_iconst (v := (-1)) hx hb dX11_before_33 (by decide) ?_
    exact RI (v := (-1)) hC hP hD hS [0, 1, 2, 3, 4, 5, 6, 7, 8, 9, 10, 11, 12, 13, 14] (cl, fclm, ffi, fla, fml, fmm, fsl, fsm) rfl rfl (by decide) (⟨⟨(-1), Or.inl ⟨fun h9 => a10437 h9.1, rfl⟩, rfl⟩, hcl⟩) rfl dX11_before_34
set_option maxHeartbeats 4000000 in
set_option maxRecDepth 100000 in
theorem c_handHour0X (l : Launch) (G : GG) (h0 : Nat) (jp : Nat) (je : Nat) (bb : Nat) (clk : Nat) (fi : Nat) (la : Nat) (ml : Nat) (mm : Nat) (sl : Nat) (sm : Nat) (cl : Int32) (fla : Nat → Int32) (fml : Nat → Int32) (fmm : Nat → Int32) (fsl : Nat → Int32) (fsm : Nat → Int32) (bpersons : Nat) (bpapers : Nat) (bstamps : Nat) (bversions : Nat) (blines : Nat) (bsteps : Nat) (bsayings : Nat) (bfindings : Nat) (bwarnings : Nat) (bquestions : Nat) (td : Int32) (vd : Int32) (vl : Int32) (gp : Int32) (bpapersc : Nat) (kbpapers : Nat) (fbpapers : Nat → Int32) (bpersonsc : Nat) (kbpersons : Nat) (fbpersons : Nat → Int32) (hkbpapers : kbpapers ≤ 12) (hkbpersons : kbpersons ≤ 10) (hsn : (cl = 0 ∧ ¬ fla jp < 0)) (hjp : jp < kbpapers) (hje : je < kbpersons) : MP l G yX7_handHour cX7_handHour 4 (some .int) 3 [.ref h0, .int (nI jp), .int (nI je), .int 0] [(h0, .inr (7, [.ref bb, .ref clk, .ref fi, .ref la, .ref ml, .ref mm, .ref sl, .ref sm, .int cl])), (la, .inl (G.2.1, 12, .inl fla)), (ml, .inl (G.2.1, 12, .inl fml)), (mm, .inl (G.2.1, 12, .inl fmm)), (sl, .inl (G.2.1, 12, .inl fsl)), (sm, .inl (G.2.1, 12, .inl fsm)), (bb, .inr (0, [.ref bpersons, .ref bpapers, .ref bstamps, .ref bversions, .ref blines, .ref bsteps, .ref bsayings, .ref bfindings, .ref bwarnings, .ref bquestions, .int td, .int vd, .int vl, .int gp])), (bpapers, .inr (8, [.int 12, .int 6, .ref bpapersc, .int (nI kbpapers)])), (bpapersc, .inl (G.2.1, 72, .inl fbpapers)), (bpersons, .inr (8, [.int 10, .int 2, .ref bpersonsc, .int (nI kbpersons)])), (bpersonsc, .inl (G.2.1, 20, .inl fbpersons))] (fun r : Int32 => (r = (fml jp) ∧ fbpapers (jp * 6 + 0) = nI je) ∨ (r = (fsl jp) ∧ ¬ fbpapers (jp * 6 + 0) = nI je)) := by
  refine MP.start (by decide +kernel) (Nat.le_of_ble_eq_true rfl) ?_
  intro p e s m below meth c ls hC hK hP hD hl
  have hl : lv_has ls 4 [(0, .ref h0), (1, .int (nI jp)), (2, .int (nI je)), (3, .int 0)] := hl
  obtain ⟨hx, hb, hr, hml, hB, hown, hlocks, hnm⟩ := id hC
  refine lv_aload_n hx hb dX7_handHour_0 rfl (lv_at hl 0 rfl) ?_
  refine lv_iload_n hx hb dX7_handHour_1 rfl (lv_at hl 1 rfl) ?_
  refine pV hC hK hl hP hD (c_isSentX l G h0 jp bb clk fi la ml mm sl sm cl fla (by omega)) si_X7_90 [0, 1] rfl rfl (by decide) rfl rfl rfl rfl rfl (Nat.le_of_ble_eq_true rfl) ⟨Nat.le_of_ble_eq_true rfl, Nat.le_of_ble_eq_true rfl⟩ ⟨by first | exact Nat.le_of_ble_eq_true rfl | exact Nat.zero_le _, by first | exact Nat.le_of_ble_eq_true rfl | exact Nat.zero_le _⟩ dX7_handHour_2 (fun r10464 hr10464 => ?_)
  rcases hr10464 with ⟨rfl, a10465⟩ | ⟨rfl, a10465⟩
  · refine lv_if_ne (tgt := 10) hx hb dX7_handHour_5 (by decide) (fun _ => ?_) (fun c9 => absurd c9 (by decide))
    refine lv_aload_n hx hb dX7_handHour_10 rfl (lv_at hl 0 rfl) ?_
    refine gf_X7_37 hC rfl hK hP 0 rfl rfl dX7_handHour_11 ?_
    refine gf_X7_94 hC rfl hK hP 6 rfl rfl dX7_handHour_14 ?_
    refine lv_iload_n hx hb dX7_handHour_17 rfl (lv_at hl 1 rfl) ?_
    refine lv_iconst (v := 0) hx hb dX7_handHour_18 (by decide) ?_
    refine pV hC hK hl hP hD (c_T_at l G bpapers (nI jp) 0 12 6 bpapersc kbpapers fbpapers (hkbpapers) (by omega) (by omega)) si_X7_60 [7, 8] rfl rfl (by decide) rfl rfl rfl rfl rfl (Nat.le_of_ble_eq_true rfl) ⟨Nat.le_of_ble_eq_true rfl, Nat.le_of_ble_eq_true rfl⟩ ⟨by first | exact Nat.le_of_ble_eq_true rfl | exact Nat.zero_le _, by first | exact Nat.le_of_ble_eq_true rfl | exact Nat.zero_le _⟩ dX7_handHour_19 (fun r10466 hr10466 => ?_)
    refine eqi (x1 := fbpapers (jp * 6 + 0)) (hr10466.trans (tatq (by omega) (by omega) (by decide) (by decide) rfl)) ?_
    refine lv_iload_n hx hb dX7_handHour_22 rfl (lv_at hl 2 rfl) ?_
    refine lv_icmp_ne (tgt := 46) hx hb dX7_handHour_23 (by decide) (fun c_23_10468 => ?_) (fun c_23_10468 => ?_)
    · refine lv_iload_n hx hb dX7_handHour_46 rfl (lv_at hl 3 rfl) ?_
      refine lv_if_eq (tgt := 72) hx hb dX7_handHour_47 (by decide) (fun _ => ?_) (fun c9 => absurd (by decide) c9)
      refine lv_aload_n hx hb dX7_handHour_72 rfl (lv_at hl 0 rfl) ?_
      refine gf_X7_31 hC rfl hK hP 0 rfl rfl dX7_handHour_73 ?_
      refine lv_iload_n hx hb dX7_handHour_76 rfl (lv_at hl 1 rfl) ?_
      refine ald hC hK hP 4 rfl (vp_in_nI (by omega) (by omega)) (k := jp) (nI_clamp (by omega)) (v := fsl jp) rfl dX7_handHour_77 ?_
      exact RP (v := fsl jp) hC (Or.inr ⟨rfl, c_23_10468⟩) rfl dX7_handHour_78
    · refine lv_iload_n hx hb dX7_handHour_26 rfl (lv_at hl 3 rfl) ?_
      refine lv_if_eq (tgt := 39) hx hb dX7_handHour_27 (by decide) (fun _ => ?_) (fun c9 => absurd (by decide) c9)
      refine lv_aload_n hx hb dX7_handHour_39 rfl (lv_at hl 0 rfl) ?_
      refine gf_X7_25 hC rfl hK hP 0 rfl rfl dX7_handHour_40 ?_
      refine lv_iload_n hx hb dX7_handHour_43 rfl (lv_at hl 1 rfl) ?_
      refine ald hC hK hP 2 rfl (vp_in_nI (by omega) (by omega)) (k := jp) (nI_clamp (by omega)) (v := fml jp) rfl dX7_handHour_44 ?_
      exact RP (v := fml jp) hC (Or.inl ⟨rfl, c_23_10468⟩) rfl dX7_handHour_45
  · exact absurd hsn a10465
set_option maxHeartbeats 4000000 in
set_option maxRecDepth 100000 in
theorem c_handHour1X (l : Launch) (G : GG) (h0 : Nat) (jp : Nat) (je : Nat) (bb : Nat) (clk : Nat) (fi : Nat) (la : Nat) (ml : Nat) (mm : Nat) (sl : Nat) (sm : Nat) (cl : Int32) (fla : Nat → Int32) (fml : Nat → Int32) (fmm : Nat → Int32) (fsl : Nat → Int32) (fsm : Nat → Int32) (bpersons : Nat) (bpapers : Nat) (bstamps : Nat) (bversions : Nat) (blines : Nat) (bsteps : Nat) (bsayings : Nat) (bfindings : Nat) (bwarnings : Nat) (bquestions : Nat) (td : Int32) (vd : Int32) (vl : Int32) (gp : Int32) (bpapersc : Nat) (kbpapers : Nat) (fbpapers : Nat → Int32) (bpersonsc : Nat) (kbpersons : Nat) (fbpersons : Nat → Int32) (hkbpapers : kbpapers ≤ 12) (hkbpersons : kbpersons ≤ 10) (hsn : (cl = 0 ∧ ¬ fla jp < 0)) (hjp : jp < kbpapers) (hje : je < kbpersons) : MP l G yX7_handHour cX7_handHour 4 (some .int) 3 [.ref h0, .int (nI jp), .int (nI je), .int 1] [(h0, .inr (7, [.ref bb, .ref clk, .ref fi, .ref la, .ref ml, .ref mm, .ref sl, .ref sm, .int cl])), (la, .inl (G.2.1, 12, .inl fla)), (ml, .inl (G.2.1, 12, .inl fml)), (mm, .inl (G.2.1, 12, .inl fmm)), (sl, .inl (G.2.1, 12, .inl fsl)), (sm, .inl (G.2.1, 12, .inl fsm)), (bb, .inr (0, [.ref bpersons, .ref bpapers, .ref bstamps, .ref bversions, .ref blines, .ref bsteps, .ref bsayings, .ref bfindings, .ref bwarnings, .ref bquestions, .int td, .int vd, .int vl, .int gp])), (bpapers, .inr (8, [.int 12, .int 6, .ref bpapersc, .int (nI kbpapers)])), (bpapersc, .inl (G.2.1, 72, .inl fbpapers)), (bpersons, .inr (8, [.int 10, .int 2, .ref bpersonsc, .int (nI kbpersons)])), (bpersonsc, .inl (G.2.1, 20, .inl fbpersons))] (fun r : Int32 => (r = (fmm jp) ∧ fbpapers (jp * 6 + 0) = nI je) ∨ (r = (fsm jp + fbpersons (je * 2 + 1)) ∧ ¬ fbpapers (jp * 6 + 0) = nI je)) := by
  refine MP.start (by decide +kernel) (Nat.le_of_ble_eq_true rfl) ?_
  intro p e s m below meth c ls hC hK hP hD hl
  have hl : lv_has ls 4 [(0, .ref h0), (1, .int (nI jp)), (2, .int (nI je)), (3, .int 1)] := hl
  obtain ⟨hx, hb, hr, hml, hB, hown, hlocks, hnm⟩ := id hC
  refine lv_aload_n hx hb dX7_handHour_0 rfl (lv_at hl 0 rfl) ?_
  refine lv_iload_n hx hb dX7_handHour_1 rfl (lv_at hl 1 rfl) ?_
  refine pV hC hK hl hP hD (c_isSentX l G h0 jp bb clk fi la ml mm sl sm cl fla (by omega)) si_X7_90 [0, 1] rfl rfl (by decide) rfl rfl rfl rfl rfl (Nat.le_of_ble_eq_true rfl) ⟨Nat.le_of_ble_eq_true rfl, Nat.le_of_ble_eq_true rfl⟩ ⟨by first | exact Nat.le_of_ble_eq_true rfl | exact Nat.zero_le _, by first | exact Nat.le_of_ble_eq_true rfl | exact Nat.zero_le _⟩ dX7_handHour_2 (fun r10469 hr10469 => ?_)
  rcases hr10469 with ⟨rfl, a10470⟩ | ⟨rfl, a10470⟩
  · refine lv_if_ne (tgt := 10) hx hb dX7_handHour_5 (by decide) (fun _ => ?_) (fun c9 => absurd c9 (by decide))
    refine lv_aload_n hx hb dX7_handHour_10 rfl (lv_at hl 0 rfl) ?_
    refine gf_X7_37 hC rfl hK hP 0 rfl rfl dX7_handHour_11 ?_
    refine gf_X7_94 hC rfl hK hP 6 rfl rfl dX7_handHour_14 ?_
    refine lv_iload_n hx hb dX7_handHour_17 rfl (lv_at hl 1 rfl) ?_
    refine lv_iconst (v := 0) hx hb dX7_handHour_18 (by decide) ?_
    refine pV hC hK hl hP hD (c_T_at l G bpapers (nI jp) 0 12 6 bpapersc kbpapers fbpapers (hkbpapers) (by omega) (by omega)) si_X7_60 [7, 8] rfl rfl (by decide) rfl rfl rfl rfl rfl (Nat.le_of_ble_eq_true rfl) ⟨Nat.le_of_ble_eq_true rfl, Nat.le_of_ble_eq_true rfl⟩ ⟨by first | exact Nat.le_of_ble_eq_true rfl | exact Nat.zero_le _, by first | exact Nat.le_of_ble_eq_true rfl | exact Nat.zero_le _⟩ dX7_handHour_19 (fun r10471 hr10471 => ?_)
    refine eqi (x1 := fbpapers (jp * 6 + 0)) (hr10471.trans (tatq (by omega) (by omega) (by decide) (by decide) rfl)) ?_
    refine lv_iload_n hx hb dX7_handHour_22 rfl (lv_at hl 2 rfl) ?_
    refine lv_icmp_ne (tgt := 46) hx hb dX7_handHour_23 (by decide) (fun c_23_10473 => ?_) (fun c_23_10473 => ?_)
    · refine lv_iload_n hx hb dX7_handHour_46 rfl (lv_at hl 3 rfl) ?_
      refine lv_if_eq (tgt := 72) hx hb dX7_handHour_47 (by decide) (fun c9 => absurd c9 (by decide)) (fun _ => ?_)
      refine lv_aload_n hx hb dX7_handHour_50 rfl (lv_at hl 0 rfl) ?_
      refine gf_X7_34 hC rfl hK hP 0 rfl rfl dX7_handHour_51 ?_
      refine lv_iload_n hx hb dX7_handHour_54 rfl (lv_at hl 1 rfl) ?_
      refine ald hC hK hP 5 rfl (vp_in_nI (by omega) (by omega)) (k := jp) (nI_clamp (by omega)) (v := fsm jp) rfl dX7_handHour_55 ?_
      refine lv_aload_n hx hb dX7_handHour_56 rfl (lv_at hl 0 rfl) ?_
      refine gf_X7_37 hC rfl hK hP 0 rfl rfl dX7_handHour_57 ?_
      refine gf_X7_97 hC rfl hK hP 6 rfl rfl dX7_handHour_60 ?_
      refine lv_iload_n hx hb dX7_handHour_63 rfl (lv_at hl 2 rfl) ?_
      refine lv_iconst (v := 1) hx hb dX7_handHour_64 (by decide) ?_
      refine pV hC hK hl hP hD (c_T_at l G bpersons (nI je) 1 10 2 bpersonsc kbpersons fbpersons (hkbpersons) (by omega) (by omega)) si_X7_60 [9, 10] rfl rfl (by decide) rfl rfl rfl rfl rfl (Nat.le_of_ble_eq_true rfl) ⟨Nat.le_of_ble_eq_true rfl, Nat.le_of_ble_eq_true rfl⟩ ⟨by first | exact Nat.le_of_ble_eq_true rfl | exact Nat.zero_le _, by first | exact Nat.le_of_ble_eq_true rfl | exact Nat.zero_le _⟩ dX7_handHour_65 (fun r10474 hr10474 => ?_)
      refine eqi (x1 := fbpersons (je * 2 + 1)) (hr10474.trans (tatq (by omega) (by omega) (by decide) (by decide) rfl)) ?_
      refine lv_iadd hx hb dX7_handHour_68 ?_
      refine lv_goto (tgt := 78) hx hb dX7_handHour_69 (by decide) ?_
      exact RP (v := (fsm jp) + (fbpersons (je * 2 + 1))) hC (Or.inr ⟨rfl, c_23_10473⟩) rfl dX7_handHour_78
    · refine lv_iload_n hx hb dX7_handHour_26 rfl (lv_at hl 3 rfl) ?_
      refine lv_if_eq (tgt := 39) hx hb dX7_handHour_27 (by decide) (fun c9 => absurd c9 (by decide)) (fun _ => ?_)
      refine lv_aload_n hx hb dX7_handHour_30 rfl (lv_at hl 0 rfl) ?_
      refine gf_X7_28 hC rfl hK hP 0 rfl rfl dX7_handHour_31 ?_
      refine lv_iload_n hx hb dX7_handHour_34 rfl (lv_at hl 1 rfl) ?_
      refine ald hC hK hP 3 rfl (vp_in_nI (by omega) (by omega)) (k := jp) (nI_clamp (by omega)) (v := fmm jp) rfl dX7_handHour_35 ?_
      refine lv_goto (tgt := 45) hx hb dX7_handHour_36 (by decide) ?_
      exact RP (v := fmm jp) hC (Or.inl ⟨rfl, c_23_10473⟩) rfl dX7_handHour_45
  · exact absurd hsn a10470
set_option maxHeartbeats 4000000 in
set_option maxRecDepth 100000 in
theorem c_boundX (l : Launch) (G : GG) (K9 : Nat → Nat → Int → Prop) (V9 : Nat → Prop) (h0 : Nat) (je : Nat) (jp : Nat) (bb : Nat) (sg : Nat) (tf : Int32) (tt9 : Int32) (tl : Int32) (tbv : Int32) (clk : Nat) (fi : Nat) (la : Nat) (ml : Nat) (mm : Nat) (sl : Nat) (sm : Nat) (scl : Int32) (fla : Nat → Int32) (fml : Nat → Int32) (fmm : Nat → Int32) (fsl : Nat → Int32) (fsm : Nat → Int32) (bpersons : Nat) (bpapers : Nat) (bstamps : Nat) (bversions : Nat) (blines : Nat) (bsteps : Nat) (bsayings : Nat) (bfindings : Nat) (bwarnings : Nat) (bquestions : Nat) (td : Int32) (vd : Int32) (vl : Int32) (gp : Int32) (bpapersc : Nat) (kbpapers : Nat) (fbpapers : Nat → Int32) (bpersonsc : Nat) (kbpersons : Nat) (fbpersons : Nat → Int32) (fbstamps : Nat → Int32) (kbstamps : Nat) (hkbpapers : kbpapers ≤ 12) (hkbpersons : kbpersons ≤ 10) (hsg : SGQ K9 fbstamps V9 kbstamps scl fla fml fmm fsl fsm) (hjp : jp < kbpapers) (hje : je < kbpersons) : MV l G yX9_bound cX9_bound 4 4 0 0 [.ref h0, .int (nI je), .int (nI jp)] [(h0, .inr (9, [.ref bb, .ref sg, .int tf, .int tt9, .int tl, .int tbv])), (sg, .inr (7, [.ref bb, .ref clk, .ref fi, .ref la, .ref ml, .ref mm, .ref sl, .ref sm, .int scl])), (la, .inl (G.2.1, 12, .inl fla)), (ml, .inl (G.2.1, 12, .inl fml)), (mm, .inl (G.2.1, 12, .inl fmm)), (sl, .inl (G.2.1, 12, .inl fsl)), (sm, .inl (G.2.1, 12, .inl fsm)), (bb, .inr (0, [.ref bpersons, .ref bpapers, .ref bstamps, .ref bversions, .ref blines, .ref bsteps, .ref bsayings, .ref bfindings, .ref bwarnings, .ref bquestions, .int td, .int vd, .int vl, .int gp])), (bpapers, .inr (8, [.int 12, .int 6, .ref bpapersc, .int (nI kbpapers)])), (bpapersc, .inl (G.2.1, 72, .inl fbpapers)), (bpersons, .inr (8, [.int 10, .int 2, .ref bpersonsc, .int (nI kbpersons)])), (bpersonsc, .inl (G.2.1, 20, .inl fbpersons))] (fun u : Int32 × Int32 => HIQ K9 fbstamps V9 (fbpapers (jp * 6 + 0)) (fbpapers (jp * 6 + 1)) (fbpersons (je * 2 + 1)) kbstamps jp je u.1 u.2) (fun u : Int32 × Int32 => [(h0, .inr (9, [.ref bb, .ref sg, .int u.1, .int u.2, .int tl, .int tbv])), (sg, .inr (7, [.ref bb, .ref clk, .ref fi, .ref la, .ref ml, .ref mm, .ref sl, .ref sm, .int scl])), (la, .inl (G.2.1, 12, .inl fla)), (ml, .inl (G.2.1, 12, .inl fml)), (mm, .inl (G.2.1, 12, .inl fmm)), (sl, .inl (G.2.1, 12, .inl fsl)), (sm, .inl (G.2.1, 12, .inl fsm)), (bb, .inr (0, [.ref bpersons, .ref bpapers, .ref bstamps, .ref bversions, .ref blines, .ref bsteps, .ref bsayings, .ref bfindings, .ref bwarnings, .ref bquestions, .int td, .int vd, .int vl, .int gp])), (bpapers, .inr (8, [.int 12, .int 6, .ref bpapersc, .int (nI kbpapers)])), (bpapersc, .inl (G.2.1, 72, .inl fbpapers)), (bpersons, .inr (8, [.int 10, .int 2, .ref bpersonsc, .int (nI kbpersons)])), (bpersonsc, .inl (G.2.1, 20, .inl fbpersons))]) := by
  refine MV.start (by decide +kernel) (Nat.le_of_ble_eq_true rfl) ?_
  intro p e s m below meth c A ls hC hK hP hD hS hA hl
  have hl : lv_has ls 4 [(0, .ref h0), (1, .int (nI je)), (2, .int (nI jp))] := hl
  obtain ⟨hx, hb, hr, hml, hB, hown, hlocks, hnm⟩ := id hC
  refine lv_aload_n hx hb dX9_bound_0 rfl (lv_at hl 0 rfl) ?_
  refine gf_X9_15 hC rfl hK hP 0 rfl rfl dX9_bound_1 ?_
  refine lv_iload_n hx hb dX9_bound_4 rfl (lv_at hl 2 rfl) ?_
  refine lv_iload_n hx hb dX9_bound_5 rfl (lv_at hl 1 rfl) ?_
  refine pV hC hK hl hP hD (c_isInHandX l G sg jp je bb clk fi la ml mm sl sm scl fla bpersons bpapers bstamps bversions blines bsteps bsayings bfindings bwarnings bquestions td vd vl gp bpapersc kbpapers fbpapers (hkbpapers) (hjp) (by omega)) si_X9_32 [1, 2, 7, 8, 9] rfl rfl (by decide) rfl rfl rfl rfl rfl (Nat.le_of_ble_eq_true rfl) ⟨Nat.le_of_ble_eq_true rfl, Nat.le_of_ble_eq_true rfl⟩ ⟨by first | exact Nat.le_of_ble_eq_true rfl | exact Nat.zero_le _, by first | exact Nat.le_of_ble_eq_true rfl | exact Nat.zero_le _⟩ dX9_bound_6 (fun r10476 hr10476 => ?_)
  rcases hr10476 with ⟨rfl, a10477⟩ | ⟨rfl, a10477⟩
  · refine lv_istore_n (lv' := [(3, .int 1), (0, .ref h0), (1, .int (nI je)), (2, .int (nI jp))]) hx hb dX9_bound_9 rfl hl (by decide) rfl (fun ls hl => ?_)
    refine lv_aload_n hx hb dX9_bound_10 rfl (lv_at hl 1 rfl) ?_
    refine lv_iload_n hx hb dX9_bound_11 rfl (lv_at hl 0 rfl) ?_
    refine lv_if_eq (tgt := 28) hx hb dX9_bound_12 (by decide) (fun c9 => absurd c9 (by decide)) (fun _ => ?_)
    refine lv_aload_n hx hb dX9_bound_15 rfl (lv_at hl 1 rfl) ?_
    refine gf_X9_15 hC rfl hK hP 0 rfl rfl dX9_bound_16 ?_
    refine lv_iload_n hx hb dX9_bound_19 rfl (lv_at hl 3 rfl) ?_
    refine lv_iload_n hx hb dX9_bound_20 rfl (lv_at hl 2 rfl) ?_
    refine lv_iconst (v := 0) hx hb dX9_bound_21 (by decide) ?_
    refine pV hC hK hl hP hD (c_handHour0X l G sg jp je bb clk fi la ml mm sl sm scl fla fml fmm fsl fsm bpersons bpapers bstamps bversions blines bsteps bsayings bfindings bwarnings bquestions td vd vl gp bpapersc kbpapers fbpapers bpersonsc kbpersons fbpersons (hkbpapers) (hkbpersons) (a10477.1) (hjp) (hje)) si_X9_38 [1, 2, 3, 4, 5, 6, 7, 8, 9, 10, 11] rfl rfl (by decide) rfl rfl rfl rfl rfl (Nat.le_of_ble_eq_true rfl) ⟨Nat.le_of_ble_eq_true rfl, Nat.le_of_ble_eq_true rfl⟩ ⟨by first | exact Nat.le_of_ble_eq_true rfl | exact Nat.zero_le _, by first | exact Nat.le_of_ble_eq_true rfl | exact Nat.zero_le _⟩ dX9_bound_22 (fun r10478 hr10478 => ?_)
    rcases hr10478 with ⟨rfl, a10479⟩ | ⟨rfl, a10479⟩
    · refine lv_goto (tgt := 29) hx hb dX9_bound_25 (by decide) ?_
      refine pf_X9_19 hC rfl hK hP hD hS 0 (ws' := [(h0, .inr (9, [.ref bb, .ref sg, .int (fml jp), .int tt9, .int tl, .int tbv])), (sg, .inr (7, [.ref bb, .ref clk, .ref fi, .ref la, .ref ml, .ref mm, .ref sl, .ref sm, .int scl])), (la, .inl (G.2.1, 12, .inl fla)), (ml, .inl (G.2.1, 12, .inl fml)), (mm, .inl (G.2.1, 12, .inl fmm)), (sl, .inl (G.2.1, 12, .inl fsl)), (sm, .inl (G.2.1, 12, .inl fsm)), (bb, .inr (0, [.ref bpersons, .ref bpapers, .ref bstamps, .ref bversions, .ref blines, .ref bsteps, .ref bsayings, .ref bfindings, .ref bwarnings, .ref bquestions, .int td, .int vd, .int vl, .int gp])), (bpapers, .inr (8, [.int 12, .int 6, .ref bpapersc, .int (nI kbpapers)])), (bpapersc, .inl (G.2.1, 72, .inl fbpapers)), (bpersons, .inr (8, [.int 10, .int 2, .ref bpersonsc, .int (nI kbpersons)])), (bpersonsc, .inl (G.2.1, 20, .inl fbpersons))]) rfl (Nat.le_of_ble_eq_true rfl) rfl rfl rfl dX9_bound_29 (fun H locs hP hD hS => ?_)
      refine lv_aload_n hx hb dX9_bound_32 rfl (lv_at hl 1 rfl) ?_
      refine lv_iload_n hx hb dX9_bound_33 rfl (lv_at hl 0 rfl) ?_
      refine lv_if_eq (tgt := 50) hx hb dX9_bound_34 (by decide) (fun c9 => absurd c9 (by decide)) (fun _ => ?_)
      refine lv_aload_n hx hb dX9_bound_37 rfl (lv_at hl 1 rfl) ?_
      refine gf_X9_15 hC rfl hK hP 0 rfl rfl dX9_bound_38 ?_
      refine lv_iload_n hx hb dX9_bound_41 rfl (lv_at hl 3 rfl) ?_
      refine lv_iload_n hx hb dX9_bound_42 rfl (lv_at hl 2 rfl) ?_
      refine lv_iconst (v := 1) hx hb dX9_bound_43 (by decide) ?_
      refine pV hC hK hl hP hD (c_handHour1X l G sg jp je bb clk fi la ml mm sl sm scl fla fml fmm fsl fsm bpersons bpapers bstamps bversions blines bsteps bsayings bfindings bwarnings bquestions td vd vl gp bpapersc kbpapers fbpapers bpersonsc kbpersons fbpersons (hkbpapers) (hkbpersons) (a10477.1) (hjp) (hje)) si_X9_38 [1, 2, 3, 4, 5, 6, 7, 8, 9, 10, 11] rfl rfl (by decide) rfl rfl rfl rfl rfl (Nat.le_of_ble_eq_true rfl) ⟨Nat.le_of_ble_eq_true rfl, Nat.le_of_ble_eq_true rfl⟩ ⟨by first | exact Nat.le_of_ble_eq_true rfl | exact Nat.zero_le _, by first | exact Nat.le_of_ble_eq_true rfl | exact Nat.zero_le _⟩ dX9_bound_44 (fun r10480 hr10480 => ?_)
      rcases hr10480 with ⟨rfl, a10481⟩ | ⟨rfl, a10481⟩
      · refine lv_goto (tgt := 53) hx hb dX9_bound_47 (by decide) ?_
        refine pf_X9_23 hC rfl hK hP hD hS 0 (ws' := [(h0, .inr (9, [.ref bb, .ref sg, .int (fml jp), .int (fmm jp), .int tl, .int tbv])), (sg, .inr (7, [.ref bb, .ref clk, .ref fi, .ref la, .ref ml, .ref mm, .ref sl, .ref sm, .int scl])), (la, .inl (G.2.1, 12, .inl fla)), (ml, .inl (G.2.1, 12, .inl fml)), (mm, .inl (G.2.1, 12, .inl fmm)), (sl, .inl (G.2.1, 12, .inl fsl)), (sm, .inl (G.2.1, 12, .inl fsm)), (bb, .inr (0, [.ref bpersons, .ref bpapers, .ref bstamps, .ref bversions, .ref blines, .ref bsteps, .ref bsayings, .ref bfindings, .ref bwarnings, .ref bquestions, .int td, .int vd, .int vl, .int gp])), (bpapers, .inr (8, [.int 12, .int 6, .ref bpapersc, .int (nI kbpapers)])), (bpapersc, .inl (G.2.1, 72, .inl fbpapers)), (bpersons, .inr (8, [.int 10, .int 2, .ref bpersonsc, .int (nI kbpersons)])), (bpersonsc, .inl (G.2.1, 20, .inl fbpersons))]) rfl (Nat.le_of_ble_eq_true rfl) rfl rfl rfl dX9_bound_53 (fun H locs hP hD hS => ?_)
        exact RV hC hP hD hS [0, 1, 2, 3, 4, 5, 6, 7, 8, 9, 10, 11] ((fml jp), (fmm jp)) rfl rfl (by decide) (Or.inl (INQ.made hsg (by omega) a10477.1 a10481)) dX9_bound_56
      · exact absurd a10479 a10481
    · refine lv_goto (tgt := 29) hx hb dX9_bound_25 (by decide) ?_
      refine pf_X9_19 hC rfl hK hP hD hS 0 (ws' := [(h0, .inr (9, [.ref bb, .ref sg, .int (fsl jp), .int tt9, .int tl, .int tbv])), (sg, .inr (7, [.ref bb, .ref clk, .ref fi, .ref la, .ref ml, .ref mm, .ref sl, .ref sm, .int scl])), (la, .inl (G.2.1, 12, .inl fla)), (ml, .inl (G.2.1, 12, .inl fml)), (mm, .inl (G.2.1, 12, .inl fmm)), (sl, .inl (G.2.1, 12, .inl fsl)), (sm, .inl (G.2.1, 12, .inl fsm)), (bb, .inr (0, [.ref bpersons, .ref bpapers, .ref bstamps, .ref bversions, .ref blines, .ref bsteps, .ref bsayings, .ref bfindings, .ref bwarnings, .ref bquestions, .int td, .int vd, .int vl, .int gp])), (bpapers, .inr (8, [.int 12, .int 6, .ref bpapersc, .int (nI kbpapers)])), (bpapersc, .inl (G.2.1, 72, .inl fbpapers)), (bpersons, .inr (8, [.int 10, .int 2, .ref bpersonsc, .int (nI kbpersons)])), (bpersonsc, .inl (G.2.1, 20, .inl fbpersons))]) rfl (Nat.le_of_ble_eq_true rfl) rfl rfl rfl dX9_bound_29 (fun H locs hP hD hS => ?_)
      refine lv_aload_n hx hb dX9_bound_32 rfl (lv_at hl 1 rfl) ?_
      refine lv_iload_n hx hb dX9_bound_33 rfl (lv_at hl 0 rfl) ?_
      refine lv_if_eq (tgt := 50) hx hb dX9_bound_34 (by decide) (fun c9 => absurd c9 (by decide)) (fun _ => ?_)
      refine lv_aload_n hx hb dX9_bound_37 rfl (lv_at hl 1 rfl) ?_
      refine gf_X9_15 hC rfl hK hP 0 rfl rfl dX9_bound_38 ?_
      refine lv_iload_n hx hb dX9_bound_41 rfl (lv_at hl 3 rfl) ?_
      refine lv_iload_n hx hb dX9_bound_42 rfl (lv_at hl 2 rfl) ?_
      refine lv_iconst (v := 1) hx hb dX9_bound_43 (by decide) ?_
      refine pV hC hK hl hP hD (c_handHour1X l G sg jp je bb clk fi la ml mm sl sm scl fla fml fmm fsl fsm bpersons bpapers bstamps bversions blines bsteps bsayings bfindings bwarnings bquestions td vd vl gp bpapersc kbpapers fbpapers bpersonsc kbpersons fbpersons (hkbpapers) (hkbpersons) (a10477.1) (hjp) (hje)) si_X9_38 [1, 2, 3, 4, 5, 6, 7, 8, 9, 10, 11] rfl rfl (by decide) rfl rfl rfl rfl rfl (Nat.le_of_ble_eq_true rfl) ⟨Nat.le_of_ble_eq_true rfl, Nat.le_of_ble_eq_true rfl⟩ ⟨by first | exact Nat.le_of_ble_eq_true rfl | exact Nat.zero_le _, by first | exact Nat.le_of_ble_eq_true rfl | exact Nat.zero_le _⟩ dX9_bound_44 (fun r10482 hr10482 => ?_)
      rcases hr10482 with ⟨rfl, a10483⟩ | ⟨rfl, a10483⟩
      · exact absurd a10483 a10479
      · refine lv_goto (tgt := 53) hx hb dX9_bound_47 (by decide) ?_
        refine pf_X9_23 hC rfl hK hP hD hS 0 (ws' := [(h0, .inr (9, [.ref bb, .ref sg, .int (fsl jp), .int (fsm jp + fbpersons (je * 2 + 1)), .int tl, .int tbv])), (sg, .inr (7, [.ref bb, .ref clk, .ref fi, .ref la, .ref ml, .ref mm, .ref sl, .ref sm, .int scl])), (la, .inl (G.2.1, 12, .inl fla)), (ml, .inl (G.2.1, 12, .inl fml)), (mm, .inl (G.2.1, 12, .inl fmm)), (sl, .inl (G.2.1, 12, .inl fsl)), (sm, .inl (G.2.1, 12, .inl fsm)), (bb, .inr (0, [.ref bpersons, .ref bpapers, .ref bstamps, .ref bversions, .ref blines, .ref bsteps, .ref bsayings, .ref bfindings, .ref bwarnings, .ref bquestions, .int td, .int vd, .int vl, .int gp])), (bpapers, .inr (8, [.int 12, .int 6, .ref bpapersc, .int (nI kbpapers)])), (bpapersc, .inl (G.2.1, 72, .inl fbpapers)), (bpersons, .inr (8, [.int 10, .int 2, .ref bpersonsc, .int (nI kbpersons)])), (bpersonsc, .inl (G.2.1, 20, .inl fbpersons))]) rfl (Nat.le_of_ble_eq_true rfl) rfl rfl rfl dX9_bound_53 (fun H locs hP hD hS => ?_)
        exact RV hC hP hD hS [0, 1, 2, 3, 4, 5, 6, 7, 8, 9, 10, 11] ((fsl jp), (fsm jp + fbpersons (je * 2 + 1))) rfl rfl (by decide) (Or.inl (INQ.sent hsg (by omega) a10477.1 a10483 (a10477.2.resolve_left a10483))) dX9_bound_56
  · refine lv_istore_n (lv' := [(3, .int 0), (0, .ref h0), (1, .int (nI je)), (2, .int (nI jp))]) hx hb dX9_bound_9 rfl hl (by decide) rfl (fun ls hl => ?_)
    refine lv_aload_n hx hb dX9_bound_10 rfl (lv_at hl 1 rfl) ?_
    refine lv_iload_n hx hb dX9_bound_11 rfl (lv_at hl 0 rfl) ?_
    refine lv_if_eq (tgt := 28) hx hb dX9_bound_12 (by decide) (fun _ => ?_) (fun c9 => absurd (by decide) c9)
    refine lv_iconst (v := 0) hx hb dX9_bound_28 (by decide) ?_
    refine pf_X9_19 hC rfl hK hP hD hS 0 (ws' := [(h0, .inr (9, [.ref bb, .ref sg, .int 0, .int tt9, .int tl, .int tbv])), (sg, .inr (7, [.ref bb, .ref clk, .ref fi, .ref la, .ref ml, .ref mm, .ref sl, .ref sm, .int scl])), (la, .inl (G.2.1, 12, .inl fla)), (ml, .inl (G.2.1, 12, .inl fml)), (mm, .inl (G.2.1, 12, .inl fmm)), (sl, .inl (G.2.1, 12, .inl fsl)), (sm, .inl (G.2.1, 12, .inl fsm)), (bb, .inr (0, [.ref bpersons, .ref bpapers, .ref bstamps, .ref bversions, .ref blines, .ref bsteps, .ref bsayings, .ref bfindings, .ref bwarnings, .ref bquestions, .int td, .int vd, .int vl, .int gp])), (bpapers, .inr (8, [.int 12, .int 6, .ref bpapersc, .int (nI kbpapers)])), (bpapersc, .inl (G.2.1, 72, .inl fbpapers)), (bpersons, .inr (8, [.int 10, .int 2, .ref bpersonsc, .int (nI kbpersons)])), (bpersonsc, .inl (G.2.1, 20, .inl fbpersons))]) rfl (Nat.le_of_ble_eq_true rfl) rfl rfl rfl dX9_bound_29 (fun H locs hP hD hS => ?_)
    refine lv_aload_n hx hb dX9_bound_32 rfl (lv_at hl 1 rfl) ?_
    refine lv_iload_n hx hb dX9_bound_33 rfl (lv_at hl 0 rfl) ?_
    refine lv_if_eq (tgt := 50) hx hb dX9_bound_34 (by decide) (fun _ => ?_) (fun c9 => absurd (by decide) c9)
    refine lv_sipush (v := 1000) hx hb dX9_bound_50 (by decide) ?_
    refine pf_X9_23 hC rfl hK hP hD hS 0 (ws' := [(h0, .inr (9, [.ref bb, .ref sg, .int 0, .int 1000, .int tl, .int tbv])), (sg, .inr (7, [.ref bb, .ref clk, .ref fi, .ref la, .ref ml, .ref mm, .ref sl, .ref sm, .int scl])), (la, .inl (G.2.1, 12, .inl fla)), (ml, .inl (G.2.1, 12, .inl fml)), (mm, .inl (G.2.1, 12, .inl fmm)), (sl, .inl (G.2.1, 12, .inl fsl)), (sm, .inl (G.2.1, 12, .inl fsm)), (bb, .inr (0, [.ref bpersons, .ref bpapers, .ref bstamps, .ref bversions, .ref blines, .ref bsteps, .ref bsayings, .ref bfindings, .ref bwarnings, .ref bquestions, .int td, .int vd, .int vl, .int gp])), (bpapers, .inr (8, [.int 12, .int 6, .ref bpapersc, .int (nI kbpapers)])), (bpapersc, .inl (G.2.1, 72, .inl fbpapers)), (bpersons, .inr (8, [.int 10, .int 2, .ref bpersonsc, .int (nI kbpersons)])), (bpersonsc, .inl (G.2.1, 20, .inl fbpersons))]) rfl (Nat.le_of_ble_eq_true rfl) rfl rfl rfl dX9_bound_53 (fun H locs hP hD hS => ?_)
    exact RV hC hP hD hS [0, 1, 2, 3, 4, 5, 6, 7, 8, 9, 10, 11] (0, 1000) rfl rfl (by decide) (Or.inr ⟨NIQ.of hsg (by omega) a10477, rfl, rfl⟩) dX9_bound_56
set_option maxHeartbeats 4000000 in
set_option maxRecDepth 100000 in
theorem c_impOnesX (l : Launch) (G : GG) (K9 : Nat → Nat → Int → Prop) (V9 : Nat → Prop) (h0 : Nat) (bb : Nat) (sg : Nat) (tf : Int32) (tt9 : Int32) (tl : Int32) (tbv : Int32) (clk : Nat) (fi : Nat) (la : Nat) (ml : Nat) (mm : Nat) (sl : Nat) (sm : Nat) (scl : Int32) (fla : Nat → Int32) (fml : Nat → Int32) (fmm : Nat → Int32) (fsl : Nat → Int32) (fsm : Nat → Int32) (bpersons : Nat) (bpapers : Nat) (bstamps : Nat) (bversions : Nat) (blines : Nat) (bsteps : Nat) (bsayings : Nat) (bfindings : Nat) (bwarnings : Nat) (bquestions : Nat) (td : Int32) (vd : Int32) (vl : Int32) (gp : Int32) (bpapersc : Nat) (kbpapers : Nat) (fbpapers : Nat → Int32) (bpersonsc : Nat) (kbpersons : Nat) (fbpersons : Nat → Int32) (bsayingsc : Nat) (kbsayings : Nat) (fbsayings : Nat → Int32) (fbstamps : Nat → Int32) (kbstamps : Nat) (hkbpapers : kbpapers ≤ 12) (hkbpersons : kbpersons ≤ 10) (hkbsayings : kbsayings ≤ 16) (hSP : SPI fbsayings kbsayings kbpapers) (hSO : SPO fbsayings kbsayings kbpersons) (hsg : SGQ K9 fbstamps V9 kbstamps scl fla fml fmm fsl fsm) (hSV : SVL fbstamps kbstamps) : MI l G yX9_impossibleOnes cX9_impossibleOnes 6 (some .int) 6 0 0 [.ref h0, .int (IVW fbpapers td vd vl kbpapers)] [(h0, .inr (9, [.ref bb, .ref sg, .int tf, .int tt9, .int tl, .int tbv])), (sg, .inr (7, [.ref bb, .ref clk, .ref fi, .ref la, .ref ml, .ref mm, .ref sl, .ref sm, .int scl])), (la, .inl (G.2.1, 12, .inl fla)), (ml, .inl (G.2.1, 12, .inl fml)), (mm, .inl (G.2.1, 12, .inl fmm)), (sl, .inl (G.2.1, 12, .inl fsl)), (sm, .inl (G.2.1, 12, .inl fsm)), (bb, .inr (0, [.ref bpersons, .ref bpapers, .ref bstamps, .ref bversions, .ref blines, .ref bsteps, .ref bsayings, .ref bfindings, .ref bwarnings, .ref bquestions, .int td, .int vd, .int vl, .int gp])), (bpapers, .inr (8, [.int 12, .int 6, .ref bpapersc, .int (nI kbpapers)])), (bpapersc, .inl (G.2.1, 72, .inl fbpapers)), (bpersons, .inr (8, [.int 10, .int 2, .ref bpersonsc, .int (nI kbpersons)])), (bpersonsc, .inl (G.2.1, 20, .inl fbpersons)), (bsayings, .inr (8, [.int 16, .int 8, .ref bsayingsc, .int (nI kbsayings)])), (bsayingsc, .inl (G.2.1, 128, .inl fbsayings))] (fun (r : Int32) (u : Int32 × Int32) => (r = (IMB (fun s9 => CSQ fbsayings fbpapers td vd vl s9 ∧ IMS fbsayings (QSF K9 fbstamps V9 fbpapers fbpersons fbsayings kbstamps) s9) kbsayings))) (fun u : Int32 × Int32 => [(h0, .inr (9, [.ref bb, .ref sg, .int u.1, .int u.2, .int tl, .int tbv])), (sg, .inr (7, [.ref bb, .ref clk, .ref fi, .ref la, .ref ml, .ref mm, .ref sl, .ref sm, .int scl])), (la, .inl (G.2.1, 12, .inl fla)), (ml, .inl (G.2.1, 12, .inl fml)), (mm, .inl (G.2.1, 12, .inl fmm)), (sl, .inl (G.2.1, 12, .inl fsl)), (sm, .inl (G.2.1, 12, .inl fsm)), (bb, .inr (0, [.ref bpersons, .ref bpapers, .ref bstamps, .ref bversions, .ref blines, .ref bsteps, .ref bsayings, .ref bfindings, .ref bwarnings, .ref bquestions, .int td, .int vd, .int vl, .int gp])), (bpapers, .inr (8, [.int 12, .int 6, .ref bpapersc, .int (nI kbpapers)])), (bpapersc, .inl (G.2.1, 72, .inl fbpapers)), (bpersons, .inr (8, [.int 10, .int 2, .ref bpersonsc, .int (nI kbpersons)])), (bpersonsc, .inl (G.2.1, 20, .inl fbpersons)), (bsayings, .inr (8, [.int 16, .int 8, .ref bsayingsc, .int (nI kbsayings)])), (bsayingsc, .inl (G.2.1, 128, .inl fbsayings))]) := by
  refine MI.start (by decide +kernel) (Nat.le_of_ble_eq_true rfl) ?_
  intro p e s m below meth c A ls hC hK hP hD hS hA hl
  have hl : lv_has ls 6 [(0, .ref h0), (1, .int (IVW fbpapers td vd vl kbpapers))] := hl
  obtain ⟨hx, hb, hr, hml, hB, hown, hlocks, hnm⟩ := id hC
  refine lv_iconst (v := 0) hx hb dX9_impossibleOnes_0 (by decide) ?_
  refine lv_istore_n (lv' := [(2, .int 0), (0, .ref h0), (1, .int (IVW fbpapers td vd vl kbpapers))]) hx hb dX9_impossibleOnes_1 rfl hl (by decide) rfl (fun ls hl => ?_)
  refine lv_iconst (v := 0) hx hb dX9_impossibleOnes_2 (by decide) ?_
  refine lv_istore_n (lv' := [(3, .int 0), (2, .int 0), (0, .ref h0), (1, .int (IVW fbpapers td vd vl kbpapers))]) hx hb dX9_impossibleOnes_3 rfl hl (by decide) rfl (fun ls hl => ?_)
  have keyP : ∀ (nP kP : Nat) (bi : Int32) (wf : Int32) (wt : Int32) (H : Heap) (locs : List Loc) (ls : Array Slot), kP + nP = kbsayings → (bi = IMB (fun s9 => CSQ fbsayings fbpapers td vd vl s9 ∧ IMS fbsayings (QSF K9 fbstamps V9 fbpapers fbpersons fbsayings kbstamps) s9) kP) → va_PD G A [(h0, .inr (9, [.ref bb, .ref sg, .int wf, .int wt, .int tl, .int tbv])), (sg, .inr (7, [.ref bb, .ref clk, .ref fi, .ref la, .ref ml, .ref mm, .ref sl, .ref sm, .int scl])), (la, .inl (G.2.1, 12, .inl fla)), (ml, .inl (G.2.1, 12, .inl fml)), (mm, .inl (G.2.1, 12, .inl fmm)), (sl, .inl (G.2.1, 12, .inl fsl)), (sm, .inl (G.2.1, 12, .inl fsm)), (bb, .inr (0, [.ref bpersons, .ref bpapers, .ref bstamps, .ref bversions, .ref blines, .ref bsteps, .ref bsayings, .ref bfindings, .ref bwarnings, .ref bquestions, .int td, .int vd, .int vl, .int gp])), (bpapers, .inr (8, [.int 12, .int 6, .ref bpapersc, .int (nI kbpapers)])), (bpapersc, .inl (G.2.1, 72, .inl fbpapers)), (bpersons, .inr (8, [.int 10, .int 2, .ref bpersonsc, .int (nI kbpersons)])), (bpersonsc, .inl (G.2.1, 20, .inl fbpersons)), (bsayings, .inr (8, [.int 16, .int 8, .ref bsayingsc, .int (nI kbsayings)])), (bsayingsc, .inl (G.2.1, 128, .inl fbsayings))] H → va_S A s.heap H locs → lv_has ls 6 [(3, .int (nI kP)), (2, .int bi), (0, .ref h0), (1, .int (IVW fbpapers td vd vl kbpapers))] → W p l e (RM 6 0 0) s m ([.ref h0, .int (IVW fbpapers td vd vl kbpapers)] : List Value).toArray below meth c H locs 0 0 (MQ below (QI G (fun (r : Int32) (u : Int32 × Int32) => (r = (IMB (fun s9 => CSQ fbsayings fbpapers td vd vl s9 ∧ IMS fbsayings (QSF K9 fbstamps V9 fbpapers fbpersons fbsayings kbstamps) s9) kbsayings))) (fun u : Int32 × Int32 => [(h0, .inr (9, [.ref bb, .ref sg, .int u.1, .int u.2, .int tl, .int tbv])), (sg, .inr (7, [.ref bb, .ref clk, .ref fi, .ref la, .ref ml, .ref mm, .ref sl, .ref sm, .int scl])), (la, .inl (G.2.1, 12, .inl fla)), (ml, .inl (G.2.1, 12, .inl fml)), (mm, .inl (G.2.1, 12, .inl fmm)), (sl, .inl (G.2.1, 12, .inl fsl)), (sm, .inl (G.2.1, 12, .inl fsm)), (bb, .inr (0, [.ref bpersons, .ref bpapers, .ref bstamps, .ref bversions, .ref blines, .ref bsteps, .ref bsayings, .ref bfindings, .ref bwarnings, .ref bquestions, .int td, .int vd, .int vl, .int gp])), (bpapers, .inr (8, [.int 12, .int 6, .ref bpapersc, .int (nI kbpapers)])), (bpapersc, .inl (G.2.1, 72, .inl fbpapers)), (bpersons, .inr (8, [.int 10, .int 2, .ref bpersonsc, .int (nI kbpersons)])), (bpersonsc, .inl (G.2.1, 20, .inl fbpersons)), (bsayings, .inr (8, [.int 16, .int 8, .ref bsayingsc, .int (nI kbsayings)])), (bsayingsc, .inl (G.2.1, 128, .inl fbsayings))]) A) ([.ref h0, .int (IVW fbpapers td vd vl kbpapers)] : List Value).toArray s 0 0 A) (F0 m 4 ls []) := by
    intro nP
    induction nP with
    | zero =>
      intro kP bi wf wt H locs ls hkP hbi hPD hS hl
      obtain ⟨hP, hD⟩ := hPD
      obtain rfl : kbsayings = kP := by omega
      have hl : lv_has ls 6 [(3, .int (nI kbsayings)), (2, .int bi), (0, .ref h0), (1, .int (IVW fbpapers td vd vl kbpapers))] := hl
      refine lv_iload_n hx hb dX9_impossibleOnes_4 rfl (lv_at hl 0 rfl) ?_
      refine lv_aload_n hx hb dX9_impossibleOnes_5 rfl (lv_at hl 2 rfl) ?_
      refine gf_X9_9 hC rfl hK hP 0 rfl rfl dX9_impossibleOnes_6 ?_
      refine gf_X9_42 hC rfl hK hP 7 rfl rfl dX9_impossibleOnes_9 ?_
      refine pV hC hK hl hP hD (c_T_count l G bsayings 16 8 bsayingsc kbsayings) si_X9_65 [12] rfl rfl (by decide) rfl rfl rfl rfl rfl (Nat.le_of_ble_eq_true rfl) ⟨Nat.le_of_ble_eq_true rfl, Nat.le_of_ble_eq_true rfl⟩ ⟨by first | exact Nat.le_of_ble_eq_true rfl | exact Nat.zero_le _, by first | exact Nat.le_of_ble_eq_true rfl | exact Nat.zero_le _⟩ dX9_impossibleOnes_12 (fun r10484 hr10484 => ?_)
      obtain rfl := hr10484
      refine lv_icmp_ge (tgt := 141) hx hb dX9_impossibleOnes_15 (by decide) (fun _ => ?_) (fun c9 => absurd (Int32.le_refl _) c9)
      refine lv_iload_n hx hb dX9_impossibleOnes_141 rfl (lv_at hl 1 rfl) ?_
      exact RI (v := bi) hC hP hD hS [0, 1, 2, 3, 4, 5, 6, 7, 8, 9, 10, 11, 12, 13] (wf, wt) rfl rfl (by decide) (hbi) rfl dX9_impossibleOnes_142
    | succ nP ihP =>
      intro kP bi wf wt H locs ls hkP hbi hPD hS hl
      obtain ⟨hP, hD⟩ := hPD
      refine lv_iload_n hx hb dX9_impossibleOnes_4 rfl (lv_at hl 0 rfl) ?_
      refine lv_aload_n hx hb dX9_impossibleOnes_5 rfl (lv_at hl 2 rfl) ?_
      refine gf_X9_9 hC rfl hK hP 0 rfl rfl dX9_impossibleOnes_6 ?_
      refine gf_X9_42 hC rfl hK hP 7 rfl rfl dX9_impossibleOnes_9 ?_
      refine pV hC hK hl hP hD (c_T_count l G bsayings 16 8 bsayingsc kbsayings) si_X9_65 [12] rfl rfl (by decide) rfl rfl rfl rfl rfl (Nat.le_of_ble_eq_true rfl) ⟨Nat.le_of_ble_eq_true rfl, Nat.le_of_ble_eq_true rfl⟩ ⟨by first | exact Nat.le_of_ble_eq_true rfl | exact Nat.zero_le _, by first | exact Nat.le_of_ble_eq_true rfl | exact Nat.zero_le _⟩ dX9_impossibleOnes_12 (fun r10486 hr10486 => ?_)
      obtain rfl := hr10486
      refine lv_icmp_ge (tgt := 141) hx hb dX9_impossibleOnes_15 (by decide) (fun c9 => absurd c9 (nI_ge (a := kP) (b := kbsayings) (by omega) (by omega))) (fun _ => ?_)
      refine lv_aload_n hx hb dX9_impossibleOnes_18 rfl (lv_at hl 2 rfl) ?_
      refine gf_X9_9 hC rfl hK hP 0 rfl rfl dX9_impossibleOnes_19 ?_
      refine lv_iload_n hx hb dX9_impossibleOnes_22 rfl (lv_at hl 0 rfl) ?_
      refine lv_iload_n hx hb dX9_impossibleOnes_23 rfl (lv_at hl 3 rfl) ?_
      refine pV hC hK hl hP hD (c_countsX l G bb kP bpersons bpapers bstamps bversions blines bsteps bsayings bfindings bwarnings bquestions td vd vl gp bsayingsc kbsayings fbsayings bpapersc kbpapers fbpapers (hkbsayings) (hkbpapers) (hSP) (by omega)) si_X9_54 [7, 12, 13, 8, 9] rfl rfl (by decide) rfl rfl rfl rfl rfl (Nat.le_of_ble_eq_true rfl) ⟨Nat.le_of_ble_eq_true rfl, Nat.le_of_ble_eq_true rfl⟩ ⟨by first | exact Nat.le_of_ble_eq_true rfl | exact Nat.zero_le _, by first | exact Nat.le_of_ble_eq_true rfl | exact Nat.zero_le _⟩ dX9_impossibleOnes_24 (fun r10488 hr10488 => ?_)
      rcases hr10488 with ⟨rfl, a10489⟩ | ⟨rfl, a10489⟩
      · refine lv_if_ne (tgt := 33) hx hb dX9_impossibleOnes_27 (by decide) (fun _ => ?_) (fun c9 => absurd c9 (by decide))
        refine lv_aload_n hx hb dX9_impossibleOnes_33 rfl (lv_at hl 2 rfl) ?_
        refine lv_aload_n hx hb dX9_impossibleOnes_34 rfl (lv_at hl 2 rfl) ?_
        refine gf_X9_9 hC rfl hK hP 0 rfl rfl dX9_impossibleOnes_35 ?_
        refine gf_X9_42 hC rfl hK hP 7 rfl rfl dX9_impossibleOnes_38 ?_
        refine lv_iload_n hx hb dX9_impossibleOnes_41 rfl (lv_at hl 0 rfl) ?_
        refine lv_iconst (v := 1) hx hb dX9_impossibleOnes_42 (by decide) ?_
        refine pV hC hK hl hP hD (c_T_at l G bsayings (nI kP) 1 16 8 bsayingsc kbsayings fbsayings (hkbsayings) (by omega) (by omega)) si_X9_48 [12, 13] rfl rfl (by decide) rfl rfl rfl rfl rfl (Nat.le_of_ble_eq_true rfl) ⟨Nat.le_of_ble_eq_true rfl, Nat.le_of_ble_eq_true rfl⟩ ⟨by first | exact Nat.le_of_ble_eq_true rfl | exact Nat.zero_le _, by first | exact Nat.le_of_ble_eq_true rfl | exact Nat.zero_le _⟩ dX9_impossibleOnes_43 (fun r10490 hr10490 => ?_)
        obtain ⟨jo, hjo, ejo⟩ := Hs_nat (by omega) (hSO kP (by omega)).1
        refine eqi (x1 := nI jo) ((hr10490.trans (tatq (by omega) (by omega) (by decide) (by decide) rfl)).trans ejo) ?_
        refine lv_aload_n hx hb dX9_impossibleOnes_46 rfl (lv_at hl 2 rfl) ?_
        refine gf_X9_9 hC rfl hK hP 0 rfl rfl dX9_impossibleOnes_47 ?_
        refine gf_X9_42 hC rfl hK hP 7 rfl rfl dX9_impossibleOnes_50 ?_
        refine lv_iload_n hx hb dX9_impossibleOnes_53 rfl (lv_at hl 0 rfl) ?_
        refine lv_iconst (v := 2) hx hb dX9_impossibleOnes_54 (by decide) ?_
        refine pV hC hK hl hP hD (c_T_at l G bsayings (nI kP) 2 16 8 bsayingsc kbsayings fbsayings (hkbsayings) (by omega) (by omega)) si_X9_48 [12, 13] rfl rfl (by decide) rfl rfl rfl rfl rfl (Nat.le_of_ble_eq_true rfl) ⟨Nat.le_of_ble_eq_true rfl, Nat.le_of_ble_eq_true rfl⟩ ⟨by first | exact Nat.le_of_ble_eq_true rfl | exact Nat.zero_le _, by first | exact Nat.le_of_ble_eq_true rfl | exact Nat.zero_le _⟩ dX9_impossibleOnes_55 (fun r10492 hr10492 => ?_)
        obtain ⟨jx, hjx, ejx⟩ := Hs_nat (by omega) (hSP kP (by omega))
        refine eqi (x1 := nI jx) ((hr10492.trans (tatq (by omega) (by omega) (by decide) (by decide) rfl)).trans ejx) ?_
        refine vV (wr := [(bsayings, .inr (8, [.int 16, .int 8, .ref bsayingsc, .int (nI kbsayings)])), (bsayingsc, .inl (G.2.1, 128, .inl fbsayings))]) hC hK hl hP hD hS hA (c_boundX l G K9 V9 h0 jo jx bb sg wf wt tl tbv clk fi la ml mm sl sm scl fla fml fmm fsl fsm bpersons bpapers bstamps bversions blines bsteps bsayings bfindings bwarnings bquestions td vd vl gp bpapersc kbpapers fbpapers bpersonsc kbpersons fbpersons fbstamps kbstamps (hkbpapers) (hkbpersons) (hsg) (by omega) (by omega)) si_X9_57 [0, 1, 2, 3, 4, 5, 6, 7, 8, 9, 10, 11] [12, 13] rfl rfl (by decide) rfl (by decide) (by decide) rfl rfl rfl rfl rfl (Nat.le_of_ble_eq_true rfl) ⟨Nat.le_of_ble_eq_true rfl, Nat.le_of_ble_eq_true rfl⟩ ⟨Nat.le_of_ble_eq_true rfl, Nat.le_of_ble_eq_true rfl⟩ dX9_impossibleOnes_58 (fun u10495 H locs hr10494 hP hD hS => ?_)
        obtain ⟨tf110496, tt110497⟩ := u10495
        try dsimp only at hr10494
        have hPD : va_PD G A [(bsayings, .inr (8, [.int 16, .int 8, .ref bsayingsc, .int (nI kbsayings)])), (bsayingsc, .inl (G.2.1, 128, .inl fbsayings)), (h0, .inr (9, [.ref bb, .ref sg, .int tf110496, .int tt110497, .int tl, .int tbv])), (sg, .inr (7, [.ref bb, .ref clk, .ref fi, .ref la, .ref ml, .ref mm, .ref sl, .ref sm, .int scl])), (la, .inl (G.2.1, 12, .inl fla)), (ml, .inl (G.2.1, 12, .inl fml)), (mm, .inl (G.2.1, 12, .inl fmm)), (sl, .inl (G.2.1, 12, .inl fsl)), (sm, .inl (G.2.1, 12, .inl fsm)), (bb, .inr (0, [.ref bpersons, .ref bpapers, .ref bstamps, .ref bversions, .ref blines, .ref bsteps, .ref bsayings, .ref bfindings, .ref bwarnings, .ref bquestions, .int td, .int vd, .int vl, .int gp])), (bpapers, .inr (8, [.int 12, .int 6, .ref bpapersc, .int (nI kbpapers)])), (bpapersc, .inl (G.2.1, 72, .inl fbpapers)), (bpersons, .inr (8, [.int 10, .int 2, .ref bpersonsc, .int (nI kbpersons)])), (bpersonsc, .inl (G.2.1, 20, .inl fbpersons))] H := And.intro hP hD
        obtain ⟨hP, hD⟩ := hPD
        have w10498 := hr10494
        refine lv_aload_n hx hb dX9_impossibleOnes_61 rfl (lv_at hl 2 rfl) ?_
        refine gf_X9_9 hC rfl hK hP 2 rfl rfl dX9_impossibleOnes_62 ?_
        refine gf_X9_42 hC rfl hK hP 9 rfl rfl dX9_impossibleOnes_65 ?_
        refine lv_iload_n hx hb dX9_impossibleOnes_68 rfl (lv_at hl 0 rfl) ?_
        refine lv_iconst (v := 3) hx hb dX9_impossibleOnes_69 (by decide) ?_
        refine pV hC hK hl hP hD (c_T_at l G bsayings (nI kP) 3 16 8 bsayingsc kbsayings fbsayings (hkbsayings) (by omega) (by omega)) si_X9_48 [0, 1] rfl rfl (by decide) rfl rfl rfl rfl rfl (Nat.le_of_ble_eq_true rfl) ⟨Nat.le_of_ble_eq_true rfl, Nat.le_of_ble_eq_true rfl⟩ ⟨by first | exact Nat.le_of_ble_eq_true rfl | exact Nat.zero_le _, by first | exact Nat.le_of_ble_eq_true rfl | exact Nat.zero_le _⟩ dX9_impossibleOnes_70 (fun r10499 hr10499 => ?_)
        refine eqi (x1 := fbsayings (kP * 8 + 3)) (hr10499.trans (tatq (by omega) (by omega) (by decide) (by decide) rfl)) ?_
        refine lv_istore (lv' := [(4, .int (fbsayings (kP * 8 + 3))), (3, .int (nI kP)), (2, .int bi), (0, .ref h0), (1, .int (IVW fbpapers td vd vl kbpapers))]) hx hb dX9_impossibleOnes_73 hl (by decide) rfl (fun ls hl => ?_)
        refine lv_aload_n hx hb dX9_impossibleOnes_75 rfl (lv_at hl 3 rfl) ?_
        refine gf_X9_9 hC rfl hK hP 2 rfl rfl dX9_impossibleOnes_76 ?_
        refine gf_X9_42 hC rfl hK hP 9 rfl rfl dX9_impossibleOnes_79 ?_
        refine lv_iload_n hx hb dX9_impossibleOnes_82 rfl (lv_at hl 1 rfl) ?_
        refine lv_iconst (v := 5) hx hb dX9_impossibleOnes_83 (by decide) ?_
        refine pV hC hK hl hP hD (c_T_at l G bsayings (nI kP) 5 16 8 bsayingsc kbsayings fbsayings (hkbsayings) (by omega) (by omega)) si_X9_48 [0, 1] rfl rfl (by decide) rfl rfl rfl rfl rfl (Nat.le_of_ble_eq_true rfl) ⟨Nat.le_of_ble_eq_true rfl, Nat.le_of_ble_eq_true rfl⟩ ⟨by first | exact Nat.le_of_ble_eq_true rfl | exact Nat.zero_le _, by first | exact Nat.le_of_ble_eq_true rfl | exact Nat.zero_le _⟩ dX9_impossibleOnes_84 (fun r10501 hr10501 => ?_)
        refine eqi (x1 := fbsayings (kP * 8 + 5)) (hr10501.trans (tatq (by omega) (by omega) (by decide) (by decide) rfl)) ?_
        refine lv_iconst (v := 1) hx hb dX9_impossibleOnes_87 (by decide) ?_
        refine lv_icmp_ne (tgt := 108) hx hb dX9_impossibleOnes_88 (by decide) (fun c_88_10503 => ?_) (fun c_88_10503 => ?_)
        · refine lv_iload hx hb dX9_impossibleOnes_108 (lv_at hl 0 rfl) ?_
          refine lv_aload_n hx hb dX9_impossibleOnes_110 rfl (lv_at hl 3 rfl) ?_
          refine gf_X9_23 hC rfl hK hP 2 rfl rfl dX9_impossibleOnes_111 ?_
          refine lv_icmp_lt (tgt := 121) hx hb dX9_impossibleOnes_114 (by decide) (fun c_114_10504 => ?_) (fun c_114_10504 => ?_)
          · refine lv_iconst (v := 0) hx hb dX9_impossibleOnes_121 (by decide) ?_
            refine lv_istore (lv' := [(5, .int 0), (4, .int (fbsayings (kP * 8 + 3))), (3, .int (nI kP)), (2, .int bi), (0, .ref h0), (1, .int (IVW fbpapers td vd vl kbpapers))]) hx hb dX9_impossibleOnes_122 hl (by decide) rfl (fun ls hl => ?_)
            refine lv_iload hx hb dX9_impossibleOnes_124 (lv_at hl 0 rfl) ?_
            refine lv_if_eq (tgt := 135) hx hb dX9_impossibleOnes_126 (by decide) (fun _ => ?_) (fun c9 => absurd (by decide) c9)
            refine lv_iinc (v := nI (kP + 1)) (lv' := [(3, .int (nI (kP + 1))), (5, .int 0), (4, .int (fbsayings (kP * 8 + 3))), (2, .int bi), (0, .ref h0), (1, .int (IVW fbpapers td vd vl kbpapers))]) hx hb dX9_impossibleOnes_135 hl (k := 2) rfl (nI_1 _) (by decide) rfl (fun ls hl => ?_)
            refine lv_goto (tgt := 4) hx hb dX9_impossibleOnes_138 (by decide) ?_
            obtain ⟨hP, hD⟩ := PD_sub (ws' := [(h0, .inr (9, [.ref bb, .ref sg, .int tf110496, .int tt110497, .int tl, .int tbv])), (sg, .inr (7, [.ref bb, .ref clk, .ref fi, .ref la, .ref ml, .ref mm, .ref sl, .ref sm, .int scl])), (la, .inl (G.2.1, 12, .inl fla)), (ml, .inl (G.2.1, 12, .inl fml)), (mm, .inl (G.2.1, 12, .inl fmm)), (sl, .inl (G.2.1, 12, .inl fsl)), (sm, .inl (G.2.1, 12, .inl fsm)), (bb, .inr (0, [.ref bpersons, .ref bpapers, .ref bstamps, .ref bversions, .ref blines, .ref bsteps, .ref bsayings, .ref bfindings, .ref bwarnings, .ref bquestions, .int td, .int vd, .int vl, .int gp])), (bpapers, .inr (8, [.int 12, .int 6, .ref bpapersc, .int (nI kbpapers)])), (bpapersc, .inl (G.2.1, 72, .inl fbpapers)), (bpersons, .inr (8, [.int 10, .int 2, .ref bpersonsc, .int (nI kbpersons)])), (bpersonsc, .inl (G.2.1, 20, .inl fbpersons)), (bsayings, .inr (8, [.int 16, .int 8, .ref bsayingsc, .int (nI kbsayings)])), (bsayingsc, .inl (G.2.1, 128, .inl fbsayings))]) hP hD [2, 3, 4, 5, 6, 7, 8, 9, 10, 11, 12, 13, 0, 1] rfl (by decide +kernel) rfl
            have hq9 : QSF K9 fbstamps V9 fbpapers fbpersons fbsayings kbstamps kP _ _ := QSF.mk ejx ejo (by omega) (by omega) w10498
            have hst9 : bi = IMB (fun s9 => CSQ fbsayings fbpapers td vd vl s9 ∧ IMS fbsayings (QSF K9 fbstamps V9 fbpapers fbpersons fbsayings kbstamps) s9) (kP + 1) := IMB.n hbi (fun h9 => IMS.no hSV hq9 (fun h9 => h9.elim (fun h8 => c_88_10503 h8.1) (fun h8 => Int32.not_le.mpr c_114_10504 h8.2)) h9.2)
            exact ihP (kP + 1) bi tf110496 tt110497 _ _ _ (by omega) (by first | assumption | exact Or.inl rfl | exact Or.inr rfl | exact rfl) (And.intro hP hD) hS (lv_sub hl [0, 3, 4, 5] rfl)
          · refine lv_iconst (v := 1) hx hb dX9_impossibleOnes_117 (by decide) ?_
            refine lv_goto (tgt := 122) hx hb dX9_impossibleOnes_118 (by decide) ?_
            refine lv_istore (lv' := [(5, .int 1), (4, .int (fbsayings (kP * 8 + 3))), (3, .int (nI kP)), (2, .int bi), (0, .ref h0), (1, .int (IVW fbpapers td vd vl kbpapers))]) hx hb dX9_impossibleOnes_122 hl (by decide) rfl (fun ls hl => ?_)
            refine lv_iload hx hb dX9_impossibleOnes_124 (lv_at hl 0 rfl) ?_
            refine lv_if_eq (tgt := 135) hx hb dX9_impossibleOnes_126 (by decide) (fun c9 => absurd c9 (by decide)) (fun _ => ?_)
            refine lv_iload_n hx hb dX9_impossibleOnes_129 rfl (lv_at hl 3 rfl) ?_
            refine lv_iconst (v := 1) hx hb dX9_impossibleOnes_130 (by decide) ?_
            refine lv_iload_n hx hb dX9_impossibleOnes_131 rfl (lv_at hl 2 rfl) ?_
            refine lv_ishl hx hb dX9_impossibleOnes_132 ?_
            refine lv_ior hx hb dX9_impossibleOnes_133 ?_
            refine lv_istore_n (lv' := [(2, .int (bi ||| (1 <<< ((nI kP) &&& 31)))), (5, .int 1), (4, .int (fbsayings (kP * 8 + 3))), (3, .int (nI kP)), (0, .ref h0), (1, .int (IVW fbpapers td vd vl kbpapers))]) hx hb dX9_impossibleOnes_134 rfl hl (by decide) rfl (fun ls hl => ?_)
            refine lv_iinc (v := nI (kP + 1)) (lv' := [(3, .int (nI (kP + 1))), (2, .int (bi ||| (1 <<< ((nI kP) &&& 31)))), (5, .int 1), (4, .int (fbsayings (kP * 8 + 3))), (0, .ref h0), (1, .int (IVW fbpapers td vd vl kbpapers))]) hx hb dX9_impossibleOnes_135 hl (k := 3) rfl (nI_1 _) (by decide) rfl (fun ls hl => ?_)
            refine lv_goto (tgt := 4) hx hb dX9_impossibleOnes_138 (by decide) ?_
            obtain ⟨hP, hD⟩ := PD_sub (ws' := [(h0, .inr (9, [.ref bb, .ref sg, .int tf110496, .int tt110497, .int tl, .int tbv])), (sg, .inr (7, [.ref bb, .ref clk, .ref fi, .ref la, .ref ml, .ref mm, .ref sl, .ref sm, .int scl])), (la, .inl (G.2.1, 12, .inl fla)), (ml, .inl (G.2.1, 12, .inl fml)), (mm, .inl (G.2.1, 12, .inl fmm)), (sl, .inl (G.2.1, 12, .inl fsl)), (sm, .inl (G.2.1, 12, .inl fsm)), (bb, .inr (0, [.ref bpersons, .ref bpapers, .ref bstamps, .ref bversions, .ref blines, .ref bsteps, .ref bsayings, .ref bfindings, .ref bwarnings, .ref bquestions, .int td, .int vd, .int vl, .int gp])), (bpapers, .inr (8, [.int 12, .int 6, .ref bpapersc, .int (nI kbpapers)])), (bpapersc, .inl (G.2.1, 72, .inl fbpapers)), (bpersons, .inr (8, [.int 10, .int 2, .ref bpersonsc, .int (nI kbpersons)])), (bpersonsc, .inl (G.2.1, 20, .inl fbpersons)), (bsayings, .inr (8, [.int 16, .int 8, .ref bsayingsc, .int (nI kbsayings)])), (bsayingsc, .inl (G.2.1, 128, .inl fbsayings))]) hP hD [2, 3, 4, 5, 6, 7, 8, 9, 10, 11, 12, 13, 0, 1] rfl (by decide +kernel) rfl
            have hq9 : QSF K9 fbstamps V9 fbpapers fbpersons fbsayings kbstamps kP _ _ := QSF.mk ejx ejo (by omega) (by omega) w10498
            have hst9 : bi ||| (1 <<< ((nI kP) &&& 31)) = IMB (fun s9 => CSQ fbsayings fbpapers td vd vl s9 ∧ IMS fbsayings (QSF K9 fbstamps V9 fbpapers fbpersons fbsayings kbstamps) s9) (kP + 1) := IMB.y hbi ⟨a10489, _, _, hq9, Or.inr ⟨c_88_10503, Int32.not_lt.mp c_114_10504⟩⟩
            exact ihP (kP + 1) (bi ||| (1 <<< ((nI kP) &&& 31))) tf110496 tt110497 _ _ _ (by omega) (by first | assumption | exact Or.inl rfl | exact Or.inr rfl | exact rfl) (And.intro hP hD) hS (lv_sub hl [0, 1, 4, 5] rfl)
        · refine lv_iload hx hb dX9_impossibleOnes_91 (lv_at hl 0 rfl) ?_
          refine lv_aload_n hx hb dX9_impossibleOnes_93 rfl (lv_at hl 3 rfl) ?_
          refine gf_X9_19 hC rfl hK hP 2 rfl rfl dX9_impossibleOnes_94 ?_
          refine lv_icmp_ge (tgt := 104) hx hb dX9_impossibleOnes_97 (by decide) (fun c_97_10505 => ?_) (fun c_97_10505 => ?_)
          · refine lv_iconst (v := 0) hx hb dX9_impossibleOnes_104 (by decide) ?_
            refine lv_goto (tgt := 122) hx hb dX9_impossibleOnes_105 (by decide) ?_
            refine lv_istore (lv' := [(5, .int 0), (4, .int (fbsayings (kP * 8 + 3))), (3, .int (nI kP)), (2, .int bi), (0, .ref h0), (1, .int (IVW fbpapers td vd vl kbpapers))]) hx hb dX9_impossibleOnes_122 hl (by decide) rfl (fun ls hl => ?_)
            refine lv_iload hx hb dX9_impossibleOnes_124 (lv_at hl 0 rfl) ?_
            refine lv_if_eq (tgt := 135) hx hb dX9_impossibleOnes_126 (by decide) (fun _ => ?_) (fun c9 => absurd (by decide) c9)
            refine lv_iinc (v := nI (kP + 1)) (lv' := [(3, .int (nI (kP + 1))), (5, .int 0), (4, .int (fbsayings (kP * 8 + 3))), (2, .int bi), (0, .ref h0), (1, .int (IVW fbpapers td vd vl kbpapers))]) hx hb dX9_impossibleOnes_135 hl (k := 2) rfl (nI_1 _) (by decide) rfl (fun ls hl => ?_)
            refine lv_goto (tgt := 4) hx hb dX9_impossibleOnes_138 (by decide) ?_
            obtain ⟨hP, hD⟩ := PD_sub (ws' := [(h0, .inr (9, [.ref bb, .ref sg, .int tf110496, .int tt110497, .int tl, .int tbv])), (sg, .inr (7, [.ref bb, .ref clk, .ref fi, .ref la, .ref ml, .ref mm, .ref sl, .ref sm, .int scl])), (la, .inl (G.2.1, 12, .inl fla)), (ml, .inl (G.2.1, 12, .inl fml)), (mm, .inl (G.2.1, 12, .inl fmm)), (sl, .inl (G.2.1, 12, .inl fsl)), (sm, .inl (G.2.1, 12, .inl fsm)), (bb, .inr (0, [.ref bpersons, .ref bpapers, .ref bstamps, .ref bversions, .ref blines, .ref bsteps, .ref bsayings, .ref bfindings, .ref bwarnings, .ref bquestions, .int td, .int vd, .int vl, .int gp])), (bpapers, .inr (8, [.int 12, .int 6, .ref bpapersc, .int (nI kbpapers)])), (bpapersc, .inl (G.2.1, 72, .inl fbpapers)), (bpersons, .inr (8, [.int 10, .int 2, .ref bpersonsc, .int (nI kbpersons)])), (bpersonsc, .inl (G.2.1, 20, .inl fbpersons)), (bsayings, .inr (8, [.int 16, .int 8, .ref bsayingsc, .int (nI kbsayings)])), (bsayingsc, .inl (G.2.1, 128, .inl fbsayings))]) hP hD [2, 3, 4, 5, 6, 7, 8, 9, 10, 11, 12, 13, 0, 1] rfl (by decide +kernel) rfl
            have hq9 : QSF K9 fbstamps V9 fbpapers fbpersons fbsayings kbstamps kP _ _ := QSF.mk ejx ejo (by omega) (by omega) w10498
            have hst9 : bi = IMB (fun s9 => CSQ fbsayings fbpapers td vd vl s9 ∧ IMS fbsayings (QSF K9 fbstamps V9 fbpapers fbpersons fbsayings kbstamps) s9) (kP + 1) := IMB.n hbi (fun h9 => IMS.no hSV hq9 (fun h9 => h9.elim (fun h8 => Int32.not_lt.mpr c_97_10505 h8.2) (fun h8 => h8.1 c_88_10503)) h9.2)
            exact ihP (kP + 1) bi tf110496 tt110497 _ _ _ (by omega) (by first | assumption | exact Or.inl rfl | exact Or.inr rfl | exact rfl) (And.intro hP hD) hS (lv_sub hl [0, 3, 4, 5] rfl)
          · refine lv_iconst (v := 1) hx hb dX9_impossibleOnes_100 (by decide) ?_
            refine lv_goto (tgt := 122) hx hb dX9_impossibleOnes_101 (by decide) ?_
            refine lv_istore (lv' := [(5, .int 1), (4, .int (fbsayings (kP * 8 + 3))), (3, .int (nI kP)), (2, .int bi), (0, .ref h0), (1, .int (IVW fbpapers td vd vl kbpapers))]) hx hb dX9_impossibleOnes_122 hl (by decide) rfl (fun ls hl => ?_)
            refine lv_iload hx hb dX9_impossibleOnes_124 (lv_at hl 0 rfl) ?_
            refine lv_if_eq (tgt := 135) hx hb dX9_impossibleOnes_126 (by decide) (fun c9 => absurd c9 (by decide)) (fun _ => ?_)
            refine lv_iload_n hx hb dX9_impossibleOnes_129 rfl (lv_at hl 3 rfl) ?_
            refine lv_iconst (v := 1) hx hb dX9_impossibleOnes_130 (by decide) ?_
            refine lv_iload_n hx hb dX9_impossibleOnes_131 rfl (lv_at hl 2 rfl) ?_
            refine lv_ishl hx hb dX9_impossibleOnes_132 ?_
            refine lv_ior hx hb dX9_impossibleOnes_133 ?_
            refine lv_istore_n (lv' := [(2, .int (bi ||| (1 <<< ((nI kP) &&& 31)))), (5, .int 1), (4, .int (fbsayings (kP * 8 + 3))), (3, .int (nI kP)), (0, .ref h0), (1, .int (IVW fbpapers td vd vl kbpapers))]) hx hb dX9_impossibleOnes_134 rfl hl (by decide) rfl (fun ls hl => ?_)
            refine lv_iinc (v := nI (kP + 1)) (lv' := [(3, .int (nI (kP + 1))), (2, .int (bi ||| (1 <<< ((nI kP) &&& 31)))), (5, .int 1), (4, .int (fbsayings (kP * 8 + 3))), (0, .ref h0), (1, .int (IVW fbpapers td vd vl kbpapers))]) hx hb dX9_impossibleOnes_135 hl (k := 3) rfl (nI_1 _) (by decide) rfl (fun ls hl => ?_)
            refine lv_goto (tgt := 4) hx hb dX9_impossibleOnes_138 (by decide) ?_
            obtain ⟨hP, hD⟩ := PD_sub (ws' := [(h0, .inr (9, [.ref bb, .ref sg, .int tf110496, .int tt110497, .int tl, .int tbv])), (sg, .inr (7, [.ref bb, .ref clk, .ref fi, .ref la, .ref ml, .ref mm, .ref sl, .ref sm, .int scl])), (la, .inl (G.2.1, 12, .inl fla)), (ml, .inl (G.2.1, 12, .inl fml)), (mm, .inl (G.2.1, 12, .inl fmm)), (sl, .inl (G.2.1, 12, .inl fsl)), (sm, .inl (G.2.1, 12, .inl fsm)), (bb, .inr (0, [.ref bpersons, .ref bpapers, .ref bstamps, .ref bversions, .ref blines, .ref bsteps, .ref bsayings, .ref bfindings, .ref bwarnings, .ref bquestions, .int td, .int vd, .int vl, .int gp])), (bpapers, .inr (8, [.int 12, .int 6, .ref bpapersc, .int (nI kbpapers)])), (bpapersc, .inl (G.2.1, 72, .inl fbpapers)), (bpersons, .inr (8, [.int 10, .int 2, .ref bpersonsc, .int (nI kbpersons)])), (bpersonsc, .inl (G.2.1, 20, .inl fbpersons)), (bsayings, .inr (8, [.int 16, .int 8, .ref bsayingsc, .int (nI kbsayings)])), (bsayingsc, .inl (G.2.1, 128, .inl fbsayings))]) hP hD [2, 3, 4, 5, 6, 7, 8, 9, 10, 11, 12, 13, 0, 1] rfl (by decide +kernel) rfl
            have hq9 : QSF K9 fbstamps V9 fbpapers fbpersons fbsayings kbstamps kP _ _ := QSF.mk ejx ejo (by omega) (by omega) w10498
            have hst9 : bi ||| (1 <<< ((nI kP) &&& 31)) = IMB (fun s9 => CSQ fbsayings fbpapers td vd vl s9 ∧ IMS fbsayings (QSF K9 fbstamps V9 fbpapers fbpersons fbsayings kbstamps) s9) (kP + 1) := IMB.y hbi ⟨a10489, _, _, hq9, Or.inl ⟨c_88_10503, Int32.not_le.mp c_97_10505⟩⟩
            exact ihP (kP + 1) (bi ||| (1 <<< ((nI kP) &&& 31))) tf110496 tt110497 _ _ _ (by omega) (by first | assumption | exact Or.inl rfl | exact Or.inr rfl | exact rfl) (And.intro hP hD) hS (lv_sub hl [0, 1, 4, 5] rfl)
      · refine lv_if_ne (tgt := 33) hx hb dX9_impossibleOnes_27 (by decide) (fun c9 => absurd (by decide) c9) (fun _ => ?_)
        refine lv_goto (tgt := 135) hx hb dX9_impossibleOnes_30 (by decide) ?_
        refine lv_iinc (v := nI (kP + 1)) (lv' := [(3, .int (nI (kP + 1))), (2, .int bi), (0, .ref h0), (1, .int (IVW fbpapers td vd vl kbpapers))]) hx hb dX9_impossibleOnes_135 hl (k := 0) rfl (nI_1 _) (by decide) rfl (fun ls hl => ?_)
        refine lv_goto (tgt := 4) hx hb dX9_impossibleOnes_138 (by decide) ?_
        have hst9 : bi = IMB (fun s9 => CSQ fbsayings fbpapers td vd vl s9 ∧ IMS fbsayings (QSF K9 fbstamps V9 fbpapers fbpersons fbsayings kbstamps) s9) (kP + 1) := IMB.n hbi (fun h9 => a10489 h9.1)
        exact ihP (kP + 1) bi wf wt _ _ _ (by omega) (by first | assumption | exact Or.inl rfl | exact Or.inr rfl | exact rfl) (And.intro hP hD) hS (lv_sub hl [0, 1, 2, 3] rfl)
  exact keyP kbsayings 0 0 tf tt9 _ _ _ (by omega) (by first | assumption | exact Or.inl rfl | exact Or.inr rfl | exact rfl) (And.intro hP hD) hS (lv_sub hl [0, 1, 2, 3] rfl)
set_option maxHeartbeats 4000000 in
set_option maxRecDepth 100000 in
theorem p_impossibleT (l : Launch) (G : GG) (h0 : Nat) (bb : Nat) (kk : Nat) (ikp : Int32) (sg : Nat) (do9 : Nat) (ru9 : Nat) (ta9 : Nat) (tp9 : Nat) (ro9 : Nat) (ho9 : Nat) (de9 : Nat) (clk : Nat) (fi : Nat) (la : Nat) (ml : Nat) (mm : Nat) (sl : Nat) (sm : Nat) (cl : Int32) (clm : Nat) (fclm : Nat → Int32) (ffi : Nat → Int32) (fla : Nat → Int32) (fml : Nat → Int32) (fmm : Nat → Int32) (fsl : Nat → Int32) (fsm : Nat → Int32) (tf : Int32) (tt9 : Int32) (tl : Int32) (tbv : Int32) (bpersons : Nat) (bpapers : Nat) (bstamps : Nat) (bversions : Nat) (blines : Nat) (bsteps : Nat) (bsayings : Nat) (bfindings : Nat) (bwarnings : Nat) (bquestions : Nat) (td : Int32) (vd : Int32) (vl : Int32) (gp : Int32) (bpapersc : Nat) (kbpapers : Nat) (fbpapers : Nat → Int32) (bpersonsc : Nat) (kbpersons : Nat) (fbpersons : Nat → Int32) (bsayingsc : Nat) (kbsayings : Nat) (fbsayings : Nat → Int32) (bstampsc : Nat) (kbstamps : Nat) (fbstamps : Nat → Int32) (hkbpapers : kbpapers ≤ 12) (hkbpersons : kbpersons ≤ 10) (hkbsayings : kbsayings ≤ 16) (hkbstamps : kbstamps ≤ 24) (hcl : cl = 0 ∨ cl = 1) (hSV : SVL fbstamps kbstamps) (hgp : GPR gp) (hSP : SPI fbsayings kbsayings kbpapers) (hSO : SPO fbsayings kbsayings kbpersons) : MI l G yX11_impossible cX11_impossible 2 (some .int) 8 0 0 [.ref h0] [(h0, .inr (11, [.ref bb, .ref kk, .int ikp, .ref sg, .ref do9, .ref ru9, .ref ta9, .ref tp9, .ref ro9, .ref ho9, .ref de9])), (sg, .inr (7, [.ref bb, .ref clk, .ref fi, .ref la, .ref ml, .ref mm, .ref sl, .ref sm, .int cl])), (clk, .inr (1, [.ref clm])), (clm, .inl (G.2.1, 36, .inl fclm)), (fi, .inl (G.2.1, 12, .inl ffi)), (la, .inl (G.2.1, 12, .inl fla)), (ml, .inl (G.2.1, 12, .inl fml)), (mm, .inl (G.2.1, 12, .inl fmm)), (sl, .inl (G.2.1, 12, .inl fsl)), (sm, .inl (G.2.1, 12, .inl fsm)), (ta9, .inr (9, [.ref bb, .ref sg, .int tf, .int tt9, .int tl, .int tbv])), (bb, .inr (0, [.ref bpersons, .ref bpapers, .ref bstamps, .ref bversions, .ref blines, .ref bsteps, .ref bsayings, .ref bfindings, .ref bwarnings, .ref bquestions, .int td, .int vd, .int vl, .int gp])), (bpapers, .inr (8, [.int 12, .int 6, .ref bpapersc, .int (nI kbpapers)])), (bpapersc, .inl (G.2.1, 72, .inl fbpapers)), (bpersons, .inr (8, [.int 10, .int 2, .ref bpersonsc, .int (nI kbpersons)])), (bpersonsc, .inl (G.2.1, 20, .inl fbpersons)), (bsayings, .inr (8, [.int 16, .int 8, .ref bsayingsc, .int (nI kbsayings)])), (bsayingsc, .inl (G.2.1, 128, .inl fbsayings)), (bstamps, .inr (8, [.int 24, .int 3, .ref bstampsc, .int (nI kbstamps)])), (bstampsc, .inl (G.2.1, 72, .inl fbstamps))] (fun (r : Int32) (u : Int32 × (Nat → Int32) × (Nat → Int32) × (Nat → Int32) × (Nat → Int32) × (Nat → Int32) × (Nat → Int32) × (Nat → Int32) × Int32 × Int32) => (r = (IMB (fun s9 => CSQ fbsayings fbpapers td vd vl s9 ∧ IMS fbsayings (QSF (KST fbstamps (VPP (IVW fbpapers td vd vl kbpapers)) gp.toInt kbstamps) fbstamps (VPP (IVW fbpapers td vd vl kbpapers)) fbpapers fbpersons fbsayings kbstamps) s9) kbsayings)) ∧ (u.1 = 0 ∨ u.1 = 1)) (fun u : Int32 × (Nat → Int32) × (Nat → Int32) × (Nat → Int32) × (Nat → Int32) × (Nat → Int32) × (Nat → Int32) × (Nat → Int32) × Int32 × Int32 => [(h0, .inr (11, [.ref bb, .ref kk, .int ikp, .ref sg, .ref do9, .ref ru9, .ref ta9, .ref tp9, .ref ro9, .ref ho9, .ref de9])), (sg, .inr (7, [.ref bb, .ref clk, .ref fi, .ref la, .ref ml, .ref mm, .ref sl, .ref sm, .int u.1])), (clk, .inr (1, [.ref clm])), (clm, .inl (G.2.1, 36, .inl u.2.1)), (fi, .inl (G.2.1, 12, .inl u.2.2.1)), (la, .inl (G.2.1, 12, .inl u.2.2.2.1)), (ml, .inl (G.2.1, 12, .inl u.2.2.2.2.1)), (mm, .inl (G.2.1, 12, .inl u.2.2.2.2.2.1)), (sl, .inl (G.2.1, 12, .inl u.2.2.2.2.2.2.1)), (sm, .inl (G.2.1, 12, .inl u.2.2.2.2.2.2.2.1)), (ta9, .inr (9, [.ref bb, .ref sg, .int u.2.2.2.2.2.2.2.2.1, .int u.2.2.2.2.2.2.2.2.2, .int tl, .int tbv])), (bb, .inr (0, [.ref bpersons, .ref bpapers, .ref bstamps, .ref bversions, .ref blines, .ref bsteps, .ref bsayings, .ref bfindings, .ref bwarnings, .ref bquestions, .int td, .int vd, .int vl, .int gp])), (bpapers, .inr (8, [.int 12, .int 6, .ref bpapersc, .int (nI kbpapers)])), (bpapersc, .inl (G.2.1, 72, .inl fbpapers)), (bpersons, .inr (8, [.int 10, .int 2, .ref bpersonsc, .int (nI kbpersons)])), (bpersonsc, .inl (G.2.1, 20, .inl fbpersons)), (bsayings, .inr (8, [.int 16, .int 8, .ref bsayingsc, .int (nI kbsayings)])), (bsayingsc, .inl (G.2.1, 128, .inl fbsayings)), (bstamps, .inr (8, [.int 24, .int 3, .ref bstampsc, .int (nI kbstamps)])), (bstampsc, .inl (G.2.1, 72, .inl fbstamps))]) := by
  refine MI.start (by decide +kernel) (Nat.le_of_ble_eq_true rfl) ?_
  intro p e s m below meth c A ls hC hK hP hD hS hA hl
  have hl : lv_has ls 2 [(0, .ref h0)] := hl
  obtain ⟨hx, hb, hr, hml, hB, hown, hlocks, hnm⟩ := id hC
  refine lv_aload_n hx hb dX11_impossible_0 rfl (lv_at hl 0 rfl) ?_
  refine gf_X11_15 hC rfl hK hP 0 rfl rfl dX11_impossible_1 ?_
  refine pV hC hK hl hP hD (c_inViewX l G bb bpersons bpapers bstamps bversions blines bsteps bsayings bfindings bwarnings bquestions td vd vl gp bpapersc kbpapers fbpapers (hkbpapers)) si_X11_97 [11, 12, 13] rfl rfl (by decide) rfl rfl rfl rfl rfl (Nat.le_of_ble_eq_true rfl) ⟨Nat.le_of_ble_eq_true rfl, Nat.le_of_ble_eq_true rfl⟩ ⟨by first | exact Nat.le_of_ble_eq_true rfl | exact Nat.zero_le _, by first | exact Nat.le_of_ble_eq_true rfl | exact Nat.zero_le _⟩ dX11_impossible_4 (fun r10506 hr10506 => ?_)
  obtain rfl := hr10506
  refine lv_istore_n (lv' := [(1, .int (IVW fbpapers td vd vl kbpapers)), (0, .ref h0)]) hx hb dX11_impossible_7 rfl hl (by decide) rfl (fun ls hl => ?_)
  refine lv_aload_n hx hb dX11_impossible_8 rfl (lv_at hl 1 rfl) ?_
  refine gf_X11_28 hC rfl hK hP 0 rfl rfl dX11_impossible_9 ?_
  refine lv_iload_n hx hb dX11_impossible_12 rfl (lv_at hl 0 rfl) ?_
  refine vV (wr := [(h0, .inr (11, [.ref bb, .ref kk, .int ikp, .ref sg, .ref do9, .ref ru9, .ref ta9, .ref tp9, .ref ro9, .ref ho9, .ref de9])), (ta9, .inr (9, [.ref bb, .ref sg, .int tf, .int tt9, .int tl, .int tbv])), (bpapers, .inr (8, [.int 12, .int 6, .ref bpapersc, .int (nI kbpapers)])), (bpapersc, .inl (G.2.1, 72, .inl fbpapers)), (bpersons, .inr (8, [.int 10, .int 2, .ref bpersonsc, .int (nI kbpersons)])), (bpersonsc, .inl (G.2.1, 20, .inl fbpersons)), (bsayings, .inr (8, [.int 16, .int 8, .ref bsayingsc, .int (nI kbsayings)])), (bsayingsc, .inl (G.2.1, 128, .inl fbsayings))]) hC hK hl hP hD hS hA (c_lookX l G sg (IVW fbpapers td vd vl kbpapers) bb clk fi la ml mm sl sm cl clm fclm ffi fla fml fmm fsl fsm bpersons bpapers bstamps bversions blines bsteps bsayings bfindings bwarnings bquestions td vd vl gp bstampsc kbstamps fbstamps (hkbstamps) (hSV) (hgp)) si_X11_183 [1, 2, 3, 4, 5, 6, 7, 8, 9, 11, 18, 19] [0, 10, 12, 13, 14, 15, 16, 17] rfl rfl (by decide) rfl (by decide) (by decide) rfl rfl rfl rfl rfl (Nat.le_of_ble_eq_true rfl) ⟨Nat.le_of_ble_eq_true rfl, Nat.le_of_ble_eq_true rfl⟩ ⟨Nat.le_of_ble_eq_true rfl, Nat.le_of_ble_eq_true rfl⟩ dX11_impossible_13 (fun u10509 H locs hr10508 hP hD hS => ?_)
  obtain ⟨cl110510, gclm10511, gfi10512, gla10513, gml10514, gmm10515, gsl10516, gsm10517⟩ := u10509
  try dsimp only at hr10508
  have hPD : va_PD G A [(h0, .inr (11, [.ref bb, .ref kk, .int ikp, .ref sg, .ref do9, .ref ru9, .ref ta9, .ref tp9, .ref ro9, .ref ho9, .ref de9])), (ta9, .inr (9, [.ref bb, .ref sg, .int tf, .int tt9, .int tl, .int tbv])), (bpapers, .inr (8, [.int 12, .int 6, .ref bpapersc, .int (nI kbpapers)])), (bpapersc, .inl (G.2.1, 72, .inl fbpapers)), (bpersons, .inr (8, [.int 10, .int 2, .ref bpersonsc, .int (nI kbpersons)])), (bpersonsc, .inl (G.2.1, 20, .inl fbpersons)), (bsayings, .inr (8, [.int 16, .int 8, .ref bsayingsc, .int (nI kbsayings)])), (bsayingsc, .inl (G.2.1, 128, .inl fbsayings)), (sg, .inr (7, [.ref bb, .ref clk, .ref fi, .ref la, .ref ml, .ref mm, .ref sl, .ref sm, .int cl110510])), (clk, .inr (1, [.ref clm])), (clm, .inl (G.2.1, 36, .inl gclm10511)), (fi, .inl (G.2.1, 12, .inl gfi10512)), (la, .inl (G.2.1, 12, .inl gla10513)), (ml, .inl (G.2.1, 12, .inl gml10514)), (mm, .inl (G.2.1, 12, .inl gmm10515)), (sl, .inl (G.2.1, 12, .inl gsl10516)), (sm, .inl (G.2.1, 12, .inl gsm10517)), (bb, .inr (0, [.ref bpersons, .ref bpapers, .ref bstamps, .ref bversions, .ref blines, .ref bsteps, .ref bsayings, .ref bfindings, .ref bwarnings, .ref bquestions, .int td, .int vd, .int vl, .int gp])), (bstamps, .inr (8, [.int 24, .int 3, .ref bstampsc, .int (nI kbstamps)])), (bstampsc, .inl (G.2.1, 72, .inl fbstamps))] H := And.intro hP hD
  obtain ⟨hP, hD⟩ := hPD
  have w10518 := hr10508
  have hsg9 : SGQ (KST fbstamps (VPP (IVW fbpapers td vd vl kbpapers)) gp.toInt kbstamps) fbstamps (VPP (IVW fbpapers td vd vl kbpapers)) kbstamps cl110510 gla10513 gml10514 gmm10515 gsl10516 gsm10517 := LKP.sgq w10518.2 (by omega)
  refine lv_aload_n hx hb dX11_impossible_16 rfl (lv_at hl 1 rfl) ?_
  refine gf_X11_51 hC rfl hK hP 0 rfl rfl dX11_impossible_17 ?_
  refine lv_iload_n hx hb dX11_impossible_20 rfl (lv_at hl 0 rfl) ?_
  refine iV (wr := [(h0, .inr (11, [.ref bb, .ref kk, .int ikp, .ref sg, .ref do9, .ref ru9, .ref ta9, .ref tp9, .ref ro9, .ref ho9, .ref de9])), (clk, .inr (1, [.ref clm])), (clm, .inl (G.2.1, 36, .inl gclm10511)), (fi, .inl (G.2.1, 12, .inl gfi10512)), (bstamps, .inr (8, [.int 24, .int 3, .ref bstampsc, .int (nI kbstamps)])), (bstampsc, .inl (G.2.1, 72, .inl fbstamps))]) hC hK hl hP hD hS hA (c_impOnesX l G (KST fbstamps (VPP (IVW fbpapers td vd vl kbpapers)) gp.toInt kbstamps) (VPP (IVW fbpapers td vd vl kbpapers)) ta9 bb sg tf tt9 tl tbv clk fi la ml mm sl sm cl110510 gla10513 gml10514 gmm10515 gsl10516 gsm10517 bpersons bpapers bstamps bversions blines bsteps bsayings bfindings bwarnings bquestions td vd vl gp bpapersc kbpapers fbpapers bpersonsc kbpersons fbpersons bsayingsc kbsayings fbsayings fbstamps kbstamps (hkbpapers) (hkbpersons) (hkbsayings) (hSP) (hSO) (hsg9) (hSV)) si_X11_268 [1, 8, 12, 13, 14, 15, 16, 17, 2, 3, 4, 5, 6, 7] [0, 9, 10, 11, 18, 19] rfl rfl (by decide) rfl (by decide) (by decide) rfl rfl rfl rfl rfl (Nat.le_of_ble_eq_true rfl) ⟨Nat.le_of_ble_eq_true rfl, Nat.le_of_ble_eq_true rfl⟩ ⟨Nat.le_of_ble_eq_true rfl, Nat.le_of_ble_eq_true rfl⟩ dX11_impossible_21 (fun r10519 u10520 H locs hr10519 hP hD hS => ?_)
  obtain ⟨tf110521, tt110522⟩ := u10520
  try dsimp only at hr10519
  have hPD : va_PD G A [(h0, .inr (11, [.ref bb, .ref kk, .int ikp, .ref sg, .ref do9, .ref ru9, .ref ta9, .ref tp9, .ref ro9, .ref ho9, .ref de9])), (clk, .inr (1, [.ref clm])), (clm, .inl (G.2.1, 36, .inl gclm10511)), (fi, .inl (G.2.1, 12, .inl gfi10512)), (bstamps, .inr (8, [.int 24, .int 3, .ref bstampsc, .int (nI kbstamps)])), (bstampsc, .inl (G.2.1, 72, .inl fbstamps)), (ta9, .inr (9, [.ref bb, .ref sg, .int tf110521, .int tt110522, .int tl, .int tbv])), (sg, .inr (7, [.ref bb, .ref clk, .ref fi, .ref la, .ref ml, .ref mm, .ref sl, .ref sm, .int cl110510])), (la, .inl (G.2.1, 12, .inl gla10513)), (ml, .inl (G.2.1, 12, .inl gml10514)), (mm, .inl (G.2.1, 12, .inl gmm10515)), (sl, .inl (G.2.1, 12, .inl gsl10516)), (sm, .inl (G.2.1, 12, .inl gsm10517)), (bb, .inr (0, [.ref bpersons, .ref bpapers, .ref bstamps, .ref bversions, .ref blines, .ref bsteps, .ref bsayings, .ref bfindings, .ref bwarnings, .ref bquestions, .int td, .int vd, .int vl, .int gp])), (bpapers, .inr (8, [.int 12, .int 6, .ref bpapersc, .int (nI kbpapers)])), (bpapersc, .inl (G.2.1, 72, .inl fbpapers)), (bpersons, .inr (8, [.int 10, .int 2, .ref bpersonsc, .int (nI kbpersons)])), (bpersonsc, .inl (G.2.1, 20, .inl fbpersons)), (bsayings, .inr (8, [.int 16, .int 8, .ref bsayingsc, .int (nI kbsayings)])), (bsayingsc, .inl (G.2.1, 128, .inl fbsayings))] H := And.intro hP hD
  obtain ⟨hP, hD⟩ := hPD
  obtain rfl := hr10519
  exact RI (v := (IMB (fun s9 => CSQ fbsayings fbpapers td vd vl s9 ∧ IMS fbsayings (QSF (KST fbstamps (VPP (IVW fbpapers td vd vl kbpapers)) gp.toInt kbstamps) fbstamps (VPP (IVW fbpapers td vd vl kbpapers)) fbpapers fbpersons fbsayings kbstamps) s9) kbsayings)) hC hP hD hS [0, 7, 1, 2, 3, 8, 9, 10, 11, 12, 6, 13, 14, 15, 16, 17, 18, 19, 4, 5] (cl110510, gclm10511, gfi10512, gla10513, gml10514, gmm10515, gsl10516, gsm10517, tf110521, tt110522) rfl rfl (by decide) (⟨rfl, w10518.1⟩) rfl dX11_impossible_24
set_option maxHeartbeats 4000000 in
set_option maxRecDepth 100000 in
theorem c_isOnX (l : Launch) (G : GG) (h0 : Nat) (js : Nat) (je : Nat) (jp : Nat) (bb : Nat) (sg : Nat) (tf : Int32) (tt9 : Int32) (tl : Int32) (tbv : Int32) (bpersons : Nat) (bpapers : Nat) (bstamps : Nat) (bversions : Nat) (blines : Nat) (bsteps : Nat) (bsayings : Nat) (bfindings : Nat) (bwarnings : Nat) (bquestions : Nat) (td : Int32) (vd : Int32) (vl : Int32) (gp : Int32) (bsayingsc : Nat) (kbsayings : Nat) (fbsayings : Nat → Int32) (bpapersc : Nat) (kbpapers : Nat) (fbpapers : Nat → Int32) (hkbsayings : kbsayings ≤ 16) (hkbpapers : kbpapers ≤ 12) (hSP : SPI fbsayings kbsayings kbpapers) (hjs : js < kbsayings) : MP l G yX9_isOn cX9_isOn 5 (some .boolean) 4 [.ref h0, .int (nI js), .int (nI je), .int (nI jp), .int (IVW fbpapers td vd vl kbpapers)] [(h0, .inr (9, [.ref bb, .ref sg, .int tf, .int tt9, .int tl, .int tbv])), (bb, .inr (0, [.ref bpersons, .ref bpapers, .ref bstamps, .ref bversions, .ref blines, .ref bsteps, .ref bsayings, .ref bfindings, .ref bwarnings, .ref bquestions, .int td, .int vd, .int vl, .int gp])), (bsayings, .inr (8, [.int 16, .int 8, .ref bsayingsc, .int (nI kbsayings)])), (bsayingsc, .inl (G.2.1, 128, .inl fbsayings)), (bpapers, .inr (8, [.int 12, .int 6, .ref bpapersc, .int (nI kbpapers)])), (bpapersc, .inl (G.2.1, 72, .inl fbpapers))] (fun r : Int32 => (r = 1 ∧ (PWS fbsayings fbpapers td vd vl je jp) js) ∨ (r = 0 ∧ ¬ (PWS fbsayings fbpapers td vd vl je jp) js)) := by
  refine MP.start (by decide +kernel) (Nat.le_of_ble_eq_true rfl) ?_
  intro p e s m below meth c ls hC hK hP hD hl
  have hl : lv_has ls 5 [(0, .ref h0), (1, .int (nI js)), (2, .int (nI je)), (3, .int (nI jp)), (4, .int (IVW fbpapers td vd vl kbpapers))] := hl
  obtain ⟨hx, hb, hr, hml, hB, hown, hlocks, hnm⟩ := id hC
  refine lv_aload_n hx hb dX9_isOn_0 rfl (lv_at hl 0 rfl) ?_
  refine gf_X9_9 hC rfl hK hP 0 rfl rfl dX9_isOn_1 ?_
  refine gf_X9_42 hC rfl hK hP 1 rfl rfl dX9_isOn_4 ?_
  refine lv_iload_n hx hb dX9_isOn_7 rfl (lv_at hl 1 rfl) ?_
  refine lv_iconst (v := 1) hx hb dX9_isOn_8 (by decide) ?_
  refine pV hC hK hl hP hD (c_T_at l G bsayings (nI js) 1 16 8 bsayingsc kbsayings fbsayings (hkbsayings) (by omega) (by omega)) si_X9_48 [2, 3] rfl rfl (by decide) rfl rfl rfl rfl rfl (Nat.le_of_ble_eq_true rfl) ⟨Nat.le_of_ble_eq_true rfl, Nat.le_of_ble_eq_true rfl⟩ ⟨by first | exact Nat.le_of_ble_eq_true rfl | exact Nat.zero_le _, by first | exact Nat.le_of_ble_eq_true rfl | exact Nat.zero_le _⟩ dX9_isOn_9 (fun r10524 hr10524 => ?_)
  refine eqi (x1 := fbsayings (js * 8 + 1)) (hr10524.trans (tatq (by omega) (by omega) (by decide) (by decide) rfl)) ?_
  refine lv_iload_n hx hb dX9_isOn_12 rfl (lv_at hl 2 rfl) ?_
  refine lv_icmp_ne (tgt := 49) hx hb dX9_isOn_13 (by decide) (fun c_13_10526 => ?_) (fun c_13_10526 => ?_)
  · refine lv_iconst (v := 0) hx hb dX9_isOn_49 (by decide) ?_
    exact RP (v := 0) hC (Or.inr ⟨rfl, fun h9 => c_13_10526 h9.1⟩) (by decide +kernel) dX9_isOn_50
  · refine lv_aload_n hx hb dX9_isOn_16 rfl (lv_at hl 0 rfl) ?_
    refine gf_X9_9 hC rfl hK hP 0 rfl rfl dX9_isOn_17 ?_
    refine gf_X9_42 hC rfl hK hP 1 rfl rfl dX9_isOn_20 ?_
    refine lv_iload_n hx hb dX9_isOn_23 rfl (lv_at hl 1 rfl) ?_
    refine lv_iconst (v := 2) hx hb dX9_isOn_24 (by decide) ?_
    refine pV hC hK hl hP hD (c_T_at l G bsayings (nI js) 2 16 8 bsayingsc kbsayings fbsayings (hkbsayings) (by omega) (by omega)) si_X9_48 [2, 3] rfl rfl (by decide) rfl rfl rfl rfl rfl (Nat.le_of_ble_eq_true rfl) ⟨Nat.le_of_ble_eq_true rfl, Nat.le_of_ble_eq_true rfl⟩ ⟨by first | exact Nat.le_of_ble_eq_true rfl | exact Nat.zero_le _, by first | exact Nat.le_of_ble_eq_true rfl | exact Nat.zero_le _⟩ dX9_isOn_25 (fun r10527 hr10527 => ?_)
    refine eqi (x1 := fbsayings (js * 8 + 2)) (hr10527.trans (tatq (by omega) (by omega) (by decide) (by decide) rfl)) ?_
    refine lv_iload_n hx hb dX9_isOn_28 rfl (lv_at hl 3 rfl) ?_
    refine lv_icmp_ne (tgt := 49) hx hb dX9_isOn_29 (by decide) (fun c_29_10529 => ?_) (fun c_29_10529 => ?_)
    · refine lv_iconst (v := 0) hx hb dX9_isOn_49 (by decide) ?_
      exact RP (v := 0) hC (Or.inr ⟨rfl, fun h9 => c_29_10529 h9.2.1⟩) (by decide +kernel) dX9_isOn_50
    · refine lv_aload_n hx hb dX9_isOn_32 rfl (lv_at hl 0 rfl) ?_
      refine gf_X9_9 hC rfl hK hP 0 rfl rfl dX9_isOn_33 ?_
      refine lv_iload_n hx hb dX9_isOn_36 rfl (lv_at hl 1 rfl) ?_
      refine lv_iload hx hb dX9_isOn_37 (lv_at hl 4 rfl) ?_
      refine pV hC hK hl hP hD (c_countsX l G bb js bpersons bpapers bstamps bversions blines bsteps bsayings bfindings bwarnings bquestions td vd vl gp bsayingsc kbsayings fbsayings bpapersc kbpapers fbpapers (hkbsayings) (hkbpapers) (hSP) (hjs)) si_X9_54 [1, 2, 3, 4, 5] rfl rfl (by decide) rfl rfl rfl rfl rfl (Nat.le_of_ble_eq_true rfl) ⟨Nat.le_of_ble_eq_true rfl, Nat.le_of_ble_eq_true rfl⟩ ⟨by first | exact Nat.le_of_ble_eq_true rfl | exact Nat.zero_le _, by first | exact Nat.le_of_ble_eq_true rfl | exact Nat.zero_le _⟩ dX9_isOn_39 (fun r10530 hr10530 => ?_)
      rcases hr10530 with ⟨rfl, a10531⟩ | ⟨rfl, a10531⟩
      · refine lv_if_eq (tgt := 49) hx hb dX9_isOn_42 (by decide) (fun c9 => absurd c9 (by decide)) (fun _ => ?_)
        refine lv_iconst (v := 1) hx hb dX9_isOn_45 (by decide) ?_
        refine lv_goto (tgt := 50) hx hb dX9_isOn_46 (by decide) ?_
        exact RP (v := 1) hC (Or.inl ⟨rfl, c_13_10526, c_29_10529, a10531⟩) (by decide +kernel) dX9_isOn_50
      · refine lv_if_eq (tgt := 49) hx hb dX9_isOn_42 (by decide) (fun _ => ?_) (fun c9 => absurd (by decide) c9)
        refine lv_iconst (v := 0) hx hb dX9_isOn_49 (by decide) ?_
        exact RP (v := 0) hC (Or.inr ⟨rfl, fun h9 => a10531 h9.2.2⟩) (by decide +kernel) dX9_isOn_50
set_option maxHeartbeats 4000000 in
set_option maxRecDepth 100000 in
theorem c_weightAgainstX (l : Launch) (G : GG) (h0 : Nat) (hh : Int32) (je : Nat) (jp : Nat) (bb : Nat) (sg : Nat) (tf : Int32) (tt9 : Int32) (tl : Int32) (tbv : Int32) (bpersons : Nat) (bpapers : Nat) (bstamps : Nat) (bversions : Nat) (blines : Nat) (bsteps : Nat) (bsayings : Nat) (bfindings : Nat) (bwarnings : Nat) (bquestions : Nat) (td : Int32) (vd : Int32) (vl : Int32) (gp : Int32) (bsayingsc : Nat) (kbsayings : Nat) (fbsayings : Nat → Int32) (bpapersc : Nat) (kbpapers : Nat) (fbpapers : Nat → Int32) (hkbsayings : kbsayings ≤ 16) (hkbpapers : kbpapers ≤ 12) (hSP : SPI fbsayings kbsayings kbpapers) : MP l G yX9_weightAgainst cX9_weightAgainst 9 (some .int) 5 [.ref h0, .int hh, .int (nI je), .int (nI jp), .int (IVW fbpapers td vd vl kbpapers)] [(h0, .inr (9, [.ref bb, .ref sg, .int tf, .int tt9, .int tl, .int tbv])), (bb, .inr (0, [.ref bpersons, .ref bpapers, .ref bstamps, .ref bversions, .ref blines, .ref bsteps, .ref bsayings, .ref bfindings, .ref bwarnings, .ref bquestions, .int td, .int vd, .int vl, .int gp])), (bsayings, .inr (8, [.int 16, .int 8, .ref bsayingsc, .int (nI kbsayings)])), (bsayingsc, .inl (G.2.1, 128, .inl fbsayings)), (bpapers, .inr (8, [.int 12, .int 6, .ref bpapersc, .int (nI kbpapers)])), (bpapersc, .inl (G.2.1, 72, .inl fbpapers))] (fun r : Int32 => r = (WGS (PWS fbsayings fbpapers td vd vl je jp) fbsayings hh kbsayings)) := by
  refine MP.start (by decide +kernel) (Nat.le_of_ble_eq_true rfl) ?_
  intro p e s m below meth c ls hC hK hP hD hl
  have hl : lv_has ls 9 [(0, .ref h0), (1, .int hh), (2, .int (nI je)), (3, .int (nI jp)), (4, .int (IVW fbpapers td vd vl kbpapers))] := hl
  obtain ⟨hx, hb, hr, hml, hB, hown, hlocks, hnm⟩ := id hC
  refine lv_iconst (v := 0) hx hb dX9_weightAgainst_0 (by decide) ?_
  refine lv_istore (lv' := [(5, .int 0), (0, .ref h0), (1, .int hh), (2, .int (nI je)), (3, .int (nI jp)), (4, .int (IVW fbpapers td vd vl kbpapers))]) hx hb dX9_weightAgainst_1 hl (by decide) rfl (fun ls hl => ?_)
  refine lv_iconst (v := 0) hx hb dX9_weightAgainst_3 (by decide) ?_
  refine lv_istore (lv' := [(6, .int 0), (5, .int 0), (0, .ref h0), (1, .int hh), (2, .int (nI je)), (3, .int (nI jp)), (4, .int (IVW fbpapers td vd vl kbpapers))]) hx hb dX9_weightAgainst_4 hl (by decide) rfl (fun ls hl => ?_)
  have keyP : ∀ (nP kP : Nat) (su : Int32) (ls : Array Slot), kP + nP = kbsayings → (su = WGS (PWS fbsayings fbpapers td vd vl je jp) fbsayings hh kP) → lv_has ls 9 [(6, .int (nI kP)), (5, .int su), (0, .ref h0), (1, .int hh), (2, .int (nI je)), (3, .int (nI jp)), (4, .int (IVW fbpapers td vd vl kbpapers))] → W p l e (RM 5 0 0) s m ([.ref h0, .int hh, .int (nI je), .int (nI jp), .int (IVW fbpapers td vd vl kbpapers)] : List Value).toArray below meth c s.heap [] 0 0 (MQ below (QP (fun r : Int32 => r = (WGS (PWS fbsayings fbpapers td vd vl je jp) fbsayings hh kbsayings))) ([.ref h0, .int hh, .int (nI je), .int (nI jp), .int (IVW fbpapers td vd vl kbpapers)] : List Value).toArray s 0 0 (fun _ => False)) (F0 m 6 ls []) := by
    intro nP
    induction nP with
    | zero =>
      intro kP su ls hkP hsu hl
      obtain rfl : kbsayings = kP := by omega
      have hl : lv_has ls 9 [(6, .int (nI kbsayings)), (5, .int su), (0, .ref h0), (1, .int hh), (2, .int (nI je)), (3, .int (nI jp)), (4, .int (IVW fbpapers td vd vl kbpapers))] := hl
      refine lv_iload hx hb dX9_weightAgainst_6 (lv_at hl 0 rfl) ?_
      refine lv_aload_n hx hb dX9_weightAgainst_8 rfl (lv_at hl 2 rfl) ?_
      refine gf_X9_9 hC rfl hK hP 0 rfl rfl dX9_weightAgainst_9 ?_
      refine gf_X9_42 hC rfl hK hP 1 rfl rfl dX9_weightAgainst_12 ?_
      refine pV hC hK hl hP hD (c_T_count l G bsayings 16 8 bsayingsc kbsayings) si_X9_65 [2] rfl rfl (by decide) rfl rfl rfl rfl rfl (Nat.le_of_ble_eq_true rfl) ⟨Nat.le_of_ble_eq_true rfl, Nat.le_of_ble_eq_true rfl⟩ ⟨by first | exact Nat.le_of_ble_eq_true rfl | exact Nat.zero_le _, by first | exact Nat.le_of_ble_eq_true rfl | exact Nat.zero_le _⟩ dX9_weightAgainst_15 (fun r10532 hr10532 => ?_)
      obtain rfl := hr10532
      refine lv_icmp_ge (tgt := 116) hx hb dX9_weightAgainst_18 (by decide) (fun _ => ?_) (fun c9 => absurd (Int32.le_refl _) c9)
      refine lv_iload hx hb dX9_weightAgainst_116 (lv_at hl 1 rfl) ?_
      exact RP (v := su) hC (hsu) rfl dX9_weightAgainst_118
    | succ nP ihP =>
      intro kP su ls hkP hsu hl
      refine lv_iload hx hb dX9_weightAgainst_6 (lv_at hl 0 rfl) ?_
      refine lv_aload_n hx hb dX9_weightAgainst_8 rfl (lv_at hl 2 rfl) ?_
      refine gf_X9_9 hC rfl hK hP 0 rfl rfl dX9_weightAgainst_9 ?_
      refine gf_X9_42 hC rfl hK hP 1 rfl rfl dX9_weightAgainst_12 ?_
      refine pV hC hK hl hP hD (c_T_count l G bsayings 16 8 bsayingsc kbsayings) si_X9_65 [2] rfl rfl (by decide) rfl rfl rfl rfl rfl (Nat.le_of_ble_eq_true rfl) ⟨Nat.le_of_ble_eq_true rfl, Nat.le_of_ble_eq_true rfl⟩ ⟨by first | exact Nat.le_of_ble_eq_true rfl | exact Nat.zero_le _, by first | exact Nat.le_of_ble_eq_true rfl | exact Nat.zero_le _⟩ dX9_weightAgainst_15 (fun r10534 hr10534 => ?_)
      obtain rfl := hr10534
      refine lv_icmp_ge (tgt := 116) hx hb dX9_weightAgainst_18 (by decide) (fun c9 => absurd c9 (nI_ge (a := kP) (b := kbsayings) (by omega) (by omega))) (fun _ => ?_)
      refine lv_aload_n hx hb dX9_weightAgainst_21 rfl (lv_at hl 2 rfl) ?_
      refine lv_iload hx hb dX9_weightAgainst_22 (lv_at hl 0 rfl) ?_
      refine lv_iload_n hx hb dX9_weightAgainst_24 rfl (lv_at hl 4 rfl) ?_
      refine lv_iload_n hx hb dX9_weightAgainst_25 rfl (lv_at hl 5 rfl) ?_
      refine lv_iload hx hb dX9_weightAgainst_26 (lv_at hl 6 rfl) ?_
      refine pV hC hK hl hP hD (c_isOnX l G h0 kP je jp bb sg tf tt9 tl tbv bpersons bpapers bstamps bversions blines bsteps bsayings bfindings bwarnings bquestions td vd vl gp bsayingsc kbsayings fbsayings bpapersc kbpapers fbpapers (hkbsayings) (hkbpapers) (hSP) (by omega)) si_X9_73 [0, 1, 2, 3, 4, 5] rfl rfl (by decide) rfl rfl rfl rfl rfl (Nat.le_of_ble_eq_true rfl) ⟨Nat.le_of_ble_eq_true rfl, Nat.le_of_ble_eq_true rfl⟩ ⟨by first | exact Nat.le_of_ble_eq_true rfl | exact Nat.zero_le _, by first | exact Nat.le_of_ble_eq_true rfl | exact Nat.zero_le _⟩ dX9_weightAgainst_28 (fun r10536 hr10536 => ?_)
      rcases hr10536 with ⟨rfl, a10537⟩ | ⟨rfl, a10537⟩
      · refine lv_if_ne (tgt := 37) hx hb dX9_weightAgainst_31 (by decide) (fun _ => ?_) (fun c9 => absurd c9 (by decide))
        refine lv_aload_n hx hb dX9_weightAgainst_37 rfl (lv_at hl 2 rfl) ?_
        refine gf_X9_9 hC rfl hK hP 0 rfl rfl dX9_weightAgainst_38 ?_
        refine gf_X9_42 hC rfl hK hP 1 rfl rfl dX9_weightAgainst_41 ?_
        refine lv_iload hx hb dX9_weightAgainst_44 (lv_at hl 0 rfl) ?_
        refine lv_iconst (v := 5) hx hb dX9_weightAgainst_46 (by decide) ?_
        refine pV hC hK hl hP hD (c_T_at l G bsayings (nI kP) 5 16 8 bsayingsc kbsayings fbsayings (hkbsayings) (by omega) (by omega)) si_X9_48 [2, 3] rfl rfl (by decide) rfl rfl rfl rfl rfl (Nat.le_of_ble_eq_true rfl) ⟨Nat.le_of_ble_eq_true rfl, Nat.le_of_ble_eq_true rfl⟩ ⟨by first | exact Nat.le_of_ble_eq_true rfl | exact Nat.zero_le _, by first | exact Nat.le_of_ble_eq_true rfl | exact Nat.zero_le _⟩ dX9_weightAgainst_47 (fun r10538 hr10538 => ?_)
        refine eqi (x1 := fbsayings (kP * 8 + 5)) (hr10538.trans (tatq (by omega) (by omega) (by decide) (by decide) rfl)) ?_
        refine lv_iconst (v := 1) hx hb dX9_weightAgainst_50 (by decide) ?_
        refine lv_icmp_ne (tgt := 58) hx hb dX9_weightAgainst_51 (by decide) (fun c_51_10540 => ?_) (fun c_51_10540 => ?_)
        · refine lv_iconst (v := 0) hx hb dX9_weightAgainst_58 (by decide) ?_
          refine lv_istore (lv' := [(7, .int 0), (6, .int (nI kP)), (5, .int su), (0, .ref h0), (1, .int hh), (2, .int (nI je)), (3, .int (nI jp)), (4, .int (IVW fbpapers td vd vl kbpapers))]) hx hb dX9_weightAgainst_59 hl (by decide) rfl (fun ls hl => ?_)
          refine lv_aload_n hx hb dX9_weightAgainst_61 rfl (lv_at hl 3 rfl) ?_
          refine gf_X9_9 hC rfl hK hP 0 rfl rfl dX9_weightAgainst_62 ?_
          refine gf_X9_42 hC rfl hK hP 1 rfl rfl dX9_weightAgainst_65 ?_
          refine lv_iload hx hb dX9_weightAgainst_68 (lv_at hl 1 rfl) ?_
          refine lv_iconst (v := 3) hx hb dX9_weightAgainst_70 (by decide) ?_
          refine pV hC hK hl hP hD (c_T_at l G bsayings (nI kP) 3 16 8 bsayingsc kbsayings fbsayings (hkbsayings) (by omega) (by omega)) si_X9_48 [2, 3] rfl rfl (by decide) rfl rfl rfl rfl rfl (Nat.le_of_ble_eq_true rfl) ⟨Nat.le_of_ble_eq_true rfl, Nat.le_of_ble_eq_true rfl⟩ ⟨by first | exact Nat.le_of_ble_eq_true rfl | exact Nat.zero_le _, by first | exact Nat.le_of_ble_eq_true rfl | exact Nat.zero_le _⟩ dX9_weightAgainst_71 (fun r10541 hr10541 => ?_)
          refine eqi (x1 := fbsayings (kP * 8 + 3)) (hr10541.trans (tatq (by omega) (by omega) (by decide) (by decide) rfl)) ?_
          refine lv_iload_n hx hb dX9_weightAgainst_74 rfl (lv_at hl 4 rfl) ?_
          refine lv_icmp_ge (tgt := 82) hx hb dX9_weightAgainst_75 (by decide) (fun c_75_10543 => ?_) (fun c_75_10543 => ?_)
          · refine lv_iconst (v := 0) hx hb dX9_weightAgainst_82 (by decide) ?_
            refine lv_istore (lv' := [(8, .int 0), (7, .int 0), (6, .int (nI kP)), (5, .int su), (0, .ref h0), (1, .int hh), (2, .int (nI je)), (3, .int (nI jp)), (4, .int (IVW fbpapers td vd vl kbpapers))]) hx hb dX9_weightAgainst_83 hl (by decide) rfl (fun ls hl => ?_)
            refine lv_iload hx hb dX9_weightAgainst_85 (lv_at hl 1 rfl) ?_
            refine lv_iload hx hb dX9_weightAgainst_87 (lv_at hl 0 rfl) ?_
            refine lv_icmp_ne (tgt := 110) hx hb dX9_weightAgainst_89 (by decide) (fun c9 => absurd (by decide) c9) (fun _ => ?_)
            refine lv_iload hx hb dX9_weightAgainst_92 (lv_at hl 3 rfl) ?_
            refine lv_aload_n hx hb dX9_weightAgainst_94 rfl (lv_at hl 4 rfl) ?_
            refine gf_X9_9 hC rfl hK hP 0 rfl rfl dX9_weightAgainst_95 ?_
            refine gf_X9_42 hC rfl hK hP 1 rfl rfl dX9_weightAgainst_98 ?_
            refine lv_iload hx hb dX9_weightAgainst_101 (lv_at hl 2 rfl) ?_
            refine lv_iconst (v := 4) hx hb dX9_weightAgainst_103 (by decide) ?_
            refine pV hC hK hl hP hD (c_T_at l G bsayings (nI kP) 4 16 8 bsayingsc kbsayings fbsayings (hkbsayings) (by omega) (by omega)) si_X9_48 [2, 3] rfl rfl (by decide) rfl rfl rfl rfl rfl (Nat.le_of_ble_eq_true rfl) ⟨Nat.le_of_ble_eq_true rfl, Nat.le_of_ble_eq_true rfl⟩ ⟨by first | exact Nat.le_of_ble_eq_true rfl | exact Nat.zero_le _, by first | exact Nat.le_of_ble_eq_true rfl | exact Nat.zero_le _⟩ dX9_weightAgainst_104 (fun r10544 hr10544 => ?_)
            refine eqi (x1 := fbsayings (kP * 8 + 4)) (hr10544.trans (tatq (by omega) (by omega) (by decide) (by decide) rfl)) ?_
            refine lv_iadd hx hb dX9_weightAgainst_107 ?_
            refine lv_istore (lv' := [(5, .int (su + (fbsayings (kP * 8 + 4)))), (8, .int 0), (7, .int 0), (6, .int (nI kP)), (0, .ref h0), (1, .int hh), (2, .int (nI je)), (3, .int (nI jp)), (4, .int (IVW fbpapers td vd vl kbpapers))]) hx hb dX9_weightAgainst_108 hl (by decide) rfl (fun ls hl => ?_)
            refine lv_iinc (v := nI (kP + 1)) (lv' := [(6, .int (nI (kP + 1))), (5, .int (su + (fbsayings (kP * 8 + 4)))), (8, .int 0), (7, .int 0), (0, .ref h0), (1, .int hh), (2, .int (nI je)), (3, .int (nI jp)), (4, .int (IVW fbpapers td vd vl kbpapers))]) hx hb dX9_weightAgainst_110 hl (k := 3) rfl (nI_1 _) (by decide) rfl (fun ls hl => ?_)
            refine lv_goto (tgt := 6) hx hb dX9_weightAgainst_113 (by decide) ?_
            have hst9 : su + (fbsayings (kP * 8 + 4)) = WGS (PWS fbsayings fbpapers td vd vl je jp) fbsayings hh (kP + 1) := WGS.y hsu ⟨a10537, Or.inr ⟨c_51_10540, c_75_10543⟩⟩
            exact ihP (kP + 1) (su + (fbsayings (kP * 8 + 4))) _ (by omega) (by first | assumption | exact Or.inl rfl | exact Or.inr rfl | exact rfl) (lv_sub hl [0, 1, 4, 5, 6, 7, 8] rfl)
          · refine lv_iconst (v := 1) hx hb dX9_weightAgainst_78 (by decide) ?_
            refine lv_goto (tgt := 83) hx hb dX9_weightAgainst_79 (by decide) ?_
            refine lv_istore (lv' := [(8, .int 1), (7, .int 0), (6, .int (nI kP)), (5, .int su), (0, .ref h0), (1, .int hh), (2, .int (nI je)), (3, .int (nI jp)), (4, .int (IVW fbpapers td vd vl kbpapers))]) hx hb dX9_weightAgainst_83 hl (by decide) rfl (fun ls hl => ?_)
            refine lv_iload hx hb dX9_weightAgainst_85 (lv_at hl 1 rfl) ?_
            refine lv_iload hx hb dX9_weightAgainst_87 (lv_at hl 0 rfl) ?_
            refine lv_icmp_ne (tgt := 110) hx hb dX9_weightAgainst_89 (by decide) (fun _ => ?_) (fun c9 => absurd c9 (by decide))
            refine lv_iinc (v := nI (kP + 1)) (lv' := [(6, .int (nI (kP + 1))), (8, .int 1), (7, .int 0), (5, .int su), (0, .ref h0), (1, .int hh), (2, .int (nI je)), (3, .int (nI jp)), (4, .int (IVW fbpapers td vd vl kbpapers))]) hx hb dX9_weightAgainst_110 hl (k := 2) rfl (nI_1 _) (by decide) rfl (fun ls hl => ?_)
            refine lv_goto (tgt := 6) hx hb dX9_weightAgainst_113 (by decide) ?_
            have hst9 : su = WGS (PWS fbsayings fbpapers td vd vl je jp) fbsayings hh (kP + 1) := WGS.n hsu (fun h9 => h9.2.elim (fun h8 => c_51_10540 h8.1) (fun h8 => c_75_10543 h8.2))
            exact ihP (kP + 1) su _ (by omega) (by first | assumption | exact Or.inl rfl | exact Or.inr rfl | exact rfl) (lv_sub hl [0, 3, 4, 5, 6, 7, 8] rfl)
        · refine lv_iconst (v := 1) hx hb dX9_weightAgainst_54 (by decide) ?_
          refine lv_goto (tgt := 59) hx hb dX9_weightAgainst_55 (by decide) ?_
          refine lv_istore (lv' := [(7, .int 1), (6, .int (nI kP)), (5, .int su), (0, .ref h0), (1, .int hh), (2, .int (nI je)), (3, .int (nI jp)), (4, .int (IVW fbpapers td vd vl kbpapers))]) hx hb dX9_weightAgainst_59 hl (by decide) rfl (fun ls hl => ?_)
          refine lv_aload_n hx hb dX9_weightAgainst_61 rfl (lv_at hl 3 rfl) ?_
          refine gf_X9_9 hC rfl hK hP 0 rfl rfl dX9_weightAgainst_62 ?_
          refine gf_X9_42 hC rfl hK hP 1 rfl rfl dX9_weightAgainst_65 ?_
          refine lv_iload hx hb dX9_weightAgainst_68 (lv_at hl 1 rfl) ?_
          refine lv_iconst (v := 3) hx hb dX9_weightAgainst_70 (by decide) ?_
          refine pV hC hK hl hP hD (c_T_at l G bsayings (nI kP) 3 16 8 bsayingsc kbsayings fbsayings (hkbsayings) (by omega) (by omega)) si_X9_48 [2, 3] rfl rfl (by decide) rfl rfl rfl rfl rfl (Nat.le_of_ble_eq_true rfl) ⟨Nat.le_of_ble_eq_true rfl, Nat.le_of_ble_eq_true rfl⟩ ⟨by first | exact Nat.le_of_ble_eq_true rfl | exact Nat.zero_le _, by first | exact Nat.le_of_ble_eq_true rfl | exact Nat.zero_le _⟩ dX9_weightAgainst_71 (fun r10546 hr10546 => ?_)
          refine eqi (x1 := fbsayings (kP * 8 + 3)) (hr10546.trans (tatq (by omega) (by omega) (by decide) (by decide) rfl)) ?_
          refine lv_iload_n hx hb dX9_weightAgainst_74 rfl (lv_at hl 4 rfl) ?_
          refine lv_icmp_ge (tgt := 82) hx hb dX9_weightAgainst_75 (by decide) (fun c_75_10548 => ?_) (fun c_75_10548 => ?_)
          · refine lv_iconst (v := 0) hx hb dX9_weightAgainst_82 (by decide) ?_
            refine lv_istore (lv' := [(8, .int 0), (7, .int 1), (6, .int (nI kP)), (5, .int su), (0, .ref h0), (1, .int hh), (2, .int (nI je)), (3, .int (nI jp)), (4, .int (IVW fbpapers td vd vl kbpapers))]) hx hb dX9_weightAgainst_83 hl (by decide) rfl (fun ls hl => ?_)
            refine lv_iload hx hb dX9_weightAgainst_85 (lv_at hl 1 rfl) ?_
            refine lv_iload hx hb dX9_weightAgainst_87 (lv_at hl 0 rfl) ?_
            refine lv_icmp_ne (tgt := 110) hx hb dX9_weightAgainst_89 (by decide) (fun _ => ?_) (fun c9 => absurd c9 (by decide))
            refine lv_iinc (v := nI (kP + 1)) (lv' := [(6, .int (nI (kP + 1))), (8, .int 0), (7, .int 1), (5, .int su), (0, .ref h0), (1, .int hh), (2, .int (nI je)), (3, .int (nI jp)), (4, .int (IVW fbpapers td vd vl kbpapers))]) hx hb dX9_weightAgainst_110 hl (k := 2) rfl (nI_1 _) (by decide) rfl (fun ls hl => ?_)
            refine lv_goto (tgt := 6) hx hb dX9_weightAgainst_113 (by decide) ?_
            have hst9 : su = WGS (PWS fbsayings fbpapers td vd vl je jp) fbsayings hh (kP + 1) := WGS.n hsu (fun h9 => h9.2.elim (fun h8 => Int32.not_lt.mpr c_75_10548 h8.2) (fun h8 => h8.1 c_51_10540))
            exact ihP (kP + 1) su _ (by omega) (by first | assumption | exact Or.inl rfl | exact Or.inr rfl | exact rfl) (lv_sub hl [0, 3, 4, 5, 6, 7, 8] rfl)
          · refine lv_iconst (v := 1) hx hb dX9_weightAgainst_78 (by decide) ?_
            refine lv_goto (tgt := 83) hx hb dX9_weightAgainst_79 (by decide) ?_
            refine lv_istore (lv' := [(8, .int 1), (7, .int 1), (6, .int (nI kP)), (5, .int su), (0, .ref h0), (1, .int hh), (2, .int (nI je)), (3, .int (nI jp)), (4, .int (IVW fbpapers td vd vl kbpapers))]) hx hb dX9_weightAgainst_83 hl (by decide) rfl (fun ls hl => ?_)
            refine lv_iload hx hb dX9_weightAgainst_85 (lv_at hl 1 rfl) ?_
            refine lv_iload hx hb dX9_weightAgainst_87 (lv_at hl 0 rfl) ?_
            refine lv_icmp_ne (tgt := 110) hx hb dX9_weightAgainst_89 (by decide) (fun c9 => absurd (by decide) c9) (fun _ => ?_)
            refine lv_iload hx hb dX9_weightAgainst_92 (lv_at hl 3 rfl) ?_
            refine lv_aload_n hx hb dX9_weightAgainst_94 rfl (lv_at hl 4 rfl) ?_
            refine gf_X9_9 hC rfl hK hP 0 rfl rfl dX9_weightAgainst_95 ?_
            refine gf_X9_42 hC rfl hK hP 1 rfl rfl dX9_weightAgainst_98 ?_
            refine lv_iload hx hb dX9_weightAgainst_101 (lv_at hl 2 rfl) ?_
            refine lv_iconst (v := 4) hx hb dX9_weightAgainst_103 (by decide) ?_
            refine pV hC hK hl hP hD (c_T_at l G bsayings (nI kP) 4 16 8 bsayingsc kbsayings fbsayings (hkbsayings) (by omega) (by omega)) si_X9_48 [2, 3] rfl rfl (by decide) rfl rfl rfl rfl rfl (Nat.le_of_ble_eq_true rfl) ⟨Nat.le_of_ble_eq_true rfl, Nat.le_of_ble_eq_true rfl⟩ ⟨by first | exact Nat.le_of_ble_eq_true rfl | exact Nat.zero_le _, by first | exact Nat.le_of_ble_eq_true rfl | exact Nat.zero_le _⟩ dX9_weightAgainst_104 (fun r10549 hr10549 => ?_)
            refine eqi (x1 := fbsayings (kP * 8 + 4)) (hr10549.trans (tatq (by omega) (by omega) (by decide) (by decide) rfl)) ?_
            refine lv_iadd hx hb dX9_weightAgainst_107 ?_
            refine lv_istore (lv' := [(5, .int (su + (fbsayings (kP * 8 + 4)))), (8, .int 1), (7, .int 1), (6, .int (nI kP)), (0, .ref h0), (1, .int hh), (2, .int (nI je)), (3, .int (nI jp)), (4, .int (IVW fbpapers td vd vl kbpapers))]) hx hb dX9_weightAgainst_108 hl (by decide) rfl (fun ls hl => ?_)
            refine lv_iinc (v := nI (kP + 1)) (lv' := [(6, .int (nI (kP + 1))), (5, .int (su + (fbsayings (kP * 8 + 4)))), (8, .int 1), (7, .int 1), (0, .ref h0), (1, .int hh), (2, .int (nI je)), (3, .int (nI jp)), (4, .int (IVW fbpapers td vd vl kbpapers))]) hx hb dX9_weightAgainst_110 hl (k := 3) rfl (nI_1 _) (by decide) rfl (fun ls hl => ?_)
            refine lv_goto (tgt := 6) hx hb dX9_weightAgainst_113 (by decide) ?_
            have hst9 : su + (fbsayings (kP * 8 + 4)) = WGS (PWS fbsayings fbpapers td vd vl je jp) fbsayings hh (kP + 1) := WGS.y hsu ⟨a10537, Or.inl ⟨c_51_10540, Int32.not_le.mp c_75_10548⟩⟩
            exact ihP (kP + 1) (su + (fbsayings (kP * 8 + 4))) _ (by omega) (by first | assumption | exact Or.inl rfl | exact Or.inr rfl | exact rfl) (lv_sub hl [0, 1, 4, 5, 6, 7, 8] rfl)
      · refine lv_if_ne (tgt := 37) hx hb dX9_weightAgainst_31 (by decide) (fun c9 => absurd (by decide) c9) (fun _ => ?_)
        refine lv_goto (tgt := 110) hx hb dX9_weightAgainst_34 (by decide) ?_
        refine lv_iinc (v := nI (kP + 1)) (lv' := [(6, .int (nI (kP + 1))), (5, .int su), (0, .ref h0), (1, .int hh), (2, .int (nI je)), (3, .int (nI jp)), (4, .int (IVW fbpapers td vd vl kbpapers))]) hx hb dX9_weightAgainst_110 hl (k := 0) rfl (nI_1 _) (by decide) rfl (fun ls hl => ?_)
        refine lv_goto (tgt := 6) hx hb dX9_weightAgainst_113 (by decide) ?_
        have hst9 : su = WGS (PWS fbsayings fbpapers td vd vl je jp) fbsayings hh (kP + 1) := WGS.n hsu (fun h9 => a10537 h9.1)
        exact ihP (kP + 1) su _ (by omega) (by first | assumption | exact Or.inl rfl | exact Or.inr rfl | exact rfl) (lv_sub hl [0, 1, 2, 3, 4, 5, 6] rfl)
  exact keyP kbsayings 0 0 _ (by omega) (by first | assumption | exact Or.inl rfl | exact Or.inr rfl | exact rfl) (lv_sub hl [0, 1, 2, 3, 4, 5, 6] rfl)
set_option maxHeartbeats 4000000 in
set_option maxRecDepth 100000 in
theorem c_weighX (l : Launch) (G : GG) (K9 : Nat → Nat → Int → Prop) (V9 : Nat → Prop) (h0 : Nat) (je : Nat) (jp : Nat) (bb : Nat) (sg : Nat) (tf : Int32) (tt9 : Int32) (tl : Int32) (tbv : Int32) (clk : Nat) (fi : Nat) (la : Nat) (ml : Nat) (mm : Nat) (sl : Nat) (sm : Nat) (scl : Int32) (fla : Nat → Int32) (fml : Nat → Int32) (fmm : Nat → Int32) (fsl : Nat → Int32) (fsm : Nat → Int32) (bpersons : Nat) (bpapers : Nat) (bstamps : Nat) (bversions : Nat) (blines : Nat) (bsteps : Nat) (bsayings : Nat) (bfindings : Nat) (bwarnings : Nat) (bquestions : Nat) (td : Int32) (vd : Int32) (vl : Int32) (gp : Int32) (bpapersc : Nat) (kbpapers : Nat) (fbpapers : Nat → Int32) (bpersonsc : Nat) (kbpersons : Nat) (fbpersons : Nat → Int32) (bsayingsc : Nat) (kbsayings : Nat) (fbsayings : Nat → Int32) (fbstamps : Nat → Int32) (kbstamps : Nat) (hkbpapers : kbpapers ≤ 12) (hkbpersons : kbpersons ≤ 10) (hkbsayings : kbsayings ≤ 16) (hSP : SPI fbsayings kbsayings kbpapers) (hSO : SPO fbsayings kbsayings kbpersons) (hSL : PSL fbpersons) (hsg : SGQ K9 fbstamps V9 kbstamps scl fla fml fmm fsl fsm) (hSV : SVL fbstamps kbstamps) (hjp : jp < kbpapers) (hje : je < kbpersons) : MV l G yX9_weigh cX9_weigh 7 6 0 0 [.ref h0, .int (nI je), .int (nI jp), .int (IVW fbpapers td vd vl kbpapers)] [(h0, .inr (9, [.ref bb, .ref sg, .int tf, .int tt9, .int tl, .int tbv])), (sg, .inr (7, [.ref bb, .ref clk, .ref fi, .ref la, .ref ml, .ref mm, .ref sl, .ref sm, .int scl])), (la, .inl (G.2.1, 12, .inl fla)), (ml, .inl (G.2.1, 12, .inl fml)), (mm, .inl (G.2.1, 12, .inl fmm)), (sl, .inl (G.2.1, 12, .inl fsl)), (sm, .inl (G.2.1, 12, .inl fsm)), (bb, .inr (0, [.ref bpersons, .ref bpapers, .ref bstamps, .ref bversions, .ref blines, .ref bsteps, .ref bsayings, .ref bfindings, .ref bwarnings, .ref bquestions, .int td, .int vd, .int vl, .int gp])), (bpapers, .inr (8, [.int 12, .int 6, .ref bpapersc, .int (nI kbpapers)])), (bpapersc, .inl (G.2.1, 72, .inl fbpapers)), (bpersons, .inr (8, [.int 10, .int 2, .ref bpersonsc, .int (nI kbpersons)])), (bpersonsc, .inl (G.2.1, 20, .inl fbpersons)), (bsayings, .inr (8, [.int 16, .int 8, .ref bsayingsc, .int (nI kbsayings)])), (bsayingsc, .inl (G.2.1, 128, .inl fbsayings))] (fun u : Int32 × Int32 × Int32 × Int32 => HIQ K9 fbstamps V9 (fbpapers (jp * 6 + 0)) (fbpapers (jp * 6 + 1)) (fbpersons (je * 2 + 1)) kbstamps jp je u.1 u.2.1 ∧ BST (fun h9 => WGS (PWS fbsayings fbpapers td vd vl je jp) fbsayings h9 kbsayings) u.1 u.2.1 u.2.2.2 u.2.2.1) (fun u : Int32 × Int32 × Int32 × Int32 => [(h0, .inr (9, [.ref bb, .ref sg, .int u.1, .int u.2.1, .int u.2.2.1, .int u.2.2.2])), (sg, .inr (7, [.ref bb, .ref clk, .ref fi, .ref la, .ref ml, .ref mm, .ref sl, .ref sm, .int scl])), (la, .inl (G.2.1, 12, .inl fla)), (ml, .inl (G.2.1, 12, .inl fml)), (mm, .inl (G.2.1, 12, .inl fmm)), (sl, .inl (G.2.1, 12, .inl fsl)), (sm, .inl (G.2.1, 12, .inl fsm)), (bb, .inr (0, [.ref bpersons, .ref bpapers, .ref bstamps, .ref bversions, .ref blines, .ref bsteps, .ref bsayings, .ref bfindings, .ref bwarnings, .ref bquestions, .int td, .int vd, .int vl, .int gp])), (bpapers, .inr (8, [.int 12, .int 6, .ref bpapersc, .int (nI kbpapers)])), (bpapersc, .inl (G.2.1, 72, .inl fbpapers)), (bpersons, .inr (8, [.int 10, .int 2, .ref bpersonsc, .int (nI kbpersons)])), (bpersonsc, .inl (G.2.1, 20, .inl fbpersons)), (bsayings, .inr (8, [.int 16, .int 8, .ref bsayingsc, .int (nI kbsayings)])), (bsayingsc, .inl (G.2.1, 128, .inl fbsayings))]) := by
  refine MV.start (by decide +kernel) (Nat.le_of_ble_eq_true rfl) ?_
  intro p e s m below meth c A ls hC hK hP hD hS hA hl
  have hl : lv_has ls 7 [(0, .ref h0), (1, .int (nI je)), (2, .int (nI jp)), (3, .int (IVW fbpapers td vd vl kbpapers))] := hl
  obtain ⟨hx, hb, hr, hml, hB, hown, hlocks, hnm⟩ := id hC
  refine lv_aload_n hx hb dX9_weigh_0 rfl (lv_at hl 0 rfl) ?_
  refine lv_iload_n hx hb dX9_weigh_1 rfl (lv_at hl 1 rfl) ?_
  refine lv_iload_n hx hb dX9_weigh_2 rfl (lv_at hl 2 rfl) ?_
  refine vV (wr := [(bsayings, .inr (8, [.int 16, .int 8, .ref bsayingsc, .int (nI kbsayings)])), (bsayingsc, .inl (G.2.1, 128, .inl fbsayings))]) hC hK hl hP hD hS hA (c_boundX l G K9 V9 h0 je jp bb sg tf tt9 tl tbv clk fi la ml mm sl sm scl fla fml fmm fsl fsm bpersons bpapers bstamps bversions blines bsteps bsayings bfindings bwarnings bquestions td vd vl gp bpapersc kbpapers fbpapers bpersonsc kbpersons fbpersons fbstamps kbstamps (hkbpapers) (hkbpersons) (hsg) (hjp) (hje)) si_X9_57 [0, 1, 2, 3, 4, 5, 6, 7, 8, 9, 10, 11] [12, 13] rfl rfl (by decide) rfl (by decide) (by decide) rfl rfl rfl rfl rfl (Nat.le_of_ble_eq_true rfl) ⟨Nat.le_of_ble_eq_true rfl, Nat.le_of_ble_eq_true rfl⟩ ⟨Nat.le_of_ble_eq_true rfl, Nat.le_of_ble_eq_true rfl⟩ dX9_weigh_3 (fun u10552 H locs hr10551 hP hD hS => ?_)
  obtain ⟨tf110553, tt110554⟩ := u10552
  try dsimp only at hr10551
  have hPD : va_PD G A [(bsayings, .inr (8, [.int 16, .int 8, .ref bsayingsc, .int (nI kbsayings)])), (bsayingsc, .inl (G.2.1, 128, .inl fbsayings)), (h0, .inr (9, [.ref bb, .ref sg, .int tf110553, .int tt110554, .int tl, .int tbv])), (sg, .inr (7, [.ref bb, .ref clk, .ref fi, .ref la, .ref ml, .ref mm, .ref sl, .ref sm, .int scl])), (la, .inl (G.2.1, 12, .inl fla)), (ml, .inl (G.2.1, 12, .inl fml)), (mm, .inl (G.2.1, 12, .inl fmm)), (sl, .inl (G.2.1, 12, .inl fsl)), (sm, .inl (G.2.1, 12, .inl fsm)), (bb, .inr (0, [.ref bpersons, .ref bpapers, .ref bstamps, .ref bversions, .ref blines, .ref bsteps, .ref bsayings, .ref bfindings, .ref bwarnings, .ref bquestions, .int td, .int vd, .int vl, .int gp])), (bpapers, .inr (8, [.int 12, .int 6, .ref bpapersc, .int (nI kbpapers)])), (bpapersc, .inl (G.2.1, 72, .inl fbpapers)), (bpersons, .inr (8, [.int 10, .int 2, .ref bpersonsc, .int (nI kbpersons)])), (bpersonsc, .inl (G.2.1, 20, .inl fbpersons))] H := And.intro hP hD
  obtain ⟨hP, hD⟩ := hPD
  have w10555 := hr10551
  refine lv_aload_n hx hb dX9_weigh_6 rfl (lv_at hl 0 rfl) ?_
  refine lv_aload_n hx hb dX9_weigh_7 rfl (lv_at hl 0 rfl) ?_
  refine gf_X9_19 hC rfl hK hP 2 rfl rfl dX9_weigh_8 ?_
  refine pf_X9_29 hC rfl hK hP hD hS 2 (ws' := [(bsayings, .inr (8, [.int 16, .int 8, .ref bsayingsc, .int (nI kbsayings)])), (bsayingsc, .inl (G.2.1, 128, .inl fbsayings)), (h0, .inr (9, [.ref bb, .ref sg, .int tf110553, .int tt110554, .int tl, .int tf110553])), (sg, .inr (7, [.ref bb, .ref clk, .ref fi, .ref la, .ref ml, .ref mm, .ref sl, .ref sm, .int scl])), (la, .inl (G.2.1, 12, .inl fla)), (ml, .inl (G.2.1, 12, .inl fml)), (mm, .inl (G.2.1, 12, .inl fmm)), (sl, .inl (G.2.1, 12, .inl fsl)), (sm, .inl (G.2.1, 12, .inl fsm)), (bb, .inr (0, [.ref bpersons, .ref bpapers, .ref bstamps, .ref bversions, .ref blines, .ref bsteps, .ref bsayings, .ref bfindings, .ref bwarnings, .ref bquestions, .int td, .int vd, .int vl, .int gp])), (bpapers, .inr (8, [.int 12, .int 6, .ref bpapersc, .int (nI kbpapers)])), (bpapersc, .inl (G.2.1, 72, .inl fbpapers)), (bpersons, .inr (8, [.int 10, .int 2, .ref bpersonsc, .int (nI kbpersons)])), (bpersonsc, .inl (G.2.1, 20, .inl fbpersons))]) rfl (Nat.le_of_ble_eq_true rfl) rfl rfl rfl dX9_weigh_11 (fun H locs hP hD hS => ?_)
  refine lv_aload_n hx hb dX9_weigh_14 rfl (lv_at hl 0 rfl) ?_
  refine lv_aload_n hx hb dX9_weigh_15 rfl (lv_at hl 0 rfl) ?_
  refine lv_aload_n hx hb dX9_weigh_16 rfl (lv_at hl 0 rfl) ?_
  refine gf_X9_19 hC rfl hK hP 2 rfl rfl dX9_weigh_17 ?_
  refine lv_iload_n hx hb dX9_weigh_20 rfl (lv_at hl 1 rfl) ?_
  refine lv_iload_n hx hb dX9_weigh_21 rfl (lv_at hl 2 rfl) ?_
  refine lv_iload_n hx hb dX9_weigh_22 rfl (lv_at hl 3 rfl) ?_
  refine pV hC hK hl hP hD (c_weightAgainstX l G h0 tf110553 je jp bb sg tf110553 tt110554 tl tf110553 bpersons bpapers bstamps bversions blines bsteps bsayings bfindings bwarnings bquestions td vd vl gp bsayingsc kbsayings fbsayings bpapersc kbpapers fbpapers (hkbsayings) (hkbpapers) (hSP)) si_X9_61 [2, 9, 0, 1, 10, 11] rfl rfl (by decide) rfl rfl rfl rfl rfl (Nat.le_of_ble_eq_true rfl) ⟨Nat.le_of_ble_eq_true rfl, Nat.le_of_ble_eq_true rfl⟩ ⟨by first | exact Nat.le_of_ble_eq_true rfl | exact Nat.zero_le _, by first | exact Nat.le_of_ble_eq_true rfl | exact Nat.zero_le _⟩ dX9_weigh_23 (fun r10556 hr10556 => ?_)
  obtain rfl := hr10556
  refine pf_X9_26 hC rfl hK hP hD hS 2 (ws' := [(bsayings, .inr (8, [.int 16, .int 8, .ref bsayingsc, .int (nI kbsayings)])), (bsayingsc, .inl (G.2.1, 128, .inl fbsayings)), (h0, .inr (9, [.ref bb, .ref sg, .int tf110553, .int tt110554, .int (WGS (PWS fbsayings fbpapers td vd vl je jp) fbsayings tf110553 kbsayings), .int tf110553])), (sg, .inr (7, [.ref bb, .ref clk, .ref fi, .ref la, .ref ml, .ref mm, .ref sl, .ref sm, .int scl])), (la, .inl (G.2.1, 12, .inl fla)), (ml, .inl (G.2.1, 12, .inl fml)), (mm, .inl (G.2.1, 12, .inl fmm)), (sl, .inl (G.2.1, 12, .inl fsl)), (sm, .inl (G.2.1, 12, .inl fsm)), (bb, .inr (0, [.ref bpersons, .ref bpapers, .ref bstamps, .ref bversions, .ref blines, .ref bsteps, .ref bsayings, .ref bfindings, .ref bwarnings, .ref bquestions, .int td, .int vd, .int vl, .int gp])), (bpapers, .inr (8, [.int 12, .int 6, .ref bpapersc, .int (nI kbpapers)])), (bpapersc, .inl (G.2.1, 72, .inl fbpapers)), (bpersons, .inr (8, [.int 10, .int 2, .ref bpersonsc, .int (nI kbpersons)])), (bpersonsc, .inl (G.2.1, 20, .inl fbpersons))]) rfl (Nat.le_of_ble_eq_true rfl) rfl rfl rfl dX9_weigh_26 (fun H locs hP hD hS => ?_)
  refine lv_iconst (v := 0) hx hb dX9_weigh_29 (by decide) ?_
  refine lv_istore (lv' := [(4, .int 0), (0, .ref h0), (1, .int (nI je)), (2, .int (nI jp)), (3, .int (IVW fbpapers td vd vl kbpapers))]) hx hb dX9_weigh_30 hl (by decide) rfl (fun ls hl => ?_)
  have hle9 := HIQ.le hSV (hSL je (by omega)).1 (hSL je (by omega)).2 w10555
  have keyP : ∀ (nP kP : Nat) (wl : Int32) (wb : Int32) (H : Heap) (locs : List Loc) (ls : Array Slot), kP + nP = kbsayings → (LBT (fun h9 => WGS (PWS fbsayings fbpapers td vd vl je jp) fbsayings h9 kbsayings) (CAN (PWS fbsayings fbpapers td vd vl je jp) fbsayings tf110553 tt110554 kP) wb wl) → va_PD G A [(bsayings, .inr (8, [.int 16, .int 8, .ref bsayingsc, .int (nI kbsayings)])), (bsayingsc, .inl (G.2.1, 128, .inl fbsayings)), (h0, .inr (9, [.ref bb, .ref sg, .int tf110553, .int tt110554, .int wl, .int wb])), (sg, .inr (7, [.ref bb, .ref clk, .ref fi, .ref la, .ref ml, .ref mm, .ref sl, .ref sm, .int scl])), (la, .inl (G.2.1, 12, .inl fla)), (ml, .inl (G.2.1, 12, .inl fml)), (mm, .inl (G.2.1, 12, .inl fmm)), (sl, .inl (G.2.1, 12, .inl fsl)), (sm, .inl (G.2.1, 12, .inl fsm)), (bb, .inr (0, [.ref bpersons, .ref bpapers, .ref bstamps, .ref bversions, .ref blines, .ref bsteps, .ref bsayings, .ref bfindings, .ref bwarnings, .ref bquestions, .int td, .int vd, .int vl, .int gp])), (bpapers, .inr (8, [.int 12, .int 6, .ref bpapersc, .int (nI kbpapers)])), (bpapersc, .inl (G.2.1, 72, .inl fbpapers)), (bpersons, .inr (8, [.int 10, .int 2, .ref bpersonsc, .int (nI kbpersons)])), (bpersonsc, .inl (G.2.1, 20, .inl fbpersons))] H → va_S A s.heap H locs → lv_has ls 7 [(4, .int (nI kP)), (0, .ref h0), (1, .int (nI je)), (2, .int (nI jp)), (3, .int (IVW fbpapers td vd vl kbpapers))] → W p l e (RM 6 0 0) s m ([.ref h0, .int (nI je), .int (nI jp), .int (IVW fbpapers td vd vl kbpapers)] : List Value).toArray below meth c H locs 0 0 (MQ below (QV G (fun u : Int32 × Int32 × Int32 × Int32 => HIQ K9 fbstamps V9 (fbpapers (jp * 6 + 0)) (fbpapers (jp * 6 + 1)) (fbpersons (je * 2 + 1)) kbstamps jp je u.1 u.2.1 ∧ BST (fun h9 => WGS (PWS fbsayings fbpapers td vd vl je jp) fbsayings h9 kbsayings) u.1 u.2.1 u.2.2.2 u.2.2.1) (fun u : Int32 × Int32 × Int32 × Int32 => [(h0, .inr (9, [.ref bb, .ref sg, .int u.1, .int u.2.1, .int u.2.2.1, .int u.2.2.2])), (sg, .inr (7, [.ref bb, .ref clk, .ref fi, .ref la, .ref ml, .ref mm, .ref sl, .ref sm, .int scl])), (la, .inl (G.2.1, 12, .inl fla)), (ml, .inl (G.2.1, 12, .inl fml)), (mm, .inl (G.2.1, 12, .inl fmm)), (sl, .inl (G.2.1, 12, .inl fsl)), (sm, .inl (G.2.1, 12, .inl fsm)), (bb, .inr (0, [.ref bpersons, .ref bpapers, .ref bstamps, .ref bversions, .ref blines, .ref bsteps, .ref bsayings, .ref bfindings, .ref bwarnings, .ref bquestions, .int td, .int vd, .int vl, .int gp])), (bpapers, .inr (8, [.int 12, .int 6, .ref bpapersc, .int (nI kbpapers)])), (bpapersc, .inl (G.2.1, 72, .inl fbpapers)), (bpersons, .inr (8, [.int 10, .int 2, .ref bpersonsc, .int (nI kbpersons)])), (bpersonsc, .inl (G.2.1, 20, .inl fbpersons)), (bsayings, .inr (8, [.int 16, .int 8, .ref bsayingsc, .int (nI kbsayings)])), (bsayingsc, .inl (G.2.1, 128, .inl fbsayings))]) A) ([.ref h0, .int (nI je), .int (nI jp), .int (IVW fbpapers td vd vl kbpapers)] : List Value).toArray s 0 0 A) (F0 m 32 ls []) := by
    intro nP
    induction nP with
    | zero =>
      intro kP wl wb H locs ls hkP hlb hPD hS hl
      obtain ⟨hP, hD⟩ := hPD
      obtain rfl : kbsayings = kP := by omega
      have hl : lv_has ls 7 [(4, .int (nI kbsayings)), (0, .ref h0), (1, .int (nI je)), (2, .int (nI jp)), (3, .int (IVW fbpapers td vd vl kbpapers))] := hl
      refine lv_iload hx hb dX9_weigh_32 (lv_at hl 0 rfl) ?_
      refine lv_aload_n hx hb dX9_weigh_34 rfl (lv_at hl 1 rfl) ?_
      refine gf_X9_9 hC rfl hK hP 2 rfl rfl dX9_weigh_35 ?_
      refine gf_X9_42 hC rfl hK hP 9 rfl rfl dX9_weigh_38 ?_
      refine pV hC hK hl hP hD (c_T_count l G bsayings 16 8 bsayingsc kbsayings) si_X9_65 [0] rfl rfl (by decide) rfl rfl rfl rfl rfl (Nat.le_of_ble_eq_true rfl) ⟨Nat.le_of_ble_eq_true rfl, Nat.le_of_ble_eq_true rfl⟩ ⟨by first | exact Nat.le_of_ble_eq_true rfl | exact Nat.zero_le _, by first | exact Nat.le_of_ble_eq_true rfl | exact Nat.zero_le _⟩ dX9_weigh_41 (fun r10558 hr10558 => ?_)
      obtain rfl := hr10558
      refine lv_icmp_ge (tgt := 154) hx hb dX9_weigh_44 (by decide) (fun _ => ?_) (fun c9 => absurd (Int32.le_refl _) c9)
      exact RV hC hP hD hS [2, 3, 4, 5, 6, 7, 8, 9, 10, 11, 12, 13, 0, 1] (tf110553, tt110554, wl, wb) rfl rfl (by decide) (⟨w10555, LBT.bst (fun s9 hs9 => (hSO s9 hs9).2.1) hle9.1 hle9.2.1 hle9.2.2 hlb⟩) dX9_weigh_154
    | succ nP ihP =>
      intro kP wl wb H locs ls hkP hlb hPD hS hl
      obtain ⟨hP, hD⟩ := hPD
      refine lv_iload hx hb dX9_weigh_32 (lv_at hl 0 rfl) ?_
      refine lv_aload_n hx hb dX9_weigh_34 rfl (lv_at hl 1 rfl) ?_
      refine gf_X9_9 hC rfl hK hP 2 rfl rfl dX9_weigh_35 ?_
      refine gf_X9_42 hC rfl hK hP 9 rfl rfl dX9_weigh_38 ?_
      refine pV hC hK hl hP hD (c_T_count l G bsayings 16 8 bsayingsc kbsayings) si_X9_65 [0] rfl rfl (by decide) rfl rfl rfl rfl rfl (Nat.le_of_ble_eq_true rfl) ⟨Nat.le_of_ble_eq_true rfl, Nat.le_of_ble_eq_true rfl⟩ ⟨by first | exact Nat.le_of_ble_eq_true rfl | exact Nat.zero_le _, by first | exact Nat.le_of_ble_eq_true rfl | exact Nat.zero_le _⟩ dX9_weigh_41 (fun r10560 hr10560 => ?_)
      obtain rfl := hr10560
      refine lv_icmp_ge (tgt := 154) hx hb dX9_weigh_44 (by decide) (fun c9 => absurd c9 (nI_ge (a := kP) (b := kbsayings) (by omega) (by omega))) (fun _ => ?_)
      refine lv_aload_n hx hb dX9_weigh_47 rfl (lv_at hl 1 rfl) ?_
      refine gf_X9_9 hC rfl hK hP 2 rfl rfl dX9_weigh_48 ?_
      refine gf_X9_42 hC rfl hK hP 9 rfl rfl dX9_weigh_51 ?_
      refine lv_iload hx hb dX9_weigh_54 (lv_at hl 0 rfl) ?_
      refine lv_iconst (v := 3) hx hb dX9_weigh_56 (by decide) ?_
      refine pV hC hK hl hP hD (c_T_at l G bsayings (nI kP) 3 16 8 bsayingsc kbsayings fbsayings (hkbsayings) (by omega) (by omega)) si_X9_48 [0, 1] rfl rfl (by decide) rfl rfl rfl rfl rfl (Nat.le_of_ble_eq_true rfl) ⟨Nat.le_of_ble_eq_true rfl, Nat.le_of_ble_eq_true rfl⟩ ⟨by first | exact Nat.le_of_ble_eq_true rfl | exact Nat.zero_le _, by first | exact Nat.le_of_ble_eq_true rfl | exact Nat.zero_le _⟩ dX9_weigh_57 (fun r10562 hr10562 => ?_)
      refine eqi (x1 := fbsayings (kP * 8 + 3)) (hr10562.trans (tatq (by omega) (by omega) (by decide) (by decide) rfl)) ?_
      refine lv_iconst (v := 1) hx hb dX9_weigh_60 (by decide) ?_
      refine lv_iadd hx hb dX9_weigh_61 ?_
      refine lv_istore (lv' := [(5, .int ((fbsayings (kP * 8 + 3)) + 1)), (4, .int (nI kP)), (0, .ref h0), (1, .int (nI je)), (2, .int (nI jp)), (3, .int (IVW fbpapers td vd vl kbpapers))]) hx hb dX9_weigh_62 hl (by decide) rfl (fun ls hl => ?_)
      refine lv_iload hx hb dX9_weigh_64 (lv_at hl 0 rfl) ?_
      refine lv_aload_n hx hb dX9_weigh_66 rfl (lv_at hl 2 rfl) ?_
      refine gf_X9_19 hC rfl hK hP 2 rfl rfl dX9_weigh_67 ?_
      refine lv_aload_n hx hb dX9_weigh_70 rfl (lv_at hl 2 rfl) ?_
      refine gf_X9_23 hC rfl hK hP 2 rfl rfl dX9_weigh_71 ?_
      refine pSN hC hK hl (c_within l G ((fbsayings (kP * 8 + 3)) + 1) tf110553 tt110554) si_X9_69 rfl rfl (Nat.le_of_ble_eq_true rfl) ⟨Nat.le_of_ble_eq_true rfl, Nat.le_of_ble_eq_true rfl⟩ ⟨by first | exact Nat.le_of_ble_eq_true rfl | exact Nat.zero_le _, by first | exact Nat.le_of_ble_eq_true rfl | exact Nat.zero_le _⟩ dX9_weigh_74 (fun r10564 hr10564 => ?_)
      rcases hr10564 with ⟨rfl, a10565⟩ | ⟨rfl, a10565⟩
      · refine lv_if_eq (tgt := 148) hx hb dX9_weigh_77 (by decide) (fun c9 => absurd c9 (by decide)) (fun _ => ?_)
        refine lv_aload_n hx hb dX9_weigh_80 rfl (lv_at hl 2 rfl) ?_
        refine lv_iload hx hb dX9_weigh_81 (lv_at hl 1 rfl) ?_
        refine lv_iload_n hx hb dX9_weigh_83 rfl (lv_at hl 3 rfl) ?_
        refine lv_iload_n hx hb dX9_weigh_84 rfl (lv_at hl 4 rfl) ?_
        refine lv_iload_n hx hb dX9_weigh_85 rfl (lv_at hl 5 rfl) ?_
        refine pV hC hK hl hP hD (c_isOnX l G h0 kP je jp bb sg tf110553 tt110554 wl wb bpersons bpapers bstamps bversions blines bsteps bsayings bfindings bwarnings bquestions td vd vl gp bsayingsc kbsayings fbsayings bpapersc kbpapers fbpapers (hkbsayings) (hkbpapers) (hSP) (by omega)) si_X9_73 [2, 9, 0, 1, 10, 11] rfl rfl (by decide) rfl rfl rfl rfl rfl (Nat.le_of_ble_eq_true rfl) ⟨Nat.le_of_ble_eq_true rfl, Nat.le_of_ble_eq_true rfl⟩ ⟨by first | exact Nat.le_of_ble_eq_true rfl | exact Nat.zero_le _, by first | exact Nat.le_of_ble_eq_true rfl | exact Nat.zero_le _⟩ dX9_weigh_86 (fun r10566 hr10566 => ?_)
        rcases hr10566 with ⟨rfl, a10567⟩ | ⟨rfl, a10567⟩
        · refine lv_if_ne (tgt := 95) hx hb dX9_weigh_89 (by decide) (fun _ => ?_) (fun c9 => absurd c9 (by decide))
          refine lv_aload_n hx hb dX9_weigh_95 rfl (lv_at hl 2 rfl) ?_
          refine lv_iload hx hb dX9_weigh_96 (lv_at hl 0 rfl) ?_
          refine lv_iload_n hx hb dX9_weigh_98 rfl (lv_at hl 3 rfl) ?_
          refine lv_iload_n hx hb dX9_weigh_99 rfl (lv_at hl 4 rfl) ?_
          refine lv_iload_n hx hb dX9_weigh_100 rfl (lv_at hl 5 rfl) ?_
          refine pV hC hK hl hP hD (c_weightAgainstX l G h0 ((fbsayings (kP * 8 + 3)) + 1) je jp bb sg tf110553 tt110554 wl wb bpersons bpapers bstamps bversions blines bsteps bsayings bfindings bwarnings bquestions td vd vl gp bsayingsc kbsayings fbsayings bpapersc kbpapers fbpapers (hkbsayings) (hkbpapers) (hSP)) si_X9_61 [2, 9, 0, 1, 10, 11] rfl rfl (by decide) rfl rfl rfl rfl rfl (Nat.le_of_ble_eq_true rfl) ⟨Nat.le_of_ble_eq_true rfl, Nat.le_of_ble_eq_true rfl⟩ ⟨by first | exact Nat.le_of_ble_eq_true rfl | exact Nat.zero_le _, by first | exact Nat.le_of_ble_eq_true rfl | exact Nat.zero_le _⟩ dX9_weigh_101 (fun r10568 hr10568 => ?_)
          obtain rfl := hr10568
          refine lv_istore (lv' := [(6, .int (WGS (PWS fbsayings fbpapers td vd vl je jp) fbsayings ((fbsayings (kP * 8 + 3)) + 1) kbsayings)), (5, .int ((fbsayings (kP * 8 + 3)) + 1)), (4, .int (nI kP)), (0, .ref h0), (1, .int (nI je)), (2, .int (nI jp)), (3, .int (IVW fbpapers td vd vl kbpapers))]) hx hb dX9_weigh_104 hl (by decide) rfl (fun ls hl => ?_)
          refine lv_iload hx hb dX9_weigh_106 (lv_at hl 0 rfl) ?_
          refine lv_aload_n hx hb dX9_weigh_108 rfl (lv_at hl 3 rfl) ?_
          refine gf_X9_26 hC rfl hK hP 2 rfl rfl dX9_weigh_109 ?_
          refine lv_icmp_gt (tgt := 148) hx hb dX9_weigh_112 (by decide) (fun c_112_10570 => ?_) (fun c_112_10570 => ?_)
          · refine lv_iinc (v := nI (kP + 1)) (lv' := [(4, .int (nI (kP + 1))), (6, .int (WGS (PWS fbsayings fbpapers td vd vl je jp) fbsayings ((fbsayings (kP * 8 + 3)) + 1) kbsayings)), (5, .int ((fbsayings (kP * 8 + 3)) + 1)), (0, .ref h0), (1, .int (nI je)), (2, .int (nI jp)), (3, .int (IVW fbpapers td vd vl kbpapers))]) hx hb dX9_weigh_148 hl (k := 2) rfl (nI_1 _) (by decide) rfl (fun ls hl => ?_)
            refine lv_goto (tgt := 32) hx hb dX9_weigh_151 (by decide) ?_
            have hst9 : LBT (fun h9 => WGS (PWS fbsayings fbpapers td vd vl je jp) fbsayings h9 kbsayings) (CAN (PWS fbsayings fbpapers td vd vl je jp) fbsayings tf110553 tt110554 (kP + 1)) wb wl := hlb.more rfl c_112_10570
            exact ihP (kP + 1) wl wb _ _ _ (by omega) (by first | assumption | exact Or.inl rfl | exact Or.inr rfl | exact LBT.zero) (And.intro hP hD) hS (lv_sub hl [0, 3, 4, 5, 6] rfl)
          · refine lv_iload hx hb dX9_weigh_115 (lv_at hl 0 rfl) ?_
            refine lv_aload_n hx hb dX9_weigh_117 rfl (lv_at hl 3 rfl) ?_
            refine gf_X9_26 hC rfl hK hP 2 rfl rfl dX9_weigh_118 ?_
            refine lv_icmp_ne (tgt := 136) hx hb dX9_weigh_121 (by decide) (fun c_121_10571 => ?_) (fun c_121_10571 => ?_)
            · refine lv_aload_n hx hb dX9_weigh_136 rfl (lv_at hl 3 rfl) ?_
              refine lv_iload hx hb dX9_weigh_137 (lv_at hl 0 rfl) ?_
              refine pf_X9_26 hC rfl hK hP hD hS 2 (ws' := [(bsayings, .inr (8, [.int 16, .int 8, .ref bsayingsc, .int (nI kbsayings)])), (bsayingsc, .inl (G.2.1, 128, .inl fbsayings)), (h0, .inr (9, [.ref bb, .ref sg, .int tf110553, .int tt110554, .int (WGS (PWS fbsayings fbpapers td vd vl je jp) fbsayings ((fbsayings (kP * 8 + 3)) + 1) kbsayings), .int wb])), (sg, .inr (7, [.ref bb, .ref clk, .ref fi, .ref la, .ref ml, .ref mm, .ref sl, .ref sm, .int scl])), (la, .inl (G.2.1, 12, .inl fla)), (ml, .inl (G.2.1, 12, .inl fml)), (mm, .inl (G.2.1, 12, .inl fmm)), (sl, .inl (G.2.1, 12, .inl fsl)), (sm, .inl (G.2.1, 12, .inl fsm)), (bb, .inr (0, [.ref bpersons, .ref bpapers, .ref bstamps, .ref bversions, .ref blines, .ref bsteps, .ref bsayings, .ref bfindings, .ref bwarnings, .ref bquestions, .int td, .int vd, .int vl, .int gp])), (bpapers, .inr (8, [.int 12, .int 6, .ref bpapersc, .int (nI kbpapers)])), (bpapersc, .inl (G.2.1, 72, .inl fbpapers)), (bpersons, .inr (8, [.int 10, .int 2, .ref bpersonsc, .int (nI kbpersons)])), (bpersonsc, .inl (G.2.1, 20, .inl fbpersons))]) rfl (Nat.le_of_ble_eq_true rfl) rfl rfl rfl dX9_weigh_139 (fun H locs hP hD hS => ?_)
              refine lv_aload_n hx hb dX9_weigh_142 rfl (lv_at hl 3 rfl) ?_
              refine lv_iload hx hb dX9_weigh_143 (lv_at hl 1 rfl) ?_
              refine pf_X9_29 hC rfl hK hP hD hS 2 (ws' := [(bsayings, .inr (8, [.int 16, .int 8, .ref bsayingsc, .int (nI kbsayings)])), (bsayingsc, .inl (G.2.1, 128, .inl fbsayings)), (h0, .inr (9, [.ref bb, .ref sg, .int tf110553, .int tt110554, .int (WGS (PWS fbsayings fbpapers td vd vl je jp) fbsayings ((fbsayings (kP * 8 + 3)) + 1) kbsayings), .int ((fbsayings (kP * 8 + 3)) + 1)])), (sg, .inr (7, [.ref bb, .ref clk, .ref fi, .ref la, .ref ml, .ref mm, .ref sl, .ref sm, .int scl])), (la, .inl (G.2.1, 12, .inl fla)), (ml, .inl (G.2.1, 12, .inl fml)), (mm, .inl (G.2.1, 12, .inl fmm)), (sl, .inl (G.2.1, 12, .inl fsl)), (sm, .inl (G.2.1, 12, .inl fsm)), (bb, .inr (0, [.ref bpersons, .ref bpapers, .ref bstamps, .ref bversions, .ref blines, .ref bsteps, .ref bsayings, .ref bfindings, .ref bwarnings, .ref bquestions, .int td, .int vd, .int vl, .int gp])), (bpapers, .inr (8, [.int 12, .int 6, .ref bpapersc, .int (nI kbpapers)])), (bpapersc, .inl (G.2.1, 72, .inl fbpapers)), (bpersons, .inr (8, [.int 10, .int 2, .ref bpersonsc, .int (nI kbpersons)])), (bpersonsc, .inl (G.2.1, 20, .inl fbpersons))]) rfl (Nat.le_of_ble_eq_true rfl) rfl rfl rfl dX9_weigh_145 (fun H locs hP hD hS => ?_)
              refine lv_iinc (v := nI (kP + 1)) (lv' := [(4, .int (nI (kP + 1))), (6, .int (WGS (PWS fbsayings fbpapers td vd vl je jp) fbsayings ((fbsayings (kP * 8 + 3)) + 1) kbsayings)), (5, .int ((fbsayings (kP * 8 + 3)) + 1)), (0, .ref h0), (1, .int (nI je)), (2, .int (nI jp)), (3, .int (IVW fbpapers td vd vl kbpapers))]) hx hb dX9_weigh_148 hl (k := 2) rfl (nI_1 _) (by decide) rfl (fun ls hl => ?_)
              refine lv_goto (tgt := 32) hx hb dX9_weigh_151 (by decide) ?_
              have hst9 : LBT (fun h9 => WGS (PWS fbsayings fbpapers td vd vl je jp) fbsayings h9 kbsayings) (CAN (PWS fbsayings fbpapers td vd vl je jp) fbsayings tf110553 tt110554 (kP + 1)) ((fbsayings (kP * 8 + 3)) + 1) (WGS (PWS fbsayings fbpapers td vd vl je jp) fbsayings ((fbsayings (kP * 8 + 3)) + 1) kbsayings) := hlb.new rfl a10567 (Wi_le.mp a10565).1 (Wi_le.mp a10565).2 (Or.inl (i_le_ne (Int32.not_lt.mp c_112_10570) c_121_10571))
              exact ihP (kP + 1) (WGS (PWS fbsayings fbpapers td vd vl je jp) fbsayings ((fbsayings (kP * 8 + 3)) + 1) kbsayings) ((fbsayings (kP * 8 + 3)) + 1) _ _ _ (by omega) (by first | assumption | exact Or.inl rfl | exact Or.inr rfl | exact LBT.zero) (And.intro hP hD) hS (lv_sub hl [0, 3, 4, 5, 6] rfl)
            · refine lv_iload hx hb dX9_weigh_124 (lv_at hl 1 rfl) ?_
              refine lv_aload_n hx hb dX9_weigh_126 rfl (lv_at hl 3 rfl) ?_
              refine gf_X9_29 hC rfl hK hP 2 rfl rfl dX9_weigh_127 ?_
              refine lv_icmp_lt (tgt := 136) hx hb dX9_weigh_130 (by decide) (fun c_130_10572 => ?_) (fun c_130_10572 => ?_)
              · refine lv_aload_n hx hb dX9_weigh_136 rfl (lv_at hl 3 rfl) ?_
                refine lv_iload hx hb dX9_weigh_137 (lv_at hl 0 rfl) ?_
                refine pf_X9_26 hC rfl hK hP hD hS 2 (ws' := [(bsayings, .inr (8, [.int 16, .int 8, .ref bsayingsc, .int (nI kbsayings)])), (bsayingsc, .inl (G.2.1, 128, .inl fbsayings)), (h0, .inr (9, [.ref bb, .ref sg, .int tf110553, .int tt110554, .int (WGS (PWS fbsayings fbpapers td vd vl je jp) fbsayings ((fbsayings (kP * 8 + 3)) + 1) kbsayings), .int wb])), (sg, .inr (7, [.ref bb, .ref clk, .ref fi, .ref la, .ref ml, .ref mm, .ref sl, .ref sm, .int scl])), (la, .inl (G.2.1, 12, .inl fla)), (ml, .inl (G.2.1, 12, .inl fml)), (mm, .inl (G.2.1, 12, .inl fmm)), (sl, .inl (G.2.1, 12, .inl fsl)), (sm, .inl (G.2.1, 12, .inl fsm)), (bb, .inr (0, [.ref bpersons, .ref bpapers, .ref bstamps, .ref bversions, .ref blines, .ref bsteps, .ref bsayings, .ref bfindings, .ref bwarnings, .ref bquestions, .int td, .int vd, .int vl, .int gp])), (bpapers, .inr (8, [.int 12, .int 6, .ref bpapersc, .int (nI kbpapers)])), (bpapersc, .inl (G.2.1, 72, .inl fbpapers)), (bpersons, .inr (8, [.int 10, .int 2, .ref bpersonsc, .int (nI kbpersons)])), (bpersonsc, .inl (G.2.1, 20, .inl fbpersons))]) rfl (Nat.le_of_ble_eq_true rfl) rfl rfl rfl dX9_weigh_139 (fun H locs hP hD hS => ?_)
                refine lv_aload_n hx hb dX9_weigh_142 rfl (lv_at hl 3 rfl) ?_
                refine lv_iload hx hb dX9_weigh_143 (lv_at hl 1 rfl) ?_
                refine pf_X9_29 hC rfl hK hP hD hS 2 (ws' := [(bsayings, .inr (8, [.int 16, .int 8, .ref bsayingsc, .int (nI kbsayings)])), (bsayingsc, .inl (G.2.1, 128, .inl fbsayings)), (h0, .inr (9, [.ref bb, .ref sg, .int tf110553, .int tt110554, .int (WGS (PWS fbsayings fbpapers td vd vl je jp) fbsayings ((fbsayings (kP * 8 + 3)) + 1) kbsayings), .int ((fbsayings (kP * 8 + 3)) + 1)])), (sg, .inr (7, [.ref bb, .ref clk, .ref fi, .ref la, .ref ml, .ref mm, .ref sl, .ref sm, .int scl])), (la, .inl (G.2.1, 12, .inl fla)), (ml, .inl (G.2.1, 12, .inl fml)), (mm, .inl (G.2.1, 12, .inl fmm)), (sl, .inl (G.2.1, 12, .inl fsl)), (sm, .inl (G.2.1, 12, .inl fsm)), (bb, .inr (0, [.ref bpersons, .ref bpapers, .ref bstamps, .ref bversions, .ref blines, .ref bsteps, .ref bsayings, .ref bfindings, .ref bwarnings, .ref bquestions, .int td, .int vd, .int vl, .int gp])), (bpapers, .inr (8, [.int 12, .int 6, .ref bpapersc, .int (nI kbpapers)])), (bpapersc, .inl (G.2.1, 72, .inl fbpapers)), (bpersons, .inr (8, [.int 10, .int 2, .ref bpersonsc, .int (nI kbpersons)])), (bpersonsc, .inl (G.2.1, 20, .inl fbpersons))]) rfl (Nat.le_of_ble_eq_true rfl) rfl rfl rfl dX9_weigh_145 (fun H locs hP hD hS => ?_)
                refine lv_iinc (v := nI (kP + 1)) (lv' := [(4, .int (nI (kP + 1))), (6, .int (WGS (PWS fbsayings fbpapers td vd vl je jp) fbsayings ((fbsayings (kP * 8 + 3)) + 1) kbsayings)), (5, .int ((fbsayings (kP * 8 + 3)) + 1)), (0, .ref h0), (1, .int (nI je)), (2, .int (nI jp)), (3, .int (IVW fbpapers td vd vl kbpapers))]) hx hb dX9_weigh_148 hl (k := 2) rfl (nI_1 _) (by decide) rfl (fun ls hl => ?_)
                refine lv_goto (tgt := 32) hx hb dX9_weigh_151 (by decide) ?_
                have hst9 : LBT (fun h9 => WGS (PWS fbsayings fbpapers td vd vl je jp) fbsayings h9 kbsayings) (CAN (PWS fbsayings fbpapers td vd vl je jp) fbsayings tf110553 tt110554 (kP + 1)) ((fbsayings (kP * 8 + 3)) + 1) (WGS (PWS fbsayings fbpapers td vd vl je jp) fbsayings ((fbsayings (kP * 8 + 3)) + 1) kbsayings) := hlb.new rfl a10567 (Wi_le.mp a10565).1 (Wi_le.mp a10565).2 (Or.inr ⟨c_121_10571, c_130_10572⟩)
                exact ihP (kP + 1) (WGS (PWS fbsayings fbpapers td vd vl je jp) fbsayings ((fbsayings (kP * 8 + 3)) + 1) kbsayings) ((fbsayings (kP * 8 + 3)) + 1) _ _ _ (by omega) (by first | assumption | exact Or.inl rfl | exact Or.inr rfl | exact LBT.zero) (And.intro hP hD) hS (lv_sub hl [0, 3, 4, 5, 6] rfl)
              · refine lv_goto (tgt := 148) hx hb dX9_weigh_133 (by decide) ?_
                refine lv_iinc (v := nI (kP + 1)) (lv' := [(4, .int (nI (kP + 1))), (6, .int (WGS (PWS fbsayings fbpapers td vd vl je jp) fbsayings ((fbsayings (kP * 8 + 3)) + 1) kbsayings)), (5, .int ((fbsayings (kP * 8 + 3)) + 1)), (0, .ref h0), (1, .int (nI je)), (2, .int (nI jp)), (3, .int (IVW fbpapers td vd vl kbpapers))]) hx hb dX9_weigh_148 hl (k := 2) rfl (nI_1 _) (by decide) rfl (fun ls hl => ?_)
                refine lv_goto (tgt := 32) hx hb dX9_weigh_151 (by decide) ?_
                have hst9 : LBT (fun h9 => WGS (PWS fbsayings fbpapers td vd vl je jp) fbsayings h9 kbsayings) (CAN (PWS fbsayings fbpapers td vd vl je jp) fbsayings tf110553 tt110554 (kP + 1)) wb wl := hlb.late rfl c_121_10571 (Int32.not_lt.mp c_130_10572)
                exact ihP (kP + 1) wl wb _ _ _ (by omega) (by first | assumption | exact Or.inl rfl | exact Or.inr rfl | exact LBT.zero) (And.intro hP hD) hS (lv_sub hl [0, 3, 4, 5, 6] rfl)
        · refine lv_if_ne (tgt := 95) hx hb dX9_weigh_89 (by decide) (fun c9 => absurd (by decide) c9) (fun _ => ?_)
          refine lv_goto (tgt := 148) hx hb dX9_weigh_92 (by decide) ?_
          refine lv_iinc (v := nI (kP + 1)) (lv' := [(4, .int (nI (kP + 1))), (5, .int ((fbsayings (kP * 8 + 3)) + 1)), (0, .ref h0), (1, .int (nI je)), (2, .int (nI jp)), (3, .int (IVW fbpapers td vd vl kbpapers))]) hx hb dX9_weigh_148 hl (k := 1) rfl (nI_1 _) (by decide) rfl (fun ls hl => ?_)
          refine lv_goto (tgt := 32) hx hb dX9_weigh_151 (by decide) ?_
          have hst9 : LBT (fun h9 => WGS (PWS fbsayings fbpapers td vd vl je jp) fbsayings h9 kbsayings) (CAN (PWS fbsayings fbpapers td vd vl je jp) fbsayings tf110553 tt110554 (kP + 1)) wb wl := hlb.skip (fun h9 => a10567 h9.1)
          exact ihP (kP + 1) wl wb _ _ _ (by omega) (by first | assumption | exact Or.inl rfl | exact Or.inr rfl | exact LBT.zero) (And.intro hP hD) hS (lv_sub hl [0, 2, 3, 4, 5] rfl)
      · refine lv_if_eq (tgt := 148) hx hb dX9_weigh_77 (by decide) (fun _ => ?_) (fun c9 => absurd (by decide) c9)
        refine lv_iinc (v := nI (kP + 1)) (lv' := [(4, .int (nI (kP + 1))), (5, .int ((fbsayings (kP * 8 + 3)) + 1)), (0, .ref h0), (1, .int (nI je)), (2, .int (nI jp)), (3, .int (IVW fbpapers td vd vl kbpapers))]) hx hb dX9_weigh_148 hl (k := 1) rfl (nI_1 _) (by decide) rfl (fun ls hl => ?_)
        refine lv_goto (tgt := 32) hx hb dX9_weigh_151 (by decide) ?_
        have hst9 : LBT (fun h9 => WGS (PWS fbsayings fbpapers td vd vl je jp) fbsayings h9 kbsayings) (CAN (PWS fbsayings fbpapers td vd vl je jp) fbsayings tf110553 tt110554 (kP + 1)) wb wl := hlb.skip (fun h9 => a10565 (Wi_le.mpr h9.2))
        exact ihP (kP + 1) wl wb _ _ _ (by omega) (by first | assumption | exact Or.inl rfl | exact Or.inr rfl | exact LBT.zero) (And.intro hP hD) hS (lv_sub hl [0, 2, 3, 4, 5] rfl)
  exact keyP kbsayings 0 (WGS (PWS fbsayings fbpapers td vd vl je jp) fbsayings tf110553 kbsayings) tf110553 _ _ _ (by omega) (by first | assumption | exact Or.inl rfl | exact Or.inr rfl | exact LBT.zero) (And.intro hP hD) hS (lv_sub hl [0, 1, 2, 3, 4] rfl)
set_option maxHeartbeats 4000000 in
set_option maxRecDepth 100000 in
theorem c_leastWeightX (l : Launch) (G : GG) (h0 : Nat) (bb : Nat) (sg : Nat) (tf : Int32) (tt9 : Int32) (tl : Int32) (tbv : Int32) : MP l G yX9_leastWeight cX9_leastWeight 1 (some .int) 1 [.ref h0] [(h0, .inr (9, [.ref bb, .ref sg, .int tf, .int tt9, .int tl, .int tbv]))] (fun r : Int32 => r = tl) := by
  refine MP.start (by decide +kernel) (Nat.le_of_ble_eq_true rfl) ?_
  intro p e s m below meth c ls hC hK hP hD hl
  have hl : lv_has ls 1 [(0, .ref h0)] := hl
  obtain ⟨hx, hb, hr, hml, hB, hown, hlocks, hnm⟩ := id hC
  refine lv_aload_n hx hb dX9_leastWeight_0 rfl (lv_at hl 0 rfl) ?_
  refine gf_X9_26 hC rfl hK hP 0 rfl rfl dX9_leastWeight_1 ?_
  exact RP (v := tl) hC (rfl) rfl dX9_leastWeight_4
set_option maxHeartbeats 4000000 in
set_option maxRecDepth 100000 in
theorem c_believedX (l : Launch) (G : GG) (h0 : Nat) (bb : Nat) (sg : Nat) (tf : Int32) (tt9 : Int32) (tl : Int32) (tbv : Int32) : MP l G yX9_believedHour cX9_believedHour 1 (some .int) 1 [.ref h0] [(h0, .inr (9, [.ref bb, .ref sg, .int tf, .int tt9, .int tl, .int tbv]))] (fun r : Int32 => r = tbv) := by
  refine MP.start (by decide +kernel) (Nat.le_of_ble_eq_true rfl) ?_
  intro p e s m below meth c ls hC hK hP hD hl
  have hl : lv_has ls 1 [(0, .ref h0)] := hl
  obtain ⟨hx, hb, hr, hml, hB, hown, hlocks, hnm⟩ := id hC
  refine lv_aload_n hx hb dX9_believedHour_0 rfl (lv_at hl 0 rfl) ?_
  refine gf_X9_29 hC rfl hK hP 0 rfl rfl dX9_believedHour_1 ?_
  exact RP (v := tbv) hC (rfl) rfl dX9_believedHour_4
set_option maxHeartbeats 4000000 in
set_option maxRecDepth 100000 in
theorem p_quarrelT (l : Launch) (G : GG) (h0 : Nat) (x1 : Int32) (x2 : Int32) (x3 : Int32) (bb : Nat) (kk : Nat) (ikp : Int32) (sg : Nat) (do9 : Nat) (ru9 : Nat) (ta9 : Nat) (tp9 : Nat) (ro9 : Nat) (ho9 : Nat) (de9 : Nat) (clk : Nat) (fi : Nat) (la : Nat) (ml : Nat) (mm : Nat) (sl : Nat) (sm : Nat) (cl : Int32) (clm : Nat) (fclm : Nat → Int32) (ffi : Nat → Int32) (fla : Nat → Int32) (fml : Nat → Int32) (fmm : Nat → Int32) (fsl : Nat → Int32) (fsm : Nat → Int32) (tf : Int32) (tt9 : Int32) (tl : Int32) (tbv : Int32) (bpersons : Nat) (bpapers : Nat) (bstamps : Nat) (bversions : Nat) (blines : Nat) (bsteps : Nat) (bsayings : Nat) (bfindings : Nat) (bwarnings : Nat) (bquestions : Nat) (td : Int32) (vd : Int32) (vl : Int32) (gp : Int32) (bpapersc : Nat) (kbpapers : Nat) (fbpapers : Nat → Int32) (bpersonsc : Nat) (kbpersons : Nat) (fbpersons : Nat → Int32) (bsayingsc : Nat) (kbsayings : Nat) (fbsayings : Nat → Int32) (bstampsc : Nat) (kbstamps : Nat) (fbstamps : Nat → Int32) (hkbpapers : kbpapers ≤ 12) (hkbpersons : kbpersons ≤ 10) (hkbsayings : kbsayings ≤ 16) (hkbstamps : kbstamps ≤ 24) (hcl : cl = 0 ∨ cl = 1) (hSV : SVL fbstamps kbstamps) (hgp : GPR gp) (hSP : SPI fbsayings kbsayings kbpapers) (hSO : SPO fbsayings kbsayings kbpersons) (hSL : PSL fbpersons) : MI l G yX11_quarrel cX11_quarrel 5 (some .int) 8 0 0 [.ref h0, .int x1, .int x2, .int x3] [(h0, .inr (11, [.ref bb, .ref kk, .int ikp, .ref sg, .ref do9, .ref ru9, .ref ta9, .ref tp9, .ref ro9, .ref ho9, .ref de9])), (sg, .inr (7, [.ref bb, .ref clk, .ref fi, .ref la, .ref ml, .ref mm, .ref sl, .ref sm, .int cl])), (clk, .inr (1, [.ref clm])), (clm, .inl (G.2.1, 36, .inl fclm)), (fi, .inl (G.2.1, 12, .inl ffi)), (la, .inl (G.2.1, 12, .inl fla)), (ml, .inl (G.2.1, 12, .inl fml)), (mm, .inl (G.2.1, 12, .inl fmm)), (sl, .inl (G.2.1, 12, .inl fsl)), (sm, .inl (G.2.1, 12, .inl fsm)), (ta9, .inr (9, [.ref bb, .ref sg, .int tf, .int tt9, .int tl, .int tbv])), (bb, .inr (0, [.ref bpersons, .ref bpapers, .ref bstamps, .ref bversions, .ref blines, .ref bsteps, .ref bsayings, .ref bfindings, .ref bwarnings, .ref bquestions, .int td, .int vd, .int vl, .int gp])), (bpapers, .inr (8, [.int 12, .int 6, .ref bpapersc, .int (nI kbpapers)])), (bpapersc, .inl (G.2.1, 72, .inl fbpapers)), (bpersons, .inr (8, [.int 10, .int 2, .ref bpersonsc, .int (nI kbpersons)])), (bpersonsc, .inl (G.2.1, 20, .inl fbpersons)), (bsayings, .inr (8, [.int 16, .int 8, .ref bsayingsc, .int (nI kbsayings)])), (bsayingsc, .inl (G.2.1, 128, .inl fbsayings)), (bstamps, .inr (8, [.int 24, .int 3, .ref bstampsc, .int (nI kbstamps)])), (bstampsc, .inl (G.2.1, 72, .inl fbstamps))] (fun (r : Int32) (u : Int32 × (Nat → Int32) × (Nat → Int32) × (Nat → Int32) × (Nat → Int32) × (Nat → Int32) × (Nat → Int32) × (Nat → Int32) × Int32 × Int32 × Int32 × Int32) => (∃ s9, (QRQ (KST fbstamps (VPP (IVW fbpapers td vd vl kbpapers)) gp.toInt kbstamps) fbstamps (VPP (IVW fbpapers td vd vl kbpapers)) fbpapers fbpersons fbsayings td vd vl kbstamps kbpapers kbpersons kbsayings x1 x2 x3 s9) ∧ r = s9) ∧ (u.1 = 0 ∨ u.1 = 1)) (fun u : Int32 × (Nat → Int32) × (Nat → Int32) × (Nat → Int32) × (Nat → Int32) × (Nat → Int32) × (Nat → Int32) × (Nat → Int32) × Int32 × Int32 × Int32 × Int32 => [(h0, .inr (11, [.ref bb, .ref kk, .int ikp, .ref sg, .ref do9, .ref ru9, .ref ta9, .ref tp9, .ref ro9, .ref ho9, .ref de9])), (sg, .inr (7, [.ref bb, .ref clk, .ref fi, .ref la, .ref ml, .ref mm, .ref sl, .ref sm, .int u.1])), (clk, .inr (1, [.ref clm])), (clm, .inl (G.2.1, 36, .inl u.2.1)), (fi, .inl (G.2.1, 12, .inl u.2.2.1)), (la, .inl (G.2.1, 12, .inl u.2.2.2.1)), (ml, .inl (G.2.1, 12, .inl u.2.2.2.2.1)), (mm, .inl (G.2.1, 12, .inl u.2.2.2.2.2.1)), (sl, .inl (G.2.1, 12, .inl u.2.2.2.2.2.2.1)), (sm, .inl (G.2.1, 12, .inl u.2.2.2.2.2.2.2.1)), (ta9, .inr (9, [.ref bb, .ref sg, .int u.2.2.2.2.2.2.2.2.1, .int u.2.2.2.2.2.2.2.2.2.1, .int u.2.2.2.2.2.2.2.2.2.2.1, .int u.2.2.2.2.2.2.2.2.2.2.2])), (bb, .inr (0, [.ref bpersons, .ref bpapers, .ref bstamps, .ref bversions, .ref blines, .ref bsteps, .ref bsayings, .ref bfindings, .ref bwarnings, .ref bquestions, .int td, .int vd, .int vl, .int gp])), (bpapers, .inr (8, [.int 12, .int 6, .ref bpapersc, .int (nI kbpapers)])), (bpapersc, .inl (G.2.1, 72, .inl fbpapers)), (bpersons, .inr (8, [.int 10, .int 2, .ref bpersonsc, .int (nI kbpersons)])), (bpersonsc, .inl (G.2.1, 20, .inl fbpersons)), (bsayings, .inr (8, [.int 16, .int 8, .ref bsayingsc, .int (nI kbsayings)])), (bsayingsc, .inl (G.2.1, 128, .inl fbsayings)), (bstamps, .inr (8, [.int 24, .int 3, .ref bstampsc, .int (nI kbstamps)])), (bstampsc, .inl (G.2.1, 72, .inl fbstamps))]) := by
  refine MI.start (by decide +kernel) (Nat.le_of_ble_eq_true rfl) ?_
  intro p e s m below meth c A ls hC hK hP hD hS hA hl
  have hl : lv_has ls 5 [(0, .ref h0), (1, .int x1), (2, .int x2), (3, .int x3)] := hl
  obtain ⟨hx, hb, hr, hml, hB, hown, hlocks, hnm⟩ := id hC
  refine lv_aload_n hx hb dX11_quarrel_0 rfl (lv_at hl 0 rfl) ?_
  refine gf_X11_15 hC rfl hK hP 0 rfl rfl dX11_quarrel_1 ?_
  refine gf_X11_107 hC rfl hK hP 11 rfl rfl dX11_quarrel_4 ?_
  refine lv_iload_n hx hb dX11_quarrel_7 rfl (lv_at hl 1 rfl) ?_
  refine pV hC hK hl hP hD (c_T_has l G bpersons x1 10 2 bpersonsc kbpersons) si_X11_124 [14] rfl rfl (by decide) rfl rfl rfl rfl rfl (Nat.le_of_ble_eq_true rfl) ⟨Nat.le_of_ble_eq_true rfl, Nat.le_of_ble_eq_true rfl⟩ ⟨by first | exact Nat.le_of_ble_eq_true rfl | exact Nat.zero_le _, by first | exact Nat.le_of_ble_eq_true rfl | exact Nat.zero_le _⟩ dX11_quarrel_8 (fun r10573 hr10573 => ?_)
  rcases hr10573 with ⟨rfl, a10574⟩ | ⟨rfl, a10574⟩
  · refine lv_if_eq (tgt := 37) hx hb dX11_quarrel_11 (by decide) (fun c9 => absurd c9 (by decide)) (fun _ => ?_)
    refine lv_aload_n hx hb dX11_quarrel_14 rfl (lv_at hl 0 rfl) ?_
    refine gf_X11_15 hC rfl hK hP 0 rfl rfl dX11_quarrel_15 ?_
    refine gf_X11_144 hC rfl hK hP 11 rfl rfl dX11_quarrel_18 ?_
    refine lv_iload_n hx hb dX11_quarrel_21 rfl (lv_at hl 2 rfl) ?_
    refine pV hC hK hl hP hD (c_T_has l G bpapers x2 12 6 bpapersc kbpapers) si_X11_124 [12] rfl rfl (by decide) rfl rfl rfl rfl rfl (Nat.le_of_ble_eq_true rfl) ⟨Nat.le_of_ble_eq_true rfl, Nat.le_of_ble_eq_true rfl⟩ ⟨by first | exact Nat.le_of_ble_eq_true rfl | exact Nat.zero_le _, by first | exact Nat.le_of_ble_eq_true rfl | exact Nat.zero_le _⟩ dX11_quarrel_22 (fun r10575 hr10575 => ?_)
    rcases hr10575 with ⟨rfl, a10576⟩ | ⟨rfl, a10576⟩
    · refine lv_if_eq (tgt := 37) hx hb dX11_quarrel_25 (by decide) (fun c9 => absurd c9 (by decide)) (fun _ => ?_)
      refine lv_iload_n hx hb dX11_quarrel_28 rfl (lv_at hl 3 rfl) ?_
      refine lv_iconst (v := 0) hx hb dX11_quarrel_29 (by decide) ?_
      refine lv_iconst (v := 1) hx hb dX11_quarrel_30 (by decide) ?_
      refine pS hC hK hl (c_within l G x3 0 1) si_X11_83 rfl rfl (Nat.le_of_ble_eq_true rfl) ⟨Nat.le_of_ble_eq_true rfl, Nat.le_of_ble_eq_true rfl⟩ ⟨by first | exact Nat.le_of_ble_eq_true rfl | exact Nat.zero_le _, by first | exact Nat.le_of_ble_eq_true rfl | exact Nat.zero_le _⟩ dX11_quarrel_31 (fun r10577 hr10577 => ?_)
      rcases hr10577 with ⟨rfl, a10578⟩ | ⟨rfl, a10578⟩
      · refine lv_if_ne (tgt := 39) hx hb dX11_quarrel_34 (by decide) (fun _ => ?_) (fun c9 => absurd c9 (by decide))
        obtain ⟨je, hje, rfl⟩ := Hs_nat (by omega) a10574
        obtain ⟨jp, hjp, rfl⟩ := Hs_nat (by omega) a10576
        refine lv_aload_n hx hb dX11_quarrel_39 rfl (lv_at hl 0 rfl) ?_
        refine gf_X11_15 hC rfl hK hP 0 rfl rfl dX11_quarrel_40 ?_
        refine pV hC hK hl hP hD (c_inViewX l G bb bpersons bpapers bstamps bversions blines bsteps bsayings bfindings bwarnings bquestions td vd vl gp bpapersc kbpapers fbpapers (hkbpapers)) si_X11_97 [11, 12, 13] rfl rfl (by decide) rfl rfl rfl rfl rfl (Nat.le_of_ble_eq_true rfl) ⟨Nat.le_of_ble_eq_true rfl, Nat.le_of_ble_eq_true rfl⟩ ⟨by first | exact Nat.le_of_ble_eq_true rfl | exact Nat.zero_le _, by first | exact Nat.le_of_ble_eq_true rfl | exact Nat.zero_le _⟩ dX11_quarrel_43 (fun r10579 hr10579 => ?_)
        obtain rfl := hr10579
        refine lv_istore (lv' := [(4, .int (IVW fbpapers td vd vl kbpapers)), (0, .ref h0), (1, .int (nI je)), (2, .int (nI jp)), (3, .int x3)]) hx hb dX11_quarrel_46 hl (by decide) rfl (fun ls hl => ?_)
        refine lv_iload hx hb dX11_quarrel_48 (lv_at hl 0 rfl) ?_
        refine lv_iload_n hx hb dX11_quarrel_50 rfl (lv_at hl 3 rfl) ?_
        refine pS hC hK hl (c_hasBit l G (IVW fbpapers td vd vl kbpapers) (nI jp)) si_X11_150 rfl rfl (Nat.le_of_ble_eq_true rfl) ⟨Nat.le_of_ble_eq_true rfl, Nat.le_of_ble_eq_true rfl⟩ ⟨by first | exact Nat.le_of_ble_eq_true rfl | exact Nat.zero_le _, by first | exact Nat.le_of_ble_eq_true rfl | exact Nat.zero_le _⟩ dX11_quarrel_51 (fun r10581 hr10581 => ?_)
        rcases hr10581 with ⟨rfl, a10582⟩ | ⟨rfl, a10582⟩
        · refine lv_if_ne (tgt := 60) hx hb dX11_quarrel_54 (by decide) (fun _ => ?_) (fun c9 => absurd c9 (by decide))
          refine lv_aload_n hx hb dX11_quarrel_60 rfl (lv_at hl 1 rfl) ?_
          refine gf_X11_28 hC rfl hK hP 0 rfl rfl dX11_quarrel_61 ?_
          refine lv_iload hx hb dX11_quarrel_64 (lv_at hl 0 rfl) ?_
          refine vV (wr := [(h0, .inr (11, [.ref bb, .ref kk, .int ikp, .ref sg, .ref do9, .ref ru9, .ref ta9, .ref tp9, .ref ro9, .ref ho9, .ref de9])), (ta9, .inr (9, [.ref bb, .ref sg, .int tf, .int tt9, .int tl, .int tbv])), (bpapers, .inr (8, [.int 12, .int 6, .ref bpapersc, .int (nI kbpapers)])), (bpapersc, .inl (G.2.1, 72, .inl fbpapers)), (bpersons, .inr (8, [.int 10, .int 2, .ref bpersonsc, .int (nI kbpersons)])), (bpersonsc, .inl (G.2.1, 20, .inl fbpersons)), (bsayings, .inr (8, [.int 16, .int 8, .ref bsayingsc, .int (nI kbsayings)])), (bsayingsc, .inl (G.2.1, 128, .inl fbsayings))]) hC hK hl hP hD hS hA (c_lookX l G sg (IVW fbpapers td vd vl kbpapers) bb clk fi la ml mm sl sm cl clm fclm ffi fla fml fmm fsl fsm bpersons bpapers bstamps bversions blines bsteps bsayings bfindings bwarnings bquestions td vd vl gp bstampsc kbstamps fbstamps (hkbstamps) (hSV) (hgp)) si_X11_183 [1, 2, 3, 4, 5, 6, 7, 8, 9, 11, 18, 19] [0, 10, 12, 13, 14, 15, 16, 17] rfl rfl (by decide) rfl (by decide) (by decide) rfl rfl rfl rfl rfl (Nat.le_of_ble_eq_true rfl) ⟨Nat.le_of_ble_eq_true rfl, Nat.le_of_ble_eq_true rfl⟩ ⟨Nat.le_of_ble_eq_true rfl, Nat.le_of_ble_eq_true rfl⟩ dX11_quarrel_66 (fun u10584 H locs hr10583 hP hD hS => ?_)
          obtain ⟨cl110585, gclm10586, gfi10587, gla10588, gml10589, gmm10590, gsl10591, gsm10592⟩ := u10584
          try dsimp only at hr10583
          have hPD : va_PD G A [(h0, .inr (11, [.ref bb, .ref kk, .int ikp, .ref sg, .ref do9, .ref ru9, .ref ta9, .ref tp9, .ref ro9, .ref ho9, .ref de9])), (ta9, .inr (9, [.ref bb, .ref sg, .int tf, .int tt9, .int tl, .int tbv])), (bpapers, .inr (8, [.int 12, .int 6, .ref bpapersc, .int (nI kbpapers)])), (bpapersc, .inl (G.2.1, 72, .inl fbpapers)), (bpersons, .inr (8, [.int 10, .int 2, .ref bpersonsc, .int (nI kbpersons)])), (bpersonsc, .inl (G.2.1, 20, .inl fbpersons)), (bsayings, .inr (8, [.int 16, .int 8, .ref bsayingsc, .int (nI kbsayings)])), (bsayingsc, .inl (G.2.1, 128, .inl fbsayings)), (sg, .inr (7, [.ref bb, .ref clk, .ref fi, .ref la, .ref ml, .ref mm, .ref sl, .ref sm, .int cl110585])), (clk, .inr (1, [.ref clm])), (clm, .inl (G.2.1, 36, .inl gclm10586)), (fi, .inl (G.2.1, 12, .inl gfi10587)), (la, .inl (G.2.1, 12, .inl gla10588)), (ml, .inl (G.2.1, 12, .inl gml10589)), (mm, .inl (G.2.1, 12, .inl gmm10590)), (sl, .inl (G.2.1, 12, .inl gsl10591)), (sm, .inl (G.2.1, 12, .inl gsm10592)), (bb, .inr (0, [.ref bpersons, .ref bpapers, .ref bstamps, .ref bversions, .ref blines, .ref bsteps, .ref bsayings, .ref bfindings, .ref bwarnings, .ref bquestions, .int td, .int vd, .int vl, .int gp])), (bstamps, .inr (8, [.int 24, .int 3, .ref bstampsc, .int (nI kbstamps)])), (bstampsc, .inl (G.2.1, 72, .inl fbstamps))] H := And.intro hP hD
          obtain ⟨hP, hD⟩ := hPD
          have w10593 := hr10583
          have hsg9 : SGQ (KST fbstamps (VPP (IVW fbpapers td vd vl kbpapers)) gp.toInt kbstamps) fbstamps (VPP (IVW fbpapers td vd vl kbpapers)) kbstamps cl110585 gla10588 gml10589 gmm10590 gsl10591 gsm10592 := LKP.sgq w10593.2 (by omega)
          refine lv_aload_n hx hb dX11_quarrel_69 rfl (lv_at hl 1 rfl) ?_
          refine gf_X11_51 hC rfl hK hP 0 rfl rfl dX11_quarrel_70 ?_
          refine lv_iload_n hx hb dX11_quarrel_73 rfl (lv_at hl 2 rfl) ?_
          refine lv_iload_n hx hb dX11_quarrel_74 rfl (lv_at hl 3 rfl) ?_
          refine lv_iload hx hb dX11_quarrel_75 (lv_at hl 0 rfl) ?_
          refine vV (wr := [(h0, .inr (11, [.ref bb, .ref kk, .int ikp, .ref sg, .ref do9, .ref ru9, .ref ta9, .ref tp9, .ref ro9, .ref ho9, .ref de9])), (clk, .inr (1, [.ref clm])), (clm, .inl (G.2.1, 36, .inl gclm10586)), (fi, .inl (G.2.1, 12, .inl gfi10587)), (bstamps, .inr (8, [.int 24, .int 3, .ref bstampsc, .int (nI kbstamps)])), (bstampsc, .inl (G.2.1, 72, .inl fbstamps))]) hC hK hl hP hD hS hA (c_weighX l G (KST fbstamps (VPP (IVW fbpapers td vd vl kbpapers)) gp.toInt kbstamps) (VPP (IVW fbpapers td vd vl kbpapers)) ta9 je jp bb sg tf tt9 tl tbv clk fi la ml mm sl sm cl110585 gla10588 gml10589 gmm10590 gsl10591 gsm10592 bpersons bpapers bstamps bversions blines bsteps bsayings bfindings bwarnings bquestions td vd vl gp bpapersc kbpapers fbpapers bpersonsc kbpersons fbpersons bsayingsc kbsayings fbsayings fbstamps kbstamps (hkbpapers) (hkbpersons) (hkbsayings) (hSP) (hSO) (hSL) (hsg9) (hSV) (by omega) (by omega)) si_X11_259 [1, 8, 12, 13, 14, 15, 16, 17, 2, 3, 4, 5, 6, 7] [0, 9, 10, 11, 18, 19] rfl rfl (by decide) rfl (by decide) (by decide) rfl rfl rfl rfl rfl (Nat.le_of_ble_eq_true rfl) ⟨Nat.le_of_ble_eq_true rfl, Nat.le_of_ble_eq_true rfl⟩ ⟨Nat.le_of_ble_eq_true rfl, Nat.le_of_ble_eq_true rfl⟩ dX11_quarrel_77 (fun u10595 H locs hr10594 hP hD hS => ?_)
          obtain ⟨tf110596, tt110597, tl110598, tb110599⟩ := u10595
          try dsimp only at hr10594
          have hPD : va_PD G A [(h0, .inr (11, [.ref bb, .ref kk, .int ikp, .ref sg, .ref do9, .ref ru9, .ref ta9, .ref tp9, .ref ro9, .ref ho9, .ref de9])), (clk, .inr (1, [.ref clm])), (clm, .inl (G.2.1, 36, .inl gclm10586)), (fi, .inl (G.2.1, 12, .inl gfi10587)), (bstamps, .inr (8, [.int 24, .int 3, .ref bstampsc, .int (nI kbstamps)])), (bstampsc, .inl (G.2.1, 72, .inl fbstamps)), (ta9, .inr (9, [.ref bb, .ref sg, .int tf110596, .int tt110597, .int tl110598, .int tb110599])), (sg, .inr (7, [.ref bb, .ref clk, .ref fi, .ref la, .ref ml, .ref mm, .ref sl, .ref sm, .int cl110585])), (la, .inl (G.2.1, 12, .inl gla10588)), (ml, .inl (G.2.1, 12, .inl gml10589)), (mm, .inl (G.2.1, 12, .inl gmm10590)), (sl, .inl (G.2.1, 12, .inl gsl10591)), (sm, .inl (G.2.1, 12, .inl gsm10592)), (bb, .inr (0, [.ref bpersons, .ref bpapers, .ref bstamps, .ref bversions, .ref blines, .ref bsteps, .ref bsayings, .ref bfindings, .ref bwarnings, .ref bquestions, .int td, .int vd, .int vl, .int gp])), (bpapers, .inr (8, [.int 12, .int 6, .ref bpapersc, .int (nI kbpapers)])), (bpapersc, .inl (G.2.1, 72, .inl fbpapers)), (bpersons, .inr (8, [.int 10, .int 2, .ref bpersonsc, .int (nI kbpersons)])), (bpersonsc, .inl (G.2.1, 20, .inl fbpersons)), (bsayings, .inr (8, [.int 16, .int 8, .ref bsayingsc, .int (nI kbsayings)])), (bsayingsc, .inl (G.2.1, 128, .inl fbsayings))] H := And.intro hP hD
          obtain ⟨hP, hD⟩ := hPD
          have w10600 := hr10594
          refine lv_iload_n hx hb dX11_quarrel_80 rfl (lv_at hl 4 rfl) ?_
          refine lv_if_ne (tgt := 94) hx hb dX11_quarrel_81 (by decide) (fun c_81_10601 => ?_) (fun c_81_10601 => ?_)
          · refine lv_aload_n hx hb dX11_quarrel_94 rfl (lv_at hl 1 rfl) ?_
            refine gf_X11_51 hC rfl hK hP 0 rfl rfl dX11_quarrel_95 ?_
            refine pV hC hK hl hP hD (c_believedX l G ta9 bb sg tf110596 tt110597 tl110598 tb110599) si_X11_265 [6] rfl rfl (by decide) rfl rfl rfl rfl rfl (Nat.le_of_ble_eq_true rfl) ⟨Nat.le_of_ble_eq_true rfl, Nat.le_of_ble_eq_true rfl⟩ ⟨by first | exact Nat.le_of_ble_eq_true rfl | exact Nat.zero_le _, by first | exact Nat.le_of_ble_eq_true rfl | exact Nat.zero_le _⟩ dX11_quarrel_98 (fun r10602 hr10602 => ?_)
            refine eqi (x1 := tb110599) hr10602 ?_
            refine lv_sipush (v := 1000) hx hb dX11_quarrel_101 (by decide) ?_
            refine lv_iadd hx hb dX11_quarrel_104 ?_
            exact RI (v := tb110599 + 1000) hC hP hD hS [0, 7, 1, 2, 3, 8, 9, 10, 11, 12, 6, 13, 14, 15, 16, 17, 18, 19, 4, 5] (cl110585, gclm10586, gfi10587, gla10588, gml10589, gmm10590, gsl10591, gsm10592, tf110596, tt110597, tl110598, tb110599) rfl rfl (by decide) (⟨⟨tb110599 + 1000, Or.inr ⟨je, jp, hje, hjp, rfl, rfl, a10578, Or.inr ⟨a10582, _, _, _, _, w10600.1, w10600.2, Or.inr ⟨c_81_10601, rfl⟩⟩⟩, rfl⟩, w10593.1⟩) rfl dX11_quarrel_105
          · refine lv_aload_n hx hb dX11_quarrel_84 rfl (lv_at hl 1 rfl) ?_
            refine gf_X11_51 hC rfl hK hP 0 rfl rfl dX11_quarrel_85 ?_
            refine pV hC hK hl hP hD (c_leastWeightX l G ta9 bb sg tf110596 tt110597 tl110598 tb110599) si_X11_262 [6] rfl rfl (by decide) rfl rfl rfl rfl rfl (Nat.le_of_ble_eq_true rfl) ⟨Nat.le_of_ble_eq_true rfl, Nat.le_of_ble_eq_true rfl⟩ ⟨by first | exact Nat.le_of_ble_eq_true rfl | exact Nat.zero_le _, by first | exact Nat.le_of_ble_eq_true rfl | exact Nat.zero_le _⟩ dX11_quarrel_88 (fun r10604 hr10604 => ?_)
            refine eqi (x1 := tl110598) hr10604 ?_
            refine lv_goto (tgt := 105) hx hb dX11_quarrel_91 (by decide) ?_
            exact RI (v := tl110598) hC hP hD hS [0, 7, 1, 2, 3, 8, 9, 10, 11, 12, 6, 13, 14, 15, 16, 17, 18, 19, 4, 5] (cl110585, gclm10586, gfi10587, gla10588, gml10589, gmm10590, gsl10591, gsm10592, tf110596, tt110597, tl110598, tb110599) rfl rfl (by decide) (⟨⟨tl110598, Or.inr ⟨je, jp, hje, hjp, rfl, rfl, a10578, Or.inr ⟨a10582, _, _, _, _, w10600.1, w10600.2, Or.inl ⟨c_81_10601, rfl⟩⟩⟩, rfl⟩, w10593.1⟩) rfl dX11_quarrel_105
        · refine lv_if_ne (tgt := 60) hx hb dX11_quarrel_54 (by decide) (fun c9 => absurd (by decide) c9) (fun _ => ?_)
          refine lv_bipush (v := (-3)) hx hb dX11_quarrel_57 (by decide) ?_
          exact RI (v := (-3)) hC hP hD hS [0, 1, 2, 3, 4, 5, 6, 7, 8, 9, 10, 11, 12, 13, 14, 15, 16, 17, 18, 19] (cl, fclm, ffi, fla, fml, fmm, fsl, fsm, tf, tt9, tl, tbv) rfl rfl (by decide) (⟨⟨(-3), Or.inr ⟨je, jp, hje, hjp, rfl, rfl, a10578, Or.inl ⟨a10582, rfl⟩⟩, rfl⟩, hcl⟩) rfl dX11_quarrel_59
      · refine lv_if_ne (tgt := 39) hx hb dX11_quarrel_34 (by decide) (fun c9 => absurd (by decide) c9) (fun _ => ?_)
        refine lv_iconst (v := (-1)) hx hb dX11_quarrel_37 (by decide) ?_
        exact RI (v := (-1)) hC hP hD hS [0, 1, 2, 3, 4, 5, 6, 7, 8, 9, 10, 11, 12, 13, 14, 15, 16, 17, 18, 19] (cl, fclm, ffi, fla, fml, fmm, fsl, fsm, tf, tt9, tl, tbv) rfl rfl (by decide) (⟨⟨(-1), Or.inl ⟨fun h9 => a10578 h9.2.2, rfl⟩, rfl⟩, hcl⟩) rfl dX11_quarrel_38
    · refine lv_if_eq (tgt := 37) hx hb dX11_quarrel_25 (by decide) (fun _ => ?_) (fun c9 => absurd (by decide) c9)
      refine lv_iconst (v := (-1)) hx hb dX11_quarrel_37 (by decide) ?_
      exact RI (v := (-1)) hC hP hD hS [0, 1, 2, 3, 4, 5, 6, 7, 8, 9, 10, 11, 12, 13, 14, 15, 16, 17, 18, 19] (cl, fclm, ffi, fla, fml, fmm, fsl, fsm, tf, tt9, tl, tbv) rfl rfl (by decide) (⟨⟨(-1), Or.inl ⟨fun h9 => a10576 h9.2.1, rfl⟩, rfl⟩, hcl⟩) rfl dX11_quarrel_38
  · refine lv_if_eq (tgt := 37) hx hb dX11_quarrel_11 (by decide) (fun _ => ?_) (fun c9 => absurd (by decide) c9)
    refine lv_iconst (v := (-1)) hx hb dX11_quarrel_37 (by decide) ?_
    exact RI (v := (-1)) hC hP hD hS [0, 1, 2, 3, 4, 5, 6, 7, 8, 9, 10, 11, 12, 13, 14, 15, 16, 17, 18, 19] (cl, fclm, ffi, fla, fml, fmm, fsl, fsm, tf, tt9, tl, tbv) rfl rfl (by decide) (⟨⟨(-1), Or.inl ⟨fun h9 => a10574 h9.1, rfl⟩, rfl⟩, hcl⟩) rfl dX11_quarrel_38
set_option maxHeartbeats 4000000 in
set_option maxRecDepth 100000 in
theorem m_stampAtX (l : Launch) (G : GG) (k6 : Nat) (h0 : Nat) (jp : Nat) (ji : Nat) (nw : Nat) (nk : Nat) (mhasKept : Int32) (nt : Nat) (mtaped : Int32) (nr : Nat) (mrowMany : Int32) (mroundOf : Int32) (mroundFrom : Int32) (mouts : Int32) (nm : Nat) (mfromHour : Int32) (mtoHour : Int32) (ns : Nat) (mfrom : Int32) (mto : Int32) (msort : Int32) (misFault : Int32) (mdeep : Int32) (mcoded : Int32) (mlines : Int32) (nl : Nat) (nc : Nat) (nF : Nat) (np : Nat) (ntr : Nat) (nb : Nat) (mbestCost : Int32) (nso : Nat) (nsi : Nat) (nit : Nat) (nsh : Nat) (nsf : Nat) (nss : Nat) (nrc : Nat) (mtraced : Int32) (mdealer : Int32) (mnumber : Int32) (mwhose : Int32) (msize : Int32) (misParted : Int32) (fnw : Nat → Int32) (e6 : fnw 6 = nI k6) (hk6 : k6 ≤ 24) (hji : ji < cntS fnw (nI jp) k6) : MP l G yX12_stampAt cX12_stampAt 5 (some .int) 2 [.ref h0, .int (nI jp), .int (nI ji)] [(h0, .inr (12, [.ref nw, .ref nk, .int mhasKept, .ref nt, .int mtaped, .ref nr, .int mrowMany, .int mroundOf, .int mroundFrom, .int mouts, .ref nm, .int mfromHour, .int mtoHour, .ref ns, .int mfrom, .int mto, .int msort, .int misFault, .int mdeep, .int mcoded, .int mlines, .ref nl, .ref nc, .ref nF, .ref np, .ref ntr, .ref nb, .int mbestCost, .ref nso, .ref nsi, .ref nit, .ref nsh, .ref nsf, .ref nss, .ref nrc, .int mtraced, .int mdealer, .int mnumber, .int mwhose, .int msize, .int misParted])), (nw, .inl (G.2.1, 1662, .inl fnw))] (fun r : Int32 => ∃ s9, (STQ fnw jp k6 ji s9) ∧ r = nI s9) := by
  refine MP.start (by decide +kernel) (Nat.le_of_ble_eq_true rfl) ?_
  intro p e s m below meth c ls hC hK hP hD hl
  have hl : lv_has ls 5 [(0, .ref h0), (1, .int (nI jp)), (2, .int (nI ji))] := hl
  obtain ⟨hx, hb, hr, hml, hB, hown, hlocks, hnm⟩ := id hC
  have hcl9 := cntS_le fnw (nI jp) k6
  refine lv_iload_n hx hb dX12_stampAt_0 rfl (lv_at hl 2 rfl) ?_
  refine lv_istore_n (lv' := [(3, .int (nI ji)), (0, .ref h0), (1, .int (nI jp)), (2, .int (nI ji))]) hx hb dX12_stampAt_1 rfl hl (by decide) rfl (fun ls hl => ?_)
  refine lv_iconst (v := 0) hx hb dX12_stampAt_2 (by decide) ?_
  refine lv_istore (lv' := [(4, .int 0), (3, .int (nI ji)), (0, .ref h0), (1, .int (nI jp)), (2, .int (nI ji))]) hx hb dX12_stampAt_3 hl (by decide) rfl (fun ls hl => ?_)
  have keyP : ∀ (nP kP : Nat) (lf : Nat) (ls : Array Slot), kP + nP = k6 → (lf + cntS fnw (nI jp) kP = ji) → lv_has ls 5 [(4, .int (nI kP)), (3, .int (nI lf)), (0, .ref h0), (1, .int (nI jp)), (2, .int (nI ji))] → W p l e (RM 2 0 0) s m ([.ref h0, .int (nI jp), .int (nI ji)] : List Value).toArray below meth c s.heap [] 0 0 (MQ below (QP (fun r : Int32 => ∃ s9, (STQ fnw jp k6 ji s9) ∧ r = nI s9)) ([.ref h0, .int (nI jp), .int (nI ji)] : List Value).toArray s 0 0 (fun _ => False)) (F0 m 5 ls []) := by
    intro nP
    induction nP with
    | zero =>
      intro kP lf ls hkP hlf hl
      obtain rfl : k6 = kP := by omega
      have hl : lv_has ls 5 [(4, .int (nI k6)), (3, .int (nI lf)), (0, .ref h0), (1, .int (nI jp)), (2, .int (nI ji))] := hl
      refine lv_iload hx hb dX12_stampAt_5 (lv_at hl 0 rfl) ?_
      refine lv_aload_n hx hb dX12_stampAt_7 rfl (lv_at hl 2 rfl) ?_
      refine gf_X12_9 hC rfl hK hP 0 rfl rfl dX12_stampAt_8 ?_
      refine lv_bipush (v := 6) hx hb dX12_stampAt_11 (by decide) ?_
      refine ald hC hK hP 1 rfl (vin (by decide +kernel)) (k := 6) (by decide +kernel) (v := nI k6) (e6) dX12_stampAt_13 ?_
      refine lv_icmp_ge (tgt := 49) hx hb dX12_stampAt_14 (by decide) (fun _ => ?_) (fun c9 => absurd (Int32.le_refl _) c9)
      exact (show False by omega).elim
    | succ nP ihP =>
      intro kP lf ls hkP hlf hl
      refine lv_iload hx hb dX12_stampAt_5 (lv_at hl 0 rfl) ?_
      refine lv_aload_n hx hb dX12_stampAt_7 rfl (lv_at hl 2 rfl) ?_
      refine gf_X12_9 hC rfl hK hP 0 rfl rfl dX12_stampAt_8 ?_
      refine lv_bipush (v := 6) hx hb dX12_stampAt_11 (by decide) ?_
      refine ald hC hK hP 1 rfl (vin (by decide +kernel)) (k := 6) (by decide +kernel) (v := nI k6) (e6) dX12_stampAt_13 ?_
      refine lv_icmp_ge (tgt := 49) hx hb dX12_stampAt_14 (by decide) (fun c9 => absurd c9 (nI_ge (a := kP) (b := k6) (by omega) (by omega))) (fun _ => ?_)
      refine lv_aload_n hx hb dX12_stampAt_17 rfl (lv_at hl 2 rfl) ?_
      refine gf_X12_9 hC rfl hK hP 0 rfl rfl dX12_stampAt_18 ?_
      refine lv_bipush (v := 104) hx hb dX12_stampAt_21 (by decide) ?_
      refine lv_iconst (v := 3) hx hb dX12_stampAt_23 (by decide) ?_
      refine lv_iload hx hb dX12_stampAt_24 (lv_at hl 0 rfl) ?_
      refine lv_imul hx hb dX12_stampAt_26 ?_
      refine eqi (x1 := nI (3 * kP)) (nI_mul 3 kP) ?_
      refine lv_iadd hx hb dX12_stampAt_27 ?_
      refine eqi (x1 := nI (104 + 3 * kP)) (nI_add 104 (3 * kP)) ?_
      refine ald hC hK hP 1 rfl (vp_in_nI (by omega) (by omega)) (k := (104 + 3 * kP)) (nI_clamp (by omega)) (v := fnw (104 + 3 * kP)) rfl dX12_stampAt_28 ?_
      refine lv_iload_n hx hb dX12_stampAt_29 rfl (lv_at hl 3 rfl) ?_
      refine lv_icmp_ne (tgt := 43) hx hb dX12_stampAt_30 (by decide) (fun c_30_10606 => ?_) (fun c_30_10606 => ?_)
      · have hcs9 := cntS_f (f := fnw) (p := nI jp) (n := kP) c_30_10606
        refine lv_iinc (v := nI (kP + 1)) (lv' := [(4, .int (nI (kP + 1))), (3, .int (nI lf)), (0, .ref h0), (1, .int (nI jp)), (2, .int (nI ji))]) hx hb dX12_stampAt_43 hl (k := 0) rfl (nI_1 _) (by decide) rfl (fun ls hl => ?_)
        refine lv_goto (tgt := 5) hx hb dX12_stampAt_46 (by decide) ?_
        exact ihP (kP + 1) lf _ (by omega) (by first | assumption | exact Or.inl rfl | exact Or.inr rfl | omega | exact rfl) (lv_sub hl [0, 1, 2, 3, 4] rfl)
      · have hcs9 := cntS_t (f := fnw) (p := nI jp) (n := kP) c_30_10606
        refine lv_iload_n hx hb dX12_stampAt_33 rfl (lv_at hl 1 rfl) ?_
        refine lv_if_ne (tgt := 40) hx hb dX12_stampAt_34 (by decide) (fun c_34_10607 => ?_) (fun c_34_10607 => ?_)
        · have hlf1 := nI_nz c_34_10607
          refine lv_iinc (v := nI (lf - 1)) (lv' := [(3, .int (nI (lf - 1))), (4, .int (nI kP)), (0, .ref h0), (1, .int (nI jp)), (2, .int (nI ji))]) hx hb dX12_stampAt_40 hl (k := 1) rfl ((nI_dec lf).trans (nI_sb (by omega))) (by decide) rfl (fun ls hl => ?_)
          refine lv_iinc (v := nI (kP + 1)) (lv' := [(4, .int (nI (kP + 1))), (3, .int (nI (lf - 1))), (0, .ref h0), (1, .int (nI jp)), (2, .int (nI ji))]) hx hb dX12_stampAt_43 hl (k := 1) rfl (nI_1 _) (by decide) rfl (fun ls hl => ?_)
          refine lv_goto (tgt := 5) hx hb dX12_stampAt_46 (by decide) ?_
          exact ihP (kP + 1) (lf - 1) _ (by omega) (by first | assumption | exact Or.inl rfl | exact Or.inr rfl | omega | exact rfl) (lv_sub hl [0, 1, 2, 3, 4] rfl)
        · refine lv_iload hx hb dX12_stampAt_37 (lv_at hl 0 rfl) ?_
          exact RP (v := nI kP) hC (⟨kP, ⟨by omega, c_30_10606, by have h9 := nI_z9 (by omega) c_34_10607; omega⟩, rfl⟩) rfl dX12_stampAt_39
  exact keyP k6 0 ji _ (by omega) (by first | assumption | exact Or.inl rfl | exact Or.inr rfl | omega | exact rfl) (lv_sub hl [0, 1, 2, 3, 4] rfl)
set_option maxHeartbeats 4000000 in
set_option maxRecDepth 100000 in
theorem m_atMostX (l : Launch) (G : GG) (h0 : Nat) (jb : Nat) (ja : Nat) (vv : Int32) (nw : Nat) (nk : Nat) (mhasKept : Int32) (nt : Nat) (mtaped : Int32) (nr : Nat) (mrowMany : Int32) (mroundOf : Int32) (mroundFrom : Int32) (mouts : Int32) (nm : Nat) (mfromHour : Int32) (mtoHour : Int32) (ns : Nat) (mfrom : Int32) (mto : Int32) (msort : Int32) (misFault : Int32) (mdeep : Int32) (mcoded : Int32) (mlines : Int32) (nl : Nat) (nc : Nat) (nF : Nat) (np : Nat) (ntr : Nat) (nb : Nat) (mbestCost : Int32) (nso : Nat) (nsi : Nat) (nit : Nat) (nsh : Nat) (nsf : Nat) (nss : Nat) (nrc : Nat) (mtraced : Int32) (mdealer : Int32) (mnumber : Int32) (mwhose : Int32) (msize : Int32) (misParted : Int32) (fnm : Nat → Int32) (hjb : jb < 6) (hja : ja < 6) : MV l G yX12_atMost cX12_atMost 4 2 0 0 [.ref h0, .int (nI jb), .int (nI ja), .int vv] [(h0, .inr (12, [.ref nw, .ref nk, .int mhasKept, .ref nt, .int mtaped, .ref nr, .int mrowMany, .int mroundOf, .int mroundFrom, .int mouts, .ref nm, .int mfromHour, .int mtoHour, .ref ns, .int mfrom, .int mto, .int msort, .int misFault, .int mdeep, .int mcoded, .int mlines, .ref nl, .ref nc, .ref nF, .ref np, .ref ntr, .ref nb, .int mbestCost, .ref nso, .ref nsi, .ref nit, .ref nsh, .ref nsf, .ref nss, .ref nrc, .int mtraced, .int mdealer, .int mnumber, .int mwhose, .int msize, .int misParted])), (nm, .inl (G.2.1, 36, .inl fnm))] (fun u : (Nat → Int32) => ∀ x9 y9, x9 < 6 → y9 < 6 → MAT u x9 y9 = MNI (MAT fnm) jb ja vv.toInt x9 y9) (fun u : (Nat → Int32) => [(h0, .inr (12, [.ref nw, .ref nk, .int mhasKept, .ref nt, .int mtaped, .ref nr, .int mrowMany, .int mroundOf, .int mroundFrom, .int mouts, .ref nm, .int mfromHour, .int mtoHour, .ref ns, .int mfrom, .int mto, .int msort, .int misFault, .int mdeep, .int mcoded, .int mlines, .ref nl, .ref nc, .ref nF, .ref np, .ref ntr, .ref nb, .int mbestCost, .ref nso, .ref nsi, .ref nit, .ref nsh, .ref nsf, .ref nss, .ref nrc, .int mtraced, .int mdealer, .int mnumber, .int mwhose, .int msize, .int misParted])), (nm, .inl (G.2.1, 36, .inl u))]) := by
  refine MV.start (by decide +kernel) (Nat.le_of_ble_eq_true rfl) ?_
  intro p e s m below meth c A ls hC hK hP hD hS hA hl
  have hl : lv_has ls 4 [(0, .ref h0), (1, .int (nI jb)), (2, .int (nI ja)), (3, .int vv)] := hl
  obtain ⟨hx, hb, hr, hml, hB, hown, hlocks, hnm⟩ := id hC
  refine lv_aload_n hx hb dX12_atMost_0 rfl (lv_at hl 0 rfl) ?_
  refine gf_X12_26 hC rfl hK hP 0 rfl rfl dX12_atMost_1 ?_
  refine lv_bipush (v := 6) hx hb dX12_atMost_4 (by decide) ?_
  refine lv_iload_n hx hb dX12_atMost_6 rfl (lv_at hl 1 rfl) ?_
  refine lv_imul hx hb dX12_atMost_7 ?_
  refine eqi (x1 := nI (6 * jb)) (nI_mul 6 jb) ?_
  refine lv_iload_n hx hb dX12_atMost_8 rfl (lv_at hl 2 rfl) ?_
  refine lv_iadd hx hb dX12_atMost_9 ?_
  refine eqi (x1 := nI (6 * jb + ja)) (nI_add (6 * jb) ja) ?_
  refine lv_aload_n hx hb dX12_atMost_10 rfl (lv_at hl 0 rfl) ?_
  refine gf_X12_26 hC rfl hK hP 0 rfl rfl dX12_atMost_11 ?_
  refine lv_bipush (v := 6) hx hb dX12_atMost_14 (by decide) ?_
  refine lv_iload_n hx hb dX12_atMost_16 rfl (lv_at hl 1 rfl) ?_
  refine lv_imul hx hb dX12_atMost_17 ?_
  refine eqi (x1 := nI (6 * jb)) (nI_mul 6 jb) ?_
  refine lv_iload_n hx hb dX12_atMost_18 rfl (lv_at hl 2 rfl) ?_
  refine lv_iadd hx hb dX12_atMost_19 ?_
  refine eqi (x1 := nI (6 * jb + ja)) (nI_add (6 * jb) ja) ?_
  refine ald hC hK hP 1 rfl (vp_in_nI (by omega) (by omega)) (k := 6 * jb + ja) (nI_clamp (by omega)) (v := fnm (6 * jb + ja)) (rfl) dX12_atMost_20 ?_
  refine lv_iload_n hx hb dX12_atMost_21 rfl (lv_at hl 3 rfl) ?_
  refine va_mmin hx hb (hml.trans hl.1.symm) hown (hB _ m_1165) (hB _ m_373) (hB _ m_105) (hB _ m_374) (Nat.le_of_ble_eq_true rfl) (Nat.le_of_ble_eq_true rfl) (by first | exact Nat.le_of_ble_eq_true rfl | exact Nat.zero_le _)  (by first | exact Nat.le_of_ble_eq_true rfl | exact Nat.zero_le _) dX12_atMost_22 ?_
  refine lv_topi (fun x10608 ex10608 => ?_)
  refine ast hC hK hP hD hS 1 (ws' := [(h0, .inr (12, [.ref nw, .ref nk, .int mhasKept, .ref nt, .int mtaped, .ref nr, .int mrowMany, .int mroundOf, .int mroundFrom, .int mouts, .ref nm, .int mfromHour, .int mtoHour, .ref ns, .int mfrom, .int mto, .int msort, .int misFault, .int mdeep, .int mcoded, .int mlines, .ref nl, .ref nc, .ref nF, .ref np, .ref ntr, .ref nb, .int mbestCost, .ref nso, .ref nsi, .ref nit, .ref nsh, .ref nsf, .ref nss, .ref nrc, .int mtraced, .int mdealer, .int mnumber, .int mwhose, .int msize, .int misParted])), (nm, .inl (G.2.1, 36, .inl (upd fnm (6 * jb + ja) x10608)))]) rfl (vp_in_nI (by omega) (by omega)) (k := (6 * jb + ja)) (nI_clamp (by omega)) (rfl) dX12_atMost_25 (fun H locs hP hD hS => ?_)
  exact RV hC hP hD hS [0, 1] (upd fnm (6 * jb + ja) x10608) rfl rfl (by decide) (MNI.of hjb hja ex10608) dX12_atMost_26
set_option maxHeartbeats 4000000 in
set_option maxRecDepth 100000 in
theorem m_findClocksX (l : Launch) (G : GG) (kq : Nat) (k6 : Nat) (h0 : Nat) (nw : Nat) (nk : Nat) (mhasKept : Int32) (nt : Nat) (mtaped : Int32) (nr : Nat) (mrowMany : Int32) (mroundOf : Int32) (mroundFrom : Int32) (nm : Nat) (mfromHour : Int32) (mtoHour : Int32) (ns : Nat) (mfrom : Int32) (mto : Int32) (msort : Int32) (misFault : Int32) (mdeep : Int32) (mcoded : Int32) (mlines : Int32) (nl : Nat) (nc : Nat) (nF : Nat) (np : Nat) (ntr : Nat) (nb : Nat) (mbestCost : Int32) (nso : Nat) (nsi : Nat) (nit : Nat) (nsh : Nat) (nsf : Nat) (nss : Nat) (nrc : Nat) (mtraced : Int32) (mdealer : Int32) (mnumber : Int32) (mwhose : Int32) (msize : Int32) (misParted : Int32) (fnw : Nat → Int32) (fnm : Nat → Int32) (hN : NI fnw) (hgp : GPRm (fnw 3)) (ekq : fnw 5 = nI kq) (hkq : kq ≤ 12) (e6 : fnw 6 = nI k6) (hk6 : k6 ≤ 24) : MI l G yX12_findClocks cX12_findClocks 7 (some .boolean) 4 0 0 [.ref h0] [(h0, .inr (12, [.ref nw, .ref nk, .int mhasKept, .ref nt, .int mtaped, .ref nr, .int mrowMany, .int mroundOf, .int mroundFrom, .int 0, .ref nm, .int mfromHour, .int mtoHour, .ref ns, .int mfrom, .int mto, .int msort, .int misFault, .int mdeep, .int mcoded, .int mlines, .ref nl, .ref nc, .ref nF, .ref np, .ref ntr, .ref nb, .int mbestCost, .ref nso, .ref nsi, .ref nit, .ref nsh, .ref nsf, .ref nss, .ref nrc, .int mtraced, .int mdealer, .int mnumber, .int mwhose, .int msize, .int misParted])), (nw, .inl (G.2.1, 1662, .inl fnw)), (nm, .inl (G.2.1, 36, .inl fnm))] (fun (r : Int32) (u : (Nat → Int32)) => ((r = 1 ∧ NOS (KST (shf fnw 104) (VSE fnw kq) (fnw 3).toInt k6)) ∨ (r = 0 ∧ CLB (KST (shf fnw 104) (VSE fnw kq) (fnw 3).toInt k6) (MAT u))) ∧ (MB u)) (fun u : (Nat → Int32) => [(h0, .inr (12, [.ref nw, .ref nk, .int mhasKept, .ref nt, .int mtaped, .ref nr, .int mrowMany, .int mroundOf, .int mroundFrom, .int 0, .ref nm, .int mfromHour, .int mtoHour, .ref ns, .int mfrom, .int mto, .int msort, .int misFault, .int mdeep, .int mcoded, .int mlines, .ref nl, .ref nc, .ref nF, .ref np, .ref ntr, .ref nb, .int mbestCost, .ref nso, .ref nsi, .ref nit, .ref nsh, .ref nsf, .ref nss, .ref nrc, .int mtraced, .int mdealer, .int mnumber, .int mwhose, .int msize, .int misParted])), (nw, .inl (G.2.1, 1662, .inl fnw)), (nm, .inl (G.2.1, 36, .inl u))]) := by
  refine MI.start (by decide +kernel) (Nat.le_of_ble_eq_true rfl) ?_
  intro p e s m below meth c A ls hC hK hP hD hS hA hl
  have hl : lv_has ls 7 [(0, .ref h0)] := hl
  obtain ⟨hx, hb, hr, hml, hB, hown, hlocks, hnm⟩ := id hC
  refine lv_iconst (v := 0) hx hb dX12_findClocks_0 (by decide) ?_
  refine lv_istore_n (lv' := [(1, .int 0), (0, .ref h0)]) hx hb dX12_findClocks_1 rfl hl (by decide) rfl (fun ls hl => ?_)
  have keyA : ∀ (nA kA : Nat) (vA : Nat → Int32) (H : Heap) (locs : List Loc) (ls : Array Slot), kA + nA = 6 → (FRP kA 0 (MAT vA)) → va_PD G A [(h0, .inr (12, [.ref nw, .ref nk, .int mhasKept, .ref nt, .int mtaped, .ref nr, .int mrowMany, .int mroundOf, .int mroundFrom, .int 0, .ref nm, .int mfromHour, .int mtoHour, .ref ns, .int mfrom, .int mto, .int msort, .int misFault, .int mdeep, .int mcoded, .int mlines, .ref nl, .ref nc, .ref nF, .ref np, .ref ntr, .ref nb, .int mbestCost, .ref nso, .ref nsi, .ref nit, .ref nsh, .ref nsf, .ref nss, .ref nrc, .int mtraced, .int mdealer, .int mnumber, .int mwhose, .int msize, .int misParted])), (nw, .inl (G.2.1, 1662, .inl fnw)), (nm, .inl (G.2.1, 36, .inl vA))] H → va_S A s.heap H locs → lv_has ls 7 [(1, .int (nI kA)), (0, .ref h0)] → W p l e (RM 4 0 0) s m ([.ref h0] : List Value).toArray below meth c H locs 0 0 (MQ below (QI G (fun (r : Int32) (u : (Nat → Int32)) => ((r = 1 ∧ NOS (KST (shf fnw 104) (VSE fnw kq) (fnw 3).toInt k6)) ∨ (r = 0 ∧ CLB (KST (shf fnw 104) (VSE fnw kq) (fnw 3).toInt k6) (MAT u))) ∧ (MB u)) (fun u : (Nat → Int32) => [(h0, .inr (12, [.ref nw, .ref nk, .int mhasKept, .ref nt, .int mtaped, .ref nr, .int mrowMany, .int mroundOf, .int mroundFrom, .int 0, .ref nm, .int mfromHour, .int mtoHour, .ref ns, .int mfrom, .int mto, .int msort, .int misFault, .int mdeep, .int mcoded, .int mlines, .ref nl, .ref nc, .ref nF, .ref np, .ref ntr, .ref nb, .int mbestCost, .ref nso, .ref nsi, .ref nit, .ref nsh, .ref nsf, .ref nss, .ref nrc, .int mtraced, .int mdealer, .int mnumber, .int mwhose, .int msize, .int misParted])), (nw, .inl (G.2.1, 1662, .inl fnw)), (nm, .inl (G.2.1, 36, .inl u))]) A) ([.ref h0] : List Value).toArray s 0 0 A) (F0 m 2 ls []) := by
    intro nA
    induction nA with
    | zero =>
      intro kA vA H locs ls hkA hvA hPD hS hl
      obtain ⟨hP, hD⟩ := hPD
      obtain rfl : 6 = kA := by omega
      have hl : lv_has ls 7 [(1, .int 6), (0, .ref h0)] := hl
      refine lv_iload_n hx hb dX12_findClocks_2 rfl (lv_at hl 0 rfl) ?_
      refine lv_bipush (v := 6) hx hb dX12_findClocks_3 (by decide) ?_
      refine lv_icmp_ge (tgt := 63) hx hb dX12_findClocks_5 (by decide) (fun _ => ?_) (fun c9 => absurd (by decide) c9)
      have hz9 : PHI (KST (shf fnw 104) (VSE fnw kq) (fnw 3).toInt k6) (KCV fnw (VSE fnw kq) (fnw 3).toInt k6 0 1) (MAT vA) := PHI.base hvA KST.bas
      refine lv_iconst (v := 0) hx hb dX12_findClocks_63 (by decide) ?_
      refine lv_istore_n (lv' := [(1, .int 0), (0, .ref h0)]) hx hb dX12_findClocks_64 rfl hl (by decide) rfl (fun ls hl => ?_)
      have keyC : ∀ (nC kC : Nat) (vC : Nat → Int32) (H : Heap) (locs : List Loc) (ls : Array Slot), kC + nC = kq → (PHI (KST (shf fnw 104) (VSE fnw kq) (fnw 3).toInt k6) (KCV fnw (VSE fnw kq) (fnw 3).toInt k6 kC 1) (MAT vC)) → va_PD G A [(h0, .inr (12, [.ref nw, .ref nk, .int mhasKept, .ref nt, .int mtaped, .ref nr, .int mrowMany, .int mroundOf, .int mroundFrom, .int 0, .ref nm, .int mfromHour, .int mtoHour, .ref ns, .int mfrom, .int mto, .int msort, .int misFault, .int mdeep, .int mcoded, .int mlines, .ref nl, .ref nc, .ref nF, .ref np, .ref ntr, .ref nb, .int mbestCost, .ref nso, .ref nsi, .ref nit, .ref nsh, .ref nsf, .ref nss, .ref nrc, .int mtraced, .int mdealer, .int mnumber, .int mwhose, .int msize, .int misParted])), (nw, .inl (G.2.1, 1662, .inl fnw)), (nm, .inl (G.2.1, 36, .inl vC))] H → va_S A s.heap H locs → lv_has ls 7 [(1, .int (nI kC)), (0, .ref h0)] → W p l e (RM 4 0 0) s m ([.ref h0] : List Value).toArray below meth c H locs 0 0 (MQ below (QI G (fun (r : Int32) (u : (Nat → Int32)) => ((r = 1 ∧ NOS (KST (shf fnw 104) (VSE fnw kq) (fnw 3).toInt k6)) ∨ (r = 0 ∧ CLB (KST (shf fnw 104) (VSE fnw kq) (fnw 3).toInt k6) (MAT u))) ∧ (MB u)) (fun u : (Nat → Int32) => [(h0, .inr (12, [.ref nw, .ref nk, .int mhasKept, .ref nt, .int mtaped, .ref nr, .int mrowMany, .int mroundOf, .int mroundFrom, .int 0, .ref nm, .int mfromHour, .int mtoHour, .ref ns, .int mfrom, .int mto, .int msort, .int misFault, .int mdeep, .int mcoded, .int mlines, .ref nl, .ref nc, .ref nF, .ref np, .ref ntr, .ref nb, .int mbestCost, .ref nso, .ref nsi, .ref nit, .ref nsh, .ref nsf, .ref nss, .ref nrc, .int mtraced, .int mdealer, .int mnumber, .int mwhose, .int msize, .int misParted])), (nw, .inl (G.2.1, 1662, .inl fnw)), (nm, .inl (G.2.1, 36, .inl u))]) A) ([.ref h0] : List Value).toArray s 0 0 A) (F0 m 65 ls []) := by
        intro nC
        induction nC with
        | zero =>
          intro kC vC H locs ls hkC hvC hPD hS hl
          obtain ⟨hP, hD⟩ := hPD
          obtain rfl : kq = kC := by omega
          have hl : lv_has ls 7 [(1, .int (nI kq)), (0, .ref h0)] := hl
          refine lv_iload_n hx hb dX12_findClocks_65 rfl (lv_at hl 0 rfl) ?_
          refine lv_aload_n hx hb dX12_findClocks_66 rfl (lv_at hl 1 rfl) ?_
          refine gf_X12_9 hC rfl hK hP 0 rfl rfl dX12_findClocks_67 ?_
          refine lv_iconst (v := 5) hx hb dX12_findClocks_70 (by decide) ?_
          refine ald hC hK hP 1 rfl (vin (by decide +kernel)) (k := 5) (by decide +kernel) (v := nI kq) (ekq) dX12_findClocks_71 ?_
          refine lv_icmp_ge (tgt := 216) hx hb dX12_findClocks_72 (by decide) (fun _ => ?_) (fun c9 => absurd (Int32.le_refl _) c9)
          have hz9 : FWT (KST (shf fnw 104) (VSE fnw kq) (fnw 3).toInt k6) 0 (MAT vC) := FWT.of (hvC.all (fun q9 h9 => h9.1) (fun s9 h9 => NI.pap hN (by omega)))
          refine lv_iconst (v := 0) hx hb dX12_findClocks_216 (by decide) ?_
          refine lv_istore_n (lv' := [(1, .int 0), (0, .ref h0)]) hx hb dX12_findClocks_217 rfl hl (by decide) rfl (fun ls hl => ?_)
          have keyE : ∀ (nE kE : Nat) (vE : Nat → Int32) (H : Heap) (locs : List Loc) (ls : Array Slot), kE + nE = 6 → (FWT (KST (shf fnw 104) (VSE fnw kq) (fnw 3).toInt k6) kE (MAT vE)) → va_PD G A [(h0, .inr (12, [.ref nw, .ref nk, .int mhasKept, .ref nt, .int mtaped, .ref nr, .int mrowMany, .int mroundOf, .int mroundFrom, .int 0, .ref nm, .int mfromHour, .int mtoHour, .ref ns, .int mfrom, .int mto, .int msort, .int misFault, .int mdeep, .int mcoded, .int mlines, .ref nl, .ref nc, .ref nF, .ref np, .ref ntr, .ref nb, .int mbestCost, .ref nso, .ref nsi, .ref nit, .ref nsh, .ref nsf, .ref nss, .ref nrc, .int mtraced, .int mdealer, .int mnumber, .int mwhose, .int msize, .int misParted])), (nw, .inl (G.2.1, 1662, .inl fnw)), (nm, .inl (G.2.1, 36, .inl vE))] H → va_S A s.heap H locs → lv_has ls 7 [(1, .int (nI kE)), (0, .ref h0)] → W p l e (RM 4 0 0) s m ([.ref h0] : List Value).toArray below meth c H locs 0 0 (MQ below (QI G (fun (r : Int32) (u : (Nat → Int32)) => ((r = 1 ∧ NOS (KST (shf fnw 104) (VSE fnw kq) (fnw 3).toInt k6)) ∨ (r = 0 ∧ CLB (KST (shf fnw 104) (VSE fnw kq) (fnw 3).toInt k6) (MAT u))) ∧ (MB u)) (fun u : (Nat → Int32) => [(h0, .inr (12, [.ref nw, .ref nk, .int mhasKept, .ref nt, .int mtaped, .ref nr, .int mrowMany, .int mroundOf, .int mroundFrom, .int 0, .ref nm, .int mfromHour, .int mtoHour, .ref ns, .int mfrom, .int mto, .int msort, .int misFault, .int mdeep, .int mcoded, .int mlines, .ref nl, .ref nc, .ref nF, .ref np, .ref ntr, .ref nb, .int mbestCost, .ref nso, .ref nsi, .ref nit, .ref nsh, .ref nsf, .ref nss, .ref nrc, .int mtraced, .int mdealer, .int mnumber, .int mwhose, .int msize, .int misParted])), (nw, .inl (G.2.1, 1662, .inl fnw)), (nm, .inl (G.2.1, 36, .inl u))]) A) ([.ref h0] : List Value).toArray s 0 0 A) (F0 m 218 ls []) := by
            intro nE
            induction nE with
            | zero =>
              intro kE vE H locs ls hkE hvE hPD hS hl
              obtain ⟨hP, hD⟩ := hPD
              obtain rfl : 6 = kE := by omega
              have hl : lv_has ls 7 [(1, .int 6), (0, .ref h0)] := hl
              refine lv_iload_n hx hb dX12_findClocks_218 rfl (lv_at hl 0 rfl) ?_
              refine lv_bipush (v := 6) hx hb dX12_findClocks_219 (by decide) ?_
              refine lv_icmp_ge (tgt := 287) hx hb dX12_findClocks_221 (by decide) (fun _ => ?_) (fun c9 => absurd (by decide) c9)
              refine lv_iconst (v := 0) hx hb dX12_findClocks_287 (by decide) ?_
              refine lv_istore_n (lv' := [(1, .int 0), (0, .ref h0)]) hx hb dX12_findClocks_288 rfl hl (by decide) rfl (fun ls hl => ?_)
              refine lv_iconst (v := 0) hx hb dX12_findClocks_289 (by decide) ?_
              refine lv_istore_n (lv' := [(2, .int 0), (1, .int 0), (0, .ref h0)]) hx hb dX12_findClocks_290 rfl hl (by decide) rfl (fun ls hl => ?_)
              have keyH : ∀ (nH kH : Nat) (cl : Int32) (H : Heap) (locs : List Loc) (ls : Array Slot), kH + nH = 6 → (CLD cl kH (MAT vE)) → va_PD G A [(h0, .inr (12, [.ref nw, .ref nk, .int mhasKept, .ref nt, .int mtaped, .ref nr, .int mrowMany, .int mroundOf, .int mroundFrom, .int 0, .ref nm, .int mfromHour, .int mtoHour, .ref ns, .int mfrom, .int mto, .int msort, .int misFault, .int mdeep, .int mcoded, .int mlines, .ref nl, .ref nc, .ref nF, .ref np, .ref ntr, .ref nb, .int mbestCost, .ref nso, .ref nsi, .ref nit, .ref nsh, .ref nsf, .ref nss, .ref nrc, .int mtraced, .int mdealer, .int mnumber, .int mwhose, .int msize, .int misParted])), (nw, .inl (G.2.1, 1662, .inl fnw)), (nm, .inl (G.2.1, 36, .inl vE))] H → va_S A s.heap H locs → lv_has ls 7 [(2, .int (nI kH)), (1, .int cl), (0, .ref h0)] → W p l e (RM 4 0 0) s m ([.ref h0] : List Value).toArray below meth c H locs 0 0 (MQ below (QI G (fun (r : Int32) (u : (Nat → Int32)) => ((r = 1 ∧ NOS (KST (shf fnw 104) (VSE fnw kq) (fnw 3).toInt k6)) ∨ (r = 0 ∧ CLB (KST (shf fnw 104) (VSE fnw kq) (fnw 3).toInt k6) (MAT u))) ∧ (MB u)) (fun u : (Nat → Int32) => [(h0, .inr (12, [.ref nw, .ref nk, .int mhasKept, .ref nt, .int mtaped, .ref nr, .int mrowMany, .int mroundOf, .int mroundFrom, .int 0, .ref nm, .int mfromHour, .int mtoHour, .ref ns, .int mfrom, .int mto, .int msort, .int misFault, .int mdeep, .int mcoded, .int mlines, .ref nl, .ref nc, .ref nF, .ref np, .ref ntr, .ref nb, .int mbestCost, .ref nso, .ref nsi, .ref nit, .ref nsh, .ref nsf, .ref nss, .ref nrc, .int mtraced, .int mdealer, .int mnumber, .int mwhose, .int msize, .int misParted])), (nw, .inl (G.2.1, 1662, .inl fnw)), (nm, .inl (G.2.1, 36, .inl u))]) A) ([.ref h0] : List Value).toArray s 0 0 A) (F0 m 291 ls []) := by
                intro nH
                induction nH with
                | zero =>
                  intro kH cl H locs ls hkH hcl hPD hS hl
                  obtain ⟨hP, hD⟩ := hPD
                  obtain rfl : 6 = kH := by omega
                  have hl : lv_has ls 7 [(2, .int 6), (1, .int cl), (0, .ref h0)] := hl
                  refine lv_iload_n hx hb dX12_findClocks_291 rfl (lv_at hl 0 rfl) ?_
                  refine lv_bipush (v := 6) hx hb dX12_findClocks_292 (by decide) ?_
                  refine lv_icmp_ge (tgt := 327) hx hb dX12_findClocks_294 (by decide) (fun _ => ?_) (fun c9 => absurd (by decide) c9)
                  rcases hcl.yes hvE KST.bas with ⟨rfl, hno⟩ | ⟨rfl, hcb⟩
                  · refine lv_iload_n hx hb dX12_findClocks_327 rfl (lv_at hl 1 rfl) ?_
                    exact RI (v := 1) hC hP hD hS [0, 1, 2] vE rfl rfl (by decide) (⟨Or.inl ⟨rfl, hno⟩, hvE.mb⟩) (by decide +kernel) dX12_findClocks_328
                  · refine lv_iload_n hx hb dX12_findClocks_327 rfl (lv_at hl 1 rfl) ?_
                    exact RI (v := 0) hC hP hD hS [0, 1, 2] vE rfl rfl (by decide) (⟨Or.inr ⟨rfl, hcb⟩, hvE.mb⟩) (by decide +kernel) dX12_findClocks_328
                | succ nH ihH =>
                  intro kH cl H locs ls hkH hcl hPD hS hl
                  obtain ⟨hP, hD⟩ := hPD
                  refine lv_iload_n hx hb dX12_findClocks_291 rfl (lv_at hl 0 rfl) ?_
                  refine lv_bipush (v := 6) hx hb dX12_findClocks_292 (by decide) ?_
                  refine lv_icmp_ge (tgt := 327) hx hb dX12_findClocks_294 (by decide) (fun c9 => absurd c9 (nI_ge (a := kH) (b := 6) (by omega) (by omega))) (fun _ => ?_)
                  refine lv_iload_n hx hb dX12_findClocks_297 rfl (lv_at hl 1 rfl) ?_
                  refine lv_if_ne (tgt := 315) hx hb dX12_findClocks_298 (by decide) (fun c_298_10609 => ?_) (fun c_298_10609 => ?_)
                  · refine lv_iconst (v := 1) hx hb dX12_findClocks_315 (by decide) ?_
                    refine lv_goto (tgt := 320) hx hb dX12_findClocks_316 (by decide) ?_
                    refine lv_istore_n (lv' := [(1, .int 1), (2, .int (nI kH)), (0, .ref h0)]) hx hb dX12_findClocks_320 rfl hl (by decide) rfl (fun ls hl => ?_)
                    refine lv_iinc (v := nI (kH + 1)) (lv' := [(2, .int (nI (kH + 1))), (1, .int 1), (0, .ref h0)]) hx hb dX12_findClocks_321 hl (k := 1) rfl (nI_1 _) (by decide) rfl (fun ls hl => ?_)
                    refine lv_goto (tgt := 291) hx hb dX12_findClocks_324 (by decide) ?_
                    have hst9 : CLD 1 (kH + 1) (MAT vE) := CLD.old hcl c_298_10609
                    exact ihH (kH + 1) 1 _ _ _ (by omega) (by first | assumption | exact Or.inl rfl | exact Or.inr rfl | exact CLD.zero) (And.intro hP hD) hS (lv_sub hl [0, 1, 2] rfl)
                  · refine lv_aload_n hx hb dX12_findClocks_301 rfl (lv_at hl 2 rfl) ?_
                    refine gf_X12_26 hC rfl hK hP 0 rfl rfl dX12_findClocks_302 ?_
                    refine lv_bipush (v := 6) hx hb dX12_findClocks_305 (by decide) ?_
                    refine lv_iload_n hx hb dX12_findClocks_307 rfl (lv_at hl 0 rfl) ?_
                    refine lv_imul hx hb dX12_findClocks_308 ?_
                    refine eqi (x1 := nI (6 * kH)) (nI_mul 6 kH) ?_
                    refine lv_iload_n hx hb dX12_findClocks_309 rfl (lv_at hl 0 rfl) ?_
                    refine lv_iadd hx hb dX12_findClocks_310 ?_
                    refine eqi (x1 := nI (6 * kH + kH)) (nI_add (6 * kH) kH) ?_
                    refine ald hC hK hP 2 rfl (vp_in_nI (by omega) (by omega)) (k := (6 * kH + kH)) (nI_clamp (by omega)) (v := vE (6 * kH + kH)) rfl dX12_findClocks_311 ?_
                    refine lv_if_ge (tgt := 319) hx hb dX12_findClocks_312 (by decide) (fun c_312_10610 => ?_) (fun c_312_10610 => ?_)
                    · refine lv_iconst (v := 0) hx hb dX12_findClocks_319 (by decide) ?_
                      refine lv_istore_n (lv' := [(1, .int 0), (2, .int (nI kH)), (0, .ref h0)]) hx hb dX12_findClocks_320 rfl hl (by decide) rfl (fun ls hl => ?_)
                      refine lv_iinc (v := nI (kH + 1)) (lv' := [(2, .int (nI (kH + 1))), (1, .int 0), (0, .ref h0)]) hx hb dX12_findClocks_321 hl (k := 1) rfl (nI_1 _) (by decide) rfl (fun ls hl => ?_)
                      refine lv_goto (tgt := 291) hx hb dX12_findClocks_324 (by decide) ?_
                      have hst9 : CLD 0 (kH + 1) (MAT vE) := hcl.hi c_298_10609 (mat_s.mp c_312_10610)
                      exact ihH (kH + 1) 0 _ _ _ (by omega) (by first | assumption | exact Or.inl rfl | exact Or.inr rfl | exact CLD.zero) (And.intro hP hD) hS (lv_sub hl [0, 1, 2] rfl)
                    · refine lv_iconst (v := 1) hx hb dX12_findClocks_315 (by decide) ?_
                      refine lv_goto (tgt := 320) hx hb dX12_findClocks_316 (by decide) ?_
                      refine lv_istore_n (lv' := [(1, .int 1), (2, .int (nI kH)), (0, .ref h0)]) hx hb dX12_findClocks_320 rfl hl (by decide) rfl (fun ls hl => ?_)
                      refine lv_iinc (v := nI (kH + 1)) (lv' := [(2, .int (nI (kH + 1))), (1, .int 1), (0, .ref h0)]) hx hb dX12_findClocks_321 hl (k := 1) rfl (nI_1 _) (by decide) rfl (fun ls hl => ?_)
                      refine lv_goto (tgt := 291) hx hb dX12_findClocks_324 (by decide) ?_
                      have hst9 : CLD 1 (kH + 1) (MAT vE) := CLD.lo (by omega) (Int.not_le.mp (fun h9 => c_312_10610 (mat_s.mpr h9)))
                      exact ihH (kH + 1) 1 _ _ _ (by omega) (by first | assumption | exact Or.inl rfl | exact Or.inr rfl | exact CLD.zero) (And.intro hP hD) hS (lv_sub hl [0, 1, 2] rfl)
              exact keyH 6 0 0 _ _ _ (by omega) (by first | assumption | exact Or.inl rfl | exact Or.inr rfl | exact CLD.zero) (And.intro hP hD) hS (lv_sub hl [0, 1, 2] rfl)
            | succ nE ihE =>
              intro kE vE H locs ls hkE hvE hPD hS hl
              obtain ⟨hP, hD⟩ := hPD
              refine lv_iload_n hx hb dX12_findClocks_218 rfl (lv_at hl 0 rfl) ?_
              refine lv_bipush (v := 6) hx hb dX12_findClocks_219 (by decide) ?_
              refine lv_icmp_ge (tgt := 287) hx hb dX12_findClocks_221 (by decide) (fun c9 => absurd c9 (nI_ge (a := kE) (b := 6) (by omega) (by omega))) (fun _ => ?_)
              refine lv_iconst (v := 0) hx hb dX12_findClocks_224 (by decide) ?_
              refine lv_istore_n (lv' := [(2, .int 0), (1, .int (nI kE)), (0, .ref h0)]) hx hb dX12_findClocks_225 rfl hl (by decide) rfl (fun ls hl => ?_)
              have keyY : ∀ (nY kY : Nat) (vY : Nat → Int32) (H : Heap) (locs : List Loc) (ls : Array Slot), kY + nY = 6 → (FWS (KST (shf fnw 104) (VSE fnw kq) (fnw 3).toInt k6) kE kY 0 (MAT vE) (MAT vY)) → va_PD G A [(h0, .inr (12, [.ref nw, .ref nk, .int mhasKept, .ref nt, .int mtaped, .ref nr, .int mrowMany, .int mroundOf, .int mroundFrom, .int 0, .ref nm, .int mfromHour, .int mtoHour, .ref ns, .int mfrom, .int mto, .int msort, .int misFault, .int mdeep, .int mcoded, .int mlines, .ref nl, .ref nc, .ref nF, .ref np, .ref ntr, .ref nb, .int mbestCost, .ref nso, .ref nsi, .ref nit, .ref nsh, .ref nsf, .ref nss, .ref nrc, .int mtraced, .int mdealer, .int mnumber, .int mwhose, .int msize, .int misParted])), (nw, .inl (G.2.1, 1662, .inl fnw)), (nm, .inl (G.2.1, 36, .inl vY))] H → va_S A s.heap H locs → lv_has ls 7 [(2, .int (nI kY)), (1, .int (nI kE)), (0, .ref h0)] → W p l e (RM 4 0 0) s m ([.ref h0] : List Value).toArray below meth c H locs 0 0 (MQ below (QI G (fun (r : Int32) (u : (Nat → Int32)) => ((r = 1 ∧ NOS (KST (shf fnw 104) (VSE fnw kq) (fnw 3).toInt k6)) ∨ (r = 0 ∧ CLB (KST (shf fnw 104) (VSE fnw kq) (fnw 3).toInt k6) (MAT u))) ∧ (MB u)) (fun u : (Nat → Int32) => [(h0, .inr (12, [.ref nw, .ref nk, .int mhasKept, .ref nt, .int mtaped, .ref nr, .int mrowMany, .int mroundOf, .int mroundFrom, .int 0, .ref nm, .int mfromHour, .int mtoHour, .ref ns, .int mfrom, .int mto, .int msort, .int misFault, .int mdeep, .int mcoded, .int mlines, .ref nl, .ref nc, .ref nF, .ref np, .ref ntr, .ref nb, .int mbestCost, .ref nso, .ref nsi, .ref nit, .ref nsh, .ref nsf, .ref nss, .ref nrc, .int mtraced, .int mdealer, .int mnumber, .int mwhose, .int msize, .int misParted])), (nw, .inl (G.2.1, 1662, .inl fnw)), (nm, .inl (G.2.1, 36, .inl u))]) A) ([.ref h0] : List Value).toArray s 0 0 A) (F0 m 226 ls []) := by
                intro nY
                induction nY with
                | zero =>
                  intro kY vY H locs ls hkY hvY hPD hS hl
                  obtain ⟨hP, hD⟩ := hPD
                  obtain rfl : 6 = kY := by omega
                  have hl : lv_has ls 7 [(2, .int 6), (1, .int (nI kE)), (0, .ref h0)] := hl
                  refine lv_iload_n hx hb dX12_findClocks_226 rfl (lv_at hl 0 rfl) ?_
                  refine lv_bipush (v := 6) hx hb dX12_findClocks_227 (by decide) ?_
                  refine lv_icmp_ge (tgt := 281) hx hb dX12_findClocks_229 (by decide) (fun _ => ?_) (fun c9 => absurd (by decide) c9)
                  refine lv_iinc (v := nI (kE + 1)) (lv' := [(1, .int (nI (kE + 1))), (2, .int 6), (0, .ref h0)]) hx hb dX12_findClocks_281 hl (k := 1) rfl (nI_1 _) (by decide) rfl (fun ls hl => ?_)
                  refine lv_goto (tgt := 218) hx hb dX12_findClocks_284 (by decide) ?_
                  have hst9 : FWT (KST (shf fnw 104) (VSE fnw kq) (fnw 3).toInt k6) (kE + 1) (MAT vY) := hvY.fin (by omega)
                  exact ihE (kE + 1) vY _ _ _ (by omega) (by first | assumption | exact Or.inl rfl | exact Or.inr rfl) (And.intro hP hD) hS (lv_sub hl [0, 2] rfl)
                | succ nY ihY =>
                  intro kY vY H locs ls hkY hvY hPD hS hl
                  obtain ⟨hP, hD⟩ := hPD
                  refine lv_iload_n hx hb dX12_findClocks_226 rfl (lv_at hl 0 rfl) ?_
                  refine lv_bipush (v := 6) hx hb dX12_findClocks_227 (by decide) ?_
                  refine lv_icmp_ge (tgt := 281) hx hb dX12_findClocks_229 (by decide) (fun c9 => absurd c9 (nI_ge (a := kY) (b := 6) (by omega) (by omega))) (fun _ => ?_)
                  refine lv_iconst (v := 0) hx hb dX12_findClocks_232 (by decide) ?_
                  refine lv_istore_n (lv' := [(3, .int 0), (2, .int (nI kY)), (1, .int (nI kE)), (0, .ref h0)]) hx hb dX12_findClocks_233 rfl hl (by decide) rfl (fun ls hl => ?_)
                  have keyG : ∀ (nG kG : Nat) (vG : Nat → Int32) (H : Heap) (locs : List Loc) (ls : Array Slot), kG + nG = 6 → (FWS (KST (shf fnw 104) (VSE fnw kq) (fnw 3).toInt k6) kE kY kG (MAT vE) (MAT vG)) → va_PD G A [(h0, .inr (12, [.ref nw, .ref nk, .int mhasKept, .ref nt, .int mtaped, .ref nr, .int mrowMany, .int mroundOf, .int mroundFrom, .int 0, .ref nm, .int mfromHour, .int mtoHour, .ref ns, .int mfrom, .int mto, .int msort, .int misFault, .int mdeep, .int mcoded, .int mlines, .ref nl, .ref nc, .ref nF, .ref np, .ref ntr, .ref nb, .int mbestCost, .ref nso, .ref nsi, .ref nit, .ref nsh, .ref nsf, .ref nss, .ref nrc, .int mtraced, .int mdealer, .int mnumber, .int mwhose, .int msize, .int misParted])), (nw, .inl (G.2.1, 1662, .inl fnw)), (nm, .inl (G.2.1, 36, .inl vG))] H → va_S A s.heap H locs → lv_has ls 7 [(3, .int (nI kG)), (2, .int (nI kY)), (1, .int (nI kE)), (0, .ref h0)] → W p l e (RM 4 0 0) s m ([.ref h0] : List Value).toArray below meth c H locs 0 0 (MQ below (QI G (fun (r : Int32) (u : (Nat → Int32)) => ((r = 1 ∧ NOS (KST (shf fnw 104) (VSE fnw kq) (fnw 3).toInt k6)) ∨ (r = 0 ∧ CLB (KST (shf fnw 104) (VSE fnw kq) (fnw 3).toInt k6) (MAT u))) ∧ (MB u)) (fun u : (Nat → Int32) => [(h0, .inr (12, [.ref nw, .ref nk, .int mhasKept, .ref nt, .int mtaped, .ref nr, .int mrowMany, .int mroundOf, .int mroundFrom, .int 0, .ref nm, .int mfromHour, .int mtoHour, .ref ns, .int mfrom, .int mto, .int msort, .int misFault, .int mdeep, .int mcoded, .int mlines, .ref nl, .ref nc, .ref nF, .ref np, .ref ntr, .ref nb, .int mbestCost, .ref nso, .ref nsi, .ref nit, .ref nsh, .ref nsf, .ref nss, .ref nrc, .int mtraced, .int mdealer, .int mnumber, .int mwhose, .int msize, .int misParted])), (nw, .inl (G.2.1, 1662, .inl fnw)), (nm, .inl (G.2.1, 36, .inl u))]) A) ([.ref h0] : List Value).toArray s 0 0 A) (F0 m 234 ls []) := by
                    intro nG
                    induction nG with
                    | zero =>
                      intro kG vG H locs ls hkG hvG hPD hS hl
                      obtain ⟨hP, hD⟩ := hPD
                      obtain rfl : 6 = kG := by omega
                      have hl : lv_has ls 7 [(3, .int 6), (2, .int (nI kY)), (1, .int (nI kE)), (0, .ref h0)] := hl
                      refine lv_iload_n hx hb dX12_findClocks_234 rfl (lv_at hl 0 rfl) ?_
                      refine lv_bipush (v := 6) hx hb dX12_findClocks_235 (by decide) ?_
                      refine lv_icmp_ge (tgt := 275) hx hb dX12_findClocks_237 (by decide) (fun _ => ?_) (fun c9 => absurd (by decide) c9)
                      refine lv_iinc (v := nI (kY + 1)) (lv' := [(2, .int (nI (kY + 1))), (3, .int 6), (1, .int (nI kE)), (0, .ref h0)]) hx hb dX12_findClocks_275 hl (k := 1) rfl (nI_1 _) (by decide) rfl (fun ls hl => ?_)
                      refine lv_goto (tgt := 226) hx hb dX12_findClocks_278 (by decide) ?_
                      have hst9 : FWS (KST (shf fnw 104) (VSE fnw kq) (fnw 3).toInt k6) kE (kY + 1) 0 (MAT vE) (MAT vG) := hvG.row
                      exact ihY (kY + 1) vG _ _ _ (by omega) (by first | assumption | exact Or.inl rfl | exact Or.inr rfl | exact hvE.to) (And.intro hP hD) hS (lv_sub hl [0, 2, 3] rfl)
                    | succ nG ihG =>
                      intro kG vG H locs ls hkG hvG hPD hS hl
                      obtain ⟨hP, hD⟩ := hPD
                      refine lv_iload_n hx hb dX12_findClocks_234 rfl (lv_at hl 0 rfl) ?_
                      refine lv_bipush (v := 6) hx hb dX12_findClocks_235 (by decide) ?_
                      refine lv_icmp_ge (tgt := 275) hx hb dX12_findClocks_237 (by decide) (fun c9 => absurd c9 (nI_ge (a := kG) (b := 6) (by omega) (by omega))) (fun _ => ?_)
                      refine lv_aload_n hx hb dX12_findClocks_240 rfl (lv_at hl 3 rfl) ?_
                      refine lv_iload_n hx hb dX12_findClocks_241 rfl (lv_at hl 1 rfl) ?_
                      refine lv_iload_n hx hb dX12_findClocks_242 rfl (lv_at hl 0 rfl) ?_
                      refine lv_aload_n hx hb dX12_findClocks_243 rfl (lv_at hl 3 rfl) ?_
                      refine gf_X12_26 hC rfl hK hP 0 rfl rfl dX12_findClocks_244 ?_
                      refine lv_bipush (v := 6) hx hb dX12_findClocks_247 (by decide) ?_
                      refine lv_iload_n hx hb dX12_findClocks_249 rfl (lv_at hl 1 rfl) ?_
                      refine lv_imul hx hb dX12_findClocks_250 ?_
                      refine eqi (x1 := nI (6 * kY)) (nI_mul 6 kY) ?_
                      refine lv_iload_n hx hb dX12_findClocks_251 rfl (lv_at hl 2 rfl) ?_
                      refine lv_iadd hx hb dX12_findClocks_252 ?_
                      refine eqi (x1 := nI (6 * kY + kE)) (nI_add (6 * kY) kE) ?_
                      refine ald hC hK hP 2 rfl (vp_in_nI (by omega) (by omega)) (k := (6 * kY + kE)) (nI_clamp (by omega)) (v := vG (6 * kY + kE)) rfl dX12_findClocks_253 ?_
                      refine lv_aload_n hx hb dX12_findClocks_254 rfl (lv_at hl 3 rfl) ?_
                      refine gf_X12_26 hC rfl hK hP 0 rfl rfl dX12_findClocks_255 ?_
                      refine lv_bipush (v := 6) hx hb dX12_findClocks_258 (by decide) ?_
                      refine lv_iload_n hx hb dX12_findClocks_260 rfl (lv_at hl 2 rfl) ?_
                      refine lv_imul hx hb dX12_findClocks_261 ?_
                      refine eqi (x1 := nI (6 * kE)) (nI_mul 6 kE) ?_
                      refine lv_iload_n hx hb dX12_findClocks_262 rfl (lv_at hl 0 rfl) ?_
                      refine lv_iadd hx hb dX12_findClocks_263 ?_
                      refine eqi (x1 := nI (6 * kE + kG)) (nI_add (6 * kE) kG) ?_
                      refine ald hC hK hP 2 rfl (vp_in_nI (by omega) (by omega)) (k := (6 * kE + kG)) (nI_clamp (by omega)) (v := vG (6 * kE + kG)) rfl dX12_findClocks_264 ?_
                      refine lv_iadd hx hb dX12_findClocks_265 ?_
                      refine vV (wr := [(nw, .inl (G.2.1, 1662, .inl fnw))]) hC hK hl hP hD hS hA (m_atMostX l G h0 kY kG ((vG (6 * kY + kE)) + (vG (6 * kE + kG))) nw nk mhasKept nt mtaped nr mrowMany mroundOf mroundFrom 0 nm mfromHour mtoHour ns mfrom mto msort misFault mdeep mcoded mlines nl nc nF np ntr nb mbestCost nso nsi nit nsh nsf nss nrc mtraced mdealer mnumber mwhose msize misParted vG (by omega) (by omega)) si_X12_145 [0, 2] [1] rfl rfl (by decide) rfl (by decide) (by decide) rfl rfl rfl rfl rfl (Nat.le_of_ble_eq_true rfl) ⟨Nat.le_of_ble_eq_true rfl, Nat.le_of_ble_eq_true rfl⟩ ⟨Nat.le_of_ble_eq_true rfl, Nat.le_of_ble_eq_true rfl⟩ dX12_findClocks_266 (fun u10612 H locs hr10611 hP hD hS => ?_)
                      obtain ⟨gnm10613, rfl⟩ : ∃ z9, z9 = u10612 := ⟨_, rfl⟩
                      try dsimp only at hr10611
                      have hPD : va_PD G A [(nw, .inl (G.2.1, 1662, .inl fnw)), (h0, .inr (12, [.ref nw, .ref nk, .int mhasKept, .ref nt, .int mtaped, .ref nr, .int mrowMany, .int mroundOf, .int mroundFrom, .int 0, .ref nm, .int mfromHour, .int mtoHour, .ref ns, .int mfrom, .int mto, .int msort, .int misFault, .int mdeep, .int mcoded, .int mlines, .ref nl, .ref nc, .ref nF, .ref np, .ref ntr, .ref nb, .int mbestCost, .ref nso, .ref nsi, .ref nit, .ref nsh, .ref nsf, .ref nss, .ref nrc, .int mtraced, .int mdealer, .int mnumber, .int mwhose, .int msize, .int misParted])), (nm, .inl (G.2.1, 36, .inl gnm10613))] H := And.intro hP hD
                      obtain ⟨hP, hD⟩ := hPD
                      have w10614 := hr10611
                      refine lv_iinc (v := nI (kG + 1)) (lv' := [(3, .int (nI (kG + 1))), (2, .int (nI kY)), (1, .int (nI kE)), (0, .ref h0)]) hx hb dX12_findClocks_269 hl (k := 0) rfl (nI_1 _) (by decide) rfl (fun ls hl => ?_)
                      refine lv_goto (tgt := 234) hx hb dX12_findClocks_272 (by decide) ?_
                      obtain ⟨hP, hD⟩ := PD_sub (ws' := [(h0, .inr (12, [.ref nw, .ref nk, .int mhasKept, .ref nt, .int mtaped, .ref nr, .int mrowMany, .int mroundOf, .int mroundFrom, .int 0, .ref nm, .int mfromHour, .int mtoHour, .ref ns, .int mfrom, .int mto, .int msort, .int misFault, .int mdeep, .int mcoded, .int mlines, .ref nl, .ref nc, .ref nF, .ref np, .ref ntr, .ref nb, .int mbestCost, .ref nso, .ref nsi, .ref nit, .ref nsh, .ref nsf, .ref nss, .ref nrc, .int mtraced, .int mdealer, .int mnumber, .int mwhose, .int msize, .int misParted])), (nw, .inl (G.2.1, 1662, .inl fnw)), (nm, .inl (G.2.1, 36, .inl gnm10613))]) hP hD [1, 0, 2] rfl (by decide) rfl
                      have hst9 : FWS (KST (shf fnw 104) (VSE fnw kq) (fnw 3).toInt k6) kE kY (kG + 1) (MAT vE) (MAT gnm10613) := hvG.put (by omega) (by omega) (by omega) (fun x9 y9 hx9 hy9 => by rw [← hvG.sum (by omega) (by omega) (by omega)]; exact w10614 x9 y9 hx9 hy9)
                      exact ihG (kG + 1) gnm10613 _ _ _ (by omega) (by first | assumption | exact Or.inl rfl | exact Or.inr rfl) (And.intro hP hD) hS (lv_sub hl [0, 1, 2, 3] rfl)
                  exact keyG 6 0 vY _ _ _ (by omega) (by first | assumption | exact Or.inl rfl | exact Or.inr rfl) (And.intro hP hD) hS (lv_sub hl [0, 1, 2, 3] rfl)
              exact keyY 6 0 vE _ _ _ (by omega) (by first | assumption | exact Or.inl rfl | exact Or.inr rfl | exact hvE.to) (And.intro hP hD) hS (lv_sub hl [0, 1, 2] rfl)
          exact keyE 6 0 vC _ _ _ (by omega) (by first | assumption | exact Or.inl rfl | exact Or.inr rfl) (And.intro hP hD) hS (lv_sub hl [0, 1] rfl)
        | succ nC ihC =>
          intro kC vC H locs ls hkC hvC hPD hS hl
          obtain ⟨hP, hD⟩ := hPD
          refine lv_iload_n hx hb dX12_findClocks_65 rfl (lv_at hl 0 rfl) ?_
          refine lv_aload_n hx hb dX12_findClocks_66 rfl (lv_at hl 1 rfl) ?_
          refine gf_X12_9 hC rfl hK hP 0 rfl rfl dX12_findClocks_67 ?_
          refine lv_iconst (v := 5) hx hb dX12_findClocks_70 (by decide) ?_
          refine ald hC hK hP 1 rfl (vin (by decide +kernel)) (k := 5) (by decide +kernel) (v := nI kq) (ekq) dX12_findClocks_71 ?_
          refine lv_icmp_ge (tgt := 216) hx hb dX12_findClocks_72 (by decide) (fun c9 => absurd c9 (nI_ge (a := kC) (b := kq) (by omega) (by omega))) (fun _ => ?_)
          refine lv_aload_n hx hb dX12_findClocks_75 rfl (lv_at hl 1 rfl) ?_
          refine lv_iload_n hx hb dX12_findClocks_76 rfl (lv_at hl 0 rfl) ?_
          refine pV hC hK hl hP hD (m_isInX l G h0 kC nw nk mhasKept nt mtaped nr mrowMany mroundOf mroundFrom nm mfromHour mtoHour ns mfrom mto msort misFault mdeep mcoded mlines nl nc nF np ntr nb mbestCost nso nsi nit nsh nsf nss nrc mtraced mdealer mnumber mwhose msize misParted fnw (by omega)) si_X12_103 [0, 1] rfl rfl (by decide) rfl rfl rfl rfl rfl (Nat.le_of_ble_eq_true rfl) ⟨Nat.le_of_ble_eq_true rfl, Nat.le_of_ble_eq_true rfl⟩ ⟨by first | exact Nat.le_of_ble_eq_true rfl | exact Nat.zero_le _, by first | exact Nat.le_of_ble_eq_true rfl | exact Nat.zero_le _⟩ dX12_findClocks_77 (fun r10615 hr10615 => ?_)
          rcases hr10615 with ⟨rfl, a10616⟩ | ⟨rfl, a10616⟩
          · refine lv_if_eq (tgt := 91) hx hb dX12_findClocks_80 (by decide) (fun c9 => absurd c9 (by decide)) (fun _ => ?_)
            refine lv_aload_n hx hb dX12_findClocks_83 rfl (lv_at hl 1 rfl) ?_
            refine lv_iload_n hx hb dX12_findClocks_84 rfl (lv_at hl 0 rfl) ?_
            refine pV hC hK hl hP hD (m_stampsOf l G k6 h0 (nI kC) nw nk mhasKept nt mtaped nr mrowMany mroundOf mroundFrom 0 nm mfromHour mtoHour ns mfrom mto msort misFault mdeep mcoded mlines nl nc nF np ntr nb mbestCost nso nsi nit nsh nsf nss nrc mtraced mdealer mnumber mwhose msize misParted fnw (e6) (hk6)) si_X12_130 [0, 1] rfl rfl (by decide) rfl rfl rfl rfl rfl (Nat.le_of_ble_eq_true rfl) ⟨Nat.le_of_ble_eq_true rfl, Nat.le_of_ble_eq_true rfl⟩ ⟨by first | exact Nat.le_of_ble_eq_true rfl | exact Nat.zero_le _, by first | exact Nat.le_of_ble_eq_true rfl | exact Nat.zero_le _⟩ dX12_findClocks_85 (fun r10617 hr10617 => ?_)
            obtain rfl := hr10617
            refine lv_goto (tgt := 92) hx hb dX12_findClocks_88 (by decide) ?_
            refine lv_istore_n (lv' := [(2, .int (nI (cntS fnw (nI kC) k6))), (1, .int (nI kC)), (0, .ref h0)]) hx hb dX12_findClocks_92 rfl hl (by decide) rfl (fun ls hl => ?_)
            refine lv_iconst (v := 1) hx hb dX12_findClocks_93 (by decide) ?_
            refine lv_istore_n (lv' := [(3, .int 1), (2, .int (nI (cntS fnw (nI kC) k6))), (1, .int (nI kC)), (0, .ref h0)]) hx hb dX12_findClocks_94 rfl hl (by decide) rfl (fun ls hl => ?_)
            have hcl9 := cntS_le fnw (nI kC) k6
            rcases Nat.eq_zero_or_pos (cntS fnw (nI kC) k6) with hz9 | hz9
            · refine lv_iload_n hx hb dX12_findClocks_95 rfl (lv_at hl 0 rfl) ?_
              refine lv_iload_n hx hb dX12_findClocks_96 rfl (lv_at hl 1 rfl) ?_
              refine lv_icmp_ge (tgt := 210) hx hb dX12_findClocks_97 (by decide) (fun _ => ?_) (fun c9 => absurd ((by rw [hz9]; decide)) c9)
              refine lv_iinc (v := nI (kC + 1)) (lv' := [(1, .int (nI (kC + 1))), (3, .int 1), (2, .int (nI (cntS fnw (nI kC) k6))), (0, .ref h0)]) hx hb dX12_findClocks_210 hl (k := 2) rfl (nI_1 _) (by decide) rfl (fun ls hl => ?_)
              refine lv_goto (tgt := 65) hx hb dX12_findClocks_213 (by decide) ?_
              have hst9 : PHI (KST (shf fnw 104) (VSE fnw kq) (fnw 3).toInt k6) (KCV fnw (VSE fnw kq) (fnw 3).toInt k6 (kC + 1) 1) (MAT vC) := hvC.paper (fun _ => by omega)
              exact ihC (kC + 1) vC _ _ _ (by omega) (by first | assumption | exact Or.inl rfl | exact Or.inr rfl) (And.intro hP hD) hS (lv_sub hl [0, 3] rfl)
            · have keyD : ∀ (nD kD : Nat) (vD : Nat → Int32) (H : Heap) (locs : List Loc) (ls : Array Slot), kD + nD = (cntS fnw (nI kC) k6) → (1 ≤ kD) → (PHI (KST (shf fnw 104) (VSE fnw kq) (fnw 3).toInt k6) (KCV fnw (VSE fnw kq) (fnw 3).toInt k6 kC kD) (MAT vD)) → va_PD G A [(h0, .inr (12, [.ref nw, .ref nk, .int mhasKept, .ref nt, .int mtaped, .ref nr, .int mrowMany, .int mroundOf, .int mroundFrom, .int 0, .ref nm, .int mfromHour, .int mtoHour, .ref ns, .int mfrom, .int mto, .int msort, .int misFault, .int mdeep, .int mcoded, .int mlines, .ref nl, .ref nc, .ref nF, .ref np, .ref ntr, .ref nb, .int mbestCost, .ref nso, .ref nsi, .ref nit, .ref nsh, .ref nsf, .ref nss, .ref nrc, .int mtraced, .int mdealer, .int mnumber, .int mwhose, .int msize, .int misParted])), (nw, .inl (G.2.1, 1662, .inl fnw)), (nm, .inl (G.2.1, 36, .inl vD))] H → va_S A s.heap H locs → lv_has ls 7 [(3, .int (nI kD)), (2, .int (nI (cntS fnw (nI kC) k6))), (1, .int (nI kC)), (0, .ref h0)] → W p l e (RM 4 0 0) s m ([.ref h0] : List Value).toArray below meth c H locs 0 0 (MQ below (QI G (fun (r : Int32) (u : (Nat → Int32)) => ((r = 1 ∧ NOS (KST (shf fnw 104) (VSE fnw kq) (fnw 3).toInt k6)) ∨ (r = 0 ∧ CLB (KST (shf fnw 104) (VSE fnw kq) (fnw 3).toInt k6) (MAT u))) ∧ (MB u)) (fun u : (Nat → Int32) => [(h0, .inr (12, [.ref nw, .ref nk, .int mhasKept, .ref nt, .int mtaped, .ref nr, .int mrowMany, .int mroundOf, .int mroundFrom, .int 0, .ref nm, .int mfromHour, .int mtoHour, .ref ns, .int mfrom, .int mto, .int msort, .int misFault, .int mdeep, .int mcoded, .int mlines, .ref nl, .ref nc, .ref nF, .ref np, .ref ntr, .ref nb, .int mbestCost, .ref nso, .ref nsi, .ref nit, .ref nsh, .ref nsf, .ref nss, .ref nrc, .int mtraced, .int mdealer, .int mnumber, .int mwhose, .int msize, .int misParted])), (nw, .inl (G.2.1, 1662, .inl fnw)), (nm, .inl (G.2.1, 36, .inl u))]) A) ([.ref h0] : List Value).toArray s 0 0 A) (F0 m 95 ls []) := by
                intro nD
                induction nD with
                | zero =>
                  intro kD vD H locs ls hkD hk1 hvD hPD hS hl
                  obtain ⟨hP, hD⟩ := hPD
                  obtain rfl : (cntS fnw (nI kC) k6) = kD := by omega
                  have hl : lv_has ls 7 [(3, .int (nI (cntS fnw (nI kC) k6))), (2, .int (nI (cntS fnw (nI kC) k6))), (1, .int (nI kC)), (0, .ref h0)] := hl
                  refine lv_iload_n hx hb dX12_findClocks_95 rfl (lv_at hl 0 rfl) ?_
                  refine lv_iload_n hx hb dX12_findClocks_96 rfl (lv_at hl 1 rfl) ?_
                  refine lv_icmp_ge (tgt := 210) hx hb dX12_findClocks_97 (by decide) (fun _ => ?_) (fun c9 => absurd (Int32.le_refl _) c9)
                  refine lv_iinc (v := nI (kC + 1)) (lv' := [(1, .int (nI (kC + 1))), (3, .int (nI (cntS fnw (nI kC) k6))), (2, .int (nI (cntS fnw (nI kC) k6))), (0, .ref h0)]) hx hb dX12_findClocks_210 hl (k := 2) rfl (nI_1 _) (by decide) rfl (fun ls hl => ?_)
                  refine lv_goto (tgt := 65) hx hb dX12_findClocks_213 (by decide) ?_
                  have hst9 : PHI (KST (shf fnw 104) (VSE fnw kq) (fnw 3).toInt k6) (KCV fnw (VSE fnw kq) (fnw 3).toInt k6 (kC + 1) 1) (MAT vD) := hvD.paper (fun _ => Nat.le_refl _)
                  exact ihC (kC + 1) vD _ _ _ (by omega) (by first | assumption | exact Or.inl rfl | exact Or.inr rfl) (And.intro hP hD) hS (lv_sub hl [0, 3] rfl)
                | succ nD ihD =>
                  intro kD vD H locs ls hkD hk1 hvD hPD hS hl
                  obtain ⟨hP, hD⟩ := hPD
                  refine lv_iload_n hx hb dX12_findClocks_95 rfl (lv_at hl 0 rfl) ?_
                  refine lv_iload_n hx hb dX12_findClocks_96 rfl (lv_at hl 1 rfl) ?_
                  refine lv_icmp_ge (tgt := 210) hx hb dX12_findClocks_97 (by decide) (fun c9 => absurd c9 (nI_ge (a := kD) (b := (cntS fnw (nI kC) k6)) (by omega) (by omega))) (fun _ => ?_)
                  refine lv_bipush (v := 104) hx hb dX12_findClocks_100 (by decide) ?_
                  refine lv_iconst (v := 3) hx hb dX12_findClocks_102 (by decide) ?_
                  refine lv_aload_n hx hb dX12_findClocks_103 rfl (lv_at hl 3 rfl) ?_
                  refine lv_iload_n hx hb dX12_findClocks_104 rfl (lv_at hl 2 rfl) ?_
                  refine lv_iload_n hx hb dX12_findClocks_105 rfl (lv_at hl 0 rfl) ?_
                  refine lv_iconst (v := 1) hx hb dX12_findClocks_106 (by decide) ?_
                  refine lv_isub hx hb dX12_findClocks_107 ?_
                  refine eqi (x1 := nI (kD - 1)) (nI_sb (by omega)) ?_
                  refine pV hC hK hl hP hD (m_stampAtX l G k6 h0 kC (kD - 1) nw nk mhasKept nt mtaped nr mrowMany mroundOf mroundFrom 0 nm mfromHour mtoHour ns mfrom mto msort misFault mdeep mcoded mlines nl nc nF np ntr nb mbestCost nso nsi nit nsh nsf nss nrc mtraced mdealer mnumber mwhose msize misParted fnw (e6) (hk6) (by omega)) si_X12_142 [0, 1] rfl rfl (by decide) rfl rfl rfl rfl rfl (Nat.le_of_ble_eq_true rfl) ⟨Nat.le_of_ble_eq_true rfl, Nat.le_of_ble_eq_true rfl⟩ ⟨by first | exact Nat.le_of_ble_eq_true rfl | exact Nat.zero_le _, by first | exact Nat.le_of_ble_eq_true rfl | exact Nat.zero_le _⟩ dX12_findClocks_108 (fun r10619 hr10619 => ?_)
                  obtain ⟨s9_10620, hpx10620, rfl⟩ := hr10619
                  try dsimp only at hpx10620
                  refine lv_imul hx hb dX12_findClocks_111 ?_
                  refine eqi (x1 := nI (3 * s9_10620)) (nI_mul 3 s9_10620) ?_
                  refine lv_iadd hx hb dX12_findClocks_112 ?_
                  refine eqi (x1 := nI (104 + 3 * s9_10620)) (nI_add 104 (3 * s9_10620)) ?_
                  refine lv_istore (lv' := [(4, .int (nI (104 + 3 * s9_10620))), (3, .int (nI kD)), (2, .int (nI (cntS fnw (nI kC) k6))), (1, .int (nI kC)), (0, .ref h0)]) hx hb dX12_findClocks_113 hl (by decide) rfl (fun ls hl => ?_)
                  refine lv_bipush (v := 104) hx hb dX12_findClocks_115 (by decide) ?_
                  refine lv_iconst (v := 3) hx hb dX12_findClocks_117 (by decide) ?_
                  refine lv_aload_n hx hb dX12_findClocks_118 rfl (lv_at hl 4 rfl) ?_
                  refine lv_iload_n hx hb dX12_findClocks_119 rfl (lv_at hl 3 rfl) ?_
                  refine lv_iload_n hx hb dX12_findClocks_120 rfl (lv_at hl 1 rfl) ?_
                  refine pV hC hK hl hP hD (m_stampAtX l G k6 h0 kC kD nw nk mhasKept nt mtaped nr mrowMany mroundOf mroundFrom 0 nm mfromHour mtoHour ns mfrom mto msort misFault mdeep mcoded mlines nl nc nF np ntr nb mbestCost nso nsi nit nsh nsf nss nrc mtraced mdealer mnumber mwhose msize misParted fnw (e6) (hk6) (by omega)) si_X12_142 [0, 1] rfl rfl (by decide) rfl rfl rfl rfl rfl (Nat.le_of_ble_eq_true rfl) ⟨Nat.le_of_ble_eq_true rfl, Nat.le_of_ble_eq_true rfl⟩ ⟨by first | exact Nat.le_of_ble_eq_true rfl | exact Nat.zero_le _, by first | exact Nat.le_of_ble_eq_true rfl | exact Nat.zero_le _⟩ dX12_findClocks_121 (fun r10621 hr10621 => ?_)
                  obtain ⟨s9_10622, hpx10622, rfl⟩ := hr10621
                  try dsimp only at hpx10622
                  refine lv_imul hx hb dX12_findClocks_124 ?_
                  refine eqi (x1 := nI (3 * s9_10622)) (nI_mul 3 s9_10622) ?_
                  refine lv_iadd hx hb dX12_findClocks_125 ?_
                  refine eqi (x1 := nI (104 + 3 * s9_10622)) (nI_add 104 (3 * s9_10622)) ?_
                  refine lv_istore (lv' := [(5, .int (nI (104 + 3 * s9_10622))), (4, .int (nI (104 + 3 * s9_10620))), (3, .int (nI kD)), (2, .int (nI (cntS fnw (nI kC) k6))), (1, .int (nI kC)), (0, .ref h0)]) hx hb dX12_findClocks_126 hl (by decide) rfl (fun ls hl => ?_)
                  obtain ⟨cc10623, hcc10623, ecc10623⟩ := NI.nat hN (i := 104 + 3 * s9_10620 + 1) (B := 5) (bnd_st1 (s := s9_10620) rfl (by have h9 := hpx10620.1; omega)) (by decide)
                  have hh1 : 0 ≤ (fnw (104 + 3 * s9_10620 + 2)).toInt ∧ (fnw (104 + 3 * s9_10620 + 2)).toInt ≤ 999 := NI.hour hN (by have h9 := hpx10620.1; omega)
                  have hs1b := hpx10620.1
                  obtain ⟨cc10624, hcc10624, ecc10624⟩ := NI.nat hN (i := 104 + 3 * s9_10622 + 1) (B := 5) (bnd_st1 (s := s9_10622) rfl (by have h9 := hpx10622.1; omega)) (by decide)
                  have hh2 : 0 ≤ (fnw (104 + 3 * s9_10622 + 2)).toInt ∧ (fnw (104 + 3 * s9_10622 + 2)).toInt ≤ 999 := NI.hour hN (by have h9 := hpx10622.1; omega)
                  have hs2b := hpx10622.1
                  refine lv_aload_n hx hb dX12_findClocks_128 rfl (lv_at hl 5 rfl) ?_
                  refine gf_X12_9 hC rfl hK hP 0 rfl rfl dX12_findClocks_129 ?_
                  refine lv_iload hx hb dX12_findClocks_132 (lv_at hl 0 rfl) ?_
                  refine lv_iconst (v := 2) hx hb dX12_findClocks_134 (by decide) ?_
                  refine lv_iadd hx hb dX12_findClocks_135 ?_
                  refine eqi (x1 := nI (104 + 3 * s9_10622 + 2)) (nI_add (104 + 3 * s9_10622) 2) ?_
                  refine ald hC hK hP 1 rfl (vp_in_nI (by omega) (by omega)) (k := (104 + 3 * s9_10622 + 2)) (nI_clamp (by omega)) (v := fnw (104 + 3 * s9_10622 + 2)) rfl dX12_findClocks_136 ?_
                  refine lv_aload_n hx hb dX12_findClocks_137 rfl (lv_at hl 5 rfl) ?_
                  refine gf_X12_9 hC rfl hK hP 0 rfl rfl dX12_findClocks_138 ?_
                  refine lv_iload hx hb dX12_findClocks_141 (lv_at hl 1 rfl) ?_
                  refine lv_iconst (v := 2) hx hb dX12_findClocks_143 (by decide) ?_
                  refine lv_iadd hx hb dX12_findClocks_144 ?_
                  refine eqi (x1 := nI (104 + 3 * s9_10620 + 2)) (nI_add (104 + 3 * s9_10620) 2) ?_
                  refine ald hC hK hP 1 rfl (vp_in_nI (by omega) (by omega)) (k := (104 + 3 * s9_10620 + 2)) (nI_clamp (by omega)) (v := fnw (104 + 3 * s9_10620 + 2)) rfl dX12_findClocks_145 ?_
                  refine lv_isub hx hb dX12_findClocks_146 ?_
                  refine lv_istore (lv' := [(6, .int ((fnw (104 + 3 * s9_10622 + 2)) - (fnw (104 + 3 * s9_10620 + 2)))), (5, .int (nI (104 + 3 * s9_10622))), (4, .int (nI (104 + 3 * s9_10620))), (3, .int (nI kD)), (2, .int (nI (cntS fnw (nI kC) k6))), (1, .int (nI kC)), (0, .ref h0)]) hx hb dX12_findClocks_147 hl (by decide) rfl (fun ls hl => ?_)
                  refine lv_aload_n hx hb dX12_findClocks_149 rfl (lv_at hl 6 rfl) ?_
                  refine lv_aload_n hx hb dX12_findClocks_150 rfl (lv_at hl 6 rfl) ?_
                  refine gf_X12_9 hC rfl hK hP 0 rfl rfl dX12_findClocks_151 ?_
                  refine lv_iload hx hb dX12_findClocks_154 (lv_at hl 2 rfl) ?_
                  refine lv_iconst (v := 1) hx hb dX12_findClocks_156 (by decide) ?_
                  refine lv_iadd hx hb dX12_findClocks_157 ?_
                  refine eqi (x1 := nI (104 + 3 * s9_10620 + 1)) (nI_add (104 + 3 * s9_10620) 1) ?_
                  refine ald hC hK hP 1 rfl (vp_in_nI (by omega) (by omega)) (k := 104 + 3 * s9_10620 + 1) (nI_clamp (by omega)) (v := nI cc10623) (ecc10623) dX12_findClocks_158 ?_
                  refine lv_aload_n hx hb dX12_findClocks_159 rfl (lv_at hl 6 rfl) ?_
                  refine gf_X12_9 hC rfl hK hP 0 rfl rfl dX12_findClocks_160 ?_
                  refine lv_iload hx hb dX12_findClocks_163 (lv_at hl 1 rfl) ?_
                  refine lv_iconst (v := 1) hx hb dX12_findClocks_165 (by decide) ?_
                  refine lv_iadd hx hb dX12_findClocks_166 ?_
                  refine eqi (x1 := nI (104 + 3 * s9_10622 + 1)) (nI_add (104 + 3 * s9_10622) 1) ?_
                  refine ald hC hK hP 1 rfl (vp_in_nI (by omega) (by omega)) (k := 104 + 3 * s9_10622 + 1) (nI_clamp (by omega)) (v := nI cc10624) (ecc10624) dX12_findClocks_167 ?_
                  refine lv_iload hx hb dX12_findClocks_168 (lv_at hl 0 rfl) ?_
                  refine vV (wr := [(nw, .inl (G.2.1, 1662, .inl fnw))]) hC hK hl hP hD hS hA (m_atMostX l G h0 cc10623 cc10624 ((fnw (104 + 3 * s9_10622 + 2)) - (fnw (104 + 3 * s9_10620 + 2))) nw nk mhasKept nt mtaped nr mrowMany mroundOf mroundFrom 0 nm mfromHour mtoHour ns mfrom mto msort misFault mdeep mcoded mlines nl nc nF np ntr nb mbestCost nso nsi nit nsh nsf nss nrc mtraced mdealer mnumber mwhose msize misParted vD (by omega) (by omega)) si_X12_145 [0, 2] [1] rfl rfl (by decide) rfl (by decide) (by decide) rfl rfl rfl rfl rfl (Nat.le_of_ble_eq_true rfl) ⟨Nat.le_of_ble_eq_true rfl, Nat.le_of_ble_eq_true rfl⟩ ⟨Nat.le_of_ble_eq_true rfl, Nat.le_of_ble_eq_true rfl⟩ dX12_findClocks_170 (fun u10626 H locs hr10625 hP hD hS => ?_)
                  obtain ⟨gnm10627, rfl⟩ : ∃ z9, z9 = u10626 := ⟨_, rfl⟩
                  try dsimp only at hr10625
                  have hPD : va_PD G A [(nw, .inl (G.2.1, 1662, .inl fnw)), (h0, .inr (12, [.ref nw, .ref nk, .int mhasKept, .ref nt, .int mtaped, .ref nr, .int mrowMany, .int mroundOf, .int mroundFrom, .int 0, .ref nm, .int mfromHour, .int mtoHour, .ref ns, .int mfrom, .int mto, .int msort, .int misFault, .int mdeep, .int mcoded, .int mlines, .ref nl, .ref nc, .ref nF, .ref np, .ref ntr, .ref nb, .int mbestCost, .ref nso, .ref nsi, .ref nit, .ref nsh, .ref nsf, .ref nss, .ref nrc, .int mtraced, .int mdealer, .int mnumber, .int mwhose, .int msize, .int misParted])), (nm, .inl (G.2.1, 36, .inl gnm10627))] H := And.intro hP hD
                  obtain ⟨hP, hD⟩ := hPD
                  have w10628 := hr10625
                  refine lv_aload_n hx hb dX12_findClocks_173 rfl (lv_at hl 6 rfl) ?_
                  refine lv_aload_n hx hb dX12_findClocks_174 rfl (lv_at hl 6 rfl) ?_
                  refine gf_X12_9 hC rfl hK hP 1 rfl rfl dX12_findClocks_175 ?_
                  refine lv_iload hx hb dX12_findClocks_178 (lv_at hl 1 rfl) ?_
                  refine lv_iconst (v := 1) hx hb dX12_findClocks_180 (by decide) ?_
                  refine lv_iadd hx hb dX12_findClocks_181 ?_
                  refine eqi (x1 := nI (104 + 3 * s9_10622 + 1)) (nI_add (104 + 3 * s9_10622) 1) ?_
                  refine ald hC hK hP 0 rfl (vp_in_nI (by omega) (by omega)) (k := 104 + 3 * s9_10622 + 1) (nI_clamp (by omega)) (v := nI cc10624) (ecc10624) dX12_findClocks_182 ?_
                  refine lv_aload_n hx hb dX12_findClocks_183 rfl (lv_at hl 6 rfl) ?_
                  refine gf_X12_9 hC rfl hK hP 1 rfl rfl dX12_findClocks_184 ?_
                  refine lv_iload hx hb dX12_findClocks_187 (lv_at hl 2 rfl) ?_
                  refine lv_iconst (v := 1) hx hb dX12_findClocks_189 (by decide) ?_
                  refine lv_iadd hx hb dX12_findClocks_190 ?_
                  refine eqi (x1 := nI (104 + 3 * s9_10620 + 1)) (nI_add (104 + 3 * s9_10620) 1) ?_
                  refine ald hC hK hP 0 rfl (vp_in_nI (by omega) (by omega)) (k := 104 + 3 * s9_10620 + 1) (nI_clamp (by omega)) (v := nI cc10623) (ecc10623) dX12_findClocks_191 ?_
                  refine lv_aload_n hx hb dX12_findClocks_192 rfl (lv_at hl 6 rfl) ?_
                  refine gf_X12_9 hC rfl hK hP 1 rfl rfl dX12_findClocks_193 ?_
                  refine lv_iconst (v := 3) hx hb dX12_findClocks_196 (by decide) ?_
                  refine ald hC hK hP 0 rfl (vin (by decide +kernel)) (k := 3) (by decide +kernel) (v := fnw 3) (rfl) dX12_findClocks_197 ?_
                  refine lv_iload hx hb dX12_findClocks_198 (lv_at hl 0 rfl) ?_
                  refine lv_isub hx hb dX12_findClocks_200 ?_
                  refine vV (wr := [(nw, .inl (G.2.1, 1662, .inl fnw))]) hC hK hl hP hD hS hA (m_atMostX l G h0 cc10624 cc10623 ((fnw 3) - ((fnw (104 + 3 * s9_10622 + 2)) - (fnw (104 + 3 * s9_10620 + 2)))) nw nk mhasKept nt mtaped nr mrowMany mroundOf mroundFrom 0 nm mfromHour mtoHour ns mfrom mto msort misFault mdeep mcoded mlines nl nc nF np ntr nb mbestCost nso nsi nit nsh nsf nss nrc mtraced mdealer mnumber mwhose msize misParted gnm10627 (by omega) (by omega)) si_X12_145 [1, 2] [0] rfl rfl (by decide) rfl (by decide) (by decide) rfl rfl rfl rfl rfl (Nat.le_of_ble_eq_true rfl) ⟨Nat.le_of_ble_eq_true rfl, Nat.le_of_ble_eq_true rfl⟩ ⟨Nat.le_of_ble_eq_true rfl, Nat.le_of_ble_eq_true rfl⟩ dX12_findClocks_201 (fun u10630 H locs hr10629 hP hD hS => ?_)
                  obtain ⟨gnm10631, rfl⟩ : ∃ z9, z9 = u10630 := ⟨_, rfl⟩
                  try dsimp only at hr10629
                  have hPD : va_PD G A [(nw, .inl (G.2.1, 1662, .inl fnw)), (h0, .inr (12, [.ref nw, .ref nk, .int mhasKept, .ref nt, .int mtaped, .ref nr, .int mrowMany, .int mroundOf, .int mroundFrom, .int 0, .ref nm, .int mfromHour, .int mtoHour, .ref ns, .int mfrom, .int mto, .int msort, .int misFault, .int mdeep, .int mcoded, .int mlines, .ref nl, .ref nc, .ref nF, .ref np, .ref ntr, .ref nb, .int mbestCost, .ref nso, .ref nsi, .ref nit, .ref nsh, .ref nsf, .ref nss, .ref nrc, .int mtraced, .int mdealer, .int mnumber, .int mwhose, .int msize, .int misParted])), (nm, .inl (G.2.1, 36, .inl gnm10631))] H := And.intro hP hD
                  obtain ⟨hP, hD⟩ := hPD
                  have w10632 := hr10629
                  refine lv_iinc (v := nI (kD + 1)) (lv' := [(3, .int (nI (kD + 1))), (6, .int ((fnw (104 + 3 * s9_10622 + 2)) - (fnw (104 + 3 * s9_10620 + 2)))), (5, .int (nI (104 + 3 * s9_10622))), (4, .int (nI (104 + 3 * s9_10620))), (2, .int (nI (cntS fnw (nI kC) k6))), (1, .int (nI kC)), (0, .ref h0)]) hx hb dX12_findClocks_204 hl (k := 3) rfl (nI_1 _) (by decide) rfl (fun ls hl => ?_)
                  refine lv_goto (tgt := 95) hx hb dX12_findClocks_207 (by decide) ?_
                  obtain ⟨hP, hD⟩ := PD_sub (ws' := [(h0, .inr (12, [.ref nw, .ref nk, .int mhasKept, .ref nt, .int mtaped, .ref nr, .int mrowMany, .int mroundOf, .int mroundFrom, .int 0, .ref nm, .int mfromHour, .int mtoHour, .ref ns, .int mfrom, .int mto, .int msort, .int misFault, .int mdeep, .int mcoded, .int mlines, .ref nl, .ref nc, .ref nF, .ref np, .ref ntr, .ref nb, .int mbestCost, .ref nso, .ref nsi, .ref nit, .ref nsh, .ref nsf, .ref nss, .ref nrc, .int mtraced, .int mdealer, .int mnumber, .int mwhose, .int msize, .int misParted])), (nw, .inl (G.2.1, 1662, .inl fnw)), (nm, .inl (G.2.1, 36, .inl gnm10631))]) hP hD [1, 0, 2] rfl (by decide) rfl
                  have hst9 : PHI (KST (shf fnw 104) (VSE fnw kq) (fnw 3).toInt k6) (KCV fnw (VSE fnw kq) (fnw 3).toInt k6 kC (kD + 1)) (MAT gnm10631) := hvD.stepR hpx10620 hpx10622 hk1 (by omega) ⟨by omega, a10616⟩ ecc10623 ecc10624 (by omega) (by omega) hh1.1 hh1.2 hh2.1 hh2.2 hgp w10628 w10632
                  exact ihD (kD + 1) gnm10631 _ _ _ (by omega) (by first | assumption | exact Or.inl rfl | exact Or.inr rfl | omega) (by first | assumption | exact Or.inl rfl | exact Or.inr rfl | omega) (And.intro hP hD) hS (lv_sub hl [0, 4, 5, 6] rfl)
              exact keyD ((cntS fnw (nI kC) k6) - 1) 1 vC _ _ _ (by omega) (by first | assumption | exact Or.inl rfl | exact Or.inr rfl | omega) (by first | assumption | exact Or.inl rfl | exact Or.inr rfl | omega) (And.intro hP hD) hS (lv_sub hl [0, 1, 2, 3] rfl)
          · refine lv_if_eq (tgt := 91) hx hb dX12_findClocks_80 (by decide) (fun _ => ?_) (fun c9 => absurd (by decide) c9)
            refine lv_iconst (v := 0) hx hb dX12_findClocks_91 (by decide) ?_
            refine lv_istore_n (lv' := [(2, .int 0), (1, .int (nI kC)), (0, .ref h0)]) hx hb dX12_findClocks_92 rfl hl (by decide) rfl (fun ls hl => ?_)
            refine lv_iconst (v := 1) hx hb dX12_findClocks_93 (by decide) ?_
            refine lv_istore_n (lv' := [(3, .int 1), (2, .int 0), (1, .int (nI kC)), (0, .ref h0)]) hx hb dX12_findClocks_94 rfl hl (by decide) rfl (fun ls hl => ?_)
            refine lv_iload_n hx hb dX12_findClocks_95 rfl (lv_at hl 0 rfl) ?_
            refine lv_iload_n hx hb dX12_findClocks_96 rfl (lv_at hl 1 rfl) ?_
            refine lv_icmp_ge (tgt := 210) hx hb dX12_findClocks_97 (by decide) (fun _ => ?_) (fun c9 => absurd (by decide) c9)
            refine lv_iinc (v := nI (kC + 1)) (lv' := [(1, .int (nI (kC + 1))), (3, .int 1), (2, .int 0), (0, .ref h0)]) hx hb dX12_findClocks_210 hl (k := 2) rfl (nI_1 _) (by decide) rfl (fun ls hl => ?_)
            refine lv_goto (tgt := 65) hx hb dX12_findClocks_213 (by decide) ?_
            have hst9 : PHI (KST (shf fnw 104) (VSE fnw kq) (fnw 3).toInt k6) (KCV fnw (VSE fnw kq) (fnw 3).toInt k6 (kC + 1) 1) (MAT vC) := hvC.paper (fun h9 => absurd h9.2 a10616)
            exact ihC (kC + 1) vC _ _ _ (by omega) (by first | assumption | exact Or.inl rfl | exact Or.inr rfl) (And.intro hP hD) hS (lv_sub hl [0, 3] rfl)
      exact keyC kq 0 vA _ _ _ (by omega) (by first | assumption | exact Or.inl rfl | exact Or.inr rfl) (And.intro hP hD) hS (lv_sub hl [0, 1] rfl)
    | succ nA ihA =>
      intro kA vA H locs ls hkA hvA hPD hS hl
      obtain ⟨hP, hD⟩ := hPD
      refine lv_iload_n hx hb dX12_findClocks_2 rfl (lv_at hl 0 rfl) ?_
      refine lv_bipush (v := 6) hx hb dX12_findClocks_3 (by decide) ?_
      refine lv_icmp_ge (tgt := 63) hx hb dX12_findClocks_5 (by decide) (fun c9 => absurd c9 (nI_ge (a := kA) (b := 6) (by omega) (by omega))) (fun _ => ?_)
      refine lv_iconst (v := 0) hx hb dX12_findClocks_8 (by decide) ?_
      refine lv_istore_n (lv' := [(2, .int 0), (1, .int (nI kA)), (0, .ref h0)]) hx hb dX12_findClocks_9 rfl hl (by decide) rfl (fun ls hl => ?_)
      have keyB : ∀ (nB kB : Nat) (vB : Nat → Int32) (H : Heap) (locs : List Loc) (ls : Array Slot), kB + nB = 6 → (FRP kA kB (MAT vB)) → va_PD G A [(h0, .inr (12, [.ref nw, .ref nk, .int mhasKept, .ref nt, .int mtaped, .ref nr, .int mrowMany, .int mroundOf, .int mroundFrom, .int 0, .ref nm, .int mfromHour, .int mtoHour, .ref ns, .int mfrom, .int mto, .int msort, .int misFault, .int mdeep, .int mcoded, .int mlines, .ref nl, .ref nc, .ref nF, .ref np, .ref ntr, .ref nb, .int mbestCost, .ref nso, .ref nsi, .ref nit, .ref nsh, .ref nsf, .ref nss, .ref nrc, .int mtraced, .int mdealer, .int mnumber, .int mwhose, .int msize, .int misParted])), (nw, .inl (G.2.1, 1662, .inl fnw)), (nm, .inl (G.2.1, 36, .inl vB))] H → va_S A s.heap H locs → lv_has ls 7 [(2, .int (nI kB)), (1, .int (nI kA)), (0, .ref h0)] → W p l e (RM 4 0 0) s m ([.ref h0] : List Value).toArray below meth c H locs 0 0 (MQ below (QI G (fun (r : Int32) (u : (Nat → Int32)) => ((r = 1 ∧ NOS (KST (shf fnw 104) (VSE fnw kq) (fnw 3).toInt k6)) ∨ (r = 0 ∧ CLB (KST (shf fnw 104) (VSE fnw kq) (fnw 3).toInt k6) (MAT u))) ∧ (MB u)) (fun u : (Nat → Int32) => [(h0, .inr (12, [.ref nw, .ref nk, .int mhasKept, .ref nt, .int mtaped, .ref nr, .int mrowMany, .int mroundOf, .int mroundFrom, .int 0, .ref nm, .int mfromHour, .int mtoHour, .ref ns, .int mfrom, .int mto, .int msort, .int misFault, .int mdeep, .int mcoded, .int mlines, .ref nl, .ref nc, .ref nF, .ref np, .ref ntr, .ref nb, .int mbestCost, .ref nso, .ref nsi, .ref nit, .ref nsh, .ref nsf, .ref nss, .ref nrc, .int mtraced, .int mdealer, .int mnumber, .int mwhose, .int msize, .int misParted])), (nw, .inl (G.2.1, 1662, .inl fnw)), (nm, .inl (G.2.1, 36, .inl u))]) A) ([.ref h0] : List Value).toArray s 0 0 A) (F0 m 10 ls []) := by
        intro nB
        induction nB with
        | zero =>
          intro kB vB H locs ls hkB hvB hPD hS hl
          obtain ⟨hP, hD⟩ := hPD
          obtain rfl : 6 = kB := by omega
          have hl : lv_has ls 7 [(2, .int 6), (1, .int (nI kA)), (0, .ref h0)] := hl
          refine lv_iload_n hx hb dX12_findClocks_10 rfl (lv_at hl 0 rfl) ?_
          refine lv_bipush (v := 6) hx hb dX12_findClocks_11 (by decide) ?_
          refine lv_icmp_ge (tgt := 57) hx hb dX12_findClocks_13 (by decide) (fun _ => ?_) (fun c9 => absurd (by decide) c9)
          refine lv_iinc (v := nI (kA + 1)) (lv' := [(1, .int (nI (kA + 1))), (2, .int 6), (0, .ref h0)]) hx hb dX12_findClocks_57 hl (k := 1) rfl (nI_1 _) (by decide) rfl (fun ls hl => ?_)
          refine lv_goto (tgt := 2) hx hb dX12_findClocks_60 (by decide) ?_
          have hst8 : FRP (kA + 1) 0 (MAT vB) := FRP.row hvB
          exact ihA (kA + 1) vB _ _ _ (by omega) (by first | assumption | exact Or.inl rfl | exact Or.inr rfl | exact FRP.zero) (And.intro hP hD) hS (lv_sub hl [0, 2] rfl)
        | succ nB ihB =>
          intro kB vB H locs ls hkB hvB hPD hS hl
          obtain ⟨hP, hD⟩ := hPD
          refine lv_iload_n hx hb dX12_findClocks_10 rfl (lv_at hl 0 rfl) ?_
          refine lv_bipush (v := 6) hx hb dX12_findClocks_11 (by decide) ?_
          refine lv_icmp_ge (tgt := 57) hx hb dX12_findClocks_13 (by decide) (fun c9 => absurd c9 (nI_ge (a := kB) (b := 6) (by omega) (by omega))) (fun _ => ?_)
          refine lv_aload_n hx hb dX12_findClocks_16 rfl (lv_at hl 2 rfl) ?_
          refine gf_X12_26 hC rfl hK hP 0 rfl rfl dX12_findClocks_17 ?_
          refine lv_bipush (v := 6) hx hb dX12_findClocks_20 (by decide) ?_
          refine lv_iload_n hx hb dX12_findClocks_22 rfl (lv_at hl 1 rfl) ?_
          refine lv_imul hx hb dX12_findClocks_23 ?_
          refine eqi (x1 := nI (6 * kA)) (nI_mul 6 kA) ?_
          refine lv_iload_n hx hb dX12_findClocks_24 rfl (lv_at hl 0 rfl) ?_
          refine lv_iadd hx hb dX12_findClocks_25 ?_
          refine eqi (x1 := nI (6 * kA + kB)) (nI_add (6 * kA) kB) ?_
          refine lv_iload_n hx hb dX12_findClocks_26 rfl (lv_at hl 1 rfl) ?_
          refine lv_iload_n hx hb dX12_findClocks_27 rfl (lv_at hl 0 rfl) ?_
          refine lv_icmp_ne (tgt := 35) hx hb dX12_findClocks_28 (by decide) (fun c_28_10633 => ?_) (fun c_28_10633 => ?_)
          · refine lv_iload_n hx hb dX12_findClocks_35 rfl (lv_at hl 1 rfl) ?_
            refine lv_if_eq (tgt := 43) hx hb dX12_findClocks_36 (by decide) (fun c_36_10634 => ?_) (fun c_36_10634 => ?_)
            · refine lv_bipush (v := 60) hx hb dX12_findClocks_43 (by decide) ?_
              refine lv_goto (tgt := 50) hx hb dX12_findClocks_45 (by decide) ?_
              refine ast hC hK hP hD hS 2 (ws' := [(h0, .inr (12, [.ref nw, .ref nk, .int mhasKept, .ref nt, .int mtaped, .ref nr, .int mrowMany, .int mroundOf, .int mroundFrom, .int 0, .ref nm, .int mfromHour, .int mtoHour, .ref ns, .int mfrom, .int mto, .int msort, .int misFault, .int mdeep, .int mcoded, .int mlines, .ref nl, .ref nc, .ref nF, .ref np, .ref ntr, .ref nb, .int mbestCost, .ref nso, .ref nsi, .ref nit, .ref nsh, .ref nsf, .ref nss, .ref nrc, .int mtraced, .int mdealer, .int mnumber, .int mwhose, .int msize, .int misParted])), (nw, .inl (G.2.1, 1662, .inl fnw)), (nm, .inl (G.2.1, 36, .inl (upd vB (6 * kA + kB) 60)))]) rfl (vp_in_nI (by omega) (by omega)) (k := (6 * kA + kB)) (nI_clamp (by omega)) (rfl) dX12_findClocks_50 (fun H locs hP hD hS => ?_)
              refine lv_iinc (v := nI (kB + 1)) (lv' := [(2, .int (nI (kB + 1))), (1, .int (nI kA)), (0, .ref h0)]) hx hb dX12_findClocks_51 hl (k := 0) rfl (nI_1 _) (by decide) rfl (fun ls hl => ?_)
              refine lv_goto (tgt := 10) hx hb dX12_findClocks_54 (by decide) ?_
              have n1 : kA = 0 := nI_z9 (by omega) c_36_10634
              have n3 : ¬ kA = kB := fun h9 => c_28_10633 (congrArg nI h9)
              have hst9 : FRP kA (kB + 1) (MAT (upd vB (6 * kA + kB) 60)) := FRP.set6 hvB (by omega) (by have e0 : (0 : Int32).toInt = 0 := (by decide); have e60 : (60 : Int32).toInt = 60 := (by decide); have e120 : (120 : Int32).toInt = 120 := (by decide); unfold BASW; split <;> (first | omega | (split <;> omega)))
              exact ihB (kB + 1) (upd vB (6 * kA + kB) 60) _ _ _ (by omega) (by first | assumption | exact Or.inl rfl | exact Or.inr rfl) (And.intro hP hD) hS (lv_sub hl [0, 1, 2] rfl)
            · refine lv_iload_n hx hb dX12_findClocks_39 rfl (lv_at hl 0 rfl) ?_
              refine lv_if_ne (tgt := 48) hx hb dX12_findClocks_40 (by decide) (fun c_40_10635 => ?_) (fun c_40_10635 => ?_)
              · refine lv_bipush (v := 120) hx hb dX12_findClocks_48 (by decide) ?_
                refine ast hC hK hP hD hS 2 (ws' := [(h0, .inr (12, [.ref nw, .ref nk, .int mhasKept, .ref nt, .int mtaped, .ref nr, .int mrowMany, .int mroundOf, .int mroundFrom, .int 0, .ref nm, .int mfromHour, .int mtoHour, .ref ns, .int mfrom, .int mto, .int msort, .int misFault, .int mdeep, .int mcoded, .int mlines, .ref nl, .ref nc, .ref nF, .ref np, .ref ntr, .ref nb, .int mbestCost, .ref nso, .ref nsi, .ref nit, .ref nsh, .ref nsf, .ref nss, .ref nrc, .int mtraced, .int mdealer, .int mnumber, .int mwhose, .int msize, .int misParted])), (nw, .inl (G.2.1, 1662, .inl fnw)), (nm, .inl (G.2.1, 36, .inl (upd vB (6 * kA + kB) 120)))]) rfl (vp_in_nI (by omega) (by omega)) (k := (6 * kA + kB)) (nI_clamp (by omega)) (rfl) dX12_findClocks_50 (fun H locs hP hD hS => ?_)
                refine lv_iinc (v := nI (kB + 1)) (lv' := [(2, .int (nI (kB + 1))), (1, .int (nI kA)), (0, .ref h0)]) hx hb dX12_findClocks_51 hl (k := 0) rfl (nI_1 _) (by decide) rfl (fun ls hl => ?_)
                refine lv_goto (tgt := 10) hx hb dX12_findClocks_54 (by decide) ?_
                have n1 : ¬ kA = 0 := fun h9 => c_36_10634 (congrArg nI h9)
                have n2 : ¬ kB = 0 := fun h9 => c_40_10635 (congrArg nI h9)
                have n3 : ¬ kA = kB := fun h9 => c_28_10633 (congrArg nI h9)
                have hst9 : FRP kA (kB + 1) (MAT (upd vB (6 * kA + kB) 120)) := FRP.set6 hvB (by omega) (by have e0 : (0 : Int32).toInt = 0 := (by decide); have e60 : (60 : Int32).toInt = 60 := (by decide); have e120 : (120 : Int32).toInt = 120 := (by decide); unfold BASW; split <;> (first | omega | (split <;> omega)))
                exact ihB (kB + 1) (upd vB (6 * kA + kB) 120) _ _ _ (by omega) (by first | assumption | exact Or.inl rfl | exact Or.inr rfl) (And.intro hP hD) hS (lv_sub hl [0, 1, 2] rfl)
              · refine lv_bipush (v := 60) hx hb dX12_findClocks_43 (by decide) ?_
                refine lv_goto (tgt := 50) hx hb dX12_findClocks_45 (by decide) ?_
                refine ast hC hK hP hD hS 2 (ws' := [(h0, .inr (12, [.ref nw, .ref nk, .int mhasKept, .ref nt, .int mtaped, .ref nr, .int mrowMany, .int mroundOf, .int mroundFrom, .int 0, .ref nm, .int mfromHour, .int mtoHour, .ref ns, .int mfrom, .int mto, .int msort, .int misFault, .int mdeep, .int mcoded, .int mlines, .ref nl, .ref nc, .ref nF, .ref np, .ref ntr, .ref nb, .int mbestCost, .ref nso, .ref nsi, .ref nit, .ref nsh, .ref nsf, .ref nss, .ref nrc, .int mtraced, .int mdealer, .int mnumber, .int mwhose, .int msize, .int misParted])), (nw, .inl (G.2.1, 1662, .inl fnw)), (nm, .inl (G.2.1, 36, .inl (upd vB (6 * kA + kB) 60)))]) rfl (vp_in_nI (by omega) (by omega)) (k := (6 * kA + kB)) (nI_clamp (by omega)) (rfl) dX12_findClocks_50 (fun H locs hP hD hS => ?_)
                refine lv_iinc (v := nI (kB + 1)) (lv' := [(2, .int (nI (kB + 1))), (1, .int (nI kA)), (0, .ref h0)]) hx hb dX12_findClocks_51 hl (k := 0) rfl (nI_1 _) (by decide) rfl (fun ls hl => ?_)
                refine lv_goto (tgt := 10) hx hb dX12_findClocks_54 (by decide) ?_
                have n1 : ¬ kA = 0 := fun h9 => c_36_10634 (congrArg nI h9)
                have n2 : kB = 0 := nI_z9 (by omega) c_40_10635
                have n3 : ¬ kA = kB := fun h9 => c_28_10633 (congrArg nI h9)
                have hst9 : FRP kA (kB + 1) (MAT (upd vB (6 * kA + kB) 60)) := FRP.set6 hvB (by omega) (by have e0 : (0 : Int32).toInt = 0 := (by decide); have e60 : (60 : Int32).toInt = 60 := (by decide); have e120 : (120 : Int32).toInt = 120 := (by decide); unfold BASW; split <;> (first | omega | (split <;> omega)))
                exact ihB (kB + 1) (upd vB (6 * kA + kB) 60) _ _ _ (by omega) (by first | assumption | exact Or.inl rfl | exact Or.inr rfl) (And.intro hP hD) hS (lv_sub hl [0, 1, 2] rfl)
          · refine lv_iconst (v := 0) hx hb dX12_findClocks_31 (by decide) ?_
            refine lv_goto (tgt := 50) hx hb dX12_findClocks_32 (by decide) ?_
            refine ast hC hK hP hD hS 2 (ws' := [(h0, .inr (12, [.ref nw, .ref nk, .int mhasKept, .ref nt, .int mtaped, .ref nr, .int mrowMany, .int mroundOf, .int mroundFrom, .int 0, .ref nm, .int mfromHour, .int mtoHour, .ref ns, .int mfrom, .int mto, .int msort, .int misFault, .int mdeep, .int mcoded, .int mlines, .ref nl, .ref nc, .ref nF, .ref np, .ref ntr, .ref nb, .int mbestCost, .ref nso, .ref nsi, .ref nit, .ref nsh, .ref nsf, .ref nss, .ref nrc, .int mtraced, .int mdealer, .int mnumber, .int mwhose, .int msize, .int misParted])), (nw, .inl (G.2.1, 1662, .inl fnw)), (nm, .inl (G.2.1, 36, .inl (upd vB (6 * kA + kB) 0)))]) rfl (vp_in_nI (by omega) (by omega)) (k := (6 * kA + kB)) (nI_clamp (by omega)) (rfl) dX12_findClocks_50 (fun H locs hP hD hS => ?_)
            refine lv_iinc (v := nI (kB + 1)) (lv' := [(2, .int (nI (kB + 1))), (1, .int (nI kA)), (0, .ref h0)]) hx hb dX12_findClocks_51 hl (k := 0) rfl (nI_1 _) (by decide) rfl (fun ls hl => ?_)
            refine lv_goto (tgt := 10) hx hb dX12_findClocks_54 (by decide) ?_
            have n3 : kA = kB := (nI_eq (by omega) (by omega)).mp c_28_10633
            have hst9 : FRP kA (kB + 1) (MAT (upd vB (6 * kA + kB) 0)) := FRP.set6 hvB (by omega) (by have e0 : (0 : Int32).toInt = 0 := (by decide); have e60 : (60 : Int32).toInt = 60 := (by decide); have e120 : (120 : Int32).toInt = 120 := (by decide); unfold BASW; split <;> (first | omega | (split <;> omega)))
            exact ihB (kB + 1) (upd vB (6 * kA + kB) 0) _ _ _ (by omega) (by first | assumption | exact Or.inl rfl | exact Or.inr rfl) (And.intro hP hD) hS (lv_sub hl [0, 1, 2] rfl)
      exact keyB 6 0 vA _ _ _ (by omega) (by first | assumption | exact Or.inl rfl | exact Or.inr rfl) (And.intro hP hD) hS (lv_sub hl [0, 1, 2] rfl)
  exact keyA 6 0 fnm _ _ _ (by omega) (by first | assumption | exact Or.inl rfl | exact Or.inr rfl | exact FRP.zero) (And.intro hP hD) hS (lv_sub hl [0, 1] rfl)
set_option maxHeartbeats 4000000 in
set_option maxRecDepth 100000 in
theorem m_hoursC (l : Launch) (G : GG) (k6 : Nat) (h0 : Nat) (jp : Nat) (la : Int32) (nw : Nat) (nk : Nat) (mhasKept : Int32) (nt : Nat) (mtaped : Int32) (nr : Nat) (mrowMany : Int32) (mroundOf : Int32) (mroundFrom : Int32) (mouts : Int32) (nm : Nat) (mfromHour : Int32) (mtoHour : Int32) (ns : Nat) (mfrom : Int32) (mto : Int32) (msort : Int32) (misFault : Int32) (mdeep : Int32) (mcoded : Int32) (mlines : Int32) (nl : Nat) (nc : Nat) (nF : Nat) (np : Nat) (ntr : Nat) (nb : Nat) (mbestCost : Int32) (nso : Nat) (nsi : Nat) (nit : Nat) (nsh : Nat) (nsf : Nat) (nss : Nat) (nrc : Nat) (mtraced : Int32) (mdealer : Int32) (mnumber : Int32) (mwhose : Int32) (msize : Int32) (misParted : Int32) (fnw : Nat → Int32) (e6 : fnw 6 = nI k6) (hk6 : k6 ≤ 24) (hjp : jp < 12) : MP l G yX12_hours cX12_hours 6 (some .boolean) 3 [.ref h0, .int (nI jp), .int 1, .int la] [(h0, .inr (12, [.ref nw, .ref nk, .int mhasKept, .ref nt, .int mtaped, .ref nr, .int mrowMany, .int mroundOf, .int mroundFrom, .int mouts, .ref nm, .int mfromHour, .int mtoHour, .ref ns, .int mfrom, .int mto, .int msort, .int misFault, .int mdeep, .int mcoded, .int mlines, .ref nl, .ref nc, .ref nF, .ref np, .ref ntr, .ref nb, .int mbestCost, .ref nso, .ref nsi, .ref nit, .ref nsh, .ref nsf, .ref nss, .ref nrc, .int mtraced, .int mdealer, .int mnumber, .int mwhose, .int msize, .int misParted])), (nw, .inl (G.2.1, 1662, .inl fnw))] (fun r : Int32 => r = 0) := by
  refine MP.start (by decide +kernel) (Nat.le_of_ble_eq_true rfl) ?_
  intro p e s m below meth c ls hC hK hP hD hl
  have hl : lv_has ls 6 [(0, .ref h0), (1, .int (nI jp)), (2, .int 1), (3, .int la)] := hl
  obtain ⟨hx, hb, hr, hml, hB, hown, hlocks, hnm⟩ := id hC
  refine lv_aload_n hx hb dX12_hours_0 rfl (lv_at hl 0 rfl) ?_
  refine lv_iload_n hx hb dX12_hours_1 rfl (lv_at hl 1 rfl) ?_
  refine pV hC hK hl hP hD (m_stampsOf l G k6 h0 (nI jp) nw nk mhasKept nt mtaped nr mrowMany mroundOf mroundFrom mouts nm mfromHour mtoHour ns mfrom mto msort misFault mdeep mcoded mlines nl nc nF np ntr nb mbestCost nso nsi nit nsh nsf nss nrc mtraced mdealer mnumber mwhose msize misParted fnw (e6) (hk6)) si_X12_130 [0, 1] rfl rfl (by decide) rfl rfl rfl rfl rfl (Nat.le_of_ble_eq_true rfl) ⟨Nat.le_of_ble_eq_true rfl, Nat.le_of_ble_eq_true rfl⟩ ⟨by first | exact Nat.le_of_ble_eq_true rfl | exact Nat.zero_le _, by first | exact Nat.le_of_ble_eq_true rfl | exact Nat.zero_le _⟩ dX12_hours_2 (fun r10636 hr10636 => ?_)
  obtain rfl := hr10636
  refine lv_istore (lv' := [(4, .int (nI (cntS fnw (nI jp) k6))), (0, .ref h0), (1, .int (nI jp)), (2, .int 1), (3, .int la)]) hx hb dX12_hours_5 hl (by decide) rfl (fun ls hl => ?_)
  refine lv_iload_n hx hb dX12_hours_7 rfl (lv_at hl 3 rfl) ?_
  refine lv_if_ne (tgt := 24) hx hb dX12_hours_8 (by decide) (fun _ => ?_) (fun c9 => absurd c9 (by decide))
  refine lv_iconst (v := 0) hx hb dX12_hours_24 (by decide) ?_
  exact RP (v := 0) hC (rfl) (by decide +kernel) dX12_hours_25
set_option maxHeartbeats 4000000 in
set_option maxRecDepth 100000 in
theorem m_hoursL (l : Launch) (G : GG) (kq : Nat) (k6 : Nat) (h0 : Nat) (jp : Nat) (nw : Nat) (nk : Nat) (mhasKept : Int32) (nt : Nat) (mtaped : Int32) (nr : Nat) (mrowMany : Int32) (mroundOf : Int32) (mroundFrom : Int32) (nm : Nat) (mfromHour : Int32) (mtoHour : Int32) (ns : Nat) (mfrom : Int32) (mto : Int32) (msort : Int32) (misFault : Int32) (mdeep : Int32) (mcoded : Int32) (mlines : Int32) (nl : Nat) (nc : Nat) (nF : Nat) (np : Nat) (ntr : Nat) (nb : Nat) (mbestCost : Int32) (nso : Nat) (nsi : Nat) (nit : Nat) (nsh : Nat) (nsf : Nat) (nss : Nat) (nrc : Nat) (mtraced : Int32) (mdealer : Int32) (mnumber : Int32) (mwhose : Int32) (msize : Int32) (misParted : Int32) (fnw : Nat → Int32) (fnm : Nat → Int32) (hN : NI fnw) (e6 : fnw 6 = nI k6) (hk6 : k6 ≤ 24) (ekq : fnw 5 = nI kq) (hjp : jp < kq) (hkq : kq ≤ 12) : MI l G yX12_hours cX12_hours 6 (some .boolean) 3 0 0 [.ref h0, .int (nI jp), .int 0, .int 1] [(h0, .inr (12, [.ref nw, .ref nk, .int mhasKept, .ref nt, .int mtaped, .ref nr, .int mrowMany, .int mroundOf, .int mroundFrom, .int 0, .ref nm, .int mfromHour, .int mtoHour, .ref ns, .int mfrom, .int mto, .int msort, .int misFault, .int mdeep, .int mcoded, .int mlines, .ref nl, .ref nc, .ref nF, .ref np, .ref ntr, .ref nb, .int mbestCost, .ref nso, .ref nsi, .ref nit, .ref nsh, .ref nsf, .ref nss, .ref nrc, .int mtraced, .int mdealer, .int mnumber, .int mwhose, .int msize, .int misParted])), (nw, .inl (G.2.1, 1662, .inl fnw)), (nm, .inl (G.2.1, 36, .inl fnm))] (fun (r : Int32) (u : Int32 × Int32) => ((r = 1 ∧ ∃ s9, LST (shf fnw 104) k6 jp s9 ∧ VSE fnw kq jp ∧ u.1 = TR0 (shf fnw 104) fnm s9 ∧ u.2 = TR1 (shf fnw 104) fnm s9) ∨ (r = 0 ∧ (¬ VSE fnw kq jp ∨ ∀ s9, s9 < k6 → ¬ shf fnw 104 (s9 * 3 + 0) = nI jp)))) (fun u : Int32 × Int32 => [(h0, .inr (12, [.ref nw, .ref nk, .int mhasKept, .ref nt, .int mtaped, .ref nr, .int mrowMany, .int mroundOf, .int mroundFrom, .int 0, .ref nm, .int u.1, .int u.2, .ref ns, .int mfrom, .int mto, .int msort, .int misFault, .int mdeep, .int mcoded, .int mlines, .ref nl, .ref nc, .ref nF, .ref np, .ref ntr, .ref nb, .int mbestCost, .ref nso, .ref nsi, .ref nit, .ref nsh, .ref nsf, .ref nss, .ref nrc, .int mtraced, .int mdealer, .int mnumber, .int mwhose, .int msize, .int misParted])), (nw, .inl (G.2.1, 1662, .inl fnw)), (nm, .inl (G.2.1, 36, .inl fnm))]) := by
  refine MI.start (by decide +kernel) (Nat.le_of_ble_eq_true rfl) ?_
  intro p e s m below meth c A ls hC hK hP hD hS hA hl
  have hl : lv_has ls 6 [(0, .ref h0), (1, .int (nI jp)), (2, .int 0), (3, .int 1)] := hl
  obtain ⟨hx, hb, hr, hml, hB, hown, hlocks, hnm⟩ := id hC
  refine lv_aload_n hx hb dX12_hours_0 rfl (lv_at hl 0 rfl) ?_
  refine lv_iload_n hx hb dX12_hours_1 rfl (lv_at hl 1 rfl) ?_
  refine pV hC hK hl hP hD (m_stampsOf l G k6 h0 (nI jp) nw nk mhasKept nt mtaped nr mrowMany mroundOf mroundFrom 0 nm mfromHour mtoHour ns mfrom mto msort misFault mdeep mcoded mlines nl nc nF np ntr nb mbestCost nso nsi nit nsh nsf nss nrc mtraced mdealer mnumber mwhose msize misParted fnw (e6) (hk6)) si_X12_130 [0, 1] rfl rfl (by decide) rfl rfl rfl rfl rfl (Nat.le_of_ble_eq_true rfl) ⟨Nat.le_of_ble_eq_true rfl, Nat.le_of_ble_eq_true rfl⟩ ⟨by first | exact Nat.le_of_ble_eq_true rfl | exact Nat.zero_le _, by first | exact Nat.le_of_ble_eq_true rfl | exact Nat.zero_le _⟩ dX12_hours_2 (fun r10638 hr10638 => ?_)
  obtain rfl := hr10638
  refine lv_istore (lv' := [(4, .int (nI (cntS fnw (nI jp) k6))), (0, .ref h0), (1, .int (nI jp)), (2, .int 0), (3, .int 1)]) hx hb dX12_hours_5 hl (by decide) rfl (fun ls hl => ?_)
  refine lv_iload_n hx hb dX12_hours_7 rfl (lv_at hl 3 rfl) ?_
  refine lv_if_ne (tgt := 24) hx hb dX12_hours_8 (by decide) (fun c9 => absurd (by decide) c9) (fun _ => ?_)
  refine lv_iload hx hb dX12_hours_11 (lv_at hl 0 rfl) ?_
  refine lv_if_eq (tgt := 24) hx hb dX12_hours_13 (by decide) (fun c_13_10640 => ?_) (fun c_13_10640 => ?_)
  · refine lv_iconst (v := 0) hx hb dX12_hours_24 (by decide) ?_
    exact RI (v := 0) hC hP hD hS [0, 1, 2] (mfromHour, mtoHour) rfl rfl (by decide) (Or.inr ⟨rfl, Or.inr (cntS_no (nI_z9 (by have h9 := cntS_le fnw (nI jp) k6; omega) c_13_10640))⟩) (by decide +kernel) dX12_hours_25
  · have hcp9 := nI_nz c_13_10640
    have hcl9 := cntS_le fnw (nI jp) k6
    refine lv_aload_n hx hb dX12_hours_16 rfl (lv_at hl 1 rfl) ?_
    refine lv_iload_n hx hb dX12_hours_17 rfl (lv_at hl 2 rfl) ?_
    refine pV hC hK hl hP hD (m_isInX l G h0 jp nw nk mhasKept nt mtaped nr mrowMany mroundOf mroundFrom nm mfromHour mtoHour ns mfrom mto msort misFault mdeep mcoded mlines nl nc nF np ntr nb mbestCost nso nsi nit nsh nsf nss nrc mtraced mdealer mnumber mwhose msize misParted fnw (by omega)) si_X12_103 [0, 1] rfl rfl (by decide) rfl rfl rfl rfl rfl (Nat.le_of_ble_eq_true rfl) ⟨Nat.le_of_ble_eq_true rfl, Nat.le_of_ble_eq_true rfl⟩ ⟨by first | exact Nat.le_of_ble_eq_true rfl | exact Nat.zero_le _, by first | exact Nat.le_of_ble_eq_true rfl | exact Nat.zero_le _⟩ dX12_hours_18 (fun r10641 hr10641 => ?_)
    rcases hr10641 with ⟨rfl, a10642⟩ | ⟨rfl, a10642⟩
    · refine lv_if_ne (tgt := 26) hx hb dX12_hours_21 (by decide) (fun _ => ?_) (fun c9 => absurd c9 (by decide))
      refine lv_bipush (v := 104) hx hb dX12_hours_26 (by decide) ?_
      refine lv_iconst (v := 3) hx hb dX12_hours_28 (by decide) ?_
      refine lv_aload_n hx hb dX12_hours_29 rfl (lv_at hl 1 rfl) ?_
      refine lv_iload_n hx hb dX12_hours_30 rfl (lv_at hl 2 rfl) ?_
      refine lv_iload_n hx hb dX12_hours_31 rfl (lv_at hl 4 rfl) ?_
      refine lv_if_eq (tgt := 42) hx hb dX12_hours_32 (by decide) (fun c9 => absurd c9 (by decide)) (fun _ => ?_)
      refine lv_iload hx hb dX12_hours_35 (lv_at hl 0 rfl) ?_
      refine lv_iconst (v := 1) hx hb dX12_hours_37 (by decide) ?_
      refine lv_isub hx hb dX12_hours_38 ?_
      refine eqi (x1 := nI ((cntS fnw (nI jp) k6) - 1)) (nI_sb (by omega)) ?_
      refine lv_goto (tgt := 43) hx hb dX12_hours_39 (by decide) ?_
      refine pV hC hK hl hP hD (m_stampAtX l G k6 h0 jp ((cntS fnw (nI jp) k6) - 1) nw nk mhasKept nt mtaped nr mrowMany mroundOf mroundFrom 0 nm mfromHour mtoHour ns mfrom mto msort misFault mdeep mcoded mlines nl nc nF np ntr nb mbestCost nso nsi nit nsh nsf nss nrc mtraced mdealer mnumber mwhose msize misParted fnw (e6) (hk6) (by omega)) si_X12_142 [0, 1] rfl rfl (by decide) rfl rfl rfl rfl rfl (Nat.le_of_ble_eq_true rfl) ⟨Nat.le_of_ble_eq_true rfl, Nat.le_of_ble_eq_true rfl⟩ ⟨by first | exact Nat.le_of_ble_eq_true rfl | exact Nat.zero_le _, by first | exact Nat.le_of_ble_eq_true rfl | exact Nat.zero_le _⟩ dX12_hours_43 (fun r10643 hr10643 => ?_)
      obtain ⟨s9_10644, hpx10644, rfl⟩ := hr10643
      try dsimp only at hpx10644
      refine lv_imul hx hb dX12_hours_46 ?_
      refine eqi (x1 := nI (3 * s9_10644)) (nI_mul 3 s9_10644) ?_
      refine lv_iadd hx hb dX12_hours_47 ?_
      refine eqi (x1 := nI (104 + 3 * s9_10644)) (nI_add 104 (3 * s9_10644)) ?_
      refine lv_istore (lv' := [(5, .int (nI (104 + 3 * s9_10644))), (4, .int (nI (cntS fnw (nI jp) k6))), (0, .ref h0), (1, .int (nI jp)), (2, .int 0), (3, .int 1)]) hx hb dX12_hours_48 hl (by decide) rfl (fun ls hl => ?_)
      have hs9b := hpx10644.1
      obtain ⟨cc10645, hcc10645, ecc10645⟩ := NI.nat hN (i := 104 + 3 * s9_10644 + 1) (B := 5) (bnd_st1 (s := s9_10644) rfl (by omega)) (by decide)
      refine lv_aload_n hx hb dX12_hours_50 rfl (lv_at hl 2 rfl) ?_
      refine lv_aload_n hx hb dX12_hours_51 rfl (lv_at hl 2 rfl) ?_
      refine gf_X12_9 hC rfl hK hP 0 rfl rfl dX12_hours_52 ?_
      refine lv_iload hx hb dX12_hours_55 (lv_at hl 0 rfl) ?_
      refine lv_iconst (v := 2) hx hb dX12_hours_57 (by decide) ?_
      refine lv_iadd hx hb dX12_hours_58 ?_
      refine eqi (x1 := nI (104 + 3 * s9_10644 + 2)) (nI_add (104 + 3 * s9_10644) 2) ?_
      refine ald hC hK hP 1 rfl (vp_in_nI (by omega) (by omega)) (k := (104 + 3 * s9_10644 + 2)) (nI_clamp (by omega)) (v := fnw (104 + 3 * s9_10644 + 2)) rfl dX12_hours_59 ?_
      refine lv_aload_n hx hb dX12_hours_60 rfl (lv_at hl 2 rfl) ?_
      refine lv_aload_n hx hb dX12_hours_61 rfl (lv_at hl 2 rfl) ?_
      refine gf_X12_9 hC rfl hK hP 0 rfl rfl dX12_hours_62 ?_
      refine lv_iload hx hb dX12_hours_65 (lv_at hl 0 rfl) ?_
      refine lv_iconst (v := 1) hx hb dX12_hours_67 (by decide) ?_
      refine lv_iadd hx hb dX12_hours_68 ?_
      refine eqi (x1 := nI (104 + 3 * s9_10644 + 1)) (nI_add (104 + 3 * s9_10644) 1) ?_
      refine ald hC hK hP 1 rfl (vp_in_nI (by omega) (by omega)) (k := 104 + 3 * s9_10644 + 1) (nI_clamp (by omega)) (v := nI cc10645) (ecc10645) dX12_hours_69 ?_
      refine pV hC hK hl hP hD (m_greatest l G h0 cc10645 nw nk mhasKept nt mtaped nr mrowMany mroundOf mroundFrom 0 nm mfromHour mtoHour ns mfrom mto msort misFault mdeep mcoded mlines nl nc nF np ntr nb mbestCost nso nsi nit nsh nsf nss nrc mtraced mdealer mnumber mwhose msize misParted fnm (by omega)) si_X12_155 [0, 2] rfl rfl (by decide) rfl rfl rfl rfl rfl (Nat.le_of_ble_eq_true rfl) ⟨Nat.le_of_ble_eq_true rfl, Nat.le_of_ble_eq_true rfl⟩ ⟨by first | exact Nat.le_of_ble_eq_true rfl | exact Nat.zero_le _, by first | exact Nat.le_of_ble_eq_true rfl | exact Nat.zero_le _⟩ dX12_hours_70 (fun r10646 hr10646 => ?_)
      obtain rfl := hr10646
      refine lv_isub hx hb dX12_hours_73 ?_
      refine pf_X12_161 hC rfl hK hP hD hS 0 (ws' := [(h0, .inr (12, [.ref nw, .ref nk, .int mhasKept, .ref nt, .int mtaped, .ref nr, .int mrowMany, .int mroundOf, .int mroundFrom, .int 0, .ref nm, .int ((fnw (104 + 3 * s9_10644 + 2)) - (fnm cc10645)), .int mtoHour, .ref ns, .int mfrom, .int mto, .int msort, .int misFault, .int mdeep, .int mcoded, .int mlines, .ref nl, .ref nc, .ref nF, .ref np, .ref ntr, .ref nb, .int mbestCost, .ref nso, .ref nsi, .ref nit, .ref nsh, .ref nsf, .ref nss, .ref nrc, .int mtraced, .int mdealer, .int mnumber, .int mwhose, .int msize, .int misParted])), (nw, .inl (G.2.1, 1662, .inl fnw)), (nm, .inl (G.2.1, 36, .inl fnm))]) rfl (Nat.le_of_ble_eq_true rfl) rfl rfl rfl dX12_hours_74 (fun H locs hP hD hS => ?_)
      refine lv_aload_n hx hb dX12_hours_77 rfl (lv_at hl 2 rfl) ?_
      refine lv_aload_n hx hb dX12_hours_78 rfl (lv_at hl 2 rfl) ?_
      refine gf_X12_9 hC rfl hK hP 0 rfl rfl dX12_hours_79 ?_
      refine lv_iload hx hb dX12_hours_82 (lv_at hl 0 rfl) ?_
      refine lv_iconst (v := 2) hx hb dX12_hours_84 (by decide) ?_
      refine lv_iadd hx hb dX12_hours_85 ?_
      refine eqi (x1 := nI (104 + 3 * s9_10644 + 2)) (nI_add (104 + 3 * s9_10644) 2) ?_
      refine ald hC hK hP 1 rfl (vp_in_nI (by omega) (by omega)) (k := (104 + 3 * s9_10644 + 2)) (nI_clamp (by omega)) (v := fnw (104 + 3 * s9_10644 + 2)) rfl dX12_hours_86 ?_
      refine lv_aload_n hx hb dX12_hours_87 rfl (lv_at hl 2 rfl) ?_
      refine lv_aload_n hx hb dX12_hours_88 rfl (lv_at hl 2 rfl) ?_
      refine gf_X12_9 hC rfl hK hP 0 rfl rfl dX12_hours_89 ?_
      refine lv_iload hx hb dX12_hours_92 (lv_at hl 0 rfl) ?_
      refine lv_iconst (v := 1) hx hb dX12_hours_94 (by decide) ?_
      refine lv_iadd hx hb dX12_hours_95 ?_
      refine eqi (x1 := nI (104 + 3 * s9_10644 + 1)) (nI_add (104 + 3 * s9_10644) 1) ?_
      refine ald hC hK hP 1 rfl (vp_in_nI (by omega) (by omega)) (k := 104 + 3 * s9_10644 + 1) (nI_clamp (by omega)) (v := nI cc10645) (ecc10645) dX12_hours_96 ?_
      refine pV hC hK hl hP hD (m_least l G h0 cc10645 nw nk mhasKept nt mtaped nr mrowMany mroundOf mroundFrom 0 nm ((fnw (104 + 3 * s9_10644 + 2)) - (fnm cc10645)) mtoHour ns mfrom mto msort misFault mdeep mcoded mlines nl nc nF np ntr nb mbestCost nso nsi nit nsh nsf nss nrc mtraced mdealer mnumber mwhose msize misParted fnm (by omega)) si_X12_158 [0, 2] rfl rfl (by decide) rfl rfl rfl rfl rfl (Nat.le_of_ble_eq_true rfl) ⟨Nat.le_of_ble_eq_true rfl, Nat.le_of_ble_eq_true rfl⟩ ⟨by first | exact Nat.le_of_ble_eq_true rfl | exact Nat.zero_le _, by first | exact Nat.le_of_ble_eq_true rfl | exact Nat.zero_le _⟩ dX12_hours_97 (fun r10648 hr10648 => ?_)
      obtain rfl := hr10648
      refine lv_isub hx hb dX12_hours_100 ?_
      refine pf_X12_164 hC rfl hK hP hD hS 0 (ws' := [(h0, .inr (12, [.ref nw, .ref nk, .int mhasKept, .ref nt, .int mtaped, .ref nr, .int mrowMany, .int mroundOf, .int mroundFrom, .int 0, .ref nm, .int ((fnw (104 + 3 * s9_10644 + 2)) - (fnm cc10645)), .int ((fnw (104 + 3 * s9_10644 + 2)) - (-(fnm (6 * cc10645)))), .ref ns, .int mfrom, .int mto, .int msort, .int misFault, .int mdeep, .int mcoded, .int mlines, .ref nl, .ref nc, .ref nF, .ref np, .ref ntr, .ref nb, .int mbestCost, .ref nso, .ref nsi, .ref nit, .ref nsh, .ref nsf, .ref nss, .ref nrc, .int mtraced, .int mdealer, .int mnumber, .int mwhose, .int msize, .int misParted])), (nw, .inl (G.2.1, 1662, .inl fnw)), (nm, .inl (G.2.1, 36, .inl fnm))]) rfl (Nat.le_of_ble_eq_true rfl) rfl rfl rfl dX12_hours_101 (fun H locs hP hD hS => ?_)
      refine lv_iconst (v := 1) hx hb dX12_hours_104 (by decide) ?_
      exact RI (v := 1) hC hP hD hS [0, 1, 2] ((fnw (104 + 3 * s9_10644 + 2)) - (fnm cc10645), (fnw (104 + 3 * s9_10644 + 2)) - (-(fnm (6 * cc10645)))) rfl rfl (by decide) (Or.inl ⟨rfl, _, hpx10644.lst (by omega), ⟨by omega, a10642⟩, TR0.mk ecc10645 (by omega), TR1.mk ecc10645 (by omega)⟩) (by decide +kernel) dX12_hours_105
    · refine lv_if_ne (tgt := 26) hx hb dX12_hours_21 (by decide) (fun c9 => absurd (by decide) c9) (fun _ => ?_)
      refine lv_iconst (v := 0) hx hb dX12_hours_24 (by decide) ?_
      exact RI (v := 0) hC hP hD hS [0, 1, 2] (mfromHour, mtoHour) rfl rfl (by decide) (Or.inr ⟨rfl, Or.inl (fun h9 => a10642 h9.2)⟩) (by decide +kernel) dX12_hours_25
set_option maxHeartbeats 4000000 in
set_option maxRecDepth 100000 in
theorem m_hoursF (l : Launch) (G : GG) (kq : Nat) (k6 : Nat) (h0 : Nat) (jp : Nat) (nw : Nat) (nk : Nat) (mhasKept : Int32) (nt : Nat) (mtaped : Int32) (nr : Nat) (mrowMany : Int32) (mroundOf : Int32) (mroundFrom : Int32) (nm : Nat) (mfromHour : Int32) (mtoHour : Int32) (ns : Nat) (mfrom : Int32) (mto : Int32) (msort : Int32) (misFault : Int32) (mdeep : Int32) (mcoded : Int32) (mlines : Int32) (nl : Nat) (nc : Nat) (nF : Nat) (np : Nat) (ntr : Nat) (nb : Nat) (mbestCost : Int32) (nso : Nat) (nsi : Nat) (nit : Nat) (nsh : Nat) (nsf : Nat) (nss : Nat) (nrc : Nat) (mtraced : Int32) (mdealer : Int32) (mnumber : Int32) (mwhose : Int32) (msize : Int32) (misParted : Int32) (fnw : Nat → Int32) (fnm : Nat → Int32) (hN : NI fnw) (e6 : fnw 6 = nI k6) (hk6 : k6 ≤ 24) (ekq : fnw 5 = nI kq) (hjp : jp < kq) (hkq : kq ≤ 12) : MI l G yX12_hours cX12_hours 6 (some .boolean) 3 0 0 [.ref h0, .int (nI jp), .int 0, .int 0] [(h0, .inr (12, [.ref nw, .ref nk, .int mhasKept, .ref nt, .int mtaped, .ref nr, .int mrowMany, .int mroundOf, .int mroundFrom, .int 0, .ref nm, .int mfromHour, .int mtoHour, .ref ns, .int mfrom, .int mto, .int msort, .int misFault, .int mdeep, .int mcoded, .int mlines, .ref nl, .ref nc, .ref nF, .ref np, .ref ntr, .ref nb, .int mbestCost, .ref nso, .ref nsi, .ref nit, .ref nsh, .ref nsf, .ref nss, .ref nrc, .int mtraced, .int mdealer, .int mnumber, .int mwhose, .int msize, .int misParted])), (nw, .inl (G.2.1, 1662, .inl fnw)), (nm, .inl (G.2.1, 36, .inl fnm))] (fun (r : Int32) (u : Int32 × Int32) => ((r = 1 ∧ ∃ s9, FST (shf fnw 104) k6 jp s9 ∧ VSE fnw kq jp ∧ u.1 = TR0 (shf fnw 104) fnm s9 ∧ u.2 = TR1 (shf fnw 104) fnm s9) ∨ (r = 0 ∧ (¬ VSE fnw kq jp ∨ ∀ s9, s9 < k6 → ¬ shf fnw 104 (s9 * 3 + 0) = nI jp)))) (fun u : Int32 × Int32 => [(h0, .inr (12, [.ref nw, .ref nk, .int mhasKept, .ref nt, .int mtaped, .ref nr, .int mrowMany, .int mroundOf, .int mroundFrom, .int 0, .ref nm, .int u.1, .int u.2, .ref ns, .int mfrom, .int mto, .int msort, .int misFault, .int mdeep, .int mcoded, .int mlines, .ref nl, .ref nc, .ref nF, .ref np, .ref ntr, .ref nb, .int mbestCost, .ref nso, .ref nsi, .ref nit, .ref nsh, .ref nsf, .ref nss, .ref nrc, .int mtraced, .int mdealer, .int mnumber, .int mwhose, .int msize, .int misParted])), (nw, .inl (G.2.1, 1662, .inl fnw)), (nm, .inl (G.2.1, 36, .inl fnm))]) := by
  refine MI.start (by decide +kernel) (Nat.le_of_ble_eq_true rfl) ?_
  intro p e s m below meth c A ls hC hK hP hD hS hA hl
  have hl : lv_has ls 6 [(0, .ref h0), (1, .int (nI jp)), (2, .int 0), (3, .int 0)] := hl
  obtain ⟨hx, hb, hr, hml, hB, hown, hlocks, hnm⟩ := id hC
  refine lv_aload_n hx hb dX12_hours_0 rfl (lv_at hl 0 rfl) ?_
  refine lv_iload_n hx hb dX12_hours_1 rfl (lv_at hl 1 rfl) ?_
  refine pV hC hK hl hP hD (m_stampsOf l G k6 h0 (nI jp) nw nk mhasKept nt mtaped nr mrowMany mroundOf mroundFrom 0 nm mfromHour mtoHour ns mfrom mto msort misFault mdeep mcoded mlines nl nc nF np ntr nb mbestCost nso nsi nit nsh nsf nss nrc mtraced mdealer mnumber mwhose msize misParted fnw (e6) (hk6)) si_X12_130 [0, 1] rfl rfl (by decide) rfl rfl rfl rfl rfl (Nat.le_of_ble_eq_true rfl) ⟨Nat.le_of_ble_eq_true rfl, Nat.le_of_ble_eq_true rfl⟩ ⟨by first | exact Nat.le_of_ble_eq_true rfl | exact Nat.zero_le _, by first | exact Nat.le_of_ble_eq_true rfl | exact Nat.zero_le _⟩ dX12_hours_2 (fun r10650 hr10650 => ?_)
  obtain rfl := hr10650
  refine lv_istore (lv' := [(4, .int (nI (cntS fnw (nI jp) k6))), (0, .ref h0), (1, .int (nI jp)), (2, .int 0), (3, .int 0)]) hx hb dX12_hours_5 hl (by decide) rfl (fun ls hl => ?_)
  refine lv_iload_n hx hb dX12_hours_7 rfl (lv_at hl 3 rfl) ?_
  refine lv_if_ne (tgt := 24) hx hb dX12_hours_8 (by decide) (fun c9 => absurd (by decide) c9) (fun _ => ?_)
  refine lv_iload hx hb dX12_hours_11 (lv_at hl 0 rfl) ?_
  refine lv_if_eq (tgt := 24) hx hb dX12_hours_13 (by decide) (fun c_13_10652 => ?_) (fun c_13_10652 => ?_)
  · refine lv_iconst (v := 0) hx hb dX12_hours_24 (by decide) ?_
    exact RI (v := 0) hC hP hD hS [0, 1, 2] (mfromHour, mtoHour) rfl rfl (by decide) (Or.inr ⟨rfl, Or.inr (cntS_no (nI_z9 (by have h9 := cntS_le fnw (nI jp) k6; omega) c_13_10652))⟩) (by decide +kernel) dX12_hours_25
  · have hcp9 := nI_nz c_13_10652
    have hcl9 := cntS_le fnw (nI jp) k6
    refine lv_aload_n hx hb dX12_hours_16 rfl (lv_at hl 1 rfl) ?_
    refine lv_iload_n hx hb dX12_hours_17 rfl (lv_at hl 2 rfl) ?_
    refine pV hC hK hl hP hD (m_isInX l G h0 jp nw nk mhasKept nt mtaped nr mrowMany mroundOf mroundFrom nm mfromHour mtoHour ns mfrom mto msort misFault mdeep mcoded mlines nl nc nF np ntr nb mbestCost nso nsi nit nsh nsf nss nrc mtraced mdealer mnumber mwhose msize misParted fnw (by omega)) si_X12_103 [0, 1] rfl rfl (by decide) rfl rfl rfl rfl rfl (Nat.le_of_ble_eq_true rfl) ⟨Nat.le_of_ble_eq_true rfl, Nat.le_of_ble_eq_true rfl⟩ ⟨by first | exact Nat.le_of_ble_eq_true rfl | exact Nat.zero_le _, by first | exact Nat.le_of_ble_eq_true rfl | exact Nat.zero_le _⟩ dX12_hours_18 (fun r10653 hr10653 => ?_)
    rcases hr10653 with ⟨rfl, a10654⟩ | ⟨rfl, a10654⟩
    · refine lv_if_ne (tgt := 26) hx hb dX12_hours_21 (by decide) (fun _ => ?_) (fun c9 => absurd c9 (by decide))
      refine lv_bipush (v := 104) hx hb dX12_hours_26 (by decide) ?_
      refine lv_iconst (v := 3) hx hb dX12_hours_28 (by decide) ?_
      refine lv_aload_n hx hb dX12_hours_29 rfl (lv_at hl 1 rfl) ?_
      refine lv_iload_n hx hb dX12_hours_30 rfl (lv_at hl 2 rfl) ?_
      refine lv_iload_n hx hb dX12_hours_31 rfl (lv_at hl 4 rfl) ?_
      refine lv_if_eq (tgt := 42) hx hb dX12_hours_32 (by decide) (fun _ => ?_) (fun c9 => absurd (by decide) c9)
      refine lv_iconst (v := 0) hx hb dX12_hours_42 (by decide) ?_
      refine pV hC hK hl hP hD (m_stampAtX l G k6 h0 jp 0 nw nk mhasKept nt mtaped nr mrowMany mroundOf mroundFrom 0 nm mfromHour mtoHour ns mfrom mto msort misFault mdeep mcoded mlines nl nc nF np ntr nb mbestCost nso nsi nit nsh nsf nss nrc mtraced mdealer mnumber mwhose msize misParted fnw (e6) (hk6) (by omega)) si_X12_142 [0, 1] rfl rfl (by decide) rfl rfl rfl rfl rfl (Nat.le_of_ble_eq_true rfl) ⟨Nat.le_of_ble_eq_true rfl, Nat.le_of_ble_eq_true rfl⟩ ⟨by first | exact Nat.le_of_ble_eq_true rfl | exact Nat.zero_le _, by first | exact Nat.le_of_ble_eq_true rfl | exact Nat.zero_le _⟩ dX12_hours_43 (fun r10655 hr10655 => ?_)
      obtain ⟨s9_10656, hpx10656, rfl⟩ := hr10655
      try dsimp only at hpx10656
      refine lv_imul hx hb dX12_hours_46 ?_
      refine eqi (x1 := nI (3 * s9_10656)) (nI_mul 3 s9_10656) ?_
      refine lv_iadd hx hb dX12_hours_47 ?_
      refine eqi (x1 := nI (104 + 3 * s9_10656)) (nI_add 104 (3 * s9_10656)) ?_
      refine lv_istore (lv' := [(5, .int (nI (104 + 3 * s9_10656))), (4, .int (nI (cntS fnw (nI jp) k6))), (0, .ref h0), (1, .int (nI jp)), (2, .int 0), (3, .int 0)]) hx hb dX12_hours_48 hl (by decide) rfl (fun ls hl => ?_)
      have hs9b := hpx10656.1
      obtain ⟨cc10657, hcc10657, ecc10657⟩ := NI.nat hN (i := 104 + 3 * s9_10656 + 1) (B := 5) (bnd_st1 (s := s9_10656) rfl (by omega)) (by decide)
      refine lv_aload_n hx hb dX12_hours_50 rfl (lv_at hl 2 rfl) ?_
      refine lv_aload_n hx hb dX12_hours_51 rfl (lv_at hl 2 rfl) ?_
      refine gf_X12_9 hC rfl hK hP 0 rfl rfl dX12_hours_52 ?_
      refine lv_iload hx hb dX12_hours_55 (lv_at hl 0 rfl) ?_
      refine lv_iconst (v := 2) hx hb dX12_hours_57 (by decide) ?_
      refine lv_iadd hx hb dX12_hours_58 ?_
      refine eqi (x1 := nI (104 + 3 * s9_10656 + 2)) (nI_add (104 + 3 * s9_10656) 2) ?_
      refine ald hC hK hP 1 rfl (vp_in_nI (by omega) (by omega)) (k := (104 + 3 * s9_10656 + 2)) (nI_clamp (by omega)) (v := fnw (104 + 3 * s9_10656 + 2)) rfl dX12_hours_59 ?_
      refine lv_aload_n hx hb dX12_hours_60 rfl (lv_at hl 2 rfl) ?_
      refine lv_aload_n hx hb dX12_hours_61 rfl (lv_at hl 2 rfl) ?_
      refine gf_X12_9 hC rfl hK hP 0 rfl rfl dX12_hours_62 ?_
      refine lv_iload hx hb dX12_hours_65 (lv_at hl 0 rfl) ?_
      refine lv_iconst (v := 1) hx hb dX12_hours_67 (by decide) ?_
      refine lv_iadd hx hb dX12_hours_68 ?_
      refine eqi (x1 := nI (104 + 3 * s9_10656 + 1)) (nI_add (104 + 3 * s9_10656) 1) ?_
      refine ald hC hK hP 1 rfl (vp_in_nI (by omega) (by omega)) (k := 104 + 3 * s9_10656 + 1) (nI_clamp (by omega)) (v := nI cc10657) (ecc10657) dX12_hours_69 ?_
      refine pV hC hK hl hP hD (m_greatest l G h0 cc10657 nw nk mhasKept nt mtaped nr mrowMany mroundOf mroundFrom 0 nm mfromHour mtoHour ns mfrom mto msort misFault mdeep mcoded mlines nl nc nF np ntr nb mbestCost nso nsi nit nsh nsf nss nrc mtraced mdealer mnumber mwhose msize misParted fnm (by omega)) si_X12_155 [0, 2] rfl rfl (by decide) rfl rfl rfl rfl rfl (Nat.le_of_ble_eq_true rfl) ⟨Nat.le_of_ble_eq_true rfl, Nat.le_of_ble_eq_true rfl⟩ ⟨by first | exact Nat.le_of_ble_eq_true rfl | exact Nat.zero_le _, by first | exact Nat.le_of_ble_eq_true rfl | exact Nat.zero_le _⟩ dX12_hours_70 (fun r10658 hr10658 => ?_)
      obtain rfl := hr10658
      refine lv_isub hx hb dX12_hours_73 ?_
      refine pf_X12_161 hC rfl hK hP hD hS 0 (ws' := [(h0, .inr (12, [.ref nw, .ref nk, .int mhasKept, .ref nt, .int mtaped, .ref nr, .int mrowMany, .int mroundOf, .int mroundFrom, .int 0, .ref nm, .int ((fnw (104 + 3 * s9_10656 + 2)) - (fnm cc10657)), .int mtoHour, .ref ns, .int mfrom, .int mto, .int msort, .int misFault, .int mdeep, .int mcoded, .int mlines, .ref nl, .ref nc, .ref nF, .ref np, .ref ntr, .ref nb, .int mbestCost, .ref nso, .ref nsi, .ref nit, .ref nsh, .ref nsf, .ref nss, .ref nrc, .int mtraced, .int mdealer, .int mnumber, .int mwhose, .int msize, .int misParted])), (nw, .inl (G.2.1, 1662, .inl fnw)), (nm, .inl (G.2.1, 36, .inl fnm))]) rfl (Nat.le_of_ble_eq_true rfl) rfl rfl rfl dX12_hours_74 (fun H locs hP hD hS => ?_)
      refine lv_aload_n hx hb dX12_hours_77 rfl (lv_at hl 2 rfl) ?_
      refine lv_aload_n hx hb dX12_hours_78 rfl (lv_at hl 2 rfl) ?_
      refine gf_X12_9 hC rfl hK hP 0 rfl rfl dX12_hours_79 ?_
      refine lv_iload hx hb dX12_hours_82 (lv_at hl 0 rfl) ?_
      refine lv_iconst (v := 2) hx hb dX12_hours_84 (by decide) ?_
      refine lv_iadd hx hb dX12_hours_85 ?_
      refine eqi (x1 := nI (104 + 3 * s9_10656 + 2)) (nI_add (104 + 3 * s9_10656) 2) ?_
      refine ald hC hK hP 1 rfl (vp_in_nI (by omega) (by omega)) (k := (104 + 3 * s9_10656 + 2)) (nI_clamp (by omega)) (v := fnw (104 + 3 * s9_10656 + 2)) rfl dX12_hours_86 ?_
      refine lv_aload_n hx hb dX12_hours_87 rfl (lv_at hl 2 rfl) ?_
      refine lv_aload_n hx hb dX12_hours_88 rfl (lv_at hl 2 rfl) ?_
      refine gf_X12_9 hC rfl hK hP 0 rfl rfl dX12_hours_89 ?_
      refine lv_iload hx hb dX12_hours_92 (lv_at hl 0 rfl) ?_
      refine lv_iconst (v := 1) hx hb dX12_hours_94 (by decide) ?_
      refine lv_iadd hx hb dX12_hours_95 ?_
      refine eqi (x1 := nI (104 + 3 * s9_10656 + 1)) (nI_add (104 + 3 * s9_10656) 1) ?_
      refine ald hC hK hP 1 rfl (vp_in_nI (by omega) (by omega)) (k := 104 + 3 * s9_10656 + 1) (nI_clamp (by omega)) (v := nI cc10657) (ecc10657) dX12_hours_96 ?_
      refine pV hC hK hl hP hD (m_least l G h0 cc10657 nw nk mhasKept nt mtaped nr mrowMany mroundOf mroundFrom 0 nm ((fnw (104 + 3 * s9_10656 + 2)) - (fnm cc10657)) mtoHour ns mfrom mto msort misFault mdeep mcoded mlines nl nc nF np ntr nb mbestCost nso nsi nit nsh nsf nss nrc mtraced mdealer mnumber mwhose msize misParted fnm (by omega)) si_X12_158 [0, 2] rfl rfl (by decide) rfl rfl rfl rfl rfl (Nat.le_of_ble_eq_true rfl) ⟨Nat.le_of_ble_eq_true rfl, Nat.le_of_ble_eq_true rfl⟩ ⟨by first | exact Nat.le_of_ble_eq_true rfl | exact Nat.zero_le _, by first | exact Nat.le_of_ble_eq_true rfl | exact Nat.zero_le _⟩ dX12_hours_97 (fun r10660 hr10660 => ?_)
      obtain rfl := hr10660
      refine lv_isub hx hb dX12_hours_100 ?_
      refine pf_X12_164 hC rfl hK hP hD hS 0 (ws' := [(h0, .inr (12, [.ref nw, .ref nk, .int mhasKept, .ref nt, .int mtaped, .ref nr, .int mrowMany, .int mroundOf, .int mroundFrom, .int 0, .ref nm, .int ((fnw (104 + 3 * s9_10656 + 2)) - (fnm cc10657)), .int ((fnw (104 + 3 * s9_10656 + 2)) - (-(fnm (6 * cc10657)))), .ref ns, .int mfrom, .int mto, .int msort, .int misFault, .int mdeep, .int mcoded, .int mlines, .ref nl, .ref nc, .ref nF, .ref np, .ref ntr, .ref nb, .int mbestCost, .ref nso, .ref nsi, .ref nit, .ref nsh, .ref nsf, .ref nss, .ref nrc, .int mtraced, .int mdealer, .int mnumber, .int mwhose, .int msize, .int misParted])), (nw, .inl (G.2.1, 1662, .inl fnw)), (nm, .inl (G.2.1, 36, .inl fnm))]) rfl (Nat.le_of_ble_eq_true rfl) rfl rfl rfl dX12_hours_101 (fun H locs hP hD hS => ?_)
      refine lv_iconst (v := 1) hx hb dX12_hours_104 (by decide) ?_
      exact RI (v := 1) hC hP hD hS [0, 1, 2] ((fnw (104 + 3 * s9_10656 + 2)) - (fnm cc10657), (fnw (104 + 3 * s9_10656 + 2)) - (-(fnm (6 * cc10657)))) rfl rfl (by decide) (Or.inl ⟨rfl, _, hpx10656.fst, ⟨by omega, a10654⟩, TR0.mk ecc10657 (by omega), TR1.mk ecc10657 (by omega)⟩) (by decide +kernel) dX12_hours_105
    · refine lv_if_ne (tgt := 26) hx hb dX12_hours_21 (by decide) (fun c9 => absurd (by decide) c9) (fun _ => ?_)
      refine lv_iconst (v := 0) hx hb dX12_hours_24 (by decide) ?_
      exact RI (v := 0) hC hP hD hS [0, 1, 2] (mfromHour, mtoHour) rfl rfl (by decide) (Or.inr ⟨rfl, Or.inl (fun h9 => a10654 h9.2)⟩) (by decide +kernel) dX12_hours_25
set_option maxHeartbeats 4000000 in
set_option maxRecDepth 100000 in
theorem m_inHandC (l : Launch) (G : GG) (k6 : Nat) (h0 : Nat) (jp : Nat) (je : Nat) (nw : Nat) (nk : Nat) (mhasKept : Int32) (nt : Nat) (mtaped : Int32) (nr : Nat) (mrowMany : Int32) (mroundOf : Int32) (mroundFrom : Int32) (mouts : Int32) (nm : Nat) (mfromHour : Int32) (mtoHour : Int32) (ns : Nat) (mfrom : Int32) (mto : Int32) (msort : Int32) (misFault : Int32) (mdeep : Int32) (mcoded : Int32) (mlines : Int32) (nl : Nat) (nc : Nat) (nF : Nat) (np : Nat) (ntr : Nat) (nb : Nat) (mbestCost : Int32) (nso : Nat) (nsi : Nat) (nit : Nat) (nsh : Nat) (nsf : Nat) (nss : Nat) (nrc : Nat) (mtraced : Int32) (mdealer : Int32) (mnumber : Int32) (mwhose : Int32) (msize : Int32) (misParted : Int32) (fnw : Nat → Int32) (e6 : fnw 6 = nI k6) (hk6 : k6 ≤ 24) (hjp : jp < 12) : MP l G yX12_inHand cX12_inHand 4 (some .boolean) 4 [.ref h0, .int (nI jp), .int (nI je), .int 1] [(h0, .inr (12, [.ref nw, .ref nk, .int mhasKept, .ref nt, .int mtaped, .ref nr, .int mrowMany, .int mroundOf, .int mroundFrom, .int mouts, .ref nm, .int mfromHour, .int mtoHour, .ref ns, .int mfrom, .int mto, .int msort, .int misFault, .int mdeep, .int mcoded, .int mlines, .ref nl, .ref nc, .ref nF, .ref np, .ref ntr, .ref nb, .int mbestCost, .ref nso, .ref nsi, .ref nit, .ref nsh, .ref nsf, .ref nss, .ref nrc, .int mtraced, .int mdealer, .int mnumber, .int mwhose, .int msize, .int misParted])), (nw, .inl (G.2.1, 1662, .inl fnw))] (fun r : Int32 => r = 0) := by
  refine MP.start (by decide +kernel) (Nat.le_of_ble_eq_true rfl) ?_
  intro p e s m below meth c ls hC hK hP hD hl
  have hl : lv_has ls 4 [(0, .ref h0), (1, .int (nI jp)), (2, .int (nI je)), (3, .int 1)] := hl
  obtain ⟨hx, hb, hr, hml, hB, hown, hlocks, hnm⟩ := id hC
  refine lv_aload_n hx hb dX12_inHand_0 rfl (lv_at hl 0 rfl) ?_
  refine lv_iload_n hx hb dX12_inHand_1 rfl (lv_at hl 1 rfl) ?_
  refine lv_iconst (v := 0) hx hb dX12_inHand_2 (by decide) ?_
  refine pV hC hK hl hP hD (m_paper l G h0 jp 0 nw nk mhasKept nt mtaped nr mrowMany mroundOf mroundFrom mouts nm mfromHour mtoHour ns mfrom mto msort misFault mdeep mcoded mlines nl nc nF np ntr nb mbestCost nso nsi nit nsh nsf nss nrc mtraced mdealer mnumber mwhose msize misParted fnw (hjp) (by omega)) si_X12_88 [0, 1] rfl rfl (by decide) rfl rfl rfl rfl rfl (Nat.le_of_ble_eq_true rfl) ⟨Nat.le_of_ble_eq_true rfl, Nat.le_of_ble_eq_true rfl⟩ ⟨by first | exact Nat.le_of_ble_eq_true rfl | exact Nat.zero_le _, by first | exact Nat.le_of_ble_eq_true rfl | exact Nat.zero_le _⟩ dX12_inHand_3 (fun r10662 hr10662 => ?_)
  obtain rfl := hr10662
  refine lv_iload_n hx hb dX12_inHand_6 rfl (lv_at hl 2 rfl) ?_
  refine lv_icmp_ne (tgt := 18) hx hb dX12_inHand_7 (by decide) (fun c_7_10664 => ?_) (fun c_7_10664 => ?_)
  · refine lv_aload_n hx hb dX12_inHand_18 rfl (lv_at hl 0 rfl) ?_
    refine lv_iload_n hx hb dX12_inHand_19 rfl (lv_at hl 1 rfl) ?_
    refine lv_iconst (v := 1) hx hb dX12_inHand_20 (by decide) ?_
    refine pV hC hK hl hP hD (m_paper l G h0 jp 1 nw nk mhasKept nt mtaped nr mrowMany mroundOf mroundFrom mouts nm mfromHour mtoHour ns mfrom mto msort misFault mdeep mcoded mlines nl nc nF np ntr nb mbestCost nso nsi nit nsh nsf nss nrc mtraced mdealer mnumber mwhose msize misParted fnw (hjp) (by omega)) si_X12_88 [0, 1] rfl rfl (by decide) rfl rfl rfl rfl rfl (Nat.le_of_ble_eq_true rfl) ⟨Nat.le_of_ble_eq_true rfl, Nat.le_of_ble_eq_true rfl⟩ ⟨by first | exact Nat.le_of_ble_eq_true rfl | exact Nat.zero_le _, by first | exact Nat.le_of_ble_eq_true rfl | exact Nat.zero_le _⟩ dX12_inHand_21 (fun r10665 hr10665 => ?_)
    obtain rfl := hr10665
    refine lv_iload_n hx hb dX12_inHand_24 rfl (lv_at hl 2 rfl) ?_
    refine pS hC hK hl (m_has l G (fnw (32 + 6 * jp + 1)) (nI je)) si_X12_99 rfl rfl (Nat.le_of_ble_eq_true rfl) ⟨Nat.le_of_ble_eq_true rfl, Nat.le_of_ble_eq_true rfl⟩ ⟨by first | exact Nat.le_of_ble_eq_true rfl | exact Nat.zero_le _, by first | exact Nat.le_of_ble_eq_true rfl | exact Nat.zero_le _⟩ dX12_inHand_25 (fun r10667 hr10667 => ?_)
    rcases hr10667 with ⟨rfl, a10668⟩ | ⟨rfl, a10668⟩
    · refine lv_if_eq (tgt := 41) hx hb dX12_inHand_28 (by decide) (fun c9 => absurd c9 (by decide)) (fun _ => ?_)
      refine lv_aload_n hx hb dX12_inHand_31 rfl (lv_at hl 0 rfl) ?_
      refine lv_iload_n hx hb dX12_inHand_32 rfl (lv_at hl 1 rfl) ?_
      refine lv_iload_n hx hb dX12_inHand_33 rfl (lv_at hl 3 rfl) ?_
      refine lv_iconst (v := 1) hx hb dX12_inHand_34 (by decide) ?_
      refine pV hC hK hl hP hD (m_hoursC l G k6 h0 jp 1 nw nk mhasKept nt mtaped nr mrowMany mroundOf mroundFrom mouts nm mfromHour mtoHour ns mfrom mto msort misFault mdeep mcoded mlines nl nc nF np ntr nb mbestCost nso nsi nit nsh nsf nss nrc mtraced mdealer mnumber mwhose msize misParted fnw (e6) (hk6) (hjp)) si_X12_167 [0, 1] rfl rfl (by decide) rfl rfl rfl rfl rfl (Nat.le_of_ble_eq_true rfl) ⟨Nat.le_of_ble_eq_true rfl, Nat.le_of_ble_eq_true rfl⟩ ⟨by first | exact Nat.le_of_ble_eq_true rfl | exact Nat.zero_le _, by first | exact Nat.le_of_ble_eq_true rfl | exact Nat.zero_le _⟩ dX12_inHand_35 (fun r10669 hr10669 => ?_)
      obtain rfl := hr10669
      refine lv_if_ne (tgt := 43) hx hb dX12_inHand_38 (by decide) (fun c9 => absurd (by decide) c9) (fun _ => ?_)
      refine lv_iconst (v := 0) hx hb dX12_inHand_41 (by decide) ?_
      exact RP (v := 0) hC (rfl) (by decide +kernel) dX12_inHand_42
    · refine lv_if_eq (tgt := 41) hx hb dX12_inHand_28 (by decide) (fun _ => ?_) (fun c9 => absurd (by decide) c9)
      refine lv_iconst (v := 0) hx hb dX12_inHand_41 (by decide) ?_
      exact RP (v := 0) hC (rfl) (by decide +kernel) dX12_inHand_42
  · refine lv_aload_n hx hb dX12_inHand_10 rfl (lv_at hl 0 rfl) ?_
    refine lv_iload_n hx hb dX12_inHand_11 rfl (lv_at hl 1 rfl) ?_
    refine lv_iload_n hx hb dX12_inHand_12 rfl (lv_at hl 3 rfl) ?_
    refine lv_iconst (v := 0) hx hb dX12_inHand_13 (by decide) ?_
    refine pV hC hK hl hP hD (m_hoursC l G k6 h0 jp 0 nw nk mhasKept nt mtaped nr mrowMany mroundOf mroundFrom mouts nm mfromHour mtoHour ns mfrom mto msort misFault mdeep mcoded mlines nl nc nF np ntr nb mbestCost nso nsi nit nsh nsf nss nrc mtraced mdealer mnumber mwhose msize misParted fnw (e6) (hk6) (hjp)) si_X12_167 [0, 1] rfl rfl (by decide) rfl rfl rfl rfl rfl (Nat.le_of_ble_eq_true rfl) ⟨Nat.le_of_ble_eq_true rfl, Nat.le_of_ble_eq_true rfl⟩ ⟨by first | exact Nat.le_of_ble_eq_true rfl | exact Nat.zero_le _, by first | exact Nat.le_of_ble_eq_true rfl | exact Nat.zero_le _⟩ dX12_inHand_14 (fun r10671 hr10671 => ?_)
    obtain rfl := hr10671
    exact RP (v := 0) hC (rfl) (by decide +kernel) dX12_inHand_17
set_option maxHeartbeats 4000000 in
set_option maxRecDepth 100000 in
theorem m_inHandL (l : Launch) (G : GG) (kq : Nat) (k6 : Nat) (h0 : Nat) (jp : Nat) (je : Nat) (nw : Nat) (nk : Nat) (mhasKept : Int32) (nt : Nat) (mtaped : Int32) (nr : Nat) (mrowMany : Int32) (mroundOf : Int32) (mroundFrom : Int32) (nm : Nat) (mfromHour : Int32) (mtoHour : Int32) (ns : Nat) (mfrom : Int32) (mto : Int32) (msort : Int32) (misFault : Int32) (mdeep : Int32) (mcoded : Int32) (mlines : Int32) (nl : Nat) (nc : Nat) (nF : Nat) (np : Nat) (ntr : Nat) (nb : Nat) (mbestCost : Int32) (nso : Nat) (nsi : Nat) (nit : Nat) (nsh : Nat) (nsf : Nat) (nss : Nat) (nrc : Nat) (mtraced : Int32) (mdealer : Int32) (mnumber : Int32) (mwhose : Int32) (msize : Int32) (misParted : Int32) (fnw : Nat → Int32) (fnm : Nat → Int32) (hN : NI fnw) (e6 : fnw 6 = nI k6) (hk6 : k6 ≤ 24) (ekq : fnw 5 = nI kq) (hjp : jp < kq) (hkq : kq ≤ 12) (hje : je < 10) : MI l G yX12_inHand cX12_inHand 4 (some .boolean) 4 0 0 [.ref h0, .int (nI jp), .int (nI je), .int 0] [(h0, .inr (12, [.ref nw, .ref nk, .int mhasKept, .ref nt, .int mtaped, .ref nr, .int mrowMany, .int mroundOf, .int mroundFrom, .int 0, .ref nm, .int mfromHour, .int mtoHour, .ref ns, .int mfrom, .int mto, .int msort, .int misFault, .int mdeep, .int mcoded, .int mlines, .ref nl, .ref nc, .ref nF, .ref np, .ref ntr, .ref nb, .int mbestCost, .ref nso, .ref nsi, .ref nit, .ref nsh, .ref nsf, .ref nss, .ref nrc, .int mtraced, .int mdealer, .int mnumber, .int mwhose, .int msize, .int misParted])), (nw, .inl (G.2.1, 1662, .inl fnw)), (nm, .inl (G.2.1, 36, .inl fnm))] (fun (r : Int32) (u : Int32 × Int32) => ((r = 1 ∧ (fnw (32 + 6 * jp + 0) = nI je ∧ ∃ s9, FST (shf fnw 104) k6 jp s9 ∧ VSE fnw kq jp ∧ u.1 = TR0 (shf fnw 104) fnm s9 ∧ u.2 = TR1 (shf fnw 104) fnm s9) ∨ (¬ fnw (32 + 6 * jp + 0) = nI je ∧ ((fnw (32 + 6 * jp + 1)) >>> ((nI je) &&& 31)) &&& 1 = 1 ∧ ∃ s9, LST (shf fnw 104) k6 jp s9 ∧ VSE fnw kq jp ∧ u.1 = TR0 (shf fnw 104) fnm s9 ∧ u.2 = TR1 (shf fnw 104) fnm s9 + fnw (12 + 2 * je + 1))) ∨ (r = 0 ∧ (¬ VSE fnw kq jp ∨ ∀ s9, s9 < k6 → ¬ shf fnw 104 (s9 * 3 + 0) = nI jp) ∨ (¬ fnw (32 + 6 * jp + 0) = nI je ∧ ¬ ((fnw (32 + 6 * jp + 1)) >>> ((nI je) &&& 31)) &&& 1 = 1)))) (fun u : Int32 × Int32 => [(h0, .inr (12, [.ref nw, .ref nk, .int mhasKept, .ref nt, .int mtaped, .ref nr, .int mrowMany, .int mroundOf, .int mroundFrom, .int 0, .ref nm, .int u.1, .int u.2, .ref ns, .int mfrom, .int mto, .int msort, .int misFault, .int mdeep, .int mcoded, .int mlines, .ref nl, .ref nc, .ref nF, .ref np, .ref ntr, .ref nb, .int mbestCost, .ref nso, .ref nsi, .ref nit, .ref nsh, .ref nsf, .ref nss, .ref nrc, .int mtraced, .int mdealer, .int mnumber, .int mwhose, .int msize, .int misParted])), (nw, .inl (G.2.1, 1662, .inl fnw)), (nm, .inl (G.2.1, 36, .inl fnm))]) := by
  refine MI.start (by decide +kernel) (Nat.le_of_ble_eq_true rfl) ?_
  intro p e s m below meth c A ls hC hK hP hD hS hA hl
  have hl : lv_has ls 4 [(0, .ref h0), (1, .int (nI jp)), (2, .int (nI je)), (3, .int 0)] := hl
  obtain ⟨hx, hb, hr, hml, hB, hown, hlocks, hnm⟩ := id hC
  refine lv_aload_n hx hb dX12_inHand_0 rfl (lv_at hl 0 rfl) ?_
  refine lv_iload_n hx hb dX12_inHand_1 rfl (lv_at hl 1 rfl) ?_
  refine lv_iconst (v := 0) hx hb dX12_inHand_2 (by decide) ?_
  refine pV hC hK hl hP hD (m_paper l G h0 jp 0 nw nk mhasKept nt mtaped nr mrowMany mroundOf mroundFrom 0 nm mfromHour mtoHour ns mfrom mto msort misFault mdeep mcoded mlines nl nc nF np ntr nb mbestCost nso nsi nit nsh nsf nss nrc mtraced mdealer mnumber mwhose msize misParted fnw (by omega) (by omega)) si_X12_88 [0, 1] rfl rfl (by decide) rfl rfl rfl rfl rfl (Nat.le_of_ble_eq_true rfl) ⟨Nat.le_of_ble_eq_true rfl, Nat.le_of_ble_eq_true rfl⟩ ⟨by first | exact Nat.le_of_ble_eq_true rfl | exact Nat.zero_le _, by first | exact Nat.le_of_ble_eq_true rfl | exact Nat.zero_le _⟩ dX12_inHand_3 (fun r10673 hr10673 => ?_)
  obtain rfl := hr10673
  refine lv_iload_n hx hb dX12_inHand_6 rfl (lv_at hl 2 rfl) ?_
  refine lv_icmp_ne (tgt := 18) hx hb dX12_inHand_7 (by decide) (fun c_7_10675 => ?_) (fun c_7_10675 => ?_)
  · refine lv_aload_n hx hb dX12_inHand_18 rfl (lv_at hl 0 rfl) ?_
    refine lv_iload_n hx hb dX12_inHand_19 rfl (lv_at hl 1 rfl) ?_
    refine lv_iconst (v := 1) hx hb dX12_inHand_20 (by decide) ?_
    refine pV hC hK hl hP hD (m_paper l G h0 jp 1 nw nk mhasKept nt mtaped nr mrowMany mroundOf mroundFrom 0 nm mfromHour mtoHour ns mfrom mto msort misFault mdeep mcoded mlines nl nc nF np ntr nb mbestCost nso nsi nit nsh nsf nss nrc mtraced mdealer mnumber mwhose msize misParted fnw (by omega) (by omega)) si_X12_88 [0, 1] rfl rfl (by decide) rfl rfl rfl rfl rfl (Nat.le_of_ble_eq_true rfl) ⟨Nat.le_of_ble_eq_true rfl, Nat.le_of_ble_eq_true rfl⟩ ⟨by first | exact Nat.le_of_ble_eq_true rfl | exact Nat.zero_le _, by first | exact Nat.le_of_ble_eq_true rfl | exact Nat.zero_le _⟩ dX12_inHand_21 (fun r10676 hr10676 => ?_)
    obtain rfl := hr10676
    refine lv_iload_n hx hb dX12_inHand_24 rfl (lv_at hl 2 rfl) ?_
    refine pS hC hK hl (m_has l G (fnw (32 + 6 * jp + 1)) (nI je)) si_X12_99 rfl rfl (Nat.le_of_ble_eq_true rfl) ⟨Nat.le_of_ble_eq_true rfl, Nat.le_of_ble_eq_true rfl⟩ ⟨by first | exact Nat.le_of_ble_eq_true rfl | exact Nat.zero_le _, by first | exact Nat.le_of_ble_eq_true rfl | exact Nat.zero_le _⟩ dX12_inHand_25 (fun r10678 hr10678 => ?_)
    rcases hr10678 with ⟨rfl, a10679⟩ | ⟨rfl, a10679⟩
    · refine lv_if_eq (tgt := 41) hx hb dX12_inHand_28 (by decide) (fun c9 => absurd c9 (by decide)) (fun _ => ?_)
      refine lv_aload_n hx hb dX12_inHand_31 rfl (lv_at hl 0 rfl) ?_
      refine lv_iload_n hx hb dX12_inHand_32 rfl (lv_at hl 1 rfl) ?_
      refine lv_iload_n hx hb dX12_inHand_33 rfl (lv_at hl 3 rfl) ?_
      refine lv_iconst (v := 1) hx hb dX12_inHand_34 (by decide) ?_
      refine iV (wr := []) hC hK hl hP hD hS hA (m_hoursL l G kq k6 h0 jp nw nk mhasKept nt mtaped nr mrowMany mroundOf mroundFrom nm mfromHour mtoHour ns mfrom mto msort misFault mdeep mcoded mlines nl nc nF np ntr nb mbestCost nso nsi nit nsh nsf nss nrc mtraced mdealer mnumber mwhose msize misParted fnw fnm (hN) (e6) (hk6) (ekq) (hjp) (hkq)) si_X12_167 [0, 1, 2] [] rfl rfl (by decide) rfl (by decide) (by decide) rfl rfl rfl rfl rfl (Nat.le_of_ble_eq_true rfl) ⟨Nat.le_of_ble_eq_true rfl, Nat.le_of_ble_eq_true rfl⟩ ⟨Nat.le_of_ble_eq_true rfl, Nat.le_of_ble_eq_true rfl⟩ dX12_inHand_35 (fun r10680 u10681 H locs hr10680 hP hD hS => ?_)
      obtain ⟨fh110682, th110683⟩ := u10681
      try dsimp only at hr10680
      have hPD : va_PD G A [(h0, .inr (12, [.ref nw, .ref nk, .int mhasKept, .ref nt, .int mtaped, .ref nr, .int mrowMany, .int mroundOf, .int mroundFrom, .int 0, .ref nm, .int fh110682, .int th110683, .ref ns, .int mfrom, .int mto, .int msort, .int misFault, .int mdeep, .int mcoded, .int mlines, .ref nl, .ref nc, .ref nF, .ref np, .ref ntr, .ref nb, .int mbestCost, .ref nso, .ref nsi, .ref nit, .ref nsh, .ref nsf, .ref nss, .ref nrc, .int mtraced, .int mdealer, .int mnumber, .int mwhose, .int msize, .int misParted])), (nw, .inl (G.2.1, 1662, .inl fnw)), (nm, .inl (G.2.1, 36, .inl fnm))] H := And.intro hP hD
      obtain ⟨hP, hD⟩ := hPD
      rcases hr10680 with ⟨rfl, a10684⟩ | ⟨rfl, a10684⟩
      · refine lv_if_ne (tgt := 43) hx hb dX12_inHand_38 (by decide) (fun _ => ?_) (fun c9 => absurd c9 (by decide))
        refine lv_aload_n hx hb dX12_inHand_43 rfl (lv_at hl 0 rfl) ?_
        refine lv_dup hx hb dX12_inHand_44 rfl ?_
        refine gf_X12_164 hC rfl hK hP 0 rfl rfl dX12_inHand_45 ?_
        refine lv_aload_n hx hb dX12_inHand_48 rfl (lv_at hl 0 rfl) ?_
        refine gf_X12_9 hC rfl hK hP 0 rfl rfl dX12_inHand_49 ?_
        refine lv_bipush (v := 12) hx hb dX12_inHand_52 (by decide) ?_
        refine lv_iconst (v := 2) hx hb dX12_inHand_54 (by decide) ?_
        refine lv_iload_n hx hb dX12_inHand_55 rfl (lv_at hl 2 rfl) ?_
        refine lv_imul hx hb dX12_inHand_56 ?_
        refine eqi (x1 := nI (2 * je)) (nI_mul 2 je) ?_
        refine lv_iadd hx hb dX12_inHand_57 ?_
        refine eqi (x1 := nI (12 + 2 * je)) (nI_add 12 (2 * je)) ?_
        refine lv_iconst (v := 1) hx hb dX12_inHand_58 (by decide) ?_
        refine lv_iadd hx hb dX12_inHand_59 ?_
        refine eqi (x1 := nI (12 + 2 * je + 1)) (nI_add (12 + 2 * je) 1) ?_
        refine ald hC hK hP 1 rfl (vp_in_nI (by omega) (by omega)) (k := (12 + 2 * je + 1)) (nI_clamp (by omega)) (v := fnw (12 + 2 * je + 1)) rfl dX12_inHand_60 ?_
        refine lv_iadd hx hb dX12_inHand_61 ?_
        refine pf_X12_164 hC rfl hK hP hD hS 0 (ws' := [(h0, .inr (12, [.ref nw, .ref nk, .int mhasKept, .ref nt, .int mtaped, .ref nr, .int mrowMany, .int mroundOf, .int mroundFrom, .int 0, .ref nm, .int fh110682, .int (th110683 + (fnw (12 + 2 * je + 1))), .ref ns, .int mfrom, .int mto, .int msort, .int misFault, .int mdeep, .int mcoded, .int mlines, .ref nl, .ref nc, .ref nF, .ref np, .ref ntr, .ref nb, .int mbestCost, .ref nso, .ref nsi, .ref nit, .ref nsh, .ref nsf, .ref nss, .ref nrc, .int mtraced, .int mdealer, .int mnumber, .int mwhose, .int msize, .int misParted])), (nw, .inl (G.2.1, 1662, .inl fnw)), (nm, .inl (G.2.1, 36, .inl fnm))]) rfl (Nat.le_of_ble_eq_true rfl) rfl rfl rfl dX12_inHand_62 (fun H locs hP hD hS => ?_)
        refine lv_iconst (v := 1) hx hb dX12_inHand_65 (by decide) ?_
        exact RI (v := 1) hC hP hD hS [0, 1, 2] (fh110682, th110683 + (fnw (12 + 2 * je + 1))) rfl rfl (by decide) (Or.inl ⟨rfl, Or.inr ⟨c_7_10675, a10679, Exists.imp (fun s9 h9 => ⟨h9.1, h9.2.1, h9.2.2.1, congrArg (fun z9 => z9 + fnw (12 + 2 * je + 1)) h9.2.2.2⟩) a10684⟩⟩) (by decide +kernel) dX12_inHand_66
      · refine lv_if_ne (tgt := 43) hx hb dX12_inHand_38 (by decide) (fun c9 => absurd (by decide) c9) (fun _ => ?_)
        refine lv_iconst (v := 0) hx hb dX12_inHand_41 (by decide) ?_
        exact RI (v := 0) hC hP hD hS [0, 1, 2] (fh110682, th110683) rfl rfl (by decide) (Or.inr ⟨rfl, Or.inl a10684⟩) (by decide +kernel) dX12_inHand_42
    · refine lv_if_eq (tgt := 41) hx hb dX12_inHand_28 (by decide) (fun _ => ?_) (fun c9 => absurd (by decide) c9)
      refine lv_iconst (v := 0) hx hb dX12_inHand_41 (by decide) ?_
      exact RI (v := 0) hC hP hD hS [0, 1, 2] (mfromHour, mtoHour) rfl rfl (by decide) (Or.inr ⟨rfl, Or.inr ⟨c_7_10675, a10679⟩⟩) (by decide +kernel) dX12_inHand_42
  · refine lv_aload_n hx hb dX12_inHand_10 rfl (lv_at hl 0 rfl) ?_
    refine lv_iload_n hx hb dX12_inHand_11 rfl (lv_at hl 1 rfl) ?_
    refine lv_iload_n hx hb dX12_inHand_12 rfl (lv_at hl 3 rfl) ?_
    refine lv_iconst (v := 0) hx hb dX12_inHand_13 (by decide) ?_
    refine iV (wr := []) hC hK hl hP hD hS hA (m_hoursF l G kq k6 h0 jp nw nk mhasKept nt mtaped nr mrowMany mroundOf mroundFrom nm mfromHour mtoHour ns mfrom mto msort misFault mdeep mcoded mlines nl nc nF np ntr nb mbestCost nso nsi nit nsh nsf nss nrc mtraced mdealer mnumber mwhose msize misParted fnw fnm (hN) (e6) (hk6) (ekq) (hjp) (hkq)) si_X12_167 [0, 1, 2] [] rfl rfl (by decide) rfl (by decide) (by decide) rfl rfl rfl rfl rfl (Nat.le_of_ble_eq_true rfl) ⟨Nat.le_of_ble_eq_true rfl, Nat.le_of_ble_eq_true rfl⟩ ⟨Nat.le_of_ble_eq_true rfl, Nat.le_of_ble_eq_true rfl⟩ dX12_inHand_14 (fun r10685 u10686 H locs hr10685 hP hD hS => ?_)
    obtain ⟨fh110687, th110688⟩ := u10686
    try dsimp only at hr10685
    have hPD : va_PD G A [(h0, .inr (12, [.ref nw, .ref nk, .int mhasKept, .ref nt, .int mtaped, .ref nr, .int mrowMany, .int mroundOf, .int mroundFrom, .int 0, .ref nm, .int fh110687, .int th110688, .ref ns, .int mfrom, .int mto, .int msort, .int misFault, .int mdeep, .int mcoded, .int mlines, .ref nl, .ref nc, .ref nF, .ref np, .ref ntr, .ref nb, .int mbestCost, .ref nso, .ref nsi, .ref nit, .ref nsh, .ref nsf, .ref nss, .ref nrc, .int mtraced, .int mdealer, .int mnumber, .int mwhose, .int msize, .int misParted])), (nw, .inl (G.2.1, 1662, .inl fnw)), (nm, .inl (G.2.1, 36, .inl fnm))] H := And.intro hP hD
    obtain ⟨hP, hD⟩ := hPD
    rcases hr10685 with ⟨rfl, a10689⟩ | ⟨rfl, a10689⟩
    · exact RI (v := 1) hC hP hD hS [0, 1, 2] (fh110687, th110688) rfl rfl (by decide) (Or.inl ⟨rfl, Or.inl ⟨c_7_10675, a10689⟩⟩) (by decide +kernel) dX12_inHand_17
    · exact RI (v := 0) hC hP hD hS [0, 1, 2] (fh110687, th110688) rfl rfl (by decide) (Or.inr ⟨rfl, Or.inl a10689⟩) (by decide +kernel) dX12_inHand_17
set_option maxHeartbeats 4000000 in
set_option maxRecDepth 100000 in
theorem r_handT (l : Launch) (G : GG) (kq : Nat) (k6 : Nat) (kp : Nat) (h0 : Nat) (x1 : Int32) (x2 : Int32) (x3 : Int32) (nw : Nat) (nk : Nat) (mhasKept : Int32) (nt : Nat) (mtaped : Int32) (nr : Nat) (mrowMany : Int32) (mroundOf : Int32) (mroundFrom : Int32) (nm : Nat) (mfromHour : Int32) (mtoHour : Int32) (ns : Nat) (mfrom : Int32) (mto : Int32) (msort : Int32) (misFault : Int32) (mdeep : Int32) (mcoded : Int32) (mlines : Int32) (nl : Nat) (nc : Nat) (nF : Nat) (np : Nat) (ntr : Nat) (nb : Nat) (mbestCost : Int32) (nso : Nat) (nsi : Nat) (nit : Nat) (nsh : Nat) (nsf : Nat) (nss : Nat) (nrc : Nat) (mtraced : Int32) (mdealer : Int32) (mnumber : Int32) (mwhose : Int32) (msize : Int32) (misParted : Int32) (fnw : Nat → Int32) (fnm : Nat → Int32) (hM : MB fnm) (hN : NI fnw) (hgp : GPRm (fnw 3)) (ekq : fnw 5 = nI kq) (hkq : kq ≤ 12) (e6 : fnw 6 = nI k6) (hk6 : k6 ≤ 24) (ekp : fnw 4 = nI kp) (hkp : kp ≤ 10) : MI l G yX12_hand cX12_hand 4 (some .int) 6 0 0 [.ref h0, .int x1, .int x2, .int x3] [(h0, .inr (12, [.ref nw, .ref nk, .int mhasKept, .ref nt, .int mtaped, .ref nr, .int mrowMany, .int mroundOf, .int mroundFrom, .int 0, .ref nm, .int mfromHour, .int mtoHour, .ref ns, .int mfrom, .int mto, .int msort, .int misFault, .int mdeep, .int mcoded, .int mlines, .ref nl, .ref nc, .ref nF, .ref np, .ref ntr, .ref nb, .int mbestCost, .ref nso, .ref nsi, .ref nit, .ref nsh, .ref nsf, .ref nss, .ref nrc, .int mtraced, .int mdealer, .int mnumber, .int mwhose, .int msize, .int misParted])), (nw, .inl (G.2.1, 1662, .inl fnw)), (nm, .inl (G.2.1, 36, .inl fnm))] (fun (r : Int32) (u : Int32 × Int32 × (Nat → Int32)) => (∃ s9, (HNQ (KST (shf fnw 104) (VSE fnw kq) (fnw 3).toInt k6) (shf fnw 104) (VSE fnw kq) (shf fnw 32) (shf fnw 12) k6 kq kp x1 x2 x3 s9) ∧ r = s9) ∧ (MB u.2.2)) (fun u : Int32 × Int32 × (Nat → Int32) => [(h0, .inr (12, [.ref nw, .ref nk, .int mhasKept, .ref nt, .int mtaped, .ref nr, .int mrowMany, .int mroundOf, .int mroundFrom, .int 0, .ref nm, .int u.1, .int u.2.1, .ref ns, .int mfrom, .int mto, .int msort, .int misFault, .int mdeep, .int mcoded, .int mlines, .ref nl, .ref nc, .ref nF, .ref np, .ref ntr, .ref nb, .int mbestCost, .ref nso, .ref nsi, .ref nit, .ref nsh, .ref nsf, .ref nss, .ref nrc, .int mtraced, .int mdealer, .int mnumber, .int mwhose, .int msize, .int misParted])), (nw, .inl (G.2.1, 1662, .inl fnw)), (nm, .inl (G.2.1, 36, .inl u.2.2))]) := by
  refine MI.start (by decide +kernel) (Nat.le_of_ble_eq_true rfl) ?_
  intro p e s m below meth c A ls hC hK hP hD hS hA hl
  have hl : lv_has ls 4 [(0, .ref h0), (1, .int x1), (2, .int x2), (3, .int x3)] := hl
  obtain ⟨hx, hb, hr, hml, hB, hown, hlocks, hnm⟩ := id hC
  refine lv_aload_n hx hb dX12_hand_0 rfl (lv_at hl 0 rfl) ?_
  refine lv_iload_n hx hb dX12_hand_1 rfl (lv_at hl 1 rfl) ?_
  refine lv_iconst (v := 5) hx hb dX12_hand_2 (by decide) ?_
  refine pV hC hK hl hP hD (m_is l G kq h0 x1 5 nw nk mhasKept nt mtaped nr mrowMany mroundOf mroundFrom 0 nm mfromHour mtoHour ns mfrom mto msort misFault mdeep mcoded mlines nl nc nF np ntr nb mbestCost nso nsi nit nsh nsf nss nrc mtraced mdealer mnumber mwhose msize misParted fnw (by omega) (ekq) (by omega)) si_X12_120 [0, 1] rfl rfl (by decide) rfl rfl rfl rfl rfl (Nat.le_of_ble_eq_true rfl) ⟨Nat.le_of_ble_eq_true rfl, Nat.le_of_ble_eq_true rfl⟩ ⟨by first | exact Nat.le_of_ble_eq_true rfl | exact Nat.zero_le _, by first | exact Nat.le_of_ble_eq_true rfl | exact Nat.zero_le _⟩ dX12_hand_3 (fun r10690 hr10690 => ?_)
  rcases hr10690 with ⟨rfl, a10691⟩ | ⟨rfl, a10691⟩
  · refine lv_if_eq (tgt := 18) hx hb dX12_hand_6 (by decide) (fun c9 => absurd c9 (by decide)) (fun _ => ?_)
    refine lv_aload_n hx hb dX12_hand_9 rfl (lv_at hl 0 rfl) ?_
    refine lv_iload_n hx hb dX12_hand_10 rfl (lv_at hl 2 rfl) ?_
    refine lv_iconst (v := 4) hx hb dX12_hand_11 (by decide) ?_
    refine pV hC hK hl hP hD (m_is l G kp h0 x2 4 nw nk mhasKept nt mtaped nr mrowMany mroundOf mroundFrom 0 nm mfromHour mtoHour ns mfrom mto msort misFault mdeep mcoded mlines nl nc nF np ntr nb mbestCost nso nsi nit nsh nsf nss nrc mtraced mdealer mnumber mwhose msize misParted fnw (by omega) (ekp) (by omega)) si_X12_120 [0, 1] rfl rfl (by decide) rfl rfl rfl rfl rfl (Nat.le_of_ble_eq_true rfl) ⟨Nat.le_of_ble_eq_true rfl, Nat.le_of_ble_eq_true rfl⟩ ⟨by first | exact Nat.le_of_ble_eq_true rfl | exact Nat.zero_le _, by first | exact Nat.le_of_ble_eq_true rfl | exact Nat.zero_le _⟩ dX12_hand_12 (fun r10692 hr10692 => ?_)
    rcases hr10692 with ⟨rfl, a10693⟩ | ⟨rfl, a10693⟩
    · refine lv_if_ne (tgt := 20) hx hb dX12_hand_15 (by decide) (fun _ => ?_) (fun c9 => absurd c9 (by decide))
      obtain ⟨jp, hjp, rfl⟩ := Hs_nat (by omega) a10691
      obtain ⟨je, hje, rfl⟩ := Hs_nat (by omega) a10693
      refine lv_aload_n hx hb dX12_hand_20 rfl (lv_at hl 0 rfl) ?_
      refine lv_iload_n hx hb dX12_hand_21 rfl (lv_at hl 1 rfl) ?_
      refine lv_iload_n hx hb dX12_hand_22 rfl (lv_at hl 2 rfl) ?_
      refine lv_aload_n hx hb dX12_hand_23 rfl (lv_at hl 0 rfl) ?_
      refine iV (wr := []) hC hK hl hP hD hS hA (m_findClocksX l G kq k6 h0 nw nk mhasKept nt mtaped nr mrowMany mroundOf mroundFrom nm mfromHour mtoHour ns mfrom mto msort misFault mdeep mcoded mlines nl nc nF np ntr nb mbestCost nso nsi nit nsh nsf nss nrc mtraced mdealer mnumber mwhose msize misParted fnw fnm (hN) (hgp) (ekq) (hkq) (e6) (hk6)) si_X12_148 [0, 1, 2] [] rfl rfl (by decide) rfl (by decide) (by decide) rfl rfl rfl rfl rfl (Nat.le_of_ble_eq_true rfl) ⟨Nat.le_of_ble_eq_true rfl, Nat.le_of_ble_eq_true rfl⟩ ⟨Nat.le_of_ble_eq_true rfl, Nat.le_of_ble_eq_true rfl⟩ dX12_hand_24 (fun r10694 u10695 H locs hr10694 hP hD hS => ?_)
      obtain ⟨gnm10696, rfl⟩ : ∃ z9, z9 = u10695 := ⟨_, rfl⟩
      try dsimp only at hr10694
      have hPD : va_PD G A [(h0, .inr (12, [.ref nw, .ref nk, .int mhasKept, .ref nt, .int mtaped, .ref nr, .int mrowMany, .int mroundOf, .int mroundFrom, .int 0, .ref nm, .int mfromHour, .int mtoHour, .ref ns, .int mfrom, .int mto, .int msort, .int misFault, .int mdeep, .int mcoded, .int mlines, .ref nl, .ref nc, .ref nF, .ref np, .ref ntr, .ref nb, .int mbestCost, .ref nso, .ref nsi, .ref nit, .ref nsh, .ref nsf, .ref nss, .ref nrc, .int mtraced, .int mdealer, .int mnumber, .int mwhose, .int msize, .int misParted])), (nw, .inl (G.2.1, 1662, .inl fnw)), (nm, .inl (G.2.1, 36, .inl gnm10696))] H := And.intro hP hD
      obtain ⟨hP, hD⟩ := hPD
      obtain ⟨hr10694, w10697⟩ := hr10694
      rcases hr10694 with ⟨rfl, a10698⟩ | ⟨rfl, a10698⟩
      · refine pV hC hK hl hP hD (m_inHandC l G k6 h0 jp je nw nk mhasKept nt mtaped nr mrowMany mroundOf mroundFrom 0 nm mfromHour mtoHour ns mfrom mto msort misFault mdeep mcoded mlines nl nc nF np ntr nb mbestCost nso nsi nit nsh nsf nss nrc mtraced mdealer mnumber mwhose msize misParted fnw (e6) (hk6) (by omega)) si_X12_171 [0, 1] rfl rfl (by decide) rfl rfl rfl rfl rfl (Nat.le_of_ble_eq_true rfl) ⟨Nat.le_of_ble_eq_true rfl, Nat.le_of_ble_eq_true rfl⟩ ⟨by first | exact Nat.le_of_ble_eq_true rfl | exact Nat.zero_le _, by first | exact Nat.le_of_ble_eq_true rfl | exact Nat.zero_le _⟩ dX12_hand_27 (fun r10699 hr10699 => ?_)
        obtain rfl := hr10699
        refine lv_if_ne (tgt := 38) hx hb dX12_hand_30 (by decide) (fun c9 => absurd (by decide) c9) (fun _ => ?_)
        refine lv_bipush (v := (-3)) hx hb dX12_hand_33 (by decide) ?_
        refine lv_goto (tgt := 57) hx hb dX12_hand_35 (by decide) ?_
        exact RI (v := (-3)) hC hP hD hS [0, 1, 2] (mfromHour, mtoHour, gnm10696) rfl rfl (by decide) (⟨⟨(-3), Or.inr ⟨jp, je, hjp, hje, rfl, rfl, HAQ.re (HAQ.nn (Or.inl a10698))⟩, rfl⟩, by first | assumption | exact hM⟩) rfl dX12_hand_57
      · refine iV (wr := []) hC hK hl hP hD hS hA (m_inHandL l G kq k6 h0 jp je nw nk mhasKept nt mtaped nr mrowMany mroundOf mroundFrom nm mfromHour mtoHour ns mfrom mto msort misFault mdeep mcoded mlines nl nc nF np ntr nb mbestCost nso nsi nit nsh nsf nss nrc mtraced mdealer mnumber mwhose msize misParted fnw gnm10696 (hN) (e6) (hk6) (ekq) (by omega) (hkq) (by omega)) si_X12_171 [0, 1, 2] [] rfl rfl (by decide) rfl (by decide) (by decide) rfl rfl rfl rfl rfl (Nat.le_of_ble_eq_true rfl) ⟨Nat.le_of_ble_eq_true rfl, Nat.le_of_ble_eq_true rfl⟩ ⟨Nat.le_of_ble_eq_true rfl, Nat.le_of_ble_eq_true rfl⟩ dX12_hand_27 (fun r10701 u10702 H locs hr10701 hP hD hS => ?_)
        obtain ⟨fh110703, th110704⟩ := u10702
        try dsimp only at hr10701
        have hPD : va_PD G A [(h0, .inr (12, [.ref nw, .ref nk, .int mhasKept, .ref nt, .int mtaped, .ref nr, .int mrowMany, .int mroundOf, .int mroundFrom, .int 0, .ref nm, .int fh110703, .int th110704, .ref ns, .int mfrom, .int mto, .int msort, .int misFault, .int mdeep, .int mcoded, .int mlines, .ref nl, .ref nc, .ref nF, .ref np, .ref ntr, .ref nb, .int mbestCost, .ref nso, .ref nsi, .ref nit, .ref nsh, .ref nsf, .ref nss, .ref nrc, .int mtraced, .int mdealer, .int mnumber, .int mwhose, .int msize, .int misParted])), (nw, .inl (G.2.1, 1662, .inl fnw)), (nm, .inl (G.2.1, 36, .inl gnm10696))] H := And.intro hP hD
        obtain ⟨hP, hD⟩ := hPD
        rcases hr10701 with ⟨rfl, a10705⟩ | ⟨rfl, a10705⟩
        · refine lv_if_ne (tgt := 38) hx hb dX12_hand_30 (by decide) (fun _ => ?_) (fun c9 => absurd c9 (by decide))
          refine lv_sipush (v := 1000) hx hb dX12_hand_38 (by decide) ?_
          refine lv_iload_n hx hb dX12_hand_41 rfl (lv_at hl 3 rfl) ?_
          refine lv_if_eq (tgt := 52) hx hb dX12_hand_42 (by decide) (fun c_42_10706 => ?_) (fun c_42_10706 => ?_)
          · refine lv_aload_n hx hb dX12_hand_52 rfl (lv_at hl 0 rfl) ?_
            refine gf_X12_161 hC rfl hK hP 0 rfl rfl dX12_hand_53 ?_
            refine lv_iadd hx hb dX12_hand_56 ?_
            exact RI (v := 1000 + fh110703) hC hP hD hS [0, 1, 2] (fh110703, th110704, gnm10696) rfl rfl (by decide) (⟨⟨1000 + fh110703, Or.inr ⟨jp, je, hjp, hje, rfl, rfl, HAQ.re (a10705.elim (fun h9 => HAQ.ra a10698 h9 (Or.inl ⟨c_42_10706, rfl⟩)) (fun h9 => HAQ.rb (by omega) a10698 h9 (Or.inl ⟨c_42_10706, rfl⟩)))⟩, rfl⟩, by first | assumption | exact hM⟩) rfl dX12_hand_57
          · refine lv_aload_n hx hb dX12_hand_45 rfl (lv_at hl 0 rfl) ?_
            refine gf_X12_164 hC rfl hK hP 0 rfl rfl dX12_hand_46 ?_
            refine lv_goto (tgt := 56) hx hb dX12_hand_49 (by decide) ?_
            refine lv_iadd hx hb dX12_hand_56 ?_
            exact RI (v := 1000 + th110704) hC hP hD hS [0, 1, 2] (fh110703, th110704, gnm10696) rfl rfl (by decide) (⟨⟨1000 + th110704, Or.inr ⟨jp, je, hjp, hje, rfl, rfl, HAQ.re (a10705.elim (fun h9 => HAQ.ra a10698 h9 (Or.inr ⟨c_42_10706, rfl⟩)) (fun h9 => HAQ.rb (by omega) a10698 h9 (Or.inr ⟨c_42_10706, rfl⟩)))⟩, rfl⟩, by first | assumption | exact hM⟩) rfl dX12_hand_57
        · refine lv_if_ne (tgt := 38) hx hb dX12_hand_30 (by decide) (fun c9 => absurd (by decide) c9) (fun _ => ?_)
          refine lv_bipush (v := (-3)) hx hb dX12_hand_33 (by decide) ?_
          refine lv_goto (tgt := 57) hx hb dX12_hand_35 (by decide) ?_
          exact RI (v := (-3)) hC hP hD hS [0, 1, 2] (fh110703, th110704, gnm10696) rfl rfl (by decide) (⟨⟨(-3), Or.inr ⟨jp, je, hjp, hje, rfl, rfl, HAQ.re (HAQ.rn (by omega) a10705)⟩, rfl⟩, by first | assumption | exact hM⟩) rfl dX12_hand_57
    · refine lv_if_ne (tgt := 20) hx hb dX12_hand_15 (by decide) (fun c9 => absurd (by decide) c9) (fun _ => ?_)
      refine lv_iconst (v := (-1)) hx hb dX12_hand_18 (by decide) ?_
      exact RI (v := (-1)) hC hP hD hS [0, 1, 2] (mfromHour, mtoHour, fnm) rfl rfl (by decide) (⟨⟨(-1), Or.inl ⟨fun h9 => a10693 h9.2, rfl⟩, rfl⟩, by first | assumption | exact hM⟩) rfl dX12_hand_19
  · refine lv_if_eq (tgt := 18) hx hb dX12_hand_6 (by decide) (fun _ => ?_) (fun c9 => absurd (by decide) c9)
    refine lv_iconst (v := (-1)) hx hb dX12_hand_18 (by decide) ?_
    exact RI (v := (-1)) hC hP hD hS [0, 1, 2] (mfromHour, mtoHour, fnm) rfl rfl (by decide) (⟨⟨(-1), Or.inl ⟨fun h9 => a10691 h9.1, rfl⟩, rfl⟩, by first | assumption | exact hM⟩) rfl dX12_hand_19
set_option maxHeartbeats 4000000 in
set_option maxRecDepth 100000 in
theorem r_beforeT (l : Launch) (G : GG) (kq : Nat) (k6 : Nat) (h0 : Nat) (x1 : Int32) (x2 : Int32) (nw : Nat) (nk : Nat) (mhasKept : Int32) (nt : Nat) (mtaped : Int32) (nr : Nat) (mrowMany : Int32) (mroundOf : Int32) (mroundFrom : Int32) (nm : Nat) (mfromHour : Int32) (mtoHour : Int32) (ns : Nat) (mfrom : Int32) (mto : Int32) (msort : Int32) (misFault : Int32) (mdeep : Int32) (mcoded : Int32) (mlines : Int32) (nl : Nat) (nc : Nat) (nF : Nat) (np : Nat) (ntr : Nat) (nb : Nat) (mbestCost : Int32) (nso : Nat) (nsi : Nat) (nit : Nat) (nsh : Nat) (nsf : Nat) (nss : Nat) (nrc : Nat) (mtraced : Int32) (mdealer : Int32) (mnumber : Int32) (mwhose : Int32) (msize : Int32) (misParted : Int32) (fnw : Nat → Int32) (fnm : Nat → Int32) (hM : MB fnm) (hN : NI fnw) (hgp : GPRm (fnw 3)) (ekq : fnw 5 = nI kq) (hkq : kq ≤ 12) (e6 : fnw 6 = nI k6) (hk6 : k6 ≤ 24) : MI l G yX12_before cX12_before 9 (some .int) 6 0 0 [.ref h0, .int x1, .int x2] [(h0, .inr (12, [.ref nw, .ref nk, .int mhasKept, .ref nt, .int mtaped, .ref nr, .int mrowMany, .int mroundOf, .int mroundFrom, .int 0, .ref nm, .int mfromHour, .int mtoHour, .ref ns, .int mfrom, .int mto, .int msort, .int misFault, .int mdeep, .int mcoded, .int mlines, .ref nl, .ref nc, .ref nF, .ref np, .ref ntr, .ref nb, .int mbestCost, .ref nso, .ref nsi, .ref nit, .ref nsh, .ref nsf, .ref nss, .ref nrc, .int mtraced, .int mdealer, .int mnumber, .int mwhose, .int msize, .int misParted])), (nw, .inl (G.2.1, 1662, .inl fnw)), (nm, .inl (G.2.1, 36, .inl fnm))] (fun (r : Int32) (u : Int32 × Int32 × (Nat → Int32)) => (∃ s9, (BFQ (KST (shf fnw 104) (VSE fnw kq) (fnw 3).toInt k6) (shf fnw 104) (VSE fnw kq) k6 kq x1 x2 s9) ∧ r = s9) ∧ (MB u.2.2)) (fun u : Int32 × Int32 × (Nat → Int32) => [(h0, .inr (12, [.ref nw, .ref nk, .int mhasKept, .ref nt, .int mtaped, .ref nr, .int mrowMany, .int mroundOf, .int mroundFrom, .int 0, .ref nm, .int u.1, .int u.2.1, .ref ns, .int mfrom, .int mto, .int msort, .int misFault, .int mdeep, .int mcoded, .int mlines, .ref nl, .ref nc, .ref nF, .ref np, .ref ntr, .ref nb, .int mbestCost, .ref nso, .ref nsi, .ref nit, .ref nsh, .ref nsf, .ref nss, .ref nrc, .int mtraced, .int mdealer, .int mnumber, .int mwhose, .int msize, .int misParted])), (nw, .inl (G.2.1, 1662, .inl fnw)), (nm, .inl (G.2.1, 36, .inl u.2.2))]) := by
  refine MI.start (by decide +kernel) (Nat.le_of_ble_eq_true rfl) ?_
  intro p e s m below meth c A ls hC hK hP hD hS hA hl
  have hl : lv_has ls 9 [(0, .ref h0), (1, .int x1), (2, .int x2)] := hl
  obtain ⟨hx, hb, hr, hml, hB, hown, hlocks, hnm⟩ := id hC
  refine lv_aload_n hx hb dX12_before_0 rfl (lv_at hl 0 rfl) ?_
  refine lv_iload_n hx hb dX12_before_1 rfl (lv_at hl 1 rfl) ?_
  refine lv_iconst (v := 5) hx hb dX12_before_2 (by decide) ?_
  refine pV hC hK hl hP hD (m_is l G kq h0 x1 5 nw nk mhasKept nt mtaped nr mrowMany mroundOf mroundFrom 0 nm mfromHour mtoHour ns mfrom mto msort misFault mdeep mcoded mlines nl nc nF np ntr nb mbestCost nso nsi nit nsh nsf nss nrc mtraced mdealer mnumber mwhose msize misParted fnw (by omega) (ekq) (by omega)) si_X12_120 [0, 1] rfl rfl (by decide) rfl rfl rfl rfl rfl (Nat.le_of_ble_eq_true rfl) ⟨Nat.le_of_ble_eq_true rfl, Nat.le_of_ble_eq_true rfl⟩ ⟨by first | exact Nat.le_of_ble_eq_true rfl | exact Nat.zero_le _, by first | exact Nat.le_of_ble_eq_true rfl | exact Nat.zero_le _⟩ dX12_before_3 (fun r10707 hr10707 => ?_)
  rcases hr10707 with ⟨rfl, a10708⟩ | ⟨rfl, a10708⟩
  · refine lv_if_eq (tgt := 23) hx hb dX12_before_6 (by decide) (fun c9 => absurd c9 (by decide)) (fun _ => ?_)
    refine lv_aload_n hx hb dX12_before_9 rfl (lv_at hl 0 rfl) ?_
    refine lv_iload_n hx hb dX12_before_10 rfl (lv_at hl 2 rfl) ?_
    refine lv_iconst (v := 5) hx hb dX12_before_11 (by decide) ?_
    refine pV hC hK hl hP hD (m_is l G kq h0 x2 5 nw nk mhasKept nt mtaped nr mrowMany mroundOf mroundFrom 0 nm mfromHour mtoHour ns mfrom mto msort misFault mdeep mcoded mlines nl nc nF np ntr nb mbestCost nso nsi nit nsh nsf nss nrc mtraced mdealer mnumber mwhose msize misParted fnw (by omega) (ekq) (by omega)) si_X12_120 [0, 1] rfl rfl (by decide) rfl rfl rfl rfl rfl (Nat.le_of_ble_eq_true rfl) ⟨Nat.le_of_ble_eq_true rfl, Nat.le_of_ble_eq_true rfl⟩ ⟨by first | exact Nat.le_of_ble_eq_true rfl | exact Nat.zero_le _, by first | exact Nat.le_of_ble_eq_true rfl | exact Nat.zero_le _⟩ dX12_before_12 (fun r10709 hr10709 => ?_)
    rcases hr10709 with ⟨rfl, a10710⟩ | ⟨rfl, a10710⟩
    · refine lv_if_eq (tgt := 23) hx hb dX12_before_15 (by decide) (fun c9 => absurd c9 (by decide)) (fun _ => ?_)
      refine lv_iload_n hx hb dX12_before_18 rfl (lv_at hl 1 rfl) ?_
      refine lv_iload_n hx hb dX12_before_19 rfl (lv_at hl 2 rfl) ?_
      refine lv_icmp_ne (tgt := 25) hx hb dX12_before_20 (by decide) (fun c_20_10711 => ?_) (fun c_20_10711 => ?_)
      · obtain ⟨jp, hjp, rfl⟩ := Hs_nat (by omega) a10708
        obtain ⟨jo, hjo, rfl⟩ := Hs_nat (by omega) a10710
        refine lv_aload_n hx hb dX12_before_25 rfl (lv_at hl 0 rfl) ?_
        refine iV (wr := []) hC hK hl hP hD hS hA (m_findClocksX l G kq k6 h0 nw nk mhasKept nt mtaped nr mrowMany mroundOf mroundFrom nm mfromHour mtoHour ns mfrom mto msort misFault mdeep mcoded mlines nl nc nF np ntr nb mbestCost nso nsi nit nsh nsf nss nrc mtraced mdealer mnumber mwhose msize misParted fnw fnm (hN) (hgp) (ekq) (hkq) (e6) (hk6)) si_X12_148 [0, 1, 2] [] rfl rfl (by decide) rfl (by decide) (by decide) rfl rfl rfl rfl rfl (Nat.le_of_ble_eq_true rfl) ⟨Nat.le_of_ble_eq_true rfl, Nat.le_of_ble_eq_true rfl⟩ ⟨Nat.le_of_ble_eq_true rfl, Nat.le_of_ble_eq_true rfl⟩ dX12_before_26 (fun r10712 u10713 H locs hr10712 hP hD hS => ?_)
        obtain ⟨gnm10714, rfl⟩ : ∃ z9, z9 = u10713 := ⟨_, rfl⟩
        try dsimp only at hr10712
        have hPD : va_PD G A [(h0, .inr (12, [.ref nw, .ref nk, .int mhasKept, .ref nt, .int mtaped, .ref nr, .int mrowMany, .int mroundOf, .int mroundFrom, .int 0, .ref nm, .int mfromHour, .int mtoHour, .ref ns, .int mfrom, .int mto, .int msort, .int misFault, .int mdeep, .int mcoded, .int mlines, .ref nl, .ref nc, .ref nF, .ref np, .ref ntr, .ref nb, .int mbestCost, .ref nso, .ref nsi, .ref nit, .ref nsh, .ref nsf, .ref nss, .ref nrc, .int mtraced, .int mdealer, .int mnumber, .int mwhose, .int msize, .int misParted])), (nw, .inl (G.2.1, 1662, .inl fnw)), (nm, .inl (G.2.1, 36, .inl gnm10714))] H := And.intro hP hD
        obtain ⟨hP, hD⟩ := hPD
        obtain ⟨hr10712, w10715⟩ := hr10712
        rcases hr10712 with ⟨rfl, a10716⟩ | ⟨rfl, a10716⟩
        · refine lv_istore_n (lv' := [(3, .int 1), (0, .ref h0), (1, .int (nI jp)), (2, .int (nI jo))]) hx hb dX12_before_29 rfl hl (by decide) rfl (fun ls hl => ?_)
          refine lv_aload_n hx hb dX12_before_30 rfl (lv_at hl 1 rfl) ?_
          refine lv_iload_n hx hb dX12_before_31 rfl (lv_at hl 2 rfl) ?_
          refine lv_iload_n hx hb dX12_before_32 rfl (lv_at hl 0 rfl) ?_
          refine lv_iconst (v := 1) hx hb dX12_before_33 (by decide) ?_
          refine pV hC hK hl hP hD (m_hoursC l G k6 h0 jp 1 nw nk mhasKept nt mtaped nr mrowMany mroundOf mroundFrom 0 nm mfromHour mtoHour ns mfrom mto msort misFault mdeep mcoded mlines nl nc nF np ntr nb mbestCost nso nsi nit nsh nsf nss nrc mtraced mdealer mnumber mwhose msize misParted fnw (e6) (hk6) (by omega)) si_X12_167 [0, 1] rfl rfl (by decide) rfl rfl rfl rfl rfl (Nat.le_of_ble_eq_true rfl) ⟨Nat.le_of_ble_eq_true rfl, Nat.le_of_ble_eq_true rfl⟩ ⟨by first | exact Nat.le_of_ble_eq_true rfl | exact Nat.zero_le _, by first | exact Nat.le_of_ble_eq_true rfl | exact Nat.zero_le _⟩ dX12_before_34 (fun r10717 hr10717 => ?_)
          obtain rfl := hr10717
          refine lv_if_eq (tgt := 50) hx hb dX12_before_37 (by decide) (fun _ => ?_) (fun c9 => absurd (by decide) c9)
          refine lv_bipush (v := (-3)) hx hb dX12_before_50 (by decide) ?_
          exact RI (v := (-3)) hC hP hD hS [0, 1, 2] (mfromHour, mtoHour, gnm10714) rfl rfl (by decide) (⟨⟨(-3), Or.inr ⟨jp, jo, hjp, hjo, rfl, rfl, fun h9 => c_20_10711 (congrArg nI h9), Or.inl ⟨Or.inl a10716, rfl⟩⟩, rfl⟩, by first | assumption | exact hM⟩) rfl dX12_before_52
        · refine lv_istore_n (lv' := [(3, .int 0), (0, .ref h0), (1, .int (nI jp)), (2, .int (nI jo))]) hx hb dX12_before_29 rfl hl (by decide) rfl (fun ls hl => ?_)
          refine lv_aload_n hx hb dX12_before_30 rfl (lv_at hl 1 rfl) ?_
          refine lv_iload_n hx hb dX12_before_31 rfl (lv_at hl 2 rfl) ?_
          refine lv_iload_n hx hb dX12_before_32 rfl (lv_at hl 0 rfl) ?_
          refine lv_iconst (v := 1) hx hb dX12_before_33 (by decide) ?_
          refine iV (wr := []) hC hK hl hP hD hS hA (m_hoursL l G kq k6 h0 jp nw nk mhasKept nt mtaped nr mrowMany mroundOf mroundFrom nm mfromHour mtoHour ns mfrom mto msort misFault mdeep mcoded mlines nl nc nF np ntr nb mbestCost nso nsi nit nsh nsf nss nrc mtraced mdealer mnumber mwhose msize misParted fnw gnm10714 (hN) (e6) (hk6) (ekq) (by omega) (hkq)) si_X12_167 [0, 1, 2] [] rfl rfl (by decide) rfl (by decide) (by decide) rfl rfl rfl rfl rfl (Nat.le_of_ble_eq_true rfl) ⟨Nat.le_of_ble_eq_true rfl, Nat.le_of_ble_eq_true rfl⟩ ⟨Nat.le_of_ble_eq_true rfl, Nat.le_of_ble_eq_true rfl⟩ dX12_before_34 (fun r10719 u10720 H locs hr10719 hP hD hS => ?_)
          obtain ⟨fh110721, th110722⟩ := u10720
          try dsimp only at hr10719
          have hPD : va_PD G A [(h0, .inr (12, [.ref nw, .ref nk, .int mhasKept, .ref nt, .int mtaped, .ref nr, .int mrowMany, .int mroundOf, .int mroundFrom, .int 0, .ref nm, .int fh110721, .int th110722, .ref ns, .int mfrom, .int mto, .int msort, .int misFault, .int mdeep, .int mcoded, .int mlines, .ref nl, .ref nc, .ref nF, .ref np, .ref ntr, .ref nb, .int mbestCost, .ref nso, .ref nsi, .ref nit, .ref nsh, .ref nsf, .ref nss, .ref nrc, .int mtraced, .int mdealer, .int mnumber, .int mwhose, .int msize, .int misParted])), (nw, .inl (G.2.1, 1662, .inl fnw)), (nm, .inl (G.2.1, 36, .inl gnm10714))] H := And.intro hP hD
          obtain ⟨hP, hD⟩ := hPD
          rcases hr10719 with ⟨rfl, a10723⟩ | ⟨rfl, a10723⟩
          · refine lv_if_eq (tgt := 50) hx hb dX12_before_37 (by decide) (fun c9 => absurd c9 (by decide)) (fun _ => ?_)
            refine lv_aload_n hx hb dX12_before_40 rfl (lv_at hl 1 rfl) ?_
            refine lv_iload_n hx hb dX12_before_41 rfl (lv_at hl 3 rfl) ?_
            refine lv_iload_n hx hb dX12_before_42 rfl (lv_at hl 0 rfl) ?_
            refine lv_iconst (v := 1) hx hb dX12_before_43 (by decide) ?_
            refine iV (wr := []) hC hK hl hP hD hS hA (m_hoursL l G kq k6 h0 jo nw nk mhasKept nt mtaped nr mrowMany mroundOf mroundFrom nm fh110721 th110722 ns mfrom mto msort misFault mdeep mcoded mlines nl nc nF np ntr nb mbestCost nso nsi nit nsh nsf nss nrc mtraced mdealer mnumber mwhose msize misParted fnw gnm10714 (hN) (e6) (hk6) (ekq) (by omega) (hkq)) si_X12_167 [0, 1, 2] [] rfl rfl (by decide) rfl (by decide) (by decide) rfl rfl rfl rfl rfl (Nat.le_of_ble_eq_true rfl) ⟨Nat.le_of_ble_eq_true rfl, Nat.le_of_ble_eq_true rfl⟩ ⟨Nat.le_of_ble_eq_true rfl, Nat.le_of_ble_eq_true rfl⟩ dX12_before_44 (fun r10724 u10725 H locs hr10724 hP hD hS => ?_)
            obtain ⟨fh110726, th110727⟩ := u10725
            try dsimp only at hr10724
            have hPD : va_PD G A [(h0, .inr (12, [.ref nw, .ref nk, .int mhasKept, .ref nt, .int mtaped, .ref nr, .int mrowMany, .int mroundOf, .int mroundFrom, .int 0, .ref nm, .int fh110726, .int th110727, .ref ns, .int mfrom, .int mto, .int msort, .int misFault, .int mdeep, .int mcoded, .int mlines, .ref nl, .ref nc, .ref nF, .ref np, .ref ntr, .ref nb, .int mbestCost, .ref nso, .ref nsi, .ref nit, .ref nsh, .ref nsf, .ref nss, .ref nrc, .int mtraced, .int mdealer, .int mnumber, .int mwhose, .int msize, .int misParted])), (nw, .inl (G.2.1, 1662, .inl fnw)), (nm, .inl (G.2.1, 36, .inl gnm10714))] H := And.intro hP hD
            obtain ⟨hP, hD⟩ := hPD
            rcases hr10724 with ⟨rfl, a10728⟩ | ⟨rfl, a10728⟩
            · refine lv_if_ne (tgt := 53) hx hb dX12_before_47 (by decide) (fun _ => ?_) (fun c9 => absurd c9 (by decide))
              obtain ⟨sa, hljp, hvjp, -, -⟩ := a10723
              have hcjp := hljp.cnt
              have hcljp := cntS_le fnw (nI jp) k6
              obtain ⟨sb, hljo, hvjo, -, -⟩ := a10728
              have hcjo := hljo.cnt
              have hcljo := cntS_le fnw (nI jo) k6
              refine lv_bipush (v := 104) hx hb dX12_before_53 (by decide) ?_
              refine lv_iconst (v := 3) hx hb dX12_before_55 (by decide) ?_
              refine lv_aload_n hx hb dX12_before_56 rfl (lv_at hl 1 rfl) ?_
              refine lv_iload_n hx hb dX12_before_57 rfl (lv_at hl 2 rfl) ?_
              refine lv_aload_n hx hb dX12_before_58 rfl (lv_at hl 1 rfl) ?_
              refine lv_iload_n hx hb dX12_before_59 rfl (lv_at hl 2 rfl) ?_
              refine pV hC hK hl hP hD (m_stampsOf l G k6 h0 (nI jp) nw nk mhasKept nt mtaped nr mrowMany mroundOf mroundFrom 0 nm fh110726 th110727 ns mfrom mto msort misFault mdeep mcoded mlines nl nc nF np ntr nb mbestCost nso nsi nit nsh nsf nss nrc mtraced mdealer mnumber mwhose msize misParted fnw (e6) (hk6)) si_X12_130 [0, 1] rfl rfl (by decide) rfl rfl rfl rfl rfl (Nat.le_of_ble_eq_true rfl) ⟨Nat.le_of_ble_eq_true rfl, Nat.le_of_ble_eq_true rfl⟩ ⟨by first | exact Nat.le_of_ble_eq_true rfl | exact Nat.zero_le _, by first | exact Nat.le_of_ble_eq_true rfl | exact Nat.zero_le _⟩ dX12_before_60 (fun r10729 hr10729 => ?_)
              obtain rfl := hr10729
              refine lv_iconst (v := 1) hx hb dX12_before_63 (by decide) ?_
              refine lv_isub hx hb dX12_before_64 ?_
              refine eqi (x1 := nI ((cntS fnw (nI jp) k6) - 1)) (nI_sb (by omega)) ?_
              refine pV hC hK hl hP hD (m_stampAtX l G k6 h0 jp ((cntS fnw (nI jp) k6) - 1) nw nk mhasKept nt mtaped nr mrowMany mroundOf mroundFrom 0 nm fh110726 th110727 ns mfrom mto msort misFault mdeep mcoded mlines nl nc nF np ntr nb mbestCost nso nsi nit nsh nsf nss nrc mtraced mdealer mnumber mwhose msize misParted fnw (e6) (hk6) (by omega)) si_X12_142 [0, 1] rfl rfl (by decide) rfl rfl rfl rfl rfl (Nat.le_of_ble_eq_true rfl) ⟨Nat.le_of_ble_eq_true rfl, Nat.le_of_ble_eq_true rfl⟩ ⟨by first | exact Nat.le_of_ble_eq_true rfl | exact Nat.zero_le _, by first | exact Nat.le_of_ble_eq_true rfl | exact Nat.zero_le _⟩ dX12_before_65 (fun r10731 hr10731 => ?_)
              obtain ⟨s9_10732, hpx10732, rfl⟩ := hr10731
              try dsimp only at hpx10732
              refine lv_imul hx hb dX12_before_68 ?_
              refine eqi (x1 := nI (3 * s9_10732)) (nI_mul 3 s9_10732) ?_
              refine lv_iadd hx hb dX12_before_69 ?_
              refine eqi (x1 := nI (104 + 3 * s9_10732)) (nI_add 104 (3 * s9_10732)) ?_
              refine lv_istore (lv' := [(4, .int (nI (104 + 3 * s9_10732))), (3, .int 0), (0, .ref h0), (1, .int (nI jp)), (2, .int (nI jo))]) hx hb dX12_before_70 hl (by decide) rfl (fun ls hl => ?_)
              refine lv_bipush (v := 104) hx hb dX12_before_72 (by decide) ?_
              refine lv_iconst (v := 3) hx hb dX12_before_74 (by decide) ?_
              refine lv_aload_n hx hb dX12_before_75 rfl (lv_at hl 2 rfl) ?_
              refine lv_iload_n hx hb dX12_before_76 rfl (lv_at hl 4 rfl) ?_
              refine lv_aload_n hx hb dX12_before_77 rfl (lv_at hl 2 rfl) ?_
              refine lv_iload_n hx hb dX12_before_78 rfl (lv_at hl 4 rfl) ?_
              refine pV hC hK hl hP hD (m_stampsOf l G k6 h0 (nI jo) nw nk mhasKept nt mtaped nr mrowMany mroundOf mroundFrom 0 nm fh110726 th110727 ns mfrom mto msort misFault mdeep mcoded mlines nl nc nF np ntr nb mbestCost nso nsi nit nsh nsf nss nrc mtraced mdealer mnumber mwhose msize misParted fnw (e6) (hk6)) si_X12_130 [0, 1] rfl rfl (by decide) rfl rfl rfl rfl rfl (Nat.le_of_ble_eq_true rfl) ⟨Nat.le_of_ble_eq_true rfl, Nat.le_of_ble_eq_true rfl⟩ ⟨by first | exact Nat.le_of_ble_eq_true rfl | exact Nat.zero_le _, by first | exact Nat.le_of_ble_eq_true rfl | exact Nat.zero_le _⟩ dX12_before_79 (fun r10733 hr10733 => ?_)
              obtain rfl := hr10733
              refine lv_iconst (v := 1) hx hb dX12_before_82 (by decide) ?_
              refine lv_isub hx hb dX12_before_83 ?_
              refine eqi (x1 := nI ((cntS fnw (nI jo) k6) - 1)) (nI_sb (by omega)) ?_
              refine pV hC hK hl hP hD (m_stampAtX l G k6 h0 jo ((cntS fnw (nI jo) k6) - 1) nw nk mhasKept nt mtaped nr mrowMany mroundOf mroundFrom 0 nm fh110726 th110727 ns mfrom mto msort misFault mdeep mcoded mlines nl nc nF np ntr nb mbestCost nso nsi nit nsh nsf nss nrc mtraced mdealer mnumber mwhose msize misParted fnw (e6) (hk6) (by omega)) si_X12_142 [0, 1] rfl rfl (by decide) rfl rfl rfl rfl rfl (Nat.le_of_ble_eq_true rfl) ⟨Nat.le_of_ble_eq_true rfl, Nat.le_of_ble_eq_true rfl⟩ ⟨by first | exact Nat.le_of_ble_eq_true rfl | exact Nat.zero_le _, by first | exact Nat.le_of_ble_eq_true rfl | exact Nat.zero_le _⟩ dX12_before_84 (fun r10735 hr10735 => ?_)
              obtain ⟨s9_10736, hpx10736, rfl⟩ := hr10735
              try dsimp only at hpx10736
              refine lv_imul hx hb dX12_before_87 ?_
              refine eqi (x1 := nI (3 * s9_10736)) (nI_mul 3 s9_10736) ?_
              refine lv_iadd hx hb dX12_before_88 ?_
              refine eqi (x1 := nI (104 + 3 * s9_10736)) (nI_add 104 (3 * s9_10736)) ?_
              refine lv_istore (lv' := [(5, .int (nI (104 + 3 * s9_10736))), (4, .int (nI (104 + 3 * s9_10732))), (3, .int 0), (0, .ref h0), (1, .int (nI jp)), (2, .int (nI jo))]) hx hb dX12_before_89 hl (by decide) rfl (fun ls hl => ?_)
              have hq1 := hpx10732.1
              obtain ⟨cc10737, hcc10737, ecc10737⟩ := NI.nat hN (i := 104 + 3 * s9_10732 + 1) (B := 5) (bnd_st1 (s := s9_10732) rfl (by omega)) (by decide)
              have hh1 := NI.hour hN (s := s9_10732) (by omega)
              have hL1 := hpx10732.lst (by omega)
              have hq2 := hpx10736.1
              obtain ⟨cc10738, hcc10738, ecc10738⟩ := NI.nat hN (i := 104 + 3 * s9_10736 + 1) (B := 5) (bnd_st1 (s := s9_10736) rfl (by omega)) (by decide)
              have hh2 := NI.hour hN (s := s9_10736) (by omega)
              have hL2 := hpx10736.lst (by omega)
              refine lv_aload_n hx hb dX12_before_91 rfl (lv_at hl 3 rfl) ?_
              refine gf_X12_9 hC rfl hK hP 0 rfl rfl dX12_before_92 ?_
              refine lv_iload hx hb dX12_before_95 (lv_at hl 0 rfl) ?_
              refine lv_iconst (v := 2) hx hb dX12_before_97 (by decide) ?_
              refine lv_iadd hx hb dX12_before_98 ?_
              refine eqi (x1 := nI (104 + 3 * s9_10736 + 2)) (nI_add (104 + 3 * s9_10736) 2) ?_
              refine ald hC hK hP 1 rfl (vp_in_nI (by omega) (by omega)) (k := (104 + 3 * s9_10736 + 2)) (nI_clamp (by omega)) (v := fnw (104 + 3 * s9_10736 + 2)) rfl dX12_before_99 ?_
              refine lv_aload_n hx hb dX12_before_100 rfl (lv_at hl 3 rfl) ?_
              refine gf_X12_9 hC rfl hK hP 0 rfl rfl dX12_before_101 ?_
              refine lv_iload hx hb dX12_before_104 (lv_at hl 1 rfl) ?_
              refine lv_iconst (v := 2) hx hb dX12_before_106 (by decide) ?_
              refine lv_iadd hx hb dX12_before_107 ?_
              refine eqi (x1 := nI (104 + 3 * s9_10732 + 2)) (nI_add (104 + 3 * s9_10732) 2) ?_
              refine ald hC hK hP 1 rfl (vp_in_nI (by omega) (by omega)) (k := (104 + 3 * s9_10732 + 2)) (nI_clamp (by omega)) (v := fnw (104 + 3 * s9_10732 + 2)) rfl dX12_before_108 ?_
              refine lv_isub hx hb dX12_before_109 ?_
              refine lv_istore (lv' := [(6, .int ((fnw (104 + 3 * s9_10736 + 2)) - (fnw (104 + 3 * s9_10732 + 2)))), (5, .int (nI (104 + 3 * s9_10736))), (4, .int (nI (104 + 3 * s9_10732))), (3, .int 0), (0, .ref h0), (1, .int (nI jp)), (2, .int (nI jo))]) hx hb dX12_before_110 hl (by decide) rfl (fun ls hl => ?_)
              refine lv_aload_n hx hb dX12_before_112 rfl (lv_at hl 4 rfl) ?_
              refine gf_X12_26 hC rfl hK hP 0 rfl rfl dX12_before_113 ?_
              refine lv_bipush (v := 6) hx hb dX12_before_116 (by decide) ?_
              refine lv_aload_n hx hb dX12_before_118 rfl (lv_at hl 4 rfl) ?_
              refine gf_X12_9 hC rfl hK hP 0 rfl rfl dX12_before_119 ?_
              refine lv_iload hx hb dX12_before_122 (lv_at hl 2 rfl) ?_
              refine lv_iconst (v := 1) hx hb dX12_before_124 (by decide) ?_
              refine lv_iadd hx hb dX12_before_125 ?_
              refine eqi (x1 := nI (104 + 3 * s9_10732 + 1)) (nI_add (104 + 3 * s9_10732) 1) ?_
              refine ald hC hK hP 1 rfl (vp_in_nI (by omega) (by omega)) (k := 104 + 3 * s9_10732 + 1) (nI_clamp (by omega)) (v := nI cc10737) (ecc10737) dX12_before_126 ?_
              refine lv_imul hx hb dX12_before_127 ?_
              refine eqi (x1 := nI (6 * cc10737)) (nI_mul 6 cc10737) ?_
              refine lv_aload_n hx hb dX12_before_128 rfl (lv_at hl 4 rfl) ?_
              refine gf_X12_9 hC rfl hK hP 0 rfl rfl dX12_before_129 ?_
              refine lv_iload hx hb dX12_before_132 (lv_at hl 1 rfl) ?_
              refine lv_iconst (v := 1) hx hb dX12_before_134 (by decide) ?_
              refine lv_iadd hx hb dX12_before_135 ?_
              refine eqi (x1 := nI (104 + 3 * s9_10736 + 1)) (nI_add (104 + 3 * s9_10736) 1) ?_
              refine ald hC hK hP 1 rfl (vp_in_nI (by omega) (by omega)) (k := 104 + 3 * s9_10736 + 1) (nI_clamp (by omega)) (v := nI cc10738) (ecc10738) dX12_before_136 ?_
              refine lv_iadd hx hb dX12_before_137 ?_
              refine eqi (x1 := nI (6 * cc10737 + cc10738)) (nI_add (6 * cc10737) cc10738) ?_
              refine ald hC hK hP 2 rfl (vp_in_nI (by omega) (by omega)) (k := (6 * cc10737 + cc10738)) (nI_clamp (by omega)) (v := gnm10714 (6 * cc10737 + cc10738)) rfl dX12_before_138 ?_
              refine lv_istore (lv' := [(7, .int (gnm10714 (6 * cc10737 + cc10738))), (6, .int ((fnw (104 + 3 * s9_10736 + 2)) - (fnw (104 + 3 * s9_10732 + 2)))), (5, .int (nI (104 + 3 * s9_10736))), (4, .int (nI (104 + 3 * s9_10732))), (3, .int 0), (0, .ref h0), (1, .int (nI jp)), (2, .int (nI jo))]) hx hb dX12_before_139 hl (by decide) rfl (fun ls hl => ?_)
              refine lv_aload_n hx hb dX12_before_141 rfl (lv_at hl 5 rfl) ?_
              refine gf_X12_26 hC rfl hK hP 0 rfl rfl dX12_before_142 ?_
              refine lv_bipush (v := 6) hx hb dX12_before_145 (by decide) ?_
              refine lv_aload_n hx hb dX12_before_147 rfl (lv_at hl 5 rfl) ?_
              refine gf_X12_9 hC rfl hK hP 0 rfl rfl dX12_before_148 ?_
              refine lv_iload hx hb dX12_before_151 (lv_at hl 2 rfl) ?_
              refine lv_iconst (v := 1) hx hb dX12_before_153 (by decide) ?_
              refine lv_iadd hx hb dX12_before_154 ?_
              refine eqi (x1 := nI (104 + 3 * s9_10736 + 1)) (nI_add (104 + 3 * s9_10736) 1) ?_
              refine ald hC hK hP 1 rfl (vp_in_nI (by omega) (by omega)) (k := 104 + 3 * s9_10736 + 1) (nI_clamp (by omega)) (v := nI cc10738) (ecc10738) dX12_before_155 ?_
              refine lv_imul hx hb dX12_before_156 ?_
              refine eqi (x1 := nI (6 * cc10738)) (nI_mul 6 cc10738) ?_
              refine lv_aload_n hx hb dX12_before_157 rfl (lv_at hl 5 rfl) ?_
              refine gf_X12_9 hC rfl hK hP 0 rfl rfl dX12_before_158 ?_
              refine lv_iload hx hb dX12_before_161 (lv_at hl 3 rfl) ?_
              refine lv_iconst (v := 1) hx hb dX12_before_163 (by decide) ?_
              refine lv_iadd hx hb dX12_before_164 ?_
              refine eqi (x1 := nI (104 + 3 * s9_10732 + 1)) (nI_add (104 + 3 * s9_10732) 1) ?_
              refine ald hC hK hP 1 rfl (vp_in_nI (by omega) (by omega)) (k := 104 + 3 * s9_10732 + 1) (nI_clamp (by omega)) (v := nI cc10737) (ecc10737) dX12_before_165 ?_
              refine lv_iadd hx hb dX12_before_166 ?_
              refine eqi (x1 := nI (6 * cc10738 + cc10737)) (nI_add (6 * cc10738) cc10737) ?_
              refine ald hC hK hP 2 rfl (vp_in_nI (by omega) (by omega)) (k := (6 * cc10738 + cc10737)) (nI_clamp (by omega)) (v := gnm10714 (6 * cc10738 + cc10737)) rfl dX12_before_167 ?_
              refine lv_ineg hx hb dX12_before_168 ?_
              refine lv_istore (lv' := [(8, .int (-(gnm10714 (6 * cc10738 + cc10737)))), (7, .int (gnm10714 (6 * cc10737 + cc10738))), (6, .int ((fnw (104 + 3 * s9_10736 + 2)) - (fnw (104 + 3 * s9_10732 + 2)))), (5, .int (nI (104 + 3 * s9_10736))), (4, .int (nI (104 + 3 * s9_10732))), (3, .int 0), (0, .ref h0), (1, .int (nI jp)), (2, .int (nI jo))]) hx hb dX12_before_169 hl (by decide) rfl (fun ls hl => ?_)
              refine lv_iload hx hb dX12_before_171 (lv_at hl 1 rfl) ?_
              refine lv_iload hx hb dX12_before_173 (lv_at hl 2 rfl) ?_
              refine lv_icmp_ge (tgt := 182) hx hb dX12_before_175 (by decide) (fun c_175_10739 => ?_) (fun c_175_10739 => ?_)
              · refine lv_iload hx hb dX12_before_182 (lv_at hl 0 rfl) ?_
                refine lv_iload hx hb dX12_before_184 (lv_at hl 2 rfl) ?_
                refine lv_icmp_ge (tgt := 193) hx hb dX12_before_186 (by decide) (fun c_186_10740 => ?_) (fun c_186_10740 => ?_)
                · refine lv_iconst (v := 0) hx hb dX12_before_193 (by decide) ?_
                  exact RI (v := 0) hC hP hD hS [0, 1, 2] (fh110726, th110727, gnm10714) rfl rfl (by decide) (⟨⟨0, Or.inr ⟨jp, jo, hjp, hjo, rfl, rfl, fun h9 => c_20_10711 (congrArg nI h9), Or.inr ⟨_, s9_10732, s9_10736, a10716, hvjp, hvjo, hL1, hL2, BFV.nil ((BFV.rleast a10716 hh1 hh2 ecc10737 ecc10738 (by omega) (by omega)).mp c_175_10739) ((BFV.rmost a10716 hh1 hh2 ecc10737 ecc10738 (by omega) (by omega)).mp c_186_10740)⟩⟩, rfl⟩, by first | assumption | exact hM⟩) rfl dX12_before_194
                · refine lv_iconst (v := 1) hx hb dX12_before_189 (by decide) ?_
                  refine lv_goto (tgt := 194) hx hb dX12_before_190 (by decide) ?_
                  exact RI (v := 1) hC hP hD hS [0, 1, 2] (fh110726, th110727, gnm10714) rfl rfl (by decide) (⟨⟨1, Or.inr ⟨jp, jo, hjp, hjo, rfl, rfl, fun h9 => c_20_10711 (congrArg nI h9), Or.inr ⟨_, s9_10732, s9_10736, a10716, hvjp, hvjo, hL1, hL2, BFV.one ((BFV.rleast a10716 hh1 hh2 ecc10737 ecc10738 (by omega) (by omega)).mp c_175_10739) (Classical.byContradiction fun h8 => c_186_10740 ((BFV.rmost a10716 hh1 hh2 ecc10737 ecc10738 (by omega) (by omega)).mpr h8))⟩⟩, rfl⟩, by first | assumption | exact hM⟩) rfl dX12_before_194
              · refine lv_iconst (v := 2) hx hb dX12_before_178 (by decide) ?_
                refine lv_goto (tgt := 194) hx hb dX12_before_179 (by decide) ?_
                exact RI (v := 2) hC hP hD hS [0, 1, 2] (fh110726, th110727, gnm10714) rfl rfl (by decide) (⟨⟨2, Or.inr ⟨jp, jo, hjp, hjo, rfl, rfl, fun h9 => c_20_10711 (congrArg nI h9), Or.inr ⟨_, s9_10732, s9_10736, a10716, hvjp, hvjo, hL1, hL2, BFV.two (Classical.byContradiction fun h8 => c_175_10739 ((BFV.rleast a10716 hh1 hh2 ecc10737 ecc10738 (by omega) (by omega)).mpr h8))⟩⟩, rfl⟩, by first | assumption | exact hM⟩) rfl dX12_before_194
            · refine lv_if_ne (tgt := 53) hx hb dX12_before_47 (by decide) (fun c9 => absurd (by decide) c9) (fun _ => ?_)
              refine lv_bipush (v := (-3)) hx hb dX12_before_50 (by decide) ?_
              exact RI (v := (-3)) hC hP hD hS [0, 1, 2] (fh110726, th110727, gnm10714) rfl rfl (by decide) (⟨⟨(-3), Or.inr ⟨jp, jo, hjp, hjo, rfl, rfl, fun h9 => c_20_10711 (congrArg nI h9), Or.inl ⟨Or.inr (Or.inr a10728), rfl⟩⟩, rfl⟩, by first | assumption | exact hM⟩) rfl dX12_before_52
          · refine lv_if_eq (tgt := 50) hx hb dX12_before_37 (by decide) (fun _ => ?_) (fun c9 => absurd (by decide) c9)
            refine lv_bipush (v := (-3)) hx hb dX12_before_50 (by decide) ?_
            exact RI (v := (-3)) hC hP hD hS [0, 1, 2] (fh110721, th110722, gnm10714) rfl rfl (by decide) (⟨⟨(-3), Or.inr ⟨jp, jo, hjp, hjo, rfl, rfl, fun h9 => c_20_10711 (congrArg nI h9), Or.inl ⟨Or.inr (Or.inl a10723), rfl⟩⟩, rfl⟩, by first | assumption | exact hM⟩) rfl dX12_before_52
      · refine lv_iconst (v := (-1)) hx hb dX12_before_23 (by decide) ?_
        exact RI (v := (-1)) hC hP hD hS [0, 1, 2] (mfromHour, mtoHour, fnm) rfl rfl (by decide) (⟨⟨(-1), Or.inl ⟨fun h9 => h9.2.2 c_20_10711, rfl⟩, rfl⟩, by first | assumption | exact hM⟩) rfl dX12_before_24
    · refine lv_if_eq (tgt := 23) hx hb dX12_before_15 (by decide) (fun _ => ?_) (fun c9 => absurd (by decide) c9)
      refine lv_iconst (v := (-1)) hx hb dX12_before_23 (by decide) ?_
      exact RI (v := (-1)) hC hP hD hS [0, 1, 2] (mfromHour, mtoHour, fnm) rfl rfl (by decide) (⟨⟨(-1), Or.inl ⟨fun h9 => a10710 h9.2.1, rfl⟩, rfl⟩, by first | assumption | exact hM⟩) rfl dX12_before_24
  · refine lv_if_eq (tgt := 23) hx hb dX12_before_6 (by decide) (fun _ => ?_) (fun c9 => absurd (by decide) c9)
    refine lv_iconst (v := (-1)) hx hb dX12_before_23 (by decide) ?_
    exact RI (v := (-1)) hC hP hD hS [0, 1, 2] (mfromHour, mtoHour, fnm) rfl rfl (by decide) (⟨⟨(-1), Or.inl ⟨fun h9 => a10708 h9.1, rfl⟩, rfl⟩, by first | assumption | exact hM⟩) rfl dX12_before_24
set_option maxHeartbeats 4000000 in
set_option maxRecDepth 100000 in
theorem m_isAgainstX (l : Launch) (G : GG) (h0 : Nat) (hh : Int32) (js : Nat) (nw : Nat) (nk : Nat) (mhasKept : Int32) (nt : Nat) (mtaped : Int32) (nr : Nat) (mrowMany : Int32) (mroundOf : Int32) (mroundFrom : Int32) (mouts : Int32) (nm : Nat) (mfromHour : Int32) (mtoHour : Int32) (ns : Nat) (mfrom : Int32) (mto : Int32) (msort : Int32) (misFault : Int32) (mdeep : Int32) (mcoded : Int32) (mlines : Int32) (nl : Nat) (nc : Nat) (nF : Nat) (np : Nat) (ntr : Nat) (nb : Nat) (mbestCost : Int32) (nso : Nat) (nsi : Nat) (nit : Nat) (nsh : Nat) (nsf : Nat) (nss : Nat) (nrc : Nat) (mtraced : Int32) (mdealer : Int32) (mnumber : Int32) (mwhose : Int32) (msize : Int32) (misParted : Int32) (fnw : Nat → Int32) (hjs : js < 16) : MP l G yX12_isAgainst cX12_isAgainst 3 (some .boolean) 2 [.ref h0, .int hh, .int (nI js)] [(h0, .inr (12, [.ref nw, .ref nk, .int mhasKept, .ref nt, .int mtaped, .ref nr, .int mrowMany, .int mroundOf, .int mroundFrom, .int mouts, .ref nm, .int mfromHour, .int mtoHour, .ref ns, .int mfrom, .int mto, .int msort, .int misFault, .int mdeep, .int mcoded, .int mlines, .ref nl, .ref nc, .ref nF, .ref np, .ref ntr, .ref nb, .int mbestCost, .ref nso, .ref nsi, .ref nit, .ref nsh, .ref nsf, .ref nss, .ref nrc, .int mtraced, .int mdealer, .int mnumber, .int mwhose, .int msize, .int misParted])), (nw, .inl (G.2.1, 1662, .inl fnw))] (fun r : Int32 => (r = 1 ∧ AGF (shf fnw 1424) hh js) ∨ (r = 0 ∧ ¬ AGF (shf fnw 1424) hh js)) := by
  refine MP.start (by decide +kernel) (Nat.le_of_ble_eq_true rfl) ?_
  intro p e s m below meth c ls hC hK hP hD hl
  have hl : lv_has ls 3 [(0, .ref h0), (1, .int hh), (2, .int (nI js))] := hl
  obtain ⟨hx, hb, hr, hml, hB, hown, hlocks, hnm⟩ := id hC
  have hq3 : fnw (1424 + 8 * js + 3) = shf fnw 1424 (js * 8 + 3) := shf_sa.symm
  have hq5 : fnw (1424 + 8 * js + 5) = shf fnw 1424 (js * 8 + 5) := shf_sa.symm
  refine lv_aload_n hx hb dX12_isAgainst_0 rfl (lv_at hl 0 rfl) ?_
  refine lv_iload_n hx hb dX12_isAgainst_1 rfl (lv_at hl 2 rfl) ?_
  refine lv_iconst (v := 5) hx hb dX12_isAgainst_2 (by decide) ?_
  refine pV hC hK hl hP hD (m_saying l G h0 js 5 nw nk mhasKept nt mtaped nr mrowMany mroundOf mroundFrom mouts nm mfromHour mtoHour ns mfrom mto msort misFault mdeep mcoded mlines nl nc nF np ntr nb mbestCost nso nsi nit nsh nsf nss nrc mtraced mdealer mnumber mwhose msize misParted fnw (hjs) (by omega)) si_X12_114 [0, 1] rfl rfl (by decide) rfl rfl rfl rfl rfl (Nat.le_of_ble_eq_true rfl) ⟨Nat.le_of_ble_eq_true rfl, Nat.le_of_ble_eq_true rfl⟩ ⟨by first | exact Nat.le_of_ble_eq_true rfl | exact Nat.zero_le _, by first | exact Nat.le_of_ble_eq_true rfl | exact Nat.zero_le _⟩ dX12_isAgainst_3 (fun r10741 hr10741 => ?_)
  obtain rfl := hr10741
  refine lv_iconst (v := 1) hx hb dX12_isAgainst_6 (by decide) ?_
  refine lv_icmp_ne (tgt := 28) hx hb dX12_isAgainst_7 (by decide) (fun c_7_10743 => ?_) (fun c_7_10743 => ?_)
  · refine lv_aload_n hx hb dX12_isAgainst_28 rfl (lv_at hl 0 rfl) ?_
    refine lv_iload_n hx hb dX12_isAgainst_29 rfl (lv_at hl 2 rfl) ?_
    refine lv_iconst (v := 3) hx hb dX12_isAgainst_30 (by decide) ?_
    refine pV hC hK hl hP hD (m_saying l G h0 js 3 nw nk mhasKept nt mtaped nr mrowMany mroundOf mroundFrom mouts nm mfromHour mtoHour ns mfrom mto msort misFault mdeep mcoded mlines nl nc nF np ntr nb mbestCost nso nsi nit nsh nsf nss nrc mtraced mdealer mnumber mwhose msize misParted fnw (hjs) (by omega)) si_X12_114 [0, 1] rfl rfl (by decide) rfl rfl rfl rfl rfl (Nat.le_of_ble_eq_true rfl) ⟨Nat.le_of_ble_eq_true rfl, Nat.le_of_ble_eq_true rfl⟩ ⟨by first | exact Nat.le_of_ble_eq_true rfl | exact Nat.zero_le _, by first | exact Nat.le_of_ble_eq_true rfl | exact Nat.zero_le _⟩ dX12_isAgainst_31 (fun r10744 hr10744 => ?_)
    obtain rfl := hr10744
    refine lv_iload_n hx hb dX12_isAgainst_34 rfl (lv_at hl 1 rfl) ?_
    refine lv_icmp_lt (tgt := 42) hx hb dX12_isAgainst_35 (by decide) (fun c_35_10746 => ?_) (fun c_35_10746 => ?_)
    · refine lv_iconst (v := 0) hx hb dX12_isAgainst_42 (by decide) ?_
      exact RP (v := 0) hC (Or.inr ⟨rfl, fun h9 => h9.elim (fun h8 => c_7_10743 (hq5.trans h8.1)) (fun h8 => Int32.not_le.mpr (by rw [← hq3]; exact c_35_10746) h8.2)⟩) (by decide +kernel) dX12_isAgainst_43
    · refine lv_iconst (v := 1) hx hb dX12_isAgainst_38 (by decide) ?_
      refine lv_goto (tgt := 43) hx hb dX12_isAgainst_39 (by decide) ?_
      exact RP (v := 1) hC (Or.inl ⟨rfl, Or.inr ⟨fun h9 => c_7_10743 (hq5.trans h9), by rw [← hq3]; exact Int32.not_lt.mp c_35_10746⟩⟩) (by decide +kernel) dX12_isAgainst_43
  · refine lv_aload_n hx hb dX12_isAgainst_10 rfl (lv_at hl 0 rfl) ?_
    refine lv_iload_n hx hb dX12_isAgainst_11 rfl (lv_at hl 2 rfl) ?_
    refine lv_iconst (v := 3) hx hb dX12_isAgainst_12 (by decide) ?_
    refine pV hC hK hl hP hD (m_saying l G h0 js 3 nw nk mhasKept nt mtaped nr mrowMany mroundOf mroundFrom mouts nm mfromHour mtoHour ns mfrom mto msort misFault mdeep mcoded mlines nl nc nF np ntr nb mbestCost nso nsi nit nsh nsf nss nrc mtraced mdealer mnumber mwhose msize misParted fnw (hjs) (by omega)) si_X12_114 [0, 1] rfl rfl (by decide) rfl rfl rfl rfl rfl (Nat.le_of_ble_eq_true rfl) ⟨Nat.le_of_ble_eq_true rfl, Nat.le_of_ble_eq_true rfl⟩ ⟨by first | exact Nat.le_of_ble_eq_true rfl | exact Nat.zero_le _, by first | exact Nat.le_of_ble_eq_true rfl | exact Nat.zero_le _⟩ dX12_isAgainst_13 (fun r10747 hr10747 => ?_)
    obtain rfl := hr10747
    refine lv_iload_n hx hb dX12_isAgainst_16 rfl (lv_at hl 1 rfl) ?_
    refine lv_icmp_ge (tgt := 24) hx hb dX12_isAgainst_17 (by decide) (fun c_17_10749 => ?_) (fun c_17_10749 => ?_)
    · refine lv_iconst (v := 0) hx hb dX12_isAgainst_24 (by decide) ?_
      refine lv_goto (tgt := 43) hx hb dX12_isAgainst_25 (by decide) ?_
      exact RP (v := 0) hC (Or.inr ⟨rfl, fun h9 => h9.elim (fun h8 => Int32.not_lt.mpr (by rw [← hq3]; exact c_17_10749) h8.2) (fun h8 => h8.1 (hq5.symm.trans c_7_10743))⟩) (by decide +kernel) dX12_isAgainst_43
    · refine lv_iconst (v := 1) hx hb dX12_isAgainst_20 (by decide) ?_
      refine lv_goto (tgt := 43) hx hb dX12_isAgainst_21 (by decide) ?_
      exact RP (v := 1) hC (Or.inl ⟨rfl, Or.inl ⟨hq5.symm.trans c_7_10743, by rw [← hq3]; exact Int32.not_le.mp c_17_10749⟩⟩) (by decide +kernel) dX12_isAgainst_43
set_option maxHeartbeats 4000000 in
set_option maxRecDepth 100000 in
theorem m_findHoursC (l : Launch) (G : GG) (kq : Nat) (k6 : Nat) (h0 : Nat) (jp : Nat) (je : Nat) (nw : Nat) (nk : Nat) (mhasKept : Int32) (nt : Nat) (mtaped : Int32) (nr : Nat) (mrowMany : Int32) (mroundOf : Int32) (mroundFrom : Int32) (nm : Nat) (mfromHour : Int32) (mtoHour : Int32) (ns : Nat) (mfrom : Int32) (mto : Int32) (msort : Int32) (misFault : Int32) (mdeep : Int32) (mcoded : Int32) (mlines : Int32) (nl : Nat) (nc : Nat) (nF : Nat) (np : Nat) (ntr : Nat) (nb : Nat) (mbestCost : Int32) (nso : Nat) (nsi : Nat) (nit : Nat) (nsh : Nat) (nsf : Nat) (nss : Nat) (nrc : Nat) (mtraced : Int32) (mdealer : Int32) (mnumber : Int32) (mwhose : Int32) (msize : Int32) (misParted : Int32) (fnw : Nat → Int32) (fnm : Nat → Int32) (e6 : fnw 6 = nI k6) (hk6 : k6 ≤ 24) (ekq : fnw 5 = nI kq) (hno : NOS (KST (shf fnw 104) (VSE fnw kq) (fnw 3).toInt k6)) (hjp : jp < 12) : MV l G yX12_findHours cX12_findHours 4 5 0 0 [.ref h0, .int (nI jp), .int (nI je), .int 1] [(h0, .inr (12, [.ref nw, .ref nk, .int mhasKept, .ref nt, .int mtaped, .ref nr, .int mrowMany, .int mroundOf, .int mroundFrom, .int 0, .ref nm, .int mfromHour, .int mtoHour, .ref ns, .int mfrom, .int mto, .int msort, .int misFault, .int mdeep, .int mcoded, .int mlines, .ref nl, .ref nc, .ref nF, .ref np, .ref ntr, .ref nb, .int mbestCost, .ref nso, .ref nsi, .ref nit, .ref nsh, .ref nsf, .ref nss, .ref nrc, .int mtraced, .int mdealer, .int mnumber, .int mwhose, .int msize, .int misParted])), (nw, .inl (G.2.1, 1662, .inl fnw)), (nm, .inl (G.2.1, 36, .inl fnm))] (fun u : Int32 × Int32 => HIQ (KST (shf fnw 104) (VSE fnw kq) (fnw 3).toInt k6) (shf fnw 104) (VSE fnw kq) (shf fnw 32 (jp * 6 + 0)) (shf fnw 32 (jp * 6 + 1)) (shf fnw 12 (je * 2 + 1)) k6 jp je u.1 u.2) (fun u : Int32 × Int32 => [(h0, .inr (12, [.ref nw, .ref nk, .int mhasKept, .ref nt, .int mtaped, .ref nr, .int mrowMany, .int mroundOf, .int mroundFrom, .int 0, .ref nm, .int u.1, .int u.2, .ref ns, .int mfrom, .int mto, .int msort, .int misFault, .int mdeep, .int mcoded, .int mlines, .ref nl, .ref nc, .ref nF, .ref np, .ref ntr, .ref nb, .int mbestCost, .ref nso, .ref nsi, .ref nit, .ref nsh, .ref nsf, .ref nss, .ref nrc, .int mtraced, .int mdealer, .int mnumber, .int mwhose, .int msize, .int misParted])), (nw, .inl (G.2.1, 1662, .inl fnw)), (nm, .inl (G.2.1, 36, .inl fnm))]) := by
  refine MV.start (by decide +kernel) (Nat.le_of_ble_eq_true rfl) ?_
  intro p e s m below meth c A ls hC hK hP hD hS hA hl
  have hl : lv_has ls 4 [(0, .ref h0), (1, .int (nI jp)), (2, .int (nI je)), (3, .int 1)] := hl
  obtain ⟨hx, hb, hr, hml, hB, hown, hlocks, hnm⟩ := id hC
  refine lv_aload_n hx hb dX12_findHours_0 rfl (lv_at hl 0 rfl) ?_
  refine lv_iload_n hx hb dX12_findHours_1 rfl (lv_at hl 1 rfl) ?_
  refine lv_iload_n hx hb dX12_findHours_2 rfl (lv_at hl 2 rfl) ?_
  refine lv_iload_n hx hb dX12_findHours_3 rfl (lv_at hl 3 rfl) ?_
  refine pV hC hK hl hP hD (m_inHandC l G k6 h0 jp je nw nk mhasKept nt mtaped nr mrowMany mroundOf mroundFrom 0 nm mfromHour mtoHour ns mfrom mto msort misFault mdeep mcoded mlines nl nc nF np ntr nb mbestCost nso nsi nit nsh nsf nss nrc mtraced mdealer mnumber mwhose msize misParted fnw (e6) (hk6) (hjp)) si_X12_171 [0, 1] rfl rfl (by decide) rfl rfl rfl rfl rfl (Nat.le_of_ble_eq_true rfl) ⟨Nat.le_of_ble_eq_true rfl, Nat.le_of_ble_eq_true rfl⟩ ⟨by first | exact Nat.le_of_ble_eq_true rfl | exact Nat.zero_le _, by first | exact Nat.le_of_ble_eq_true rfl | exact Nat.zero_le _⟩ dX12_findHours_4 (fun r10750 hr10750 => ?_)
  obtain rfl := hr10750
  refine lv_if_ne (tgt := 22) hx hb dX12_findHours_7 (by decide) (fun c9 => absurd (by decide) c9) (fun _ => ?_)
  refine lv_aload_n hx hb dX12_findHours_10 rfl (lv_at hl 0 rfl) ?_
  refine lv_iconst (v := 0) hx hb dX12_findHours_11 (by decide) ?_
  refine pf_X12_161 hC rfl hK hP hD hS 0 (ws' := [(h0, .inr (12, [.ref nw, .ref nk, .int mhasKept, .ref nt, .int mtaped, .ref nr, .int mrowMany, .int mroundOf, .int mroundFrom, .int 0, .ref nm, .int 0, .int mtoHour, .ref ns, .int mfrom, .int mto, .int msort, .int misFault, .int mdeep, .int mcoded, .int mlines, .ref nl, .ref nc, .ref nF, .ref np, .ref ntr, .ref nb, .int mbestCost, .ref nso, .ref nsi, .ref nit, .ref nsh, .ref nsf, .ref nss, .ref nrc, .int mtraced, .int mdealer, .int mnumber, .int mwhose, .int msize, .int misParted])), (nw, .inl (G.2.1, 1662, .inl fnw)), (nm, .inl (G.2.1, 36, .inl fnm))]) rfl (Nat.le_of_ble_eq_true rfl) rfl rfl rfl dX12_findHours_12 (fun H locs hP hD hS => ?_)
  refine lv_aload_n hx hb dX12_findHours_15 rfl (lv_at hl 0 rfl) ?_
  refine lv_sipush (v := 1000) hx hb dX12_findHours_16 (by decide) ?_
  refine pf_X12_164 hC rfl hK hP hD hS 0 (ws' := [(h0, .inr (12, [.ref nw, .ref nk, .int mhasKept, .ref nt, .int mtaped, .ref nr, .int mrowMany, .int mroundOf, .int mroundFrom, .int 0, .ref nm, .int 0, .int 1000, .ref ns, .int mfrom, .int mto, .int msort, .int misFault, .int mdeep, .int mcoded, .int mlines, .ref nl, .ref nc, .ref nF, .ref np, .ref ntr, .ref nb, .int mbestCost, .ref nso, .ref nsi, .ref nit, .ref nsh, .ref nsf, .ref nss, .ref nrc, .int mtraced, .int mdealer, .int mnumber, .int mwhose, .int msize, .int misParted])), (nw, .inl (G.2.1, 1662, .inl fnw)), (nm, .inl (G.2.1, 36, .inl fnm))]) rfl (Nat.le_of_ble_eq_true rfl) rfl rfl rfl dX12_findHours_19 (fun H locs hP hD hS => ?_)
  exact RV hC hP hD hS [0, 1, 2] (0, 1000) rfl rfl (by decide) (Or.inr ⟨Or.inl hno, rfl, rfl⟩) dX12_findHours_22
set_option maxHeartbeats 4000000 in
set_option maxRecDepth 100000 in
theorem m_findHoursL (l : Launch) (G : GG) (kq : Nat) (k6 : Nat) (h0 : Nat) (jp : Nat) (je : Nat) (nw : Nat) (nk : Nat) (mhasKept : Int32) (nt : Nat) (mtaped : Int32) (nr : Nat) (mrowMany : Int32) (mroundOf : Int32) (mroundFrom : Int32) (nm : Nat) (mfromHour : Int32) (mtoHour : Int32) (ns : Nat) (mfrom : Int32) (mto : Int32) (msort : Int32) (misFault : Int32) (mdeep : Int32) (mcoded : Int32) (mlines : Int32) (nl : Nat) (nc : Nat) (nF : Nat) (np : Nat) (ntr : Nat) (nb : Nat) (mbestCost : Int32) (nso : Nat) (nsi : Nat) (nit : Nat) (nsh : Nat) (nsf : Nat) (nss : Nat) (nrc : Nat) (mtraced : Int32) (mdealer : Int32) (mnumber : Int32) (mwhose : Int32) (msize : Int32) (misParted : Int32) (fnw : Nat → Int32) (fnm : Nat → Int32) (hN : NI fnw) (e6 : fnw 6 = nI k6) (hk6 : k6 ≤ 24) (hcb : CLB (KST (shf fnw 104) (VSE fnw kq) (fnw 3).toInt k6) (MAT fnm)) (ekq : fnw 5 = nI kq) (hkq : kq ≤ 12) (hjp : jp < kq) (hje : je < 10) : MV l G yX12_findHours cX12_findHours 4 5 0 0 [.ref h0, .int (nI jp), .int (nI je), .int 0] [(h0, .inr (12, [.ref nw, .ref nk, .int mhasKept, .ref nt, .int mtaped, .ref nr, .int mrowMany, .int mroundOf, .int mroundFrom, .int 0, .ref nm, .int mfromHour, .int mtoHour, .ref ns, .int mfrom, .int mto, .int msort, .int misFault, .int mdeep, .int mcoded, .int mlines, .ref nl, .ref nc, .ref nF, .ref np, .ref ntr, .ref nb, .int mbestCost, .ref nso, .ref nsi, .ref nit, .ref nsh, .ref nsf, .ref nss, .ref nrc, .int mtraced, .int mdealer, .int mnumber, .int mwhose, .int msize, .int misParted])), (nw, .inl (G.2.1, 1662, .inl fnw)), (nm, .inl (G.2.1, 36, .inl fnm))] (fun u : Int32 × Int32 => HIQ (KST (shf fnw 104) (VSE fnw kq) (fnw 3).toInt k6) (shf fnw 104) (VSE fnw kq) (shf fnw 32 (jp * 6 + 0)) (shf fnw 32 (jp * 6 + 1)) (shf fnw 12 (je * 2 + 1)) k6 jp je u.1 u.2) (fun u : Int32 × Int32 => [(h0, .inr (12, [.ref nw, .ref nk, .int mhasKept, .ref nt, .int mtaped, .ref nr, .int mrowMany, .int mroundOf, .int mroundFrom, .int 0, .ref nm, .int u.1, .int u.2, .ref ns, .int mfrom, .int mto, .int msort, .int misFault, .int mdeep, .int mcoded, .int mlines, .ref nl, .ref nc, .ref nF, .ref np, .ref ntr, .ref nb, .int mbestCost, .ref nso, .ref nsi, .ref nit, .ref nsh, .ref nsf, .ref nss, .ref nrc, .int mtraced, .int mdealer, .int mnumber, .int mwhose, .int msize, .int misParted])), (nw, .inl (G.2.1, 1662, .inl fnw)), (nm, .inl (G.2.1, 36, .inl fnm))]) := by
  refine MV.start (by decide +kernel) (Nat.le_of_ble_eq_true rfl) ?_
  intro p e s m below meth c A ls hC hK hP hD hS hA hl
  have hl : lv_has ls 4 [(0, .ref h0), (1, .int (nI jp)), (2, .int (nI je)), (3, .int 0)] := hl
  obtain ⟨hx, hb, hr, hml, hB, hown, hlocks, hnm⟩ := id hC
  refine lv_aload_n hx hb dX12_findHours_0 rfl (lv_at hl 0 rfl) ?_
  refine lv_iload_n hx hb dX12_findHours_1 rfl (lv_at hl 1 rfl) ?_
  refine lv_iload_n hx hb dX12_findHours_2 rfl (lv_at hl 2 rfl) ?_
  refine lv_iload_n hx hb dX12_findHours_3 rfl (lv_at hl 3 rfl) ?_
  refine iV (wr := []) hC hK hl hP hD hS hA (m_inHandL l G kq k6 h0 jp je nw nk mhasKept nt mtaped nr mrowMany mroundOf mroundFrom nm mfromHour mtoHour ns mfrom mto msort misFault mdeep mcoded mlines nl nc nF np ntr nb mbestCost nso nsi nit nsh nsf nss nrc mtraced mdealer mnumber mwhose msize misParted fnw fnm (hN) (e6) (hk6) (ekq) (hjp) (hkq) (hje)) si_X12_171 [0, 1, 2] [] rfl rfl (by decide) rfl (by decide) (by decide) rfl rfl rfl rfl rfl (Nat.le_of_ble_eq_true rfl) ⟨Nat.le_of_ble_eq_true rfl, Nat.le_of_ble_eq_true rfl⟩ ⟨Nat.le_of_ble_eq_true rfl, Nat.le_of_ble_eq_true rfl⟩ dX12_findHours_4 (fun r10752 u10753 H locs hr10752 hP hD hS => ?_)
  obtain ⟨fh110754, th110755⟩ := u10753
  try dsimp only at hr10752
  have hPD : va_PD G A [(h0, .inr (12, [.ref nw, .ref nk, .int mhasKept, .ref nt, .int mtaped, .ref nr, .int mrowMany, .int mroundOf, .int mroundFrom, .int 0, .ref nm, .int fh110754, .int th110755, .ref ns, .int mfrom, .int mto, .int msort, .int misFault, .int mdeep, .int mcoded, .int mlines, .ref nl, .ref nc, .ref nF, .ref np, .ref ntr, .ref nb, .int mbestCost, .ref nso, .ref nsi, .ref nit, .ref nsh, .ref nsf, .ref nss, .ref nrc, .int mtraced, .int mdealer, .int mnumber, .int mwhose, .int msize, .int misParted])), (nw, .inl (G.2.1, 1662, .inl fnw)), (nm, .inl (G.2.1, 36, .inl fnm))] H := And.intro hP hD
  obtain ⟨hP, hD⟩ := hPD
  rcases hr10752 with ⟨rfl, a10756⟩ | ⟨rfl, a10756⟩
  · refine lv_if_ne (tgt := 22) hx hb dX12_findHours_7 (by decide) (fun _ => ?_) (fun c9 => absurd c9 (by decide))
    exact RV hC hP hD hS [0, 1, 2] (fh110754, th110755) rfl rfl (by decide) (HIQ.re (Or.inl (HIQ.rb (by omega) hcb a10756))) dX12_findHours_22
  · refine lv_if_ne (tgt := 22) hx hb dX12_findHours_7 (by decide) (fun c9 => absurd (by decide) c9) (fun _ => ?_)
    refine lv_aload_n hx hb dX12_findHours_10 rfl (lv_at hl 0 rfl) ?_
    refine lv_iconst (v := 0) hx hb dX12_findHours_11 (by decide) ?_
    refine pf_X12_161 hC rfl hK hP hD hS 0 (ws' := [(h0, .inr (12, [.ref nw, .ref nk, .int mhasKept, .ref nt, .int mtaped, .ref nr, .int mrowMany, .int mroundOf, .int mroundFrom, .int 0, .ref nm, .int 0, .int th110755, .ref ns, .int mfrom, .int mto, .int msort, .int misFault, .int mdeep, .int mcoded, .int mlines, .ref nl, .ref nc, .ref nF, .ref np, .ref ntr, .ref nb, .int mbestCost, .ref nso, .ref nsi, .ref nit, .ref nsh, .ref nsf, .ref nss, .ref nrc, .int mtraced, .int mdealer, .int mnumber, .int mwhose, .int msize, .int misParted])), (nw, .inl (G.2.1, 1662, .inl fnw)), (nm, .inl (G.2.1, 36, .inl fnm))]) rfl (Nat.le_of_ble_eq_true rfl) rfl rfl rfl dX12_findHours_12 (fun H locs hP hD hS => ?_)
    refine lv_aload_n hx hb dX12_findHours_15 rfl (lv_at hl 0 rfl) ?_
    refine lv_sipush (v := 1000) hx hb dX12_findHours_16 (by decide) ?_
    refine pf_X12_164 hC rfl hK hP hD hS 0 (ws' := [(h0, .inr (12, [.ref nw, .ref nk, .int mhasKept, .ref nt, .int mtaped, .ref nr, .int mrowMany, .int mroundOf, .int mroundFrom, .int 0, .ref nm, .int 0, .int 1000, .ref ns, .int mfrom, .int mto, .int msort, .int misFault, .int mdeep, .int mcoded, .int mlines, .ref nl, .ref nc, .ref nF, .ref np, .ref ntr, .ref nb, .int mbestCost, .ref nso, .ref nsi, .ref nit, .ref nsh, .ref nsf, .ref nss, .ref nrc, .int mtraced, .int mdealer, .int mnumber, .int mwhose, .int msize, .int misParted])), (nw, .inl (G.2.1, 1662, .inl fnw)), (nm, .inl (G.2.1, 36, .inl fnm))]) rfl (Nat.le_of_ble_eq_true rfl) rfl rfl rfl dX12_findHours_19 (fun H locs hP hD hS => ?_)
    exact RV hC hP hD hS [0, 1, 2] (0, 1000) rfl rfl (by decide) (Or.inr ⟨NIQ.rn (by rw [shf_pa, shf_pa]; exact a10756), rfl, rfl⟩) dX12_findHours_22
set_option maxHeartbeats 4000000 in
set_option maxRecDepth 100000 in
theorem r_impossibleT (l : Launch) (G : GG) (kq : Nat) (k6 : Nat) (kp : Nat) (k8 : Nat) (h0 : Nat) (nw : Nat) (nk : Nat) (mhasKept : Int32) (nt : Nat) (mtaped : Int32) (nr : Nat) (mrowMany : Int32) (mroundOf : Int32) (mroundFrom : Int32) (nm : Nat) (mfromHour : Int32) (mtoHour : Int32) (ns : Nat) (mfrom : Int32) (mto : Int32) (msort : Int32) (misFault : Int32) (mdeep : Int32) (mcoded : Int32) (mlines : Int32) (nl : Nat) (nc : Nat) (nF : Nat) (np : Nat) (ntr : Nat) (nb : Nat) (mbestCost : Int32) (nso : Nat) (nsi : Nat) (nit : Nat) (nsh : Nat) (nsf : Nat) (nss : Nat) (nrc : Nat) (mtraced : Int32) (mdealer : Int32) (mnumber : Int32) (mwhose : Int32) (msize : Int32) (misParted : Int32) (fnw : Nat → Int32) (fnm : Nat → Int32) (hM : MB fnm) (hN : NI fnw) (hgp : GPRm (fnw 3)) (ekq : fnw 5 = nI kq) (hkq : kq ≤ 12) (e6 : fnw 6 = nI k6) (hk6 : k6 ≤ 24) (ekp : fnw 4 = nI kp) (hkp : kp ≤ 10) (ek8 : fnw 8 = nI k8) (hk8 : k8 ≤ 16) (hSP : SPI (shf fnw 1424) k8 kq) (hSO : SPO (shf fnw 1424) k8 kp) : MI l G yX12_impossible cX12_impossible 6 (some .int) 6 0 0 [.ref h0] [(h0, .inr (12, [.ref nw, .ref nk, .int mhasKept, .ref nt, .int mtaped, .ref nr, .int mrowMany, .int mroundOf, .int mroundFrom, .int 0, .ref nm, .int mfromHour, .int mtoHour, .ref ns, .int mfrom, .int mto, .int msort, .int misFault, .int mdeep, .int mcoded, .int mlines, .ref nl, .ref nc, .ref nF, .ref np, .ref ntr, .ref nb, .int mbestCost, .ref nso, .ref nsi, .ref nit, .ref nsh, .ref nsf, .ref nss, .ref nrc, .int mtraced, .int mdealer, .int mnumber, .int mwhose, .int msize, .int misParted])), (nw, .inl (G.2.1, 1662, .inl fnw)), (nm, .inl (G.2.1, 36, .inl fnm))] (fun (r : Int32) (u : Int32 × Int32 × (Nat → Int32)) => (r = (IMB (fun s9 => CSQ (shf fnw 1424) (shf fnw 32) (fnw 0) (fnw 1) (fnw 2) s9 ∧ IMS (shf fnw 1424) (QSF (KST (shf fnw 104) (VSE fnw kq) (fnw 3).toInt k6) (shf fnw 104) (VSE fnw kq) (shf fnw 32) (shf fnw 12) (shf fnw 1424) k6) s9) k8)) ∧ (MB u.2.2)) (fun u : Int32 × Int32 × (Nat → Int32) => [(h0, .inr (12, [.ref nw, .ref nk, .int mhasKept, .ref nt, .int mtaped, .ref nr, .int mrowMany, .int mroundOf, .int mroundFrom, .int 0, .ref nm, .int u.1, .int u.2.1, .ref ns, .int mfrom, .int mto, .int msort, .int misFault, .int mdeep, .int mcoded, .int mlines, .ref nl, .ref nc, .ref nF, .ref np, .ref ntr, .ref nb, .int mbestCost, .ref nso, .ref nsi, .ref nit, .ref nsh, .ref nsf, .ref nss, .ref nrc, .int mtraced, .int mdealer, .int mnumber, .int mwhose, .int msize, .int misParted])), (nw, .inl (G.2.1, 1662, .inl fnw)), (nm, .inl (G.2.1, 36, .inl u.2.2))]) := by
  refine MI.start (by decide +kernel) (Nat.le_of_ble_eq_true rfl) ?_
  intro p e s m below meth c A ls hC hK hP hD hS hA hl
  have hl : lv_has ls 6 [(0, .ref h0)] := hl
  obtain ⟨hx, hb, hr, hml, hB, hown, hlocks, hnm⟩ := id hC
  refine lv_aload_n hx hb dX12_impossible_0 rfl (lv_at hl 0 rfl) ?_
  refine iV (wr := []) hC hK hl hP hD hS hA (m_findClocksX l G kq k6 h0 nw nk mhasKept nt mtaped nr mrowMany mroundOf mroundFrom nm mfromHour mtoHour ns mfrom mto msort misFault mdeep mcoded mlines nl nc nF np ntr nb mbestCost nso nsi nit nsh nsf nss nrc mtraced mdealer mnumber mwhose msize misParted fnw fnm (hN) (hgp) (ekq) (hkq) (e6) (hk6)) si_X12_148 [0, 1, 2] [] rfl rfl (by decide) rfl (by decide) (by decide) rfl rfl rfl rfl rfl (Nat.le_of_ble_eq_true rfl) ⟨Nat.le_of_ble_eq_true rfl, Nat.le_of_ble_eq_true rfl⟩ ⟨Nat.le_of_ble_eq_true rfl, Nat.le_of_ble_eq_true rfl⟩ dX12_impossible_1 (fun r10757 u10758 H locs hr10757 hP hD hS => ?_)
  obtain ⟨gnm10759, rfl⟩ : ∃ z9, z9 = u10758 := ⟨_, rfl⟩
  try dsimp only at hr10757
  have hPD : va_PD G A [(h0, .inr (12, [.ref nw, .ref nk, .int mhasKept, .ref nt, .int mtaped, .ref nr, .int mrowMany, .int mroundOf, .int mroundFrom, .int 0, .ref nm, .int mfromHour, .int mtoHour, .ref ns, .int mfrom, .int mto, .int msort, .int misFault, .int mdeep, .int mcoded, .int mlines, .ref nl, .ref nc, .ref nF, .ref np, .ref ntr, .ref nb, .int mbestCost, .ref nso, .ref nsi, .ref nit, .ref nsh, .ref nsf, .ref nss, .ref nrc, .int mtraced, .int mdealer, .int mnumber, .int mwhose, .int msize, .int misParted])), (nw, .inl (G.2.1, 1662, .inl fnw)), (nm, .inl (G.2.1, 36, .inl gnm10759))] H := And.intro hP hD
  obtain ⟨hP, hD⟩ := hPD
  obtain ⟨hr10757, w10760⟩ := hr10757
  rcases hr10757 with ⟨rfl, a10761⟩ | ⟨rfl, a10761⟩
  · refine lv_istore_n (lv' := [(1, .int 1), (0, .ref h0)]) hx hb dX12_impossible_4 rfl hl (by decide) rfl (fun ls hl => ?_)
    refine lv_iconst (v := 0) hx hb dX12_impossible_5 (by decide) ?_
    refine lv_istore_n (lv' := [(2, .int 0), (1, .int 1), (0, .ref h0)]) hx hb dX12_impossible_6 rfl hl (by decide) rfl (fun ls hl => ?_)
    refine lv_iconst (v := 0) hx hb dX12_impossible_7 (by decide) ?_
    refine lv_istore_n (lv' := [(3, .int 0), (2, .int 0), (1, .int 1), (0, .ref h0)]) hx hb dX12_impossible_8 rfl hl (by decide) rfl (fun ls hl => ?_)
    have keyP : ∀ (nP kP : Nat) (se : Int32) (vfh : Int32) (vth : Int32) (H : Heap) (locs : List Loc) (ls : Array Slot), kP + nP = k8 → (se = IMB (fun s9 => CSQ (shf fnw 1424) (shf fnw 32) (fnw 0) (fnw 1) (fnw 2) s9 ∧ IMS (shf fnw 1424) (QSF (KST (shf fnw 104) (VSE fnw kq) (fnw 3).toInt k6) (shf fnw 104) (VSE fnw kq) (shf fnw 32) (shf fnw 12) (shf fnw 1424) k6) s9) kP) → va_PD G A [(h0, .inr (12, [.ref nw, .ref nk, .int mhasKept, .ref nt, .int mtaped, .ref nr, .int mrowMany, .int mroundOf, .int mroundFrom, .int 0, .ref nm, .int vfh, .int vth, .ref ns, .int mfrom, .int mto, .int msort, .int misFault, .int mdeep, .int mcoded, .int mlines, .ref nl, .ref nc, .ref nF, .ref np, .ref ntr, .ref nb, .int mbestCost, .ref nso, .ref nsi, .ref nit, .ref nsh, .ref nsf, .ref nss, .ref nrc, .int mtraced, .int mdealer, .int mnumber, .int mwhose, .int msize, .int misParted])), (nw, .inl (G.2.1, 1662, .inl fnw)), (nm, .inl (G.2.1, 36, .inl gnm10759))] H → va_S A s.heap H locs → lv_has ls 6 [(3, .int (nI kP)), (2, .int se), (1, .int 1), (0, .ref h0)] → W p l e (RM 6 0 0) s m ([.ref h0] : List Value).toArray below meth c H locs 0 0 (MQ below (QI G (fun (r : Int32) (u : Int32 × Int32 × (Nat → Int32)) => (r = (IMB (fun s9 => CSQ (shf fnw 1424) (shf fnw 32) (fnw 0) (fnw 1) (fnw 2) s9 ∧ IMS (shf fnw 1424) (QSF (KST (shf fnw 104) (VSE fnw kq) (fnw 3).toInt k6) (shf fnw 104) (VSE fnw kq) (shf fnw 32) (shf fnw 12) (shf fnw 1424) k6) s9) k8)) ∧ (MB u.2.2)) (fun u : Int32 × Int32 × (Nat → Int32) => [(h0, .inr (12, [.ref nw, .ref nk, .int mhasKept, .ref nt, .int mtaped, .ref nr, .int mrowMany, .int mroundOf, .int mroundFrom, .int 0, .ref nm, .int u.1, .int u.2.1, .ref ns, .int mfrom, .int mto, .int msort, .int misFault, .int mdeep, .int mcoded, .int mlines, .ref nl, .ref nc, .ref nF, .ref np, .ref ntr, .ref nb, .int mbestCost, .ref nso, .ref nsi, .ref nit, .ref nsh, .ref nsf, .ref nss, .ref nrc, .int mtraced, .int mdealer, .int mnumber, .int mwhose, .int msize, .int misParted])), (nw, .inl (G.2.1, 1662, .inl fnw)), (nm, .inl (G.2.1, 36, .inl u.2.2))]) A) ([.ref h0] : List Value).toArray s 0 0 A) (F0 m 9 ls []) := by
      intro nP
      induction nP with
      | zero =>
        intro kP se vfh vth H locs ls hkP hse hPD hS hl
        obtain ⟨hP, hD⟩ := hPD
        obtain rfl : k8 = kP := by omega
        have hl : lv_has ls 6 [(3, .int (nI k8)), (2, .int se), (1, .int 1), (0, .ref h0)] := hl
        refine lv_iload_n hx hb dX12_impossible_9 rfl (lv_at hl 0 rfl) ?_
        refine lv_aload_n hx hb dX12_impossible_10 rfl (lv_at hl 3 rfl) ?_
        refine gf_X12_9 hC rfl hK hP 0 rfl rfl dX12_impossible_11 ?_
        refine lv_bipush (v := 8) hx hb dX12_impossible_14 (by decide) ?_
        refine ald hC hK hP 1 rfl (vin (by decide +kernel)) (k := 8) (by decide +kernel) (v := nI k8) (ek8) dX12_impossible_16 ?_
        refine lv_icmp_ge (tgt := 104) hx hb dX12_impossible_17 (by decide) (fun _ => ?_) (fun c9 => absurd (Int32.le_refl _) c9)
        refine lv_iload_n hx hb dX12_impossible_104 rfl (lv_at hl 1 rfl) ?_
        exact RI (v := se) hC hP hD hS [0, 1, 2] (vfh, vth, gnm10759) rfl rfl (by decide) (⟨hse, by first | assumption | exact hM⟩) rfl dX12_impossible_105
      | succ nP ihP =>
        intro kP se vfh vth H locs ls hkP hse hPD hS hl
        obtain ⟨hP, hD⟩ := hPD
        refine lv_iload_n hx hb dX12_impossible_9 rfl (lv_at hl 0 rfl) ?_
        refine lv_aload_n hx hb dX12_impossible_10 rfl (lv_at hl 3 rfl) ?_
        refine gf_X12_9 hC rfl hK hP 0 rfl rfl dX12_impossible_11 ?_
        refine lv_bipush (v := 8) hx hb dX12_impossible_14 (by decide) ?_
        refine ald hC hK hP 1 rfl (vin (by decide +kernel)) (k := 8) (by decide +kernel) (v := nI k8) (ek8) dX12_impossible_16 ?_
        refine lv_icmp_ge (tgt := 104) hx hb dX12_impossible_17 (by decide) (fun c9 => absurd c9 (nI_ge (a := kP) (b := k8) (by omega) (by omega))) (fun _ => ?_)
        refine lv_aload_n hx hb dX12_impossible_20 rfl (lv_at hl 3 rfl) ?_
        refine lv_iload_n hx hb dX12_impossible_21 rfl (lv_at hl 0 rfl) ?_
        refine pV hC hK hl hP hD (m_doesCountX l G h0 kP nw nk mhasKept nt mtaped nr mrowMany mroundOf mroundFrom nm vfh vth ns mfrom mto msort misFault mdeep mcoded mlines nl nc nF np ntr nb mbestCost nso nsi nit nsh nsf nss nrc mtraced mdealer mnumber mwhose msize misParted fnw (by omega) (hN)) si_X12_117 [0, 1] rfl rfl (by decide) rfl rfl rfl rfl rfl (Nat.le_of_ble_eq_true rfl) ⟨Nat.le_of_ble_eq_true rfl, Nat.le_of_ble_eq_true rfl⟩ ⟨by first | exact Nat.le_of_ble_eq_true rfl | exact Nat.zero_le _, by first | exact Nat.le_of_ble_eq_true rfl | exact Nat.zero_le _⟩ dX12_impossible_22 (fun r10762 hr10762 => ?_)
        rcases hr10762 with ⟨rfl, a10763⟩ | ⟨rfl, a10763⟩
        · refine lv_if_eq (tgt := 98) hx hb dX12_impossible_25 (by decide) (fun c9 => absurd c9 (by decide)) (fun _ => ?_)
          refine lv_aload_n hx hb dX12_impossible_28 rfl (lv_at hl 3 rfl) ?_
          refine lv_aload_n hx hb dX12_impossible_29 rfl (lv_at hl 3 rfl) ?_
          refine lv_iload_n hx hb dX12_impossible_30 rfl (lv_at hl 0 rfl) ?_
          refine lv_iconst (v := 2) hx hb dX12_impossible_31 (by decide) ?_
          refine pV hC hK hl hP hD (m_saying l G h0 kP 2 nw nk mhasKept nt mtaped nr mrowMany mroundOf mroundFrom 0 nm vfh vth ns mfrom mto msort misFault mdeep mcoded mlines nl nc nF np ntr nb mbestCost nso nsi nit nsh nsf nss nrc mtraced mdealer mnumber mwhose msize misParted fnw (by omega) (by omega)) si_X12_114 [0, 1] rfl rfl (by decide) rfl rfl rfl rfl rfl (Nat.le_of_ble_eq_true rfl) ⟨Nat.le_of_ble_eq_true rfl, Nat.le_of_ble_eq_true rfl⟩ ⟨by first | exact Nat.le_of_ble_eq_true rfl | exact Nat.zero_le _, by first | exact Nat.le_of_ble_eq_true rfl | exact Nat.zero_le _⟩ dX12_impossible_32 (fun r10764 hr10764 => ?_)
          obtain rfl := hr10764
          obtain ⟨jx, hjx, ejx⟩ := Hs_nat (by omega) (hSP kP (by omega))
          refine eqi (x1 := nI jx) (shf_sa.symm.trans ejx) ?_
          refine lv_aload_n hx hb dX12_impossible_35 rfl (lv_at hl 3 rfl) ?_
          refine lv_iload_n hx hb dX12_impossible_36 rfl (lv_at hl 0 rfl) ?_
          refine lv_iconst (v := 1) hx hb dX12_impossible_37 (by decide) ?_
          refine pV hC hK hl hP hD (m_saying l G h0 kP 1 nw nk mhasKept nt mtaped nr mrowMany mroundOf mroundFrom 0 nm vfh vth ns mfrom mto msort misFault mdeep mcoded mlines nl nc nF np ntr nb mbestCost nso nsi nit nsh nsf nss nrc mtraced mdealer mnumber mwhose msize misParted fnw (by omega) (by omega)) si_X12_114 [0, 1] rfl rfl (by decide) rfl rfl rfl rfl rfl (Nat.le_of_ble_eq_true rfl) ⟨Nat.le_of_ble_eq_true rfl, Nat.le_of_ble_eq_true rfl⟩ ⟨by first | exact Nat.le_of_ble_eq_true rfl | exact Nat.zero_le _, by first | exact Nat.le_of_ble_eq_true rfl | exact Nat.zero_le _⟩ dX12_impossible_38 (fun r10766 hr10766 => ?_)
          obtain rfl := hr10766
          obtain ⟨jo, hjo, ejo⟩ := Hs_nat (by omega) ((hSO kP (by omega)).1)
          refine eqi (x1 := nI jo) (shf_sa.symm.trans ejo) ?_
          refine lv_iload_n hx hb dX12_impossible_41 rfl (lv_at hl 2 rfl) ?_
          refine vV (wr := []) hC hK hl hP hD hS hA (m_findHoursC l G kq k6 h0 jx jo nw nk mhasKept nt mtaped nr mrowMany mroundOf mroundFrom nm vfh vth ns mfrom mto msort misFault mdeep mcoded mlines nl nc nF np ntr nb mbestCost nso nsi nit nsh nsf nss nrc mtraced mdealer mnumber mwhose msize misParted fnw gnm10759 (e6) (hk6) (ekq) (a10761) (by omega)) si_X12_298 [0, 1, 2] [] rfl rfl (by decide) rfl (by decide) (by decide) rfl rfl rfl rfl rfl (Nat.le_of_ble_eq_true rfl) ⟨Nat.le_of_ble_eq_true rfl, Nat.le_of_ble_eq_true rfl⟩ ⟨Nat.le_of_ble_eq_true rfl, Nat.le_of_ble_eq_true rfl⟩ dX12_impossible_42 (fun u10769 H locs hr10768 hP hD hS => ?_)
          obtain ⟨fh110770, th110771⟩ := u10769
          try dsimp only at hr10768
          have hPD : va_PD G A [(h0, .inr (12, [.ref nw, .ref nk, .int mhasKept, .ref nt, .int mtaped, .ref nr, .int mrowMany, .int mroundOf, .int mroundFrom, .int 0, .ref nm, .int fh110770, .int th110771, .ref ns, .int mfrom, .int mto, .int msort, .int misFault, .int mdeep, .int mcoded, .int mlines, .ref nl, .ref nc, .ref nF, .ref np, .ref ntr, .ref nb, .int mbestCost, .ref nso, .ref nsi, .ref nit, .ref nsh, .ref nsf, .ref nss, .ref nrc, .int mtraced, .int mdealer, .int mnumber, .int mwhose, .int msize, .int misParted])), (nw, .inl (G.2.1, 1662, .inl fnw)), (nm, .inl (G.2.1, 36, .inl gnm10759))] H := And.intro hP hD
          obtain ⟨hP, hD⟩ := hPD
          have w10772 := hr10768
          have hsl9 : 0 ≤ (shf fnw 12 (jo * 2 + 1)).toInt ∧ (shf fnw 12 (jo * 2 + 1)).toInt ≤ 48 := NI.slow hN (by omega)
          have hle9 := HIQ.le (SVL.ofm hN (by omega)) hsl9.1 hsl9.2 w10772
          have hqs9 : QSF (KST (shf fnw 104) (VSE fnw kq) (fnw 3).toInt k6) (shf fnw 104) (VSE fnw kq) (shf fnw 32) (shf fnw 12) (shf fnw 1424) k6 kP fh110770 th110771 := QSF.mk ejx ejo (by omega) (by omega) w10772
          refine lv_iconst (v := 1) hx hb dX12_impossible_45 (by decide) ?_
          refine lv_istore (lv' := [(4, .int 1), (3, .int (nI kP)), (2, .int se), (1, .int 1), (0, .ref h0)]) hx hb dX12_impossible_46 hl (by decide) rfl (fun ls hl => ?_)
          refine lv_aload_n hx hb dX12_impossible_48 rfl (lv_at hl 4 rfl) ?_
          refine gf_X12_161 hC rfl hK hP 0 rfl rfl dX12_impossible_49 ?_
          refine lv_istore (lv' := [(5, .int fh110770), (4, .int 1), (3, .int (nI kP)), (2, .int se), (1, .int 1), (0, .ref h0)]) hx hb dX12_impossible_52 hl (by decide) rfl (fun ls hl => ?_)
          have keyZ : ∀ (nZ : Nat) (hZx : Int32) (al : Int32) (H : Heap) (locs : List Loc) (ls : Array Slot), (th110771).toInt + 1 - hZx.toInt ≤ (nZ : Int) → (ALI (shf fnw 1424) kP fh110770 th110771 hZx al) → va_PD G A [(h0, .inr (12, [.ref nw, .ref nk, .int mhasKept, .ref nt, .int mtaped, .ref nr, .int mrowMany, .int mroundOf, .int mroundFrom, .int 0, .ref nm, .int fh110770, .int th110771, .ref ns, .int mfrom, .int mto, .int msort, .int misFault, .int mdeep, .int mcoded, .int mlines, .ref nl, .ref nc, .ref nF, .ref np, .ref ntr, .ref nb, .int mbestCost, .ref nso, .ref nsi, .ref nit, .ref nsh, .ref nsf, .ref nss, .ref nrc, .int mtraced, .int mdealer, .int mnumber, .int mwhose, .int msize, .int misParted])), (nw, .inl (G.2.1, 1662, .inl fnw)), (nm, .inl (G.2.1, 36, .inl gnm10759))] H → va_S A s.heap H locs → lv_has ls 6 [(5, .int hZx), (4, .int al), (3, .int (nI kP)), (2, .int se), (1, .int 1), (0, .ref h0)] → W p l e (RM 6 0 0) s m ([.ref h0] : List Value).toArray below meth c H locs 0 0 (MQ below (QI G (fun (r : Int32) (u : Int32 × Int32 × (Nat → Int32)) => (r = (IMB (fun s9 => CSQ (shf fnw 1424) (shf fnw 32) (fnw 0) (fnw 1) (fnw 2) s9 ∧ IMS (shf fnw 1424) (QSF (KST (shf fnw 104) (VSE fnw kq) (fnw 3).toInt k6) (shf fnw 104) (VSE fnw kq) (shf fnw 32) (shf fnw 12) (shf fnw 1424) k6) s9) k8)) ∧ (MB u.2.2)) (fun u : Int32 × Int32 × (Nat → Int32) => [(h0, .inr (12, [.ref nw, .ref nk, .int mhasKept, .ref nt, .int mtaped, .ref nr, .int mrowMany, .int mroundOf, .int mroundFrom, .int 0, .ref nm, .int u.1, .int u.2.1, .ref ns, .int mfrom, .int mto, .int msort, .int misFault, .int mdeep, .int mcoded, .int mlines, .ref nl, .ref nc, .ref nF, .ref np, .ref ntr, .ref nb, .int mbestCost, .ref nso, .ref nsi, .ref nit, .ref nsh, .ref nsf, .ref nss, .ref nrc, .int mtraced, .int mdealer, .int mnumber, .int mwhose, .int msize, .int misParted])), (nw, .inl (G.2.1, 1662, .inl fnw)), (nm, .inl (G.2.1, 36, .inl u.2.2))]) A) ([.ref h0] : List Value).toArray s 0 0 A) (F0 m 54 ls []) := by
            intro nZ
            induction nZ with
            | zero =>
              intro hZx al H locs ls hkZ hvZ hPD hS hl
              obtain ⟨hP, hD⟩ := hPD
              have hzZ : th110771 < hZx := hz_end (by omega)
              refine lv_iload hx hb dX12_impossible_54 (lv_at hl 0 rfl) ?_
              refine lv_aload_n hx hb dX12_impossible_56 rfl (lv_at hl 5 rfl) ?_
              refine gf_X12_164 hC rfl hK hP 0 rfl rfl dX12_impossible_57 ?_
              refine lv_icmp_gt (tgt := 83) hx hb dX12_impossible_60 (by decide) (fun _ => ?_) (fun c9 => absurd (hzZ) c9)
              refine lv_iload_n hx hb dX12_impossible_83 rfl (lv_at hl 3 rfl) ?_
              refine lv_iload hx hb dX12_impossible_84 (lv_at hl 1 rfl) ?_
              refine lv_if_eq (tgt := 95) hx hb dX12_impossible_86 (by decide) (fun c_86_10773 => ?_) (fun c_86_10773 => ?_)
              · refine lv_iconst (v := 0) hx hb dX12_impossible_95 (by decide) ?_
                refine lv_ior hx hb dX12_impossible_96 ?_
                refine lv_istore_n (lv' := [(2, .int (se ||| 0)), (5, .int hZx), (4, .int al), (3, .int (nI kP)), (1, .int 1), (0, .ref h0)]) hx hb dX12_impossible_97 rfl hl (by decide) rfl (fun ls hl => ?_)
                refine lv_iinc (v := nI (kP + 1)) (lv' := [(3, .int (nI (kP + 1))), (2, .int (se ||| 0)), (5, .int hZx), (4, .int al), (1, .int 1), (0, .ref h0)]) hx hb dX12_impossible_98 hl (k := 3) rfl (nI_1 _) (by decide) rfl (fun ls hl => ?_)
                refine lv_goto (tgt := 9) hx hb dX12_impossible_101 (by decide) ?_
                have hst9 : se ||| 0 = IMB (fun s9 => CSQ (shf fnw 1424) (shf fnw 32) (fnw 0) (fnw 1) (fnw 2) s9 ∧ IMS (shf fnw 1424) (QSF (KST (shf fnw 104) (VSE fnw kq) (fnw 3).toInt k6) (shf fnw 104) (VSE fnw kq) (shf fnw 32) (shf fnw 12) (shf fnw 1424) k6) s9) (kP + 1) := IMB.n0 hse (fun h9 => IMS.not (SVL.ofm hN (by omega)) hqs9 hle9.1 (hvZ.no c_86_10773) h9.2)
                exact ihP (kP + 1) (se ||| 0) fh110770 th110771 _ _ _ (by omega) (by first | assumption | exact Or.inl rfl | exact Or.inr rfl | exact rfl) (And.intro hP hD) hS (lv_sub hl [0, 1, 4, 5] rfl)
              · refine lv_iconst (v := 1) hx hb dX12_impossible_89 (by decide) ?_
                refine lv_iload_n hx hb dX12_impossible_90 rfl (lv_at hl 2 rfl) ?_
                refine lv_ishl hx hb dX12_impossible_91 ?_
                refine lv_goto (tgt := 96) hx hb dX12_impossible_92 (by decide) ?_
                refine lv_ior hx hb dX12_impossible_96 ?_
                refine lv_istore_n (lv' := [(2, .int (se ||| (1 <<< ((nI kP) &&& 31)))), (5, .int hZx), (4, .int al), (3, .int (nI kP)), (1, .int 1), (0, .ref h0)]) hx hb dX12_impossible_97 rfl hl (by decide) rfl (fun ls hl => ?_)
                refine lv_iinc (v := nI (kP + 1)) (lv' := [(3, .int (nI (kP + 1))), (2, .int (se ||| (1 <<< ((nI kP) &&& 31)))), (5, .int hZx), (4, .int al), (1, .int 1), (0, .ref h0)]) hx hb dX12_impossible_98 hl (k := 3) rfl (nI_1 _) (by decide) rfl (fun ls hl => ?_)
                refine lv_goto (tgt := 9) hx hb dX12_impossible_101 (by decide) ?_
                have hst9 : se ||| (1 <<< ((nI kP) &&& 31)) = IMB (fun s9 => CSQ (shf fnw 1424) (shf fnw 32) (fnw 0) (fnw 1) (fnw 2) s9 ∧ IMS (shf fnw 1424) (QSF (KST (shf fnw 104) (VSE fnw kq) (fnw 3).toInt k6) (shf fnw 104) (VSE fnw kq) (shf fnw 32) (shf fnw 12) (shf fnw 1424) k6) s9) (kP + 1) := IMB.y hse ⟨a10763, IMS.yes hqs9 hle9.1 (hvZ.yes hzZ c_86_10773)⟩
                exact ihP (kP + 1) (se ||| (1 <<< ((nI kP) &&& 31))) fh110770 th110771 _ _ _ (by omega) (by first | assumption | exact Or.inl rfl | exact Or.inr rfl | exact rfl) (And.intro hP hD) hS (lv_sub hl [0, 1, 4, 5] rfl)
            | succ nZ ihZ =>
              intro hZx al H locs ls hkZ hvZ hPD hS hl
              obtain ⟨hP, hD⟩ := hPD
              refine lv_iload hx hb dX12_impossible_54 (lv_at hl 0 rfl) ?_
              refine lv_aload_n hx hb dX12_impossible_56 rfl (lv_at hl 5 rfl) ?_
              refine gf_X12_164 hC rfl hK hP 0 rfl rfl dX12_impossible_57 ?_
              refine lv_icmp_gt (tgt := 83) hx hb dX12_impossible_60 (by decide) (fun c_60_10774 => ?_) (fun c_60_10774 => ?_)
              · refine lv_iload_n hx hb dX12_impossible_83 rfl (lv_at hl 3 rfl) ?_
                refine lv_iload hx hb dX12_impossible_84 (lv_at hl 1 rfl) ?_
                refine lv_if_eq (tgt := 95) hx hb dX12_impossible_86 (by decide) (fun c_86_10775 => ?_) (fun c_86_10775 => ?_)
                · refine lv_iconst (v := 0) hx hb dX12_impossible_95 (by decide) ?_
                  refine lv_ior hx hb dX12_impossible_96 ?_
                  refine lv_istore_n (lv' := [(2, .int (se ||| 0)), (5, .int hZx), (4, .int al), (3, .int (nI kP)), (1, .int 1), (0, .ref h0)]) hx hb dX12_impossible_97 rfl hl (by decide) rfl (fun ls hl => ?_)
                  refine lv_iinc (v := nI (kP + 1)) (lv' := [(3, .int (nI (kP + 1))), (2, .int (se ||| 0)), (5, .int hZx), (4, .int al), (1, .int 1), (0, .ref h0)]) hx hb dX12_impossible_98 hl (k := 3) rfl (nI_1 _) (by decide) rfl (fun ls hl => ?_)
                  refine lv_goto (tgt := 9) hx hb dX12_impossible_101 (by decide) ?_
                  have hst9 : se ||| 0 = IMB (fun s9 => CSQ (shf fnw 1424) (shf fnw 32) (fnw 0) (fnw 1) (fnw 2) s9 ∧ IMS (shf fnw 1424) (QSF (KST (shf fnw 104) (VSE fnw kq) (fnw 3).toInt k6) (shf fnw 104) (VSE fnw kq) (shf fnw 32) (shf fnw 12) (shf fnw 1424) k6) s9) (kP + 1) := IMB.n0 hse (fun h9 => IMS.not (SVL.ofm hN (by omega)) hqs9 hle9.1 (hvZ.no c_86_10775) h9.2)
                  exact ihP (kP + 1) (se ||| 0) fh110770 th110771 _ _ _ (by omega) (by first | assumption | exact Or.inl rfl | exact Or.inr rfl | exact rfl) (And.intro hP hD) hS (lv_sub hl [0, 1, 4, 5] rfl)
                · refine lv_iconst (v := 1) hx hb dX12_impossible_89 (by decide) ?_
                  refine lv_iload_n hx hb dX12_impossible_90 rfl (lv_at hl 2 rfl) ?_
                  refine lv_ishl hx hb dX12_impossible_91 ?_
                  refine lv_goto (tgt := 96) hx hb dX12_impossible_92 (by decide) ?_
                  refine lv_ior hx hb dX12_impossible_96 ?_
                  refine lv_istore_n (lv' := [(2, .int (se ||| (1 <<< ((nI kP) &&& 31)))), (5, .int hZx), (4, .int al), (3, .int (nI kP)), (1, .int 1), (0, .ref h0)]) hx hb dX12_impossible_97 rfl hl (by decide) rfl (fun ls hl => ?_)
                  refine lv_iinc (v := nI (kP + 1)) (lv' := [(3, .int (nI (kP + 1))), (2, .int (se ||| (1 <<< ((nI kP) &&& 31)))), (5, .int hZx), (4, .int al), (1, .int 1), (0, .ref h0)]) hx hb dX12_impossible_98 hl (k := 3) rfl (nI_1 _) (by decide) rfl (fun ls hl => ?_)
                  refine lv_goto (tgt := 9) hx hb dX12_impossible_101 (by decide) ?_
                  have hst9 : se ||| (1 <<< ((nI kP) &&& 31)) = IMB (fun s9 => CSQ (shf fnw 1424) (shf fnw 32) (fnw 0) (fnw 1) (fnw 2) s9 ∧ IMS (shf fnw 1424) (QSF (KST (shf fnw 104) (VSE fnw kq) (fnw 3).toInt k6) (shf fnw 104) (VSE fnw kq) (shf fnw 32) (shf fnw 12) (shf fnw 1424) k6) s9) (kP + 1) := IMB.y hse ⟨a10763, IMS.yes hqs9 hle9.1 (hvZ.yes c_60_10774 c_86_10775)⟩
                  exact ihP (kP + 1) (se ||| (1 <<< ((nI kP) &&& 31))) fh110770 th110771 _ _ _ (by omega) (by first | assumption | exact Or.inl rfl | exact Or.inr rfl | exact rfl) (And.intro hP hD) hS (lv_sub hl [0, 1, 4, 5] rfl)
              · refine lv_iload hx hb dX12_impossible_63 (lv_at hl 1 rfl) ?_
                refine lv_if_eq (tgt := 83) hx hb dX12_impossible_65 (by decide) (fun c_65_10776 => ?_) (fun c_65_10776 => ?_)
                · refine lv_iload_n hx hb dX12_impossible_83 rfl (lv_at hl 3 rfl) ?_
                  refine lv_iload hx hb dX12_impossible_84 (lv_at hl 1 rfl) ?_
                  refine lv_if_eq (tgt := 95) hx hb dX12_impossible_86 (by decide) (fun _ => ?_) (fun c9 => absurd (c_65_10776) c9)
                  refine lv_iconst (v := 0) hx hb dX12_impossible_95 (by decide) ?_
                  refine lv_ior hx hb dX12_impossible_96 ?_
                  refine lv_istore_n (lv' := [(2, .int (se ||| 0)), (5, .int hZx), (4, .int al), (3, .int (nI kP)), (1, .int 1), (0, .ref h0)]) hx hb dX12_impossible_97 rfl hl (by decide) rfl (fun ls hl => ?_)
                  refine lv_iinc (v := nI (kP + 1)) (lv' := [(3, .int (nI (kP + 1))), (2, .int (se ||| 0)), (5, .int hZx), (4, .int al), (1, .int 1), (0, .ref h0)]) hx hb dX12_impossible_98 hl (k := 3) rfl (nI_1 _) (by decide) rfl (fun ls hl => ?_)
                  refine lv_goto (tgt := 9) hx hb dX12_impossible_101 (by decide) ?_
                  have hst9 : se ||| 0 = IMB (fun s9 => CSQ (shf fnw 1424) (shf fnw 32) (fnw 0) (fnw 1) (fnw 2) s9 ∧ IMS (shf fnw 1424) (QSF (KST (shf fnw 104) (VSE fnw kq) (fnw 3).toInt k6) (shf fnw 104) (VSE fnw kq) (shf fnw 32) (shf fnw 12) (shf fnw 1424) k6) s9) (kP + 1) := IMB.n0 hse (fun h9 => IMS.not (SVL.ofm hN (by omega)) hqs9 hle9.1 (hvZ.no c_65_10776) h9.2)
                  exact ihP (kP + 1) (se ||| 0) fh110770 th110771 _ _ _ (by omega) (by first | assumption | exact Or.inl rfl | exact Or.inr rfl | exact rfl) (And.intro hP hD) hS (lv_sub hl [0, 1, 4, 5] rfl)
                · refine lv_aload_n hx hb dX12_impossible_68 rfl (lv_at hl 5 rfl) ?_
                  refine lv_iload hx hb dX12_impossible_69 (lv_at hl 0 rfl) ?_
                  refine lv_iload_n hx hb dX12_impossible_71 rfl (lv_at hl 2 rfl) ?_
                  refine pV hC hK hl hP hD (m_isAgainstX l G h0 hZx kP nw nk mhasKept nt mtaped nr mrowMany mroundOf mroundFrom 0 nm fh110770 th110771 ns mfrom mto msort misFault mdeep mcoded mlines nl nc nF np ntr nb mbestCost nso nsi nit nsh nsf nss nrc mtraced mdealer mnumber mwhose msize misParted fnw (by omega)) si_X12_302 [0, 1] rfl rfl (by decide) rfl rfl rfl rfl rfl (Nat.le_of_ble_eq_true rfl) ⟨Nat.le_of_ble_eq_true rfl, Nat.le_of_ble_eq_true rfl⟩ ⟨by first | exact Nat.le_of_ble_eq_true rfl | exact Nat.zero_le _, by first | exact Nat.le_of_ble_eq_true rfl | exact Nat.zero_le _⟩ dX12_impossible_72 (fun r10777 hr10777 => ?_)
                  rcases hr10777 with ⟨rfl, a10778⟩ | ⟨rfl, a10778⟩
                  · refine lv_istore (lv' := [(4, .int 1), (5, .int hZx), (3, .int (nI kP)), (2, .int se), (1, .int 1), (0, .ref h0)]) hx hb dX12_impossible_75 hl (by decide) rfl (fun ls hl => ?_)
                    refine lv_iinc (v := hZx + 1) (lv' := [(5, .int (hZx + 1)), (4, .int 1), (3, .int (nI kP)), (2, .int se), (1, .int 1), (0, .ref h0)]) hx hb dX12_impossible_77 hl (k := 1) rfl (rfl) (by decide) rfl (fun ls hl => ?_)
                    refine lv_goto (tgt := 54) hx hb dX12_impossible_80 (by decide) ?_
                    exact ihZ (hZx + 1) 1 _ _ _ (hz_back c_60_10774 hle9.2.2 hkZ) (ALI.next hvZ c_60_10774 (by omega) c_65_10776 a10778) (And.intro hP hD) hS (lv_sub hl [0, 1, 2, 3, 4, 5] rfl)
                  · refine lv_istore (lv' := [(4, .int 0), (5, .int hZx), (3, .int (nI kP)), (2, .int se), (1, .int 1), (0, .ref h0)]) hx hb dX12_impossible_75 hl (by decide) rfl (fun ls hl => ?_)
                    refine lv_iinc (v := hZx + 1) (lv' := [(5, .int (hZx + 1)), (4, .int 0), (3, .int (nI kP)), (2, .int se), (1, .int 1), (0, .ref h0)]) hx hb dX12_impossible_77 hl (k := 1) rfl (rfl) (by decide) rfl (fun ls hl => ?_)
                    refine lv_goto (tgt := 54) hx hb dX12_impossible_80 (by decide) ?_
                    exact ihZ (hZx + 1) 0 _ _ _ (hz_back c_60_10774 hle9.2.2 hkZ) (ALI.stop hvZ c_60_10774 (by omega) a10778) (And.intro hP hD) hS (lv_sub hl [0, 1, 2, 3, 4, 5] rfl)
          exact keyZ ((th110771).toInt + 1 - (fh110770).toInt).toNat fh110770 1 _ _ _ (by omega) (ALI.zero) (And.intro hP hD) hS (lv_sub hl [0, 1, 2, 3, 4, 5] rfl)
        · refine lv_if_eq (tgt := 98) hx hb dX12_impossible_25 (by decide) (fun _ => ?_) (fun c9 => absurd (by decide) c9)
          refine lv_iinc (v := nI (kP + 1)) (lv' := [(3, .int (nI (kP + 1))), (2, .int se), (1, .int 1), (0, .ref h0)]) hx hb dX12_impossible_98 hl (k := 0) rfl (nI_1 _) (by decide) rfl (fun ls hl => ?_)
          refine lv_goto (tgt := 9) hx hb dX12_impossible_101 (by decide) ?_
          have hst9 : se = IMB (fun s9 => CSQ (shf fnw 1424) (shf fnw 32) (fnw 0) (fnw 1) (fnw 2) s9 ∧ IMS (shf fnw 1424) (QSF (KST (shf fnw 104) (VSE fnw kq) (fnw 3).toInt k6) (shf fnw 104) (VSE fnw kq) (shf fnw 32) (shf fnw 12) (shf fnw 1424) k6) s9) (kP + 1) := IMB.n hse (fun h9 => a10763 h9.1)
          exact ihP (kP + 1) se vfh vth _ _ _ (by omega) (by first | assumption | exact Or.inl rfl | exact Or.inr rfl | exact rfl) (And.intro hP hD) hS (lv_sub hl [0, 1, 2, 3] rfl)
    exact keyP k8 0 0 mfromHour mtoHour _ _ _ (by omega) (by first | assumption | exact Or.inl rfl | exact Or.inr rfl | exact rfl) (And.intro hP hD) hS (lv_sub hl [0, 1, 2, 3] rfl)
  · refine lv_istore_n (lv' := [(1, .int 0), (0, .ref h0)]) hx hb dX12_impossible_4 rfl hl (by decide) rfl (fun ls hl => ?_)
    refine lv_iconst (v := 0) hx hb dX12_impossible_5 (by decide) ?_
    refine lv_istore_n (lv' := [(2, .int 0), (1, .int 0), (0, .ref h0)]) hx hb dX12_impossible_6 rfl hl (by decide) rfl (fun ls hl => ?_)
    refine lv_iconst (v := 0) hx hb dX12_impossible_7 (by decide) ?_
    refine lv_istore_n (lv' := [(3, .int 0), (2, .int 0), (1, .int 0), (0, .ref h0)]) hx hb dX12_impossible_8 rfl hl (by decide) rfl (fun ls hl => ?_)
    have keyP : ∀ (nP kP : Nat) (se : Int32) (vfh : Int32) (vth : Int32) (H : Heap) (locs : List Loc) (ls : Array Slot), kP + nP = k8 → (se = IMB (fun s9 => CSQ (shf fnw 1424) (shf fnw 32) (fnw 0) (fnw 1) (fnw 2) s9 ∧ IMS (shf fnw 1424) (QSF (KST (shf fnw 104) (VSE fnw kq) (fnw 3).toInt k6) (shf fnw 104) (VSE fnw kq) (shf fnw 32) (shf fnw 12) (shf fnw 1424) k6) s9) kP) → va_PD G A [(h0, .inr (12, [.ref nw, .ref nk, .int mhasKept, .ref nt, .int mtaped, .ref nr, .int mrowMany, .int mroundOf, .int mroundFrom, .int 0, .ref nm, .int vfh, .int vth, .ref ns, .int mfrom, .int mto, .int msort, .int misFault, .int mdeep, .int mcoded, .int mlines, .ref nl, .ref nc, .ref nF, .ref np, .ref ntr, .ref nb, .int mbestCost, .ref nso, .ref nsi, .ref nit, .ref nsh, .ref nsf, .ref nss, .ref nrc, .int mtraced, .int mdealer, .int mnumber, .int mwhose, .int msize, .int misParted])), (nw, .inl (G.2.1, 1662, .inl fnw)), (nm, .inl (G.2.1, 36, .inl gnm10759))] H → va_S A s.heap H locs → lv_has ls 6 [(3, .int (nI kP)), (2, .int se), (1, .int 0), (0, .ref h0)] → W p l e (RM 6 0 0) s m ([.ref h0] : List Value).toArray below meth c H locs 0 0 (MQ below (QI G (fun (r : Int32) (u : Int32 × Int32 × (Nat → Int32)) => (r = (IMB (fun s9 => CSQ (shf fnw 1424) (shf fnw 32) (fnw 0) (fnw 1) (fnw 2) s9 ∧ IMS (shf fnw 1424) (QSF (KST (shf fnw 104) (VSE fnw kq) (fnw 3).toInt k6) (shf fnw 104) (VSE fnw kq) (shf fnw 32) (shf fnw 12) (shf fnw 1424) k6) s9) k8)) ∧ (MB u.2.2)) (fun u : Int32 × Int32 × (Nat → Int32) => [(h0, .inr (12, [.ref nw, .ref nk, .int mhasKept, .ref nt, .int mtaped, .ref nr, .int mrowMany, .int mroundOf, .int mroundFrom, .int 0, .ref nm, .int u.1, .int u.2.1, .ref ns, .int mfrom, .int mto, .int msort, .int misFault, .int mdeep, .int mcoded, .int mlines, .ref nl, .ref nc, .ref nF, .ref np, .ref ntr, .ref nb, .int mbestCost, .ref nso, .ref nsi, .ref nit, .ref nsh, .ref nsf, .ref nss, .ref nrc, .int mtraced, .int mdealer, .int mnumber, .int mwhose, .int msize, .int misParted])), (nw, .inl (G.2.1, 1662, .inl fnw)), (nm, .inl (G.2.1, 36, .inl u.2.2))]) A) ([.ref h0] : List Value).toArray s 0 0 A) (F0 m 9 ls []) := by
      intro nP
      induction nP with
      | zero =>
        intro kP se vfh vth H locs ls hkP hse hPD hS hl
        obtain ⟨hP, hD⟩ := hPD
        obtain rfl : k8 = kP := by omega
        have hl : lv_has ls 6 [(3, .int (nI k8)), (2, .int se), (1, .int 0), (0, .ref h0)] := hl
        refine lv_iload_n hx hb dX12_impossible_9 rfl (lv_at hl 0 rfl) ?_
        refine lv_aload_n hx hb dX12_impossible_10 rfl (lv_at hl 3 rfl) ?_
        refine gf_X12_9 hC rfl hK hP 0 rfl rfl dX12_impossible_11 ?_
        refine lv_bipush (v := 8) hx hb dX12_impossible_14 (by decide) ?_
        refine ald hC hK hP 1 rfl (vin (by decide +kernel)) (k := 8) (by decide +kernel) (v := nI k8) (ek8) dX12_impossible_16 ?_
        refine lv_icmp_ge (tgt := 104) hx hb dX12_impossible_17 (by decide) (fun _ => ?_) (fun c9 => absurd (Int32.le_refl _) c9)
        refine lv_iload_n hx hb dX12_impossible_104 rfl (lv_at hl 1 rfl) ?_
        exact RI (v := se) hC hP hD hS [0, 1, 2] (vfh, vth, gnm10759) rfl rfl (by decide) (⟨hse, by first | assumption | exact hM⟩) rfl dX12_impossible_105
      | succ nP ihP =>
        intro kP se vfh vth H locs ls hkP hse hPD hS hl
        obtain ⟨hP, hD⟩ := hPD
        refine lv_iload_n hx hb dX12_impossible_9 rfl (lv_at hl 0 rfl) ?_
        refine lv_aload_n hx hb dX12_impossible_10 rfl (lv_at hl 3 rfl) ?_
        refine gf_X12_9 hC rfl hK hP 0 rfl rfl dX12_impossible_11 ?_
        refine lv_bipush (v := 8) hx hb dX12_impossible_14 (by decide) ?_
        refine ald hC hK hP 1 rfl (vin (by decide +kernel)) (k := 8) (by decide +kernel) (v := nI k8) (ek8) dX12_impossible_16 ?_
        refine lv_icmp_ge (tgt := 104) hx hb dX12_impossible_17 (by decide) (fun c9 => absurd c9 (nI_ge (a := kP) (b := k8) (by omega) (by omega))) (fun _ => ?_)
        refine lv_aload_n hx hb dX12_impossible_20 rfl (lv_at hl 3 rfl) ?_
        refine lv_iload_n hx hb dX12_impossible_21 rfl (lv_at hl 0 rfl) ?_
        refine pV hC hK hl hP hD (m_doesCountX l G h0 kP nw nk mhasKept nt mtaped nr mrowMany mroundOf mroundFrom nm vfh vth ns mfrom mto msort misFault mdeep mcoded mlines nl nc nF np ntr nb mbestCost nso nsi nit nsh nsf nss nrc mtraced mdealer mnumber mwhose msize misParted fnw (by omega) (hN)) si_X12_117 [0, 1] rfl rfl (by decide) rfl rfl rfl rfl rfl (Nat.le_of_ble_eq_true rfl) ⟨Nat.le_of_ble_eq_true rfl, Nat.le_of_ble_eq_true rfl⟩ ⟨by first | exact Nat.le_of_ble_eq_true rfl | exact Nat.zero_le _, by first | exact Nat.le_of_ble_eq_true rfl | exact Nat.zero_le _⟩ dX12_impossible_22 (fun r10779 hr10779 => ?_)
        rcases hr10779 with ⟨rfl, a10780⟩ | ⟨rfl, a10780⟩
        · refine lv_if_eq (tgt := 98) hx hb dX12_impossible_25 (by decide) (fun c9 => absurd c9 (by decide)) (fun _ => ?_)
          refine lv_aload_n hx hb dX12_impossible_28 rfl (lv_at hl 3 rfl) ?_
          refine lv_aload_n hx hb dX12_impossible_29 rfl (lv_at hl 3 rfl) ?_
          refine lv_iload_n hx hb dX12_impossible_30 rfl (lv_at hl 0 rfl) ?_
          refine lv_iconst (v := 2) hx hb dX12_impossible_31 (by decide) ?_
          refine pV hC hK hl hP hD (m_saying l G h0 kP 2 nw nk mhasKept nt mtaped nr mrowMany mroundOf mroundFrom 0 nm vfh vth ns mfrom mto msort misFault mdeep mcoded mlines nl nc nF np ntr nb mbestCost nso nsi nit nsh nsf nss nrc mtraced mdealer mnumber mwhose msize misParted fnw (by omega) (by omega)) si_X12_114 [0, 1] rfl rfl (by decide) rfl rfl rfl rfl rfl (Nat.le_of_ble_eq_true rfl) ⟨Nat.le_of_ble_eq_true rfl, Nat.le_of_ble_eq_true rfl⟩ ⟨by first | exact Nat.le_of_ble_eq_true rfl | exact Nat.zero_le _, by first | exact Nat.le_of_ble_eq_true rfl | exact Nat.zero_le _⟩ dX12_impossible_32 (fun r10781 hr10781 => ?_)
          obtain rfl := hr10781
          obtain ⟨jx, hjx, ejx⟩ := Hs_nat (by omega) (hSP kP (by omega))
          refine eqi (x1 := nI jx) (shf_sa.symm.trans ejx) ?_
          refine lv_aload_n hx hb dX12_impossible_35 rfl (lv_at hl 3 rfl) ?_
          refine lv_iload_n hx hb dX12_impossible_36 rfl (lv_at hl 0 rfl) ?_
          refine lv_iconst (v := 1) hx hb dX12_impossible_37 (by decide) ?_
          refine pV hC hK hl hP hD (m_saying l G h0 kP 1 nw nk mhasKept nt mtaped nr mrowMany mroundOf mroundFrom 0 nm vfh vth ns mfrom mto msort misFault mdeep mcoded mlines nl nc nF np ntr nb mbestCost nso nsi nit nsh nsf nss nrc mtraced mdealer mnumber mwhose msize misParted fnw (by omega) (by omega)) si_X12_114 [0, 1] rfl rfl (by decide) rfl rfl rfl rfl rfl (Nat.le_of_ble_eq_true rfl) ⟨Nat.le_of_ble_eq_true rfl, Nat.le_of_ble_eq_true rfl⟩ ⟨by first | exact Nat.le_of_ble_eq_true rfl | exact Nat.zero_le _, by first | exact Nat.le_of_ble_eq_true rfl | exact Nat.zero_le _⟩ dX12_impossible_38 (fun r10783 hr10783 => ?_)
          obtain rfl := hr10783
          obtain ⟨jo, hjo, ejo⟩ := Hs_nat (by omega) ((hSO kP (by omega)).1)
          refine eqi (x1 := nI jo) (shf_sa.symm.trans ejo) ?_
          refine lv_iload_n hx hb dX12_impossible_41 rfl (lv_at hl 2 rfl) ?_
          refine vV (wr := []) hC hK hl hP hD hS hA (m_findHoursL l G kq k6 h0 jx jo nw nk mhasKept nt mtaped nr mrowMany mroundOf mroundFrom nm vfh vth ns mfrom mto msort misFault mdeep mcoded mlines nl nc nF np ntr nb mbestCost nso nsi nit nsh nsf nss nrc mtraced mdealer mnumber mwhose msize misParted fnw gnm10759 (hN) (e6) (hk6) (a10761) (ekq) (hkq) (by omega) (by omega)) si_X12_298 [0, 1, 2] [] rfl rfl (by decide) rfl (by decide) (by decide) rfl rfl rfl rfl rfl (Nat.le_of_ble_eq_true rfl) ⟨Nat.le_of_ble_eq_true rfl, Nat.le_of_ble_eq_true rfl⟩ ⟨Nat.le_of_ble_eq_true rfl, Nat.le_of_ble_eq_true rfl⟩ dX12_impossible_42 (fun u10786 H locs hr10785 hP hD hS => ?_)
          obtain ⟨fh110787, th110788⟩ := u10786
          try dsimp only at hr10785
          have hPD : va_PD G A [(h0, .inr (12, [.ref nw, .ref nk, .int mhasKept, .ref nt, .int mtaped, .ref nr, .int mrowMany, .int mroundOf, .int mroundFrom, .int 0, .ref nm, .int fh110787, .int th110788, .ref ns, .int mfrom, .int mto, .int msort, .int misFault, .int mdeep, .int mcoded, .int mlines, .ref nl, .ref nc, .ref nF, .ref np, .ref ntr, .ref nb, .int mbestCost, .ref nso, .ref nsi, .ref nit, .ref nsh, .ref nsf, .ref nss, .ref nrc, .int mtraced, .int mdealer, .int mnumber, .int mwhose, .int msize, .int misParted])), (nw, .inl (G.2.1, 1662, .inl fnw)), (nm, .inl (G.2.1, 36, .inl gnm10759))] H := And.intro hP hD
          obtain ⟨hP, hD⟩ := hPD
          have w10789 := hr10785
          have hsl9 : 0 ≤ (shf fnw 12 (jo * 2 + 1)).toInt ∧ (shf fnw 12 (jo * 2 + 1)).toInt ≤ 48 := NI.slow hN (by omega)
          have hle9 := HIQ.le (SVL.ofm hN (by omega)) hsl9.1 hsl9.2 w10789
          have hqs9 : QSF (KST (shf fnw 104) (VSE fnw kq) (fnw 3).toInt k6) (shf fnw 104) (VSE fnw kq) (shf fnw 32) (shf fnw 12) (shf fnw 1424) k6 kP fh110787 th110788 := QSF.mk ejx ejo (by omega) (by omega) w10789
          refine lv_iconst (v := 1) hx hb dX12_impossible_45 (by decide) ?_
          refine lv_istore (lv' := [(4, .int 1), (3, .int (nI kP)), (2, .int se), (1, .int 0), (0, .ref h0)]) hx hb dX12_impossible_46 hl (by decide) rfl (fun ls hl => ?_)
          refine lv_aload_n hx hb dX12_impossible_48 rfl (lv_at hl 4 rfl) ?_
          refine gf_X12_161 hC rfl hK hP 0 rfl rfl dX12_impossible_49 ?_
          refine lv_istore (lv' := [(5, .int fh110787), (4, .int 1), (3, .int (nI kP)), (2, .int se), (1, .int 0), (0, .ref h0)]) hx hb dX12_impossible_52 hl (by decide) rfl (fun ls hl => ?_)
          have keyZ : ∀ (nZ : Nat) (hZx : Int32) (al : Int32) (H : Heap) (locs : List Loc) (ls : Array Slot), (th110788).toInt + 1 - hZx.toInt ≤ (nZ : Int) → (ALI (shf fnw 1424) kP fh110787 th110788 hZx al) → va_PD G A [(h0, .inr (12, [.ref nw, .ref nk, .int mhasKept, .ref nt, .int mtaped, .ref nr, .int mrowMany, .int mroundOf, .int mroundFrom, .int 0, .ref nm, .int fh110787, .int th110788, .ref ns, .int mfrom, .int mto, .int msort, .int misFault, .int mdeep, .int mcoded, .int mlines, .ref nl, .ref nc, .ref nF, .ref np, .ref ntr, .ref nb, .int mbestCost, .ref nso, .ref nsi, .ref nit, .ref nsh, .ref nsf, .ref nss, .ref nrc, .int mtraced, .int mdealer, .int mnumber, .int mwhose, .int msize, .int misParted])), (nw, .inl (G.2.1, 1662, .inl fnw)), (nm, .inl (G.2.1, 36, .inl gnm10759))] H → va_S A s.heap H locs → lv_has ls 6 [(5, .int hZx), (4, .int al), (3, .int (nI kP)), (2, .int se), (1, .int 0), (0, .ref h0)] → W p l e (RM 6 0 0) s m ([.ref h0] : List Value).toArray below meth c H locs 0 0 (MQ below (QI G (fun (r : Int32) (u : Int32 × Int32 × (Nat → Int32)) => (r = (IMB (fun s9 => CSQ (shf fnw 1424) (shf fnw 32) (fnw 0) (fnw 1) (fnw 2) s9 ∧ IMS (shf fnw 1424) (QSF (KST (shf fnw 104) (VSE fnw kq) (fnw 3).toInt k6) (shf fnw 104) (VSE fnw kq) (shf fnw 32) (shf fnw 12) (shf fnw 1424) k6) s9) k8)) ∧ (MB u.2.2)) (fun u : Int32 × Int32 × (Nat → Int32) => [(h0, .inr (12, [.ref nw, .ref nk, .int mhasKept, .ref nt, .int mtaped, .ref nr, .int mrowMany, .int mroundOf, .int mroundFrom, .int 0, .ref nm, .int u.1, .int u.2.1, .ref ns, .int mfrom, .int mto, .int msort, .int misFault, .int mdeep, .int mcoded, .int mlines, .ref nl, .ref nc, .ref nF, .ref np, .ref ntr, .ref nb, .int mbestCost, .ref nso, .ref nsi, .ref nit, .ref nsh, .ref nsf, .ref nss, .ref nrc, .int mtraced, .int mdealer, .int mnumber, .int mwhose, .int msize, .int misParted])), (nw, .inl (G.2.1, 1662, .inl fnw)), (nm, .inl (G.2.1, 36, .inl u.2.2))]) A) ([.ref h0] : List Value).toArray s 0 0 A) (F0 m 54 ls []) := by
            intro nZ
            induction nZ with
            | zero =>
              intro hZx al H locs ls hkZ hvZ hPD hS hl
              obtain ⟨hP, hD⟩ := hPD
              have hzZ : th110788 < hZx := hz_end (by omega)
              refine lv_iload hx hb dX12_impossible_54 (lv_at hl 0 rfl) ?_
              refine lv_aload_n hx hb dX12_impossible_56 rfl (lv_at hl 5 rfl) ?_
              refine gf_X12_164 hC rfl hK hP 0 rfl rfl dX12_impossible_57 ?_
              refine lv_icmp_gt (tgt := 83) hx hb dX12_impossible_60 (by decide) (fun _ => ?_) (fun c9 => absurd (hzZ) c9)
              refine lv_iload_n hx hb dX12_impossible_83 rfl (lv_at hl 3 rfl) ?_
              refine lv_iload hx hb dX12_impossible_84 (lv_at hl 1 rfl) ?_
              refine lv_if_eq (tgt := 95) hx hb dX12_impossible_86 (by decide) (fun c_86_10790 => ?_) (fun c_86_10790 => ?_)
              · refine lv_iconst (v := 0) hx hb dX12_impossible_95 (by decide) ?_
                refine lv_ior hx hb dX12_impossible_96 ?_
                refine lv_istore_n (lv' := [(2, .int (se ||| 0)), (5, .int hZx), (4, .int al), (3, .int (nI kP)), (1, .int 0), (0, .ref h0)]) hx hb dX12_impossible_97 rfl hl (by decide) rfl (fun ls hl => ?_)
                refine lv_iinc (v := nI (kP + 1)) (lv' := [(3, .int (nI (kP + 1))), (2, .int (se ||| 0)), (5, .int hZx), (4, .int al), (1, .int 0), (0, .ref h0)]) hx hb dX12_impossible_98 hl (k := 3) rfl (nI_1 _) (by decide) rfl (fun ls hl => ?_)
                refine lv_goto (tgt := 9) hx hb dX12_impossible_101 (by decide) ?_
                have hst9 : se ||| 0 = IMB (fun s9 => CSQ (shf fnw 1424) (shf fnw 32) (fnw 0) (fnw 1) (fnw 2) s9 ∧ IMS (shf fnw 1424) (QSF (KST (shf fnw 104) (VSE fnw kq) (fnw 3).toInt k6) (shf fnw 104) (VSE fnw kq) (shf fnw 32) (shf fnw 12) (shf fnw 1424) k6) s9) (kP + 1) := IMB.n0 hse (fun h9 => IMS.not (SVL.ofm hN (by omega)) hqs9 hle9.1 (hvZ.no c_86_10790) h9.2)
                exact ihP (kP + 1) (se ||| 0) fh110787 th110788 _ _ _ (by omega) (by first | assumption | exact Or.inl rfl | exact Or.inr rfl | exact rfl) (And.intro hP hD) hS (lv_sub hl [0, 1, 4, 5] rfl)
              · refine lv_iconst (v := 1) hx hb dX12_impossible_89 (by decide) ?_
                refine lv_iload_n hx hb dX12_impossible_90 rfl (lv_at hl 2 rfl) ?_
                refine lv_ishl hx hb dX12_impossible_91 ?_
                refine lv_goto (tgt := 96) hx hb dX12_impossible_92 (by decide) ?_
                refine lv_ior hx hb dX12_impossible_96 ?_
                refine lv_istore_n (lv' := [(2, .int (se ||| (1 <<< ((nI kP) &&& 31)))), (5, .int hZx), (4, .int al), (3, .int (nI kP)), (1, .int 0), (0, .ref h0)]) hx hb dX12_impossible_97 rfl hl (by decide) rfl (fun ls hl => ?_)
                refine lv_iinc (v := nI (kP + 1)) (lv' := [(3, .int (nI (kP + 1))), (2, .int (se ||| (1 <<< ((nI kP) &&& 31)))), (5, .int hZx), (4, .int al), (1, .int 0), (0, .ref h0)]) hx hb dX12_impossible_98 hl (k := 3) rfl (nI_1 _) (by decide) rfl (fun ls hl => ?_)
                refine lv_goto (tgt := 9) hx hb dX12_impossible_101 (by decide) ?_
                have hst9 : se ||| (1 <<< ((nI kP) &&& 31)) = IMB (fun s9 => CSQ (shf fnw 1424) (shf fnw 32) (fnw 0) (fnw 1) (fnw 2) s9 ∧ IMS (shf fnw 1424) (QSF (KST (shf fnw 104) (VSE fnw kq) (fnw 3).toInt k6) (shf fnw 104) (VSE fnw kq) (shf fnw 32) (shf fnw 12) (shf fnw 1424) k6) s9) (kP + 1) := IMB.y hse ⟨a10780, IMS.yes hqs9 hle9.1 (hvZ.yes hzZ c_86_10790)⟩
                exact ihP (kP + 1) (se ||| (1 <<< ((nI kP) &&& 31))) fh110787 th110788 _ _ _ (by omega) (by first | assumption | exact Or.inl rfl | exact Or.inr rfl | exact rfl) (And.intro hP hD) hS (lv_sub hl [0, 1, 4, 5] rfl)
            | succ nZ ihZ =>
              intro hZx al H locs ls hkZ hvZ hPD hS hl
              obtain ⟨hP, hD⟩ := hPD
              refine lv_iload hx hb dX12_impossible_54 (lv_at hl 0 rfl) ?_
              refine lv_aload_n hx hb dX12_impossible_56 rfl (lv_at hl 5 rfl) ?_
              refine gf_X12_164 hC rfl hK hP 0 rfl rfl dX12_impossible_57 ?_
              refine lv_icmp_gt (tgt := 83) hx hb dX12_impossible_60 (by decide) (fun c_60_10791 => ?_) (fun c_60_10791 => ?_)
              · refine lv_iload_n hx hb dX12_impossible_83 rfl (lv_at hl 3 rfl) ?_
                refine lv_iload hx hb dX12_impossible_84 (lv_at hl 1 rfl) ?_
                refine lv_if_eq (tgt := 95) hx hb dX12_impossible_86 (by decide) (fun c_86_10792 => ?_) (fun c_86_10792 => ?_)
                · refine lv_iconst (v := 0) hx hb dX12_impossible_95 (by decide) ?_
                  refine lv_ior hx hb dX12_impossible_96 ?_
                  refine lv_istore_n (lv' := [(2, .int (se ||| 0)), (5, .int hZx), (4, .int al), (3, .int (nI kP)), (1, .int 0), (0, .ref h0)]) hx hb dX12_impossible_97 rfl hl (by decide) rfl (fun ls hl => ?_)
                  refine lv_iinc (v := nI (kP + 1)) (lv' := [(3, .int (nI (kP + 1))), (2, .int (se ||| 0)), (5, .int hZx), (4, .int al), (1, .int 0), (0, .ref h0)]) hx hb dX12_impossible_98 hl (k := 3) rfl (nI_1 _) (by decide) rfl (fun ls hl => ?_)
                  refine lv_goto (tgt := 9) hx hb dX12_impossible_101 (by decide) ?_
                  have hst9 : se ||| 0 = IMB (fun s9 => CSQ (shf fnw 1424) (shf fnw 32) (fnw 0) (fnw 1) (fnw 2) s9 ∧ IMS (shf fnw 1424) (QSF (KST (shf fnw 104) (VSE fnw kq) (fnw 3).toInt k6) (shf fnw 104) (VSE fnw kq) (shf fnw 32) (shf fnw 12) (shf fnw 1424) k6) s9) (kP + 1) := IMB.n0 hse (fun h9 => IMS.not (SVL.ofm hN (by omega)) hqs9 hle9.1 (hvZ.no c_86_10792) h9.2)
                  exact ihP (kP + 1) (se ||| 0) fh110787 th110788 _ _ _ (by omega) (by first | assumption | exact Or.inl rfl | exact Or.inr rfl | exact rfl) (And.intro hP hD) hS (lv_sub hl [0, 1, 4, 5] rfl)
                · refine lv_iconst (v := 1) hx hb dX12_impossible_89 (by decide) ?_
                  refine lv_iload_n hx hb dX12_impossible_90 rfl (lv_at hl 2 rfl) ?_
                  refine lv_ishl hx hb dX12_impossible_91 ?_
                  refine lv_goto (tgt := 96) hx hb dX12_impossible_92 (by decide) ?_
                  refine lv_ior hx hb dX12_impossible_96 ?_
                  refine lv_istore_n (lv' := [(2, .int (se ||| (1 <<< ((nI kP) &&& 31)))), (5, .int hZx), (4, .int al), (3, .int (nI kP)), (1, .int 0), (0, .ref h0)]) hx hb dX12_impossible_97 rfl hl (by decide) rfl (fun ls hl => ?_)
                  refine lv_iinc (v := nI (kP + 1)) (lv' := [(3, .int (nI (kP + 1))), (2, .int (se ||| (1 <<< ((nI kP) &&& 31)))), (5, .int hZx), (4, .int al), (1, .int 0), (0, .ref h0)]) hx hb dX12_impossible_98 hl (k := 3) rfl (nI_1 _) (by decide) rfl (fun ls hl => ?_)
                  refine lv_goto (tgt := 9) hx hb dX12_impossible_101 (by decide) ?_
                  have hst9 : se ||| (1 <<< ((nI kP) &&& 31)) = IMB (fun s9 => CSQ (shf fnw 1424) (shf fnw 32) (fnw 0) (fnw 1) (fnw 2) s9 ∧ IMS (shf fnw 1424) (QSF (KST (shf fnw 104) (VSE fnw kq) (fnw 3).toInt k6) (shf fnw 104) (VSE fnw kq) (shf fnw 32) (shf fnw 12) (shf fnw 1424) k6) s9) (kP + 1) := IMB.y hse ⟨a10780, IMS.yes hqs9 hle9.1 (hvZ.yes c_60_10791 c_86_10792)⟩
                  exact ihP (kP + 1) (se ||| (1 <<< ((nI kP) &&& 31))) fh110787 th110788 _ _ _ (by omega) (by first | assumption | exact Or.inl rfl | exact Or.inr rfl | exact rfl) (And.intro hP hD) hS (lv_sub hl [0, 1, 4, 5] rfl)
              · refine lv_iload hx hb dX12_impossible_63 (lv_at hl 1 rfl) ?_
                refine lv_if_eq (tgt := 83) hx hb dX12_impossible_65 (by decide) (fun c_65_10793 => ?_) (fun c_65_10793 => ?_)
                · refine lv_iload_n hx hb dX12_impossible_83 rfl (lv_at hl 3 rfl) ?_
                  refine lv_iload hx hb dX12_impossible_84 (lv_at hl 1 rfl) ?_
                  refine lv_if_eq (tgt := 95) hx hb dX12_impossible_86 (by decide) (fun _ => ?_) (fun c9 => absurd (c_65_10793) c9)
                  refine lv_iconst (v := 0) hx hb dX12_impossible_95 (by decide) ?_
                  refine lv_ior hx hb dX12_impossible_96 ?_
                  refine lv_istore_n (lv' := [(2, .int (se ||| 0)), (5, .int hZx), (4, .int al), (3, .int (nI kP)), (1, .int 0), (0, .ref h0)]) hx hb dX12_impossible_97 rfl hl (by decide) rfl (fun ls hl => ?_)
                  refine lv_iinc (v := nI (kP + 1)) (lv' := [(3, .int (nI (kP + 1))), (2, .int (se ||| 0)), (5, .int hZx), (4, .int al), (1, .int 0), (0, .ref h0)]) hx hb dX12_impossible_98 hl (k := 3) rfl (nI_1 _) (by decide) rfl (fun ls hl => ?_)
                  refine lv_goto (tgt := 9) hx hb dX12_impossible_101 (by decide) ?_
                  have hst9 : se ||| 0 = IMB (fun s9 => CSQ (shf fnw 1424) (shf fnw 32) (fnw 0) (fnw 1) (fnw 2) s9 ∧ IMS (shf fnw 1424) (QSF (KST (shf fnw 104) (VSE fnw kq) (fnw 3).toInt k6) (shf fnw 104) (VSE fnw kq) (shf fnw 32) (shf fnw 12) (shf fnw 1424) k6) s9) (kP + 1) := IMB.n0 hse (fun h9 => IMS.not (SVL.ofm hN (by omega)) hqs9 hle9.1 (hvZ.no c_65_10793) h9.2)
                  exact ihP (kP + 1) (se ||| 0) fh110787 th110788 _ _ _ (by omega) (by first | assumption | exact Or.inl rfl | exact Or.inr rfl | exact rfl) (And.intro hP hD) hS (lv_sub hl [0, 1, 4, 5] rfl)
                · refine lv_aload_n hx hb dX12_impossible_68 rfl (lv_at hl 5 rfl) ?_
                  refine lv_iload hx hb dX12_impossible_69 (lv_at hl 0 rfl) ?_
                  refine lv_iload_n hx hb dX12_impossible_71 rfl (lv_at hl 2 rfl) ?_
                  refine pV hC hK hl hP hD (m_isAgainstX l G h0 hZx kP nw nk mhasKept nt mtaped nr mrowMany mroundOf mroundFrom 0 nm fh110787 th110788 ns mfrom mto msort misFault mdeep mcoded mlines nl nc nF np ntr nb mbestCost nso nsi nit nsh nsf nss nrc mtraced mdealer mnumber mwhose msize misParted fnw (by omega)) si_X12_302 [0, 1] rfl rfl (by decide) rfl rfl rfl rfl rfl (Nat.le_of_ble_eq_true rfl) ⟨Nat.le_of_ble_eq_true rfl, Nat.le_of_ble_eq_true rfl⟩ ⟨by first | exact Nat.le_of_ble_eq_true rfl | exact Nat.zero_le _, by first | exact Nat.le_of_ble_eq_true rfl | exact Nat.zero_le _⟩ dX12_impossible_72 (fun r10794 hr10794 => ?_)
                  rcases hr10794 with ⟨rfl, a10795⟩ | ⟨rfl, a10795⟩
                  · refine lv_istore (lv' := [(4, .int 1), (5, .int hZx), (3, .int (nI kP)), (2, .int se), (1, .int 0), (0, .ref h0)]) hx hb dX12_impossible_75 hl (by decide) rfl (fun ls hl => ?_)
                    refine lv_iinc (v := hZx + 1) (lv' := [(5, .int (hZx + 1)), (4, .int 1), (3, .int (nI kP)), (2, .int se), (1, .int 0), (0, .ref h0)]) hx hb dX12_impossible_77 hl (k := 1) rfl (rfl) (by decide) rfl (fun ls hl => ?_)
                    refine lv_goto (tgt := 54) hx hb dX12_impossible_80 (by decide) ?_
                    exact ihZ (hZx + 1) 1 _ _ _ (hz_back c_60_10791 hle9.2.2 hkZ) (ALI.next hvZ c_60_10791 (by omega) c_65_10793 a10795) (And.intro hP hD) hS (lv_sub hl [0, 1, 2, 3, 4, 5] rfl)
                  · refine lv_istore (lv' := [(4, .int 0), (5, .int hZx), (3, .int (nI kP)), (2, .int se), (1, .int 0), (0, .ref h0)]) hx hb dX12_impossible_75 hl (by decide) rfl (fun ls hl => ?_)
                    refine lv_iinc (v := hZx + 1) (lv' := [(5, .int (hZx + 1)), (4, .int 0), (3, .int (nI kP)), (2, .int se), (1, .int 0), (0, .ref h0)]) hx hb dX12_impossible_77 hl (k := 1) rfl (rfl) (by decide) rfl (fun ls hl => ?_)
                    refine lv_goto (tgt := 54) hx hb dX12_impossible_80 (by decide) ?_
                    exact ihZ (hZx + 1) 0 _ _ _ (hz_back c_60_10791 hle9.2.2 hkZ) (ALI.stop hvZ c_60_10791 (by omega) a10795) (And.intro hP hD) hS (lv_sub hl [0, 1, 2, 3, 4, 5] rfl)
          exact keyZ ((th110788).toInt + 1 - (fh110787).toInt).toNat fh110787 1 _ _ _ (by omega) (ALI.zero) (And.intro hP hD) hS (lv_sub hl [0, 1, 2, 3, 4, 5] rfl)
        · refine lv_if_eq (tgt := 98) hx hb dX12_impossible_25 (by decide) (fun _ => ?_) (fun c9 => absurd (by decide) c9)
          refine lv_iinc (v := nI (kP + 1)) (lv' := [(3, .int (nI (kP + 1))), (2, .int se), (1, .int 0), (0, .ref h0)]) hx hb dX12_impossible_98 hl (k := 0) rfl (nI_1 _) (by decide) rfl (fun ls hl => ?_)
          refine lv_goto (tgt := 9) hx hb dX12_impossible_101 (by decide) ?_
          have hst9 : se = IMB (fun s9 => CSQ (shf fnw 1424) (shf fnw 32) (fnw 0) (fnw 1) (fnw 2) s9 ∧ IMS (shf fnw 1424) (QSF (KST (shf fnw 104) (VSE fnw kq) (fnw 3).toInt k6) (shf fnw 104) (VSE fnw kq) (shf fnw 32) (shf fnw 12) (shf fnw 1424) k6) s9) (kP + 1) := IMB.n hse (fun h9 => a10780 h9.1)
          exact ihP (kP + 1) se vfh vth _ _ _ (by omega) (by first | assumption | exact Or.inl rfl | exact Or.inr rfl | exact rfl) (And.intro hP hD) hS (lv_sub hl [0, 1, 2, 3] rfl)
    exact keyP k8 0 0 mfromHour mtoHour _ _ _ (by omega) (by first | assumption | exact Or.inl rfl | exact Or.inr rfl | exact rfl) (And.intro hP hD) hS (lv_sub hl [0, 1, 2, 3] rfl)
set_option maxHeartbeats 4000000 in
set_option maxRecDepth 100000 in
theorem r_quarrelT (l : Launch) (G : GG) (kq : Nat) (k6 : Nat) (kp : Nat) (k8 : Nat) (h0 : Nat) (x1 : Int32) (x2 : Int32) (x3 : Int32) (nw : Nat) (nk : Nat) (mhasKept : Int32) (nt : Nat) (mtaped : Int32) (nr : Nat) (mrowMany : Int32) (mroundOf : Int32) (mroundFrom : Int32) (nm : Nat) (mfromHour : Int32) (mtoHour : Int32) (ns : Nat) (mfrom : Int32) (mto : Int32) (msort : Int32) (misFault : Int32) (mdeep : Int32) (mcoded : Int32) (mlines : Int32) (nl : Nat) (nc : Nat) (nF : Nat) (np : Nat) (ntr : Nat) (nb : Nat) (mbestCost : Int32) (nso : Nat) (nsi : Nat) (nit : Nat) (nsh : Nat) (nsf : Nat) (nss : Nat) (nrc : Nat) (mtraced : Int32) (mdealer : Int32) (mnumber : Int32) (mwhose : Int32) (msize : Int32) (misParted : Int32) (fnw : Nat → Int32) (fnm : Nat → Int32) (hM : MB fnm) (hN : NI fnw) (hgp : GPRm (fnw 3)) (ekq : fnw 5 = nI kq) (hkq : kq ≤ 12) (e6 : fnw 6 = nI k6) (hk6 : k6 ≤ 24) (ekp : fnw 4 = nI kp) (hkp : kp ≤ 10) (ek8 : fnw 8 = nI k8) (hk8 : k8 ≤ 16) (hSP : SPI (shf fnw 1424) k8 kq) (hSO : SPO (shf fnw 1424) k8 kp) : MI l G yX12_quarrel cX12_quarrel 10 (some .int) 6 0 0 [.ref h0, .int x1, .int x2, .int x3] [(h0, .inr (12, [.ref nw, .ref nk, .int mhasKept, .ref nt, .int mtaped, .ref nr, .int mrowMany, .int mroundOf, .int mroundFrom, .int 0, .ref nm, .int mfromHour, .int mtoHour, .ref ns, .int mfrom, .int mto, .int msort, .int misFault, .int mdeep, .int mcoded, .int mlines, .ref nl, .ref nc, .ref nF, .ref np, .ref ntr, .ref nb, .int mbestCost, .ref nso, .ref nsi, .ref nit, .ref nsh, .ref nsf, .ref nss, .ref nrc, .int mtraced, .int mdealer, .int mnumber, .int mwhose, .int msize, .int misParted])), (nw, .inl (G.2.1, 1662, .inl fnw)), (nm, .inl (G.2.1, 36, .inl fnm))] (fun (r : Int32) (u : Int32 × Int32 × (Nat → Int32)) => (∃ s9, (QRQ (KST (shf fnw 104) (VSE fnw kq) (fnw 3).toInt k6) (shf fnw 104) (VSE fnw kq) (shf fnw 32) (shf fnw 12) (shf fnw 1424) (fnw 0) (fnw 1) (fnw 2) k6 kq kp k8 x1 x2 x3 s9) ∧ r = s9) ∧ (MB u.2.2)) (fun u : Int32 × Int32 × (Nat → Int32) => [(h0, .inr (12, [.ref nw, .ref nk, .int mhasKept, .ref nt, .int mtaped, .ref nr, .int mrowMany, .int mroundOf, .int mroundFrom, .int 0, .ref nm, .int u.1, .int u.2.1, .ref ns, .int mfrom, .int mto, .int msort, .int misFault, .int mdeep, .int mcoded, .int mlines, .ref nl, .ref nc, .ref nF, .ref np, .ref ntr, .ref nb, .int mbestCost, .ref nso, .ref nsi, .ref nit, .ref nsh, .ref nsf, .ref nss, .ref nrc, .int mtraced, .int mdealer, .int mnumber, .int mwhose, .int msize, .int misParted])), (nw, .inl (G.2.1, 1662, .inl fnw)), (nm, .inl (G.2.1, 36, .inl u.2.2))]) := by
  refine MI.start (by decide +kernel) (Nat.le_of_ble_eq_true rfl) ?_
  intro p e s m below meth c A ls hC hK hP hD hS hA hl
  have hl : lv_has ls 10 [(0, .ref h0), (1, .int x1), (2, .int x2), (3, .int x3)] := hl
  obtain ⟨hx, hb, hr, hml, hB, hown, hlocks, hnm⟩ := id hC
  refine lv_aload_n hx hb dX12_quarrel_0 rfl (lv_at hl 0 rfl) ?_
  refine lv_iload_n hx hb dX12_quarrel_1 rfl (lv_at hl 1 rfl) ?_
  refine lv_iconst (v := 4) hx hb dX12_quarrel_2 (by decide) ?_
  refine pV hC hK hl hP hD (m_is l G kp h0 x1 4 nw nk mhasKept nt mtaped nr mrowMany mroundOf mroundFrom 0 nm mfromHour mtoHour ns mfrom mto msort misFault mdeep mcoded mlines nl nc nF np ntr nb mbestCost nso nsi nit nsh nsf nss nrc mtraced mdealer mnumber mwhose msize misParted fnw (by omega) (ekp) (by omega)) si_X12_120 [0, 1] rfl rfl (by decide) rfl rfl rfl rfl rfl (Nat.le_of_ble_eq_true rfl) ⟨Nat.le_of_ble_eq_true rfl, Nat.le_of_ble_eq_true rfl⟩ ⟨by first | exact Nat.le_of_ble_eq_true rfl | exact Nat.zero_le _, by first | exact Nat.le_of_ble_eq_true rfl | exact Nat.zero_le _⟩ dX12_quarrel_3 (fun r10796 hr10796 => ?_)
  rcases hr10796 with ⟨rfl, a10797⟩ | ⟨rfl, a10797⟩
  · refine lv_if_eq (tgt := 27) hx hb dX12_quarrel_6 (by decide) (fun c9 => absurd c9 (by decide)) (fun _ => ?_)
    refine lv_aload_n hx hb dX12_quarrel_9 rfl (lv_at hl 0 rfl) ?_
    refine lv_iload_n hx hb dX12_quarrel_10 rfl (lv_at hl 2 rfl) ?_
    refine lv_iconst (v := 5) hx hb dX12_quarrel_11 (by decide) ?_
    refine pV hC hK hl hP hD (m_is l G kq h0 x2 5 nw nk mhasKept nt mtaped nr mrowMany mroundOf mroundFrom 0 nm mfromHour mtoHour ns mfrom mto msort misFault mdeep mcoded mlines nl nc nF np ntr nb mbestCost nso nsi nit nsh nsf nss nrc mtraced mdealer mnumber mwhose msize misParted fnw (by omega) (ekq) (by omega)) si_X12_120 [0, 1] rfl rfl (by decide) rfl rfl rfl rfl rfl (Nat.le_of_ble_eq_true rfl) ⟨Nat.le_of_ble_eq_true rfl, Nat.le_of_ble_eq_true rfl⟩ ⟨by first | exact Nat.le_of_ble_eq_true rfl | exact Nat.zero_le _, by first | exact Nat.le_of_ble_eq_true rfl | exact Nat.zero_le _⟩ dX12_quarrel_12 (fun r10798 hr10798 => ?_)
    rcases hr10798 with ⟨rfl, a10799⟩ | ⟨rfl, a10799⟩
    · refine lv_if_eq (tgt := 27) hx hb dX12_quarrel_15 (by decide) (fun c9 => absurd c9 (by decide)) (fun _ => ?_)
      refine lv_iload_n hx hb dX12_quarrel_18 rfl (lv_at hl 3 rfl) ?_
      refine lv_iconst (v := 0) hx hb dX12_quarrel_19 (by decide) ?_
      refine lv_iconst (v := 1) hx hb dX12_quarrel_20 (by decide) ?_
      refine pS hC hK hl (m_within l G x3 0 1) si_X12_84 rfl rfl (Nat.le_of_ble_eq_true rfl) ⟨Nat.le_of_ble_eq_true rfl, Nat.le_of_ble_eq_true rfl⟩ ⟨by first | exact Nat.le_of_ble_eq_true rfl | exact Nat.zero_le _, by first | exact Nat.le_of_ble_eq_true rfl | exact Nat.zero_le _⟩ dX12_quarrel_21 (fun r10800 hr10800 => ?_)
      rcases hr10800 with ⟨rfl, a10801⟩ | ⟨rfl, a10801⟩
      · refine lv_if_ne (tgt := 29) hx hb dX12_quarrel_24 (by decide) (fun _ => ?_) (fun c9 => absurd c9 (by decide))
        obtain ⟨je, hje, rfl⟩ := Hs_nat (by omega) a10797
        obtain ⟨jp, hjp, rfl⟩ := Hs_nat (by omega) a10799
        refine lv_aload_n hx hb dX12_quarrel_29 rfl (lv_at hl 0 rfl) ?_
        refine lv_iload_n hx hb dX12_quarrel_30 rfl (lv_at hl 2 rfl) ?_
        refine pV hC hK hl hP hD (m_isInX l G h0 jp nw nk mhasKept nt mtaped nr mrowMany mroundOf mroundFrom nm mfromHour mtoHour ns mfrom mto msort misFault mdeep mcoded mlines nl nc nF np ntr nb mbestCost nso nsi nit nsh nsf nss nrc mtraced mdealer mnumber mwhose msize misParted fnw (by omega)) si_X12_103 [0, 1] rfl rfl (by decide) rfl rfl rfl rfl rfl (Nat.le_of_ble_eq_true rfl) ⟨Nat.le_of_ble_eq_true rfl, Nat.le_of_ble_eq_true rfl⟩ ⟨by first | exact Nat.le_of_ble_eq_true rfl | exact Nat.zero_le _, by first | exact Nat.le_of_ble_eq_true rfl | exact Nat.zero_le _⟩ dX12_quarrel_31 (fun r10802 hr10802 => ?_)
        rcases hr10802 with ⟨rfl, a10803⟩ | ⟨rfl, a10803⟩
        · refine lv_if_ne (tgt := 40) hx hb dX12_quarrel_34 (by decide) (fun _ => ?_) (fun c9 => absurd c9 (by decide))
          refine lv_aload_n hx hb dX12_quarrel_40 rfl (lv_at hl 0 rfl) ?_
          refine lv_iload_n hx hb dX12_quarrel_41 rfl (lv_at hl 2 rfl) ?_
          refine lv_iload_n hx hb dX12_quarrel_42 rfl (lv_at hl 1 rfl) ?_
          refine lv_aload_n hx hb dX12_quarrel_43 rfl (lv_at hl 0 rfl) ?_
          refine iV (wr := []) hC hK hl hP hD hS hA (m_findClocksX l G kq k6 h0 nw nk mhasKept nt mtaped nr mrowMany mroundOf mroundFrom nm mfromHour mtoHour ns mfrom mto msort misFault mdeep mcoded mlines nl nc nF np ntr nb mbestCost nso nsi nit nsh nsf nss nrc mtraced mdealer mnumber mwhose msize misParted fnw fnm (hN) (hgp) (ekq) (hkq) (e6) (hk6)) si_X12_148 [0, 1, 2] [] rfl rfl (by decide) rfl (by decide) (by decide) rfl rfl rfl rfl rfl (Nat.le_of_ble_eq_true rfl) ⟨Nat.le_of_ble_eq_true rfl, Nat.le_of_ble_eq_true rfl⟩ ⟨Nat.le_of_ble_eq_true rfl, Nat.le_of_ble_eq_true rfl⟩ dX12_quarrel_44 (fun r10804 u10805 H locs hr10804 hP hD hS => ?_)
          obtain ⟨gnm10806, rfl⟩ : ∃ z9, z9 = u10805 := ⟨_, rfl⟩
          try dsimp only at hr10804
          have hPD : va_PD G A [(h0, .inr (12, [.ref nw, .ref nk, .int mhasKept, .ref nt, .int mtaped, .ref nr, .int mrowMany, .int mroundOf, .int mroundFrom, .int 0, .ref nm, .int mfromHour, .int mtoHour, .ref ns, .int mfrom, .int mto, .int msort, .int misFault, .int mdeep, .int mcoded, .int mlines, .ref nl, .ref nc, .ref nF, .ref np, .ref ntr, .ref nb, .int mbestCost, .ref nso, .ref nsi, .ref nit, .ref nsh, .ref nsf, .ref nss, .ref nrc, .int mtraced, .int mdealer, .int mnumber, .int mwhose, .int msize, .int misParted])), (nw, .inl (G.2.1, 1662, .inl fnw)), (nm, .inl (G.2.1, 36, .inl gnm10806))] H := And.intro hP hD
          obtain ⟨hP, hD⟩ := hPD
          obtain ⟨hr10804, w10807⟩ := hr10804
          rcases hr10804 with ⟨rfl, a10808⟩ | ⟨rfl, a10808⟩
          · refine vV (wr := []) hC hK hl hP hD hS hA (m_findHoursC l G kq k6 h0 jp je nw nk mhasKept nt mtaped nr mrowMany mroundOf mroundFrom nm mfromHour mtoHour ns mfrom mto msort misFault mdeep mcoded mlines nl nc nF np ntr nb mbestCost nso nsi nit nsh nsf nss nrc mtraced mdealer mnumber mwhose msize misParted fnw gnm10806 (e6) (hk6) (ekq) (a10808) (by omega)) si_X12_298 [0, 1, 2] [] rfl rfl (by decide) rfl (by decide) (by decide) rfl rfl rfl rfl rfl (Nat.le_of_ble_eq_true rfl) ⟨Nat.le_of_ble_eq_true rfl, Nat.le_of_ble_eq_true rfl⟩ ⟨Nat.le_of_ble_eq_true rfl, Nat.le_of_ble_eq_true rfl⟩ dX12_quarrel_47 (fun u10810 H locs hr10809 hP hD hS => ?_)
            obtain ⟨fh110811, th110812⟩ := u10810
            try dsimp only at hr10809
            have hPD : va_PD G A [(h0, .inr (12, [.ref nw, .ref nk, .int mhasKept, .ref nt, .int mtaped, .ref nr, .int mrowMany, .int mroundOf, .int mroundFrom, .int 0, .ref nm, .int fh110811, .int th110812, .ref ns, .int mfrom, .int mto, .int msort, .int misFault, .int mdeep, .int mcoded, .int mlines, .ref nl, .ref nc, .ref nF, .ref np, .ref ntr, .ref nb, .int mbestCost, .ref nso, .ref nsi, .ref nit, .ref nsh, .ref nsf, .ref nss, .ref nrc, .int mtraced, .int mdealer, .int mnumber, .int mwhose, .int msize, .int misParted])), (nw, .inl (G.2.1, 1662, .inl fnw)), (nm, .inl (G.2.1, 36, .inl gnm10806))] H := And.intro hP hD
            obtain ⟨hP, hD⟩ := hPD
            have w10813 := hr10809
            have hsl9 : 0 ≤ (shf fnw 12 (je * 2 + 1)).toInt ∧ (shf fnw 12 (je * 2 + 1)).toInt ≤ 48 := NI.slow hN (by omega)
            have hle9 := HIQ.le (SVL.ofm hN (by omega)) hsl9.1 hsl9.2 w10813
            refine lv_aload_n hx hb dX12_quarrel_50 rfl (lv_at hl 0 rfl) ?_
            refine gf_X12_161 hC rfl hK hP 0 rfl rfl dX12_quarrel_51 ?_
            refine lv_istore (lv' := [(4, .int fh110811), (0, .ref h0), (1, .int (nI je)), (2, .int (nI jp)), (3, .int x3)]) hx hb dX12_quarrel_54 hl (by decide) rfl (fun ls hl => ?_)
            refine lv_iconst (v := (-1)) hx hb dX12_quarrel_56 (by decide) ?_
            refine lv_istore (lv' := [(5, .int (-1)), (4, .int fh110811), (0, .ref h0), (1, .int (nI je)), (2, .int (nI jp)), (3, .int x3)]) hx hb dX12_quarrel_57 hl (by decide) rfl (fun ls hl => ?_)
            refine lv_aload_n hx hb dX12_quarrel_59 rfl (lv_at hl 2 rfl) ?_
            refine gf_X12_161 hC rfl hK hP 0 rfl rfl dX12_quarrel_60 ?_
            refine lv_istore (lv' := [(6, .int fh110811), (5, .int (-1)), (4, .int fh110811), (0, .ref h0), (1, .int (nI je)), (2, .int (nI jp)), (3, .int x3)]) hx hb dX12_quarrel_63 hl (by decide) rfl (fun ls hl => ?_)
            have keyZ : ∀ (nZ : Nat) (hZx : Int32) (be : Int32) (le : Int32) (H : Heap) (locs : List Loc) (ls : Array Slot), (th110812).toInt + 1 - hZx.toInt ≤ (nZ : Int) → (QLI (fun h9 => WGS (PWS (shf fnw 1424) (shf fnw 32) (fnw 0) (fnw 1) (fnw 2) je jp) (shf fnw 1424) h9 k8) fh110811 th110812 hZx be le) → va_PD G A [(h0, .inr (12, [.ref nw, .ref nk, .int mhasKept, .ref nt, .int mtaped, .ref nr, .int mrowMany, .int mroundOf, .int mroundFrom, .int 0, .ref nm, .int fh110811, .int th110812, .ref ns, .int mfrom, .int mto, .int msort, .int misFault, .int mdeep, .int mcoded, .int mlines, .ref nl, .ref nc, .ref nF, .ref np, .ref ntr, .ref nb, .int mbestCost, .ref nso, .ref nsi, .ref nit, .ref nsh, .ref nsf, .ref nss, .ref nrc, .int mtraced, .int mdealer, .int mnumber, .int mwhose, .int msize, .int misParted])), (nw, .inl (G.2.1, 1662, .inl fnw)), (nm, .inl (G.2.1, 36, .inl gnm10806))] H → va_S A s.heap H locs → lv_has ls 10 [(6, .int hZx), (5, .int le), (4, .int be), (0, .ref h0), (1, .int (nI je)), (2, .int (nI jp)), (3, .int x3)] → W p l e (RM 6 0 0) s m ([.ref h0, .int (nI je), .int (nI jp), .int x3] : List Value).toArray below meth c H locs 0 0 (MQ below (QI G (fun (r : Int32) (u : Int32 × Int32 × (Nat → Int32)) => (∃ s9, (QRQ (KST (shf fnw 104) (VSE fnw kq) (fnw 3).toInt k6) (shf fnw 104) (VSE fnw kq) (shf fnw 32) (shf fnw 12) (shf fnw 1424) (fnw 0) (fnw 1) (fnw 2) k6 kq kp k8 (nI je) (nI jp) x3 s9) ∧ r = s9) ∧ (MB u.2.2)) (fun u : Int32 × Int32 × (Nat → Int32) => [(h0, .inr (12, [.ref nw, .ref nk, .int mhasKept, .ref nt, .int mtaped, .ref nr, .int mrowMany, .int mroundOf, .int mroundFrom, .int 0, .ref nm, .int u.1, .int u.2.1, .ref ns, .int mfrom, .int mto, .int msort, .int misFault, .int mdeep, .int mcoded, .int mlines, .ref nl, .ref nc, .ref nF, .ref np, .ref ntr, .ref nb, .int mbestCost, .ref nso, .ref nsi, .ref nit, .ref nsh, .ref nsf, .ref nss, .ref nrc, .int mtraced, .int mdealer, .int mnumber, .int mwhose, .int msize, .int misParted])), (nw, .inl (G.2.1, 1662, .inl fnw)), (nm, .inl (G.2.1, 36, .inl u.2.2))]) A) ([.ref h0, .int (nI je), .int (nI jp), .int x3] : List Value).toArray s 0 0 A) (F0 m 65 ls []) := by
              intro nZ
              induction nZ with
              | zero =>
                intro hZx be le H locs ls hkZ hvZ hPD hS hl
                obtain ⟨hP, hD⟩ := hPD
                have hzZ : th110812 < hZx := hz_end (by omega)
                refine lv_iload hx hb dX12_quarrel_65 (lv_at hl 0 rfl) ?_
                refine lv_aload_n hx hb dX12_quarrel_67 rfl (lv_at hl 3 rfl) ?_
                refine gf_X12_164 hC rfl hK hP 0 rfl rfl dX12_quarrel_68 ?_
                refine lv_icmp_gt (tgt := 194) hx hb dX12_quarrel_71 (by decide) (fun _ => ?_) (fun c9 => absurd (hzZ) c9)
                refine lv_iload_n hx hb dX12_quarrel_194 rfl (lv_at hl 6 rfl) ?_
                refine lv_if_ne (tgt := 203) hx hb dX12_quarrel_195 (by decide) (fun c_195_10814 => ?_) (fun c_195_10814 => ?_)
                · refine lv_sipush (v := 1000) hx hb dX12_quarrel_203 (by decide) ?_
                  refine lv_iload hx hb dX12_quarrel_206 (lv_at hl 2 rfl) ?_
                  refine lv_iadd hx hb dX12_quarrel_208 ?_
                  exact RI (v := 1000 + be) hC hP hD hS [0, 1, 2] (fh110811, th110812, gnm10806) rfl rfl (by decide) (⟨⟨1000 + be, Or.inr ⟨je, jp, hje, hjp, rfl, rfl, a10801, Or.inr ⟨⟨by omega, a10803⟩, _, _, _, _, w10813, hvZ.bst hzZ hle9.1, Or.inr ⟨c_195_10814, Int32.add_comm _ _⟩⟩⟩, rfl⟩, by first | assumption | exact hM⟩) rfl dX12_quarrel_209
                · refine lv_iload hx hb dX12_quarrel_198 (lv_at hl 1 rfl) ?_
                  refine lv_goto (tgt := 209) hx hb dX12_quarrel_200 (by decide) ?_
                  exact RI (v := le) hC hP hD hS [0, 1, 2] (fh110811, th110812, gnm10806) rfl rfl (by decide) (⟨⟨le, Or.inr ⟨je, jp, hje, hjp, rfl, rfl, a10801, Or.inr ⟨⟨by omega, a10803⟩, _, _, _, _, w10813, hvZ.bst hzZ hle9.1, Or.inl ⟨c_195_10814, rfl⟩⟩⟩, rfl⟩, by first | assumption | exact hM⟩) rfl dX12_quarrel_209
              | succ nZ ihZ =>
                intro hZx be le H locs ls hkZ hvZ hPD hS hl
                obtain ⟨hP, hD⟩ := hPD
                refine lv_iload hx hb dX12_quarrel_65 (lv_at hl 0 rfl) ?_
                refine lv_aload_n hx hb dX12_quarrel_67 rfl (lv_at hl 3 rfl) ?_
                refine gf_X12_164 hC rfl hK hP 0 rfl rfl dX12_quarrel_68 ?_
                refine lv_icmp_gt (tgt := 194) hx hb dX12_quarrel_71 (by decide) (fun c_71_10815 => ?_) (fun c_71_10815 => ?_)
                · refine lv_iload_n hx hb dX12_quarrel_194 rfl (lv_at hl 6 rfl) ?_
                  refine lv_if_ne (tgt := 203) hx hb dX12_quarrel_195 (by decide) (fun c_195_10816 => ?_) (fun c_195_10816 => ?_)
                  · refine lv_sipush (v := 1000) hx hb dX12_quarrel_203 (by decide) ?_
                    refine lv_iload hx hb dX12_quarrel_206 (lv_at hl 2 rfl) ?_
                    refine lv_iadd hx hb dX12_quarrel_208 ?_
                    exact RI (v := 1000 + be) hC hP hD hS [0, 1, 2] (fh110811, th110812, gnm10806) rfl rfl (by decide) (⟨⟨1000 + be, Or.inr ⟨je, jp, hje, hjp, rfl, rfl, a10801, Or.inr ⟨⟨by omega, a10803⟩, _, _, _, _, w10813, hvZ.bst c_71_10815 hle9.1, Or.inr ⟨c_195_10816, Int32.add_comm _ _⟩⟩⟩, rfl⟩, by first | assumption | exact hM⟩) rfl dX12_quarrel_209
                  · refine lv_iload hx hb dX12_quarrel_198 (lv_at hl 1 rfl) ?_
                    refine lv_goto (tgt := 209) hx hb dX12_quarrel_200 (by decide) ?_
                    exact RI (v := le) hC hP hD hS [0, 1, 2] (fh110811, th110812, gnm10806) rfl rfl (by decide) (⟨⟨le, Or.inr ⟨je, jp, hje, hjp, rfl, rfl, a10801, Or.inr ⟨⟨by omega, a10803⟩, _, _, _, _, w10813, hvZ.bst c_71_10815 hle9.1, Or.inl ⟨c_195_10816, rfl⟩⟩⟩, rfl⟩, by first | assumption | exact hM⟩) rfl dX12_quarrel_209
                · refine lv_iconst (v := 0) hx hb dX12_quarrel_74 (by decide) ?_
                  refine lv_istore (lv' := [(7, .int 0), (6, .int hZx), (5, .int le), (4, .int be), (0, .ref h0), (1, .int (nI je)), (2, .int (nI jp)), (3, .int x3)]) hx hb dX12_quarrel_75 hl (by decide) rfl (fun ls hl => ?_)
                  refine lv_iconst (v := 0) hx hb dX12_quarrel_77 (by decide) ?_
                  refine lv_istore (lv' := [(8, .int 0), (7, .int 0), (6, .int hZx), (5, .int le), (4, .int be), (0, .ref h0), (1, .int (nI je)), (2, .int (nI jp)), (3, .int x3)]) hx hb dX12_quarrel_78 hl (by decide) rfl (fun ls hl => ?_)
                  have keyQ : ∀ (nQ kQ : Nat) (su : Int32) (H : Heap) (locs : List Loc) (ls : Array Slot), kQ + nQ = k8 → (su = WGS (PWS (shf fnw 1424) (shf fnw 32) (fnw 0) (fnw 1) (fnw 2) je jp) (shf fnw 1424) hZx kQ) → va_PD G A [(h0, .inr (12, [.ref nw, .ref nk, .int mhasKept, .ref nt, .int mtaped, .ref nr, .int mrowMany, .int mroundOf, .int mroundFrom, .int 0, .ref nm, .int fh110811, .int th110812, .ref ns, .int mfrom, .int mto, .int msort, .int misFault, .int mdeep, .int mcoded, .int mlines, .ref nl, .ref nc, .ref nF, .ref np, .ref ntr, .ref nb, .int mbestCost, .ref nso, .ref nsi, .ref nit, .ref nsh, .ref nsf, .ref nss, .ref nrc, .int mtraced, .int mdealer, .int mnumber, .int mwhose, .int msize, .int misParted])), (nw, .inl (G.2.1, 1662, .inl fnw)), (nm, .inl (G.2.1, 36, .inl gnm10806))] H → va_S A s.heap H locs → lv_has ls 10 [(8, .int (nI kQ)), (7, .int su), (6, .int hZx), (5, .int le), (4, .int be), (0, .ref h0), (1, .int (nI je)), (2, .int (nI jp)), (3, .int x3)] → W p l e (RM 6 0 0) s m ([.ref h0, .int (nI je), .int (nI jp), .int x3] : List Value).toArray below meth c H locs 0 0 (MQ below (QI G (fun (r : Int32) (u : Int32 × Int32 × (Nat → Int32)) => (∃ s9, (QRQ (KST (shf fnw 104) (VSE fnw kq) (fnw 3).toInt k6) (shf fnw 104) (VSE fnw kq) (shf fnw 32) (shf fnw 12) (shf fnw 1424) (fnw 0) (fnw 1) (fnw 2) k6 kq kp k8 (nI je) (nI jp) x3 s9) ∧ r = s9) ∧ (MB u.2.2)) (fun u : Int32 × Int32 × (Nat → Int32) => [(h0, .inr (12, [.ref nw, .ref nk, .int mhasKept, .ref nt, .int mtaped, .ref nr, .int mrowMany, .int mroundOf, .int mroundFrom, .int 0, .ref nm, .int u.1, .int u.2.1, .ref ns, .int mfrom, .int mto, .int msort, .int misFault, .int mdeep, .int mcoded, .int mlines, .ref nl, .ref nc, .ref nF, .ref np, .ref ntr, .ref nb, .int mbestCost, .ref nso, .ref nsi, .ref nit, .ref nsh, .ref nsf, .ref nss, .ref nrc, .int mtraced, .int mdealer, .int mnumber, .int mwhose, .int msize, .int misParted])), (nw, .inl (G.2.1, 1662, .inl fnw)), (nm, .inl (G.2.1, 36, .inl u.2.2))]) A) ([.ref h0, .int (nI je), .int (nI jp), .int x3] : List Value).toArray s 0 0 A) (F0 m 80 ls []) := by
                    intro nQ
                    induction nQ with
                    | zero =>
                      intro kQ su H locs ls hkQ hsu hPD hS hl
                      obtain ⟨hP, hD⟩ := hPD
                      obtain rfl : k8 = kQ := by omega
                      have hl : lv_has ls 10 [(8, .int (nI k8)), (7, .int su), (6, .int hZx), (5, .int le), (4, .int be), (0, .ref h0), (1, .int (nI je)), (2, .int (nI jp)), (3, .int x3)] := hl
                      refine lv_iload hx hb dX12_quarrel_80 (lv_at hl 0 rfl) ?_
                      refine lv_aload_n hx hb dX12_quarrel_82 rfl (lv_at hl 5 rfl) ?_
                      refine gf_X12_9 hC rfl hK hP 0 rfl rfl dX12_quarrel_83 ?_
                      refine lv_bipush (v := 8) hx hb dX12_quarrel_86 (by decide) ?_
                      refine ald hC hK hP 1 rfl (vin (by decide +kernel)) (k := 8) (by decide +kernel) (v := nI k8) (ek8) dX12_quarrel_88 ?_
                      refine lv_icmp_ge (tgt := 168) hx hb dX12_quarrel_89 (by decide) (fun _ => ?_) (fun c9 => absurd (Int32.le_refl _) c9)
                      refine lv_iload hx hb dX12_quarrel_168 (lv_at hl 3 rfl) ?_
                      refine lv_if_lt (tgt := 180) hx hb dX12_quarrel_170 (by decide) (fun c_170_10817 => ?_) (fun c_170_10817 => ?_)
                      · refine lv_iload hx hb dX12_quarrel_180 (lv_at hl 1 rfl) ?_
                        refine lv_istore (lv' := [(5, .int su), (8, .int (nI k8)), (7, .int su), (6, .int hZx), (4, .int be), (0, .ref h0), (1, .int (nI je)), (2, .int (nI jp)), (3, .int x3)]) hx hb dX12_quarrel_182 hl (by decide) rfl (fun ls hl => ?_)
                        refine lv_iload hx hb dX12_quarrel_184 (lv_at hl 3 rfl) ?_
                        refine lv_istore (lv' := [(4, .int hZx), (5, .int su), (8, .int (nI k8)), (7, .int su), (6, .int hZx), (0, .ref h0), (1, .int (nI je)), (2, .int (nI jp)), (3, .int x3)]) hx hb dX12_quarrel_186 hl (by decide) rfl (fun ls hl => ?_)
                        refine lv_iinc (v := hZx + 1) (lv' := [(6, .int (hZx + 1)), (4, .int hZx), (5, .int su), (8, .int (nI k8)), (7, .int su), (0, .ref h0), (1, .int (nI je)), (2, .int (nI jp)), (3, .int x3)]) hx hb dX12_quarrel_188 hl (k := 4) rfl (rfl) (by decide) rfl (fun ls hl => ?_)
                        refine lv_goto (tgt := 65) hx hb dX12_quarrel_191 (by decide) ?_
                        exact ihZ (hZx + 1) hZx su _ _ _ (hz_back c_71_10815 hle9.2.2 hkZ) (hvZ.new c_71_10815 hle9.2.2 hsu (fun y9 => WGS.pos hSO (by omega)) (Or.inl c_170_10817)) (And.intro hP hD) hS (lv_sub hl [0, 2, 1, 5, 6, 7, 8] rfl)
                      · refine lv_iload hx hb dX12_quarrel_173 (lv_at hl 1 rfl) ?_
                        refine lv_iload hx hb dX12_quarrel_175 (lv_at hl 3 rfl) ?_
                        refine lv_icmp_ge (tgt := 188) hx hb dX12_quarrel_177 (by decide) (fun c_177_10818 => ?_) (fun c_177_10818 => ?_)
                        · refine lv_iinc (v := hZx + 1) (lv' := [(6, .int (hZx + 1)), (8, .int (nI k8)), (7, .int su), (5, .int le), (4, .int be), (0, .ref h0), (1, .int (nI je)), (2, .int (nI jp)), (3, .int x3)]) hx hb dX12_quarrel_188 hl (k := 2) rfl (rfl) (by decide) rfl (fun ls hl => ?_)
                          refine lv_goto (tgt := 65) hx hb dX12_quarrel_191 (by decide) ?_
                          exact ihZ (hZx + 1) be le _ _ _ (hz_back c_71_10815 hle9.2.2 hkZ) (hvZ.old c_71_10815 hle9.2.2 hsu c_170_10817 c_177_10818) (And.intro hP hD) hS (lv_sub hl [0, 3, 4, 5, 6, 7, 8] rfl)
                        · refine lv_iload hx hb dX12_quarrel_180 (lv_at hl 1 rfl) ?_
                          refine lv_istore (lv' := [(5, .int su), (8, .int (nI k8)), (7, .int su), (6, .int hZx), (4, .int be), (0, .ref h0), (1, .int (nI je)), (2, .int (nI jp)), (3, .int x3)]) hx hb dX12_quarrel_182 hl (by decide) rfl (fun ls hl => ?_)
                          refine lv_iload hx hb dX12_quarrel_184 (lv_at hl 3 rfl) ?_
                          refine lv_istore (lv' := [(4, .int hZx), (5, .int su), (8, .int (nI k8)), (7, .int su), (6, .int hZx), (0, .ref h0), (1, .int (nI je)), (2, .int (nI jp)), (3, .int x3)]) hx hb dX12_quarrel_186 hl (by decide) rfl (fun ls hl => ?_)
                          refine lv_iinc (v := hZx + 1) (lv' := [(6, .int (hZx + 1)), (4, .int hZx), (5, .int su), (8, .int (nI k8)), (7, .int su), (0, .ref h0), (1, .int (nI je)), (2, .int (nI jp)), (3, .int x3)]) hx hb dX12_quarrel_188 hl (k := 4) rfl (rfl) (by decide) rfl (fun ls hl => ?_)
                          refine lv_goto (tgt := 65) hx hb dX12_quarrel_191 (by decide) ?_
                          exact ihZ (hZx + 1) hZx su _ _ _ (hz_back c_71_10815 hle9.2.2 hkZ) (hvZ.new c_71_10815 hle9.2.2 hsu (fun y9 => WGS.pos hSO (by omega)) (Or.inr (Int32.not_le.mp c_177_10818))) (And.intro hP hD) hS (lv_sub hl [0, 2, 1, 5, 6, 7, 8] rfl)
                    | succ nQ ihQ =>
                      intro kQ su H locs ls hkQ hsu hPD hS hl
                      obtain ⟨hP, hD⟩ := hPD
                      refine lv_iload hx hb dX12_quarrel_80 (lv_at hl 0 rfl) ?_
                      refine lv_aload_n hx hb dX12_quarrel_82 rfl (lv_at hl 5 rfl) ?_
                      refine gf_X12_9 hC rfl hK hP 0 rfl rfl dX12_quarrel_83 ?_
                      refine lv_bipush (v := 8) hx hb dX12_quarrel_86 (by decide) ?_
                      refine ald hC hK hP 1 rfl (vin (by decide +kernel)) (k := 8) (by decide +kernel) (v := nI k8) (ek8) dX12_quarrel_88 ?_
                      refine lv_icmp_ge (tgt := 168) hx hb dX12_quarrel_89 (by decide) (fun c9 => absurd c9 (nI_ge (a := kQ) (b := k8) (by omega) (by omega))) (fun _ => ?_)
                      refine lv_aload_n hx hb dX12_quarrel_92 rfl (lv_at hl 5 rfl) ?_
                      refine lv_iload hx hb dX12_quarrel_93 (lv_at hl 0 rfl) ?_
                      refine pV hC hK hl hP hD (m_doesCountX l G h0 kQ nw nk mhasKept nt mtaped nr mrowMany mroundOf mroundFrom nm fh110811 th110812 ns mfrom mto msort misFault mdeep mcoded mlines nl nc nF np ntr nb mbestCost nso nsi nit nsh nsf nss nrc mtraced mdealer mnumber mwhose msize misParted fnw (by omega) (hN)) si_X12_117 [0, 1] rfl rfl (by decide) rfl rfl rfl rfl rfl (Nat.le_of_ble_eq_true rfl) ⟨Nat.le_of_ble_eq_true rfl, Nat.le_of_ble_eq_true rfl⟩ ⟨by first | exact Nat.le_of_ble_eq_true rfl | exact Nat.zero_le _, by first | exact Nat.le_of_ble_eq_true rfl | exact Nat.zero_le _⟩ dX12_quarrel_95 (fun r10819 hr10819 => ?_)
                      rcases hr10819 with ⟨rfl, a10820⟩ | ⟨rfl, a10820⟩
                      · refine lv_if_eq (tgt := 127) hx hb dX12_quarrel_98 (by decide) (fun c9 => absurd c9 (by decide)) (fun _ => ?_)
                        refine lv_aload_n hx hb dX12_quarrel_101 rfl (lv_at hl 5 rfl) ?_
                        refine lv_iload hx hb dX12_quarrel_102 (lv_at hl 0 rfl) ?_
                        refine lv_iconst (v := 1) hx hb dX12_quarrel_104 (by decide) ?_
                        refine pV hC hK hl hP hD (m_saying l G h0 kQ 1 nw nk mhasKept nt mtaped nr mrowMany mroundOf mroundFrom 0 nm fh110811 th110812 ns mfrom mto msort misFault mdeep mcoded mlines nl nc nF np ntr nb mbestCost nso nsi nit nsh nsf nss nrc mtraced mdealer mnumber mwhose msize misParted fnw (by omega) (by omega)) si_X12_114 [0, 1] rfl rfl (by decide) rfl rfl rfl rfl rfl (Nat.le_of_ble_eq_true rfl) ⟨Nat.le_of_ble_eq_true rfl, Nat.le_of_ble_eq_true rfl⟩ ⟨by first | exact Nat.le_of_ble_eq_true rfl | exact Nat.zero_le _, by first | exact Nat.le_of_ble_eq_true rfl | exact Nat.zero_le _⟩ dX12_quarrel_105 (fun r10821 hr10821 => ?_)
                        obtain rfl := hr10821
                        refine lv_iload_n hx hb dX12_quarrel_108 rfl (lv_at hl 6 rfl) ?_
                        refine lv_icmp_ne (tgt := 127) hx hb dX12_quarrel_109 (by decide) (fun c_109_10823 => ?_) (fun c_109_10823 => ?_)
                        · refine lv_iconst (v := 0) hx hb dX12_quarrel_127 (by decide) ?_
                          refine lv_istore (lv' := [(9, .int 0), (8, .int (nI kQ)), (7, .int su), (6, .int hZx), (5, .int le), (4, .int be), (0, .ref h0), (1, .int (nI je)), (2, .int (nI jp)), (3, .int x3)]) hx hb dX12_quarrel_128 hl (by decide) rfl (fun ls hl => ?_)
                          refine lv_iload hx hb dX12_quarrel_130 (lv_at hl 2 rfl) ?_
                          refine lv_iload hx hb dX12_quarrel_132 (lv_at hl 0 rfl) ?_
                          refine lv_if_eq (tgt := 158) hx hb dX12_quarrel_134 (by decide) (fun _ => ?_) (fun c9 => absurd (by decide) c9)
                          refine lv_iconst (v := 0) hx hb dX12_quarrel_158 (by decide) ?_
                          refine lv_iadd hx hb dX12_quarrel_159 ?_
                          refine lv_istore (lv' := [(7, .int (su + 0)), (9, .int 0), (8, .int (nI kQ)), (6, .int hZx), (5, .int le), (4, .int be), (0, .ref h0), (1, .int (nI je)), (2, .int (nI jp)), (3, .int x3)]) hx hb dX12_quarrel_160 hl (by decide) rfl (fun ls hl => ?_)
                          refine lv_iinc (v := nI (kQ + 1)) (lv' := [(8, .int (nI (kQ + 1))), (7, .int (su + 0)), (9, .int 0), (6, .int hZx), (5, .int le), (4, .int be), (0, .ref h0), (1, .int (nI je)), (2, .int (nI jp)), (3, .int x3)]) hx hb dX12_quarrel_162 hl (k := 2) rfl (nI_1 _) (by decide) rfl (fun ls hl => ?_)
                          refine lv_goto (tgt := 80) hx hb dX12_quarrel_165 (by decide) ?_
                          have hst9 : su + 0 = WGS (PWS (shf fnw 1424) (shf fnw 32) (fnw 0) (fnw 1) (fnw 2) je jp) (shf fnw 1424) hZx (kQ + 1) := WGS.n0 hsu (fun h9 => (fun h8 => c_109_10823 (shf_sa.symm.trans h8)) h9.1.1)
                          exact ihQ (kQ + 1) (su + 0) _ _ _ (by omega) (by first | assumption | exact Or.inl rfl | exact Or.inr rfl | exact rfl) (And.intro hP hD) hS (lv_sub hl [0, 1, 3, 4, 5, 6, 7, 8, 9] rfl)
                        · refine lv_aload_n hx hb dX12_quarrel_112 rfl (lv_at hl 5 rfl) ?_
                          refine lv_iload hx hb dX12_quarrel_113 (lv_at hl 0 rfl) ?_
                          refine lv_iconst (v := 2) hx hb dX12_quarrel_115 (by decide) ?_
                          refine pV hC hK hl hP hD (m_saying l G h0 kQ 2 nw nk mhasKept nt mtaped nr mrowMany mroundOf mroundFrom 0 nm fh110811 th110812 ns mfrom mto msort misFault mdeep mcoded mlines nl nc nF np ntr nb mbestCost nso nsi nit nsh nsf nss nrc mtraced mdealer mnumber mwhose msize misParted fnw (by omega) (by omega)) si_X12_114 [0, 1] rfl rfl (by decide) rfl rfl rfl rfl rfl (Nat.le_of_ble_eq_true rfl) ⟨Nat.le_of_ble_eq_true rfl, Nat.le_of_ble_eq_true rfl⟩ ⟨by first | exact Nat.le_of_ble_eq_true rfl | exact Nat.zero_le _, by first | exact Nat.le_of_ble_eq_true rfl | exact Nat.zero_le _⟩ dX12_quarrel_116 (fun r10824 hr10824 => ?_)
                          obtain rfl := hr10824
                          refine lv_iload_n hx hb dX12_quarrel_119 rfl (lv_at hl 7 rfl) ?_
                          refine lv_icmp_ne (tgt := 127) hx hb dX12_quarrel_120 (by decide) (fun c_120_10826 => ?_) (fun c_120_10826 => ?_)
                          · refine lv_iconst (v := 0) hx hb dX12_quarrel_127 (by decide) ?_
                            refine lv_istore (lv' := [(9, .int 0), (8, .int (nI kQ)), (7, .int su), (6, .int hZx), (5, .int le), (4, .int be), (0, .ref h0), (1, .int (nI je)), (2, .int (nI jp)), (3, .int x3)]) hx hb dX12_quarrel_128 hl (by decide) rfl (fun ls hl => ?_)
                            refine lv_iload hx hb dX12_quarrel_130 (lv_at hl 2 rfl) ?_
                            refine lv_iload hx hb dX12_quarrel_132 (lv_at hl 0 rfl) ?_
                            refine lv_if_eq (tgt := 158) hx hb dX12_quarrel_134 (by decide) (fun _ => ?_) (fun c9 => absurd (by decide) c9)
                            refine lv_iconst (v := 0) hx hb dX12_quarrel_158 (by decide) ?_
                            refine lv_iadd hx hb dX12_quarrel_159 ?_
                            refine lv_istore (lv' := [(7, .int (su + 0)), (9, .int 0), (8, .int (nI kQ)), (6, .int hZx), (5, .int le), (4, .int be), (0, .ref h0), (1, .int (nI je)), (2, .int (nI jp)), (3, .int x3)]) hx hb dX12_quarrel_160 hl (by decide) rfl (fun ls hl => ?_)
                            refine lv_iinc (v := nI (kQ + 1)) (lv' := [(8, .int (nI (kQ + 1))), (7, .int (su + 0)), (9, .int 0), (6, .int hZx), (5, .int le), (4, .int be), (0, .ref h0), (1, .int (nI je)), (2, .int (nI jp)), (3, .int x3)]) hx hb dX12_quarrel_162 hl (k := 2) rfl (nI_1 _) (by decide) rfl (fun ls hl => ?_)
                            refine lv_goto (tgt := 80) hx hb dX12_quarrel_165 (by decide) ?_
                            have hst9 : su + 0 = WGS (PWS (shf fnw 1424) (shf fnw 32) (fnw 0) (fnw 1) (fnw 2) je jp) (shf fnw 1424) hZx (kQ + 1) := WGS.n0 hsu (fun h9 => (fun h8 => c_120_10826 (shf_sa.symm.trans h8)) h9.1.2.1)
                            exact ihQ (kQ + 1) (su + 0) _ _ _ (by omega) (by first | assumption | exact Or.inl rfl | exact Or.inr rfl | exact rfl) (And.intro hP hD) hS (lv_sub hl [0, 1, 3, 4, 5, 6, 7, 8, 9] rfl)
                          · refine lv_iconst (v := 1) hx hb dX12_quarrel_123 (by decide) ?_
                            refine lv_goto (tgt := 128) hx hb dX12_quarrel_124 (by decide) ?_
                            refine lv_istore (lv' := [(9, .int 1), (8, .int (nI kQ)), (7, .int su), (6, .int hZx), (5, .int le), (4, .int be), (0, .ref h0), (1, .int (nI je)), (2, .int (nI jp)), (3, .int x3)]) hx hb dX12_quarrel_128 hl (by decide) rfl (fun ls hl => ?_)
                            refine lv_iload hx hb dX12_quarrel_130 (lv_at hl 2 rfl) ?_
                            refine lv_iload hx hb dX12_quarrel_132 (lv_at hl 0 rfl) ?_
                            refine lv_if_eq (tgt := 158) hx hb dX12_quarrel_134 (by decide) (fun c9 => absurd c9 (by decide)) (fun _ => ?_)
                            refine lv_aload_n hx hb dX12_quarrel_137 rfl (lv_at hl 6 rfl) ?_
                            refine lv_iload hx hb dX12_quarrel_138 (lv_at hl 3 rfl) ?_
                            refine lv_iload hx hb dX12_quarrel_140 (lv_at hl 1 rfl) ?_
                            refine pV hC hK hl hP hD (m_isAgainstX l G h0 hZx kQ nw nk mhasKept nt mtaped nr mrowMany mroundOf mroundFrom 0 nm fh110811 th110812 ns mfrom mto msort misFault mdeep mcoded mlines nl nc nF np ntr nb mbestCost nso nsi nit nsh nsf nss nrc mtraced mdealer mnumber mwhose msize misParted fnw (by omega)) si_X12_302 [0, 1] rfl rfl (by decide) rfl rfl rfl rfl rfl (Nat.le_of_ble_eq_true rfl) ⟨Nat.le_of_ble_eq_true rfl, Nat.le_of_ble_eq_true rfl⟩ ⟨by first | exact Nat.le_of_ble_eq_true rfl | exact Nat.zero_le _, by first | exact Nat.le_of_ble_eq_true rfl | exact Nat.zero_le _⟩ dX12_quarrel_142 (fun r10827 hr10827 => ?_)
                            rcases hr10827 with ⟨rfl, a10828⟩ | ⟨rfl, a10828⟩
                            · refine lv_if_eq (tgt := 158) hx hb dX12_quarrel_145 (by decide) (fun c9 => absurd c9 (by decide)) (fun _ => ?_)
                              refine lv_aload_n hx hb dX12_quarrel_148 rfl (lv_at hl 6 rfl) ?_
                              refine lv_iload hx hb dX12_quarrel_149 (lv_at hl 1 rfl) ?_
                              refine lv_iconst (v := 4) hx hb dX12_quarrel_151 (by decide) ?_
                              refine pV hC hK hl hP hD (m_saying l G h0 kQ 4 nw nk mhasKept nt mtaped nr mrowMany mroundOf mroundFrom 0 nm fh110811 th110812 ns mfrom mto msort misFault mdeep mcoded mlines nl nc nF np ntr nb mbestCost nso nsi nit nsh nsf nss nrc mtraced mdealer mnumber mwhose msize misParted fnw (by omega) (by omega)) si_X12_114 [0, 1] rfl rfl (by decide) rfl rfl rfl rfl rfl (Nat.le_of_ble_eq_true rfl) ⟨Nat.le_of_ble_eq_true rfl, Nat.le_of_ble_eq_true rfl⟩ ⟨by first | exact Nat.le_of_ble_eq_true rfl | exact Nat.zero_le _, by first | exact Nat.le_of_ble_eq_true rfl | exact Nat.zero_le _⟩ dX12_quarrel_152 (fun r10829 hr10829 => ?_)
                              obtain rfl := hr10829
                              refine lv_goto (tgt := 159) hx hb dX12_quarrel_155 (by decide) ?_
                              refine lv_iadd hx hb dX12_quarrel_159 ?_
                              refine lv_istore (lv' := [(7, .int (su + (fnw (1424 + 8 * kQ + 4)))), (9, .int 1), (8, .int (nI kQ)), (6, .int hZx), (5, .int le), (4, .int be), (0, .ref h0), (1, .int (nI je)), (2, .int (nI jp)), (3, .int x3)]) hx hb dX12_quarrel_160 hl (by decide) rfl (fun ls hl => ?_)
                              refine lv_iinc (v := nI (kQ + 1)) (lv' := [(8, .int (nI (kQ + 1))), (7, .int (su + (fnw (1424 + 8 * kQ + 4)))), (9, .int 1), (6, .int hZx), (5, .int le), (4, .int be), (0, .ref h0), (1, .int (nI je)), (2, .int (nI jp)), (3, .int x3)]) hx hb dX12_quarrel_162 hl (k := 2) rfl (nI_1 _) (by decide) rfl (fun ls hl => ?_)
                              refine lv_goto (tgt := 80) hx hb dX12_quarrel_165 (by decide) ?_
                              have hst9 : su + (fnw (1424 + 8 * kQ + 4)) = WGS (PWS (shf fnw 1424) (shf fnw 32) (fnw 0) (fnw 1) (fnw 2) je jp) (shf fnw 1424) hZx (kQ + 1) := (congrArg (fun z9 => su + z9) (shf_sa (f := fnw) (s := kQ) (c := 4)).symm).trans (WGS.y hsu ⟨⟨shf_sa.trans c_109_10823, shf_sa.trans c_120_10826, a10820⟩, a10828⟩)
                              exact ihQ (kQ + 1) (su + (fnw (1424 + 8 * kQ + 4))) _ _ _ (by omega) (by first | assumption | exact Or.inl rfl | exact Or.inr rfl | exact rfl) (And.intro hP hD) hS (lv_sub hl [0, 1, 3, 4, 5, 6, 7, 8, 9] rfl)
                            · refine lv_if_eq (tgt := 158) hx hb dX12_quarrel_145 (by decide) (fun _ => ?_) (fun c9 => absurd (by decide) c9)
                              refine lv_iconst (v := 0) hx hb dX12_quarrel_158 (by decide) ?_
                              refine lv_iadd hx hb dX12_quarrel_159 ?_
                              refine lv_istore (lv' := [(7, .int (su + 0)), (9, .int 1), (8, .int (nI kQ)), (6, .int hZx), (5, .int le), (4, .int be), (0, .ref h0), (1, .int (nI je)), (2, .int (nI jp)), (3, .int x3)]) hx hb dX12_quarrel_160 hl (by decide) rfl (fun ls hl => ?_)
                              refine lv_iinc (v := nI (kQ + 1)) (lv' := [(8, .int (nI (kQ + 1))), (7, .int (su + 0)), (9, .int 1), (6, .int hZx), (5, .int le), (4, .int be), (0, .ref h0), (1, .int (nI je)), (2, .int (nI jp)), (3, .int x3)]) hx hb dX12_quarrel_162 hl (k := 2) rfl (nI_1 _) (by decide) rfl (fun ls hl => ?_)
                              refine lv_goto (tgt := 80) hx hb dX12_quarrel_165 (by decide) ?_
                              have hst9 : su + 0 = WGS (PWS (shf fnw 1424) (shf fnw 32) (fnw 0) (fnw 1) (fnw 2) je jp) (shf fnw 1424) hZx (kQ + 1) := WGS.n0 hsu (fun h9 => a10828 h9.2)
                              exact ihQ (kQ + 1) (su + 0) _ _ _ (by omega) (by first | assumption | exact Or.inl rfl | exact Or.inr rfl | exact rfl) (And.intro hP hD) hS (lv_sub hl [0, 1, 3, 4, 5, 6, 7, 8, 9] rfl)
                      · refine lv_if_eq (tgt := 127) hx hb dX12_quarrel_98 (by decide) (fun _ => ?_) (fun c9 => absurd (by decide) c9)
                        refine lv_iconst (v := 0) hx hb dX12_quarrel_127 (by decide) ?_
                        refine lv_istore (lv' := [(9, .int 0), (8, .int (nI kQ)), (7, .int su), (6, .int hZx), (5, .int le), (4, .int be), (0, .ref h0), (1, .int (nI je)), (2, .int (nI jp)), (3, .int x3)]) hx hb dX12_quarrel_128 hl (by decide) rfl (fun ls hl => ?_)
                        refine lv_iload hx hb dX12_quarrel_130 (lv_at hl 2 rfl) ?_
                        refine lv_iload hx hb dX12_quarrel_132 (lv_at hl 0 rfl) ?_
                        refine lv_if_eq (tgt := 158) hx hb dX12_quarrel_134 (by decide) (fun _ => ?_) (fun c9 => absurd (by decide) c9)
                        refine lv_iconst (v := 0) hx hb dX12_quarrel_158 (by decide) ?_
                        refine lv_iadd hx hb dX12_quarrel_159 ?_
                        refine lv_istore (lv' := [(7, .int (su + 0)), (9, .int 0), (8, .int (nI kQ)), (6, .int hZx), (5, .int le), (4, .int be), (0, .ref h0), (1, .int (nI je)), (2, .int (nI jp)), (3, .int x3)]) hx hb dX12_quarrel_160 hl (by decide) rfl (fun ls hl => ?_)
                        refine lv_iinc (v := nI (kQ + 1)) (lv' := [(8, .int (nI (kQ + 1))), (7, .int (su + 0)), (9, .int 0), (6, .int hZx), (5, .int le), (4, .int be), (0, .ref h0), (1, .int (nI je)), (2, .int (nI jp)), (3, .int x3)]) hx hb dX12_quarrel_162 hl (k := 2) rfl (nI_1 _) (by decide) rfl (fun ls hl => ?_)
                        refine lv_goto (tgt := 80) hx hb dX12_quarrel_165 (by decide) ?_
                        have hst9 : su + 0 = WGS (PWS (shf fnw 1424) (shf fnw 32) (fnw 0) (fnw 1) (fnw 2) je jp) (shf fnw 1424) hZx (kQ + 1) := WGS.n0 hsu (fun h9 => a10820 h9.1.2.2)
                        exact ihQ (kQ + 1) (su + 0) _ _ _ (by omega) (by first | assumption | exact Or.inl rfl | exact Or.inr rfl | exact rfl) (And.intro hP hD) hS (lv_sub hl [0, 1, 3, 4, 5, 6, 7, 8, 9] rfl)
                  exact keyQ k8 0 0 _ _ _ (by omega) (by first | assumption | exact Or.inl rfl | exact Or.inr rfl | exact rfl) (And.intro hP hD) hS (lv_sub hl [0, 1, 2, 3, 4, 5, 6, 7, 8] rfl)
            exact keyZ ((th110812).toInt + 1 - (fh110811).toInt).toNat fh110811 fh110811 (-1) _ _ _ (by omega) (QLI.zero hle9.1) (And.intro hP hD) hS (lv_sub hl [0, 1, 2, 3, 4, 5, 6] rfl)
          · refine vV (wr := []) hC hK hl hP hD hS hA (m_findHoursL l G kq k6 h0 jp je nw nk mhasKept nt mtaped nr mrowMany mroundOf mroundFrom nm mfromHour mtoHour ns mfrom mto msort misFault mdeep mcoded mlines nl nc nF np ntr nb mbestCost nso nsi nit nsh nsf nss nrc mtraced mdealer mnumber mwhose msize misParted fnw gnm10806 (hN) (e6) (hk6) (a10808) (ekq) (hkq) (by omega) (by omega)) si_X12_298 [0, 1, 2] [] rfl rfl (by decide) rfl (by decide) (by decide) rfl rfl rfl rfl rfl (Nat.le_of_ble_eq_true rfl) ⟨Nat.le_of_ble_eq_true rfl, Nat.le_of_ble_eq_true rfl⟩ ⟨Nat.le_of_ble_eq_true rfl, Nat.le_of_ble_eq_true rfl⟩ dX12_quarrel_47 (fun u10832 H locs hr10831 hP hD hS => ?_)
            obtain ⟨fh110833, th110834⟩ := u10832
            try dsimp only at hr10831
            have hPD : va_PD G A [(h0, .inr (12, [.ref nw, .ref nk, .int mhasKept, .ref nt, .int mtaped, .ref nr, .int mrowMany, .int mroundOf, .int mroundFrom, .int 0, .ref nm, .int fh110833, .int th110834, .ref ns, .int mfrom, .int mto, .int msort, .int misFault, .int mdeep, .int mcoded, .int mlines, .ref nl, .ref nc, .ref nF, .ref np, .ref ntr, .ref nb, .int mbestCost, .ref nso, .ref nsi, .ref nit, .ref nsh, .ref nsf, .ref nss, .ref nrc, .int mtraced, .int mdealer, .int mnumber, .int mwhose, .int msize, .int misParted])), (nw, .inl (G.2.1, 1662, .inl fnw)), (nm, .inl (G.2.1, 36, .inl gnm10806))] H := And.intro hP hD
            obtain ⟨hP, hD⟩ := hPD
            have w10835 := hr10831
            have hsl9 : 0 ≤ (shf fnw 12 (je * 2 + 1)).toInt ∧ (shf fnw 12 (je * 2 + 1)).toInt ≤ 48 := NI.slow hN (by omega)
            have hle9 := HIQ.le (SVL.ofm hN (by omega)) hsl9.1 hsl9.2 w10835
            refine lv_aload_n hx hb dX12_quarrel_50 rfl (lv_at hl 0 rfl) ?_
            refine gf_X12_161 hC rfl hK hP 0 rfl rfl dX12_quarrel_51 ?_
            refine lv_istore (lv' := [(4, .int fh110833), (0, .ref h0), (1, .int (nI je)), (2, .int (nI jp)), (3, .int x3)]) hx hb dX12_quarrel_54 hl (by decide) rfl (fun ls hl => ?_)
            refine lv_iconst (v := (-1)) hx hb dX12_quarrel_56 (by decide) ?_
            refine lv_istore (lv' := [(5, .int (-1)), (4, .int fh110833), (0, .ref h0), (1, .int (nI je)), (2, .int (nI jp)), (3, .int x3)]) hx hb dX12_quarrel_57 hl (by decide) rfl (fun ls hl => ?_)
            refine lv_aload_n hx hb dX12_quarrel_59 rfl (lv_at hl 2 rfl) ?_
            refine gf_X12_161 hC rfl hK hP 0 rfl rfl dX12_quarrel_60 ?_
            refine lv_istore (lv' := [(6, .int fh110833), (5, .int (-1)), (4, .int fh110833), (0, .ref h0), (1, .int (nI je)), (2, .int (nI jp)), (3, .int x3)]) hx hb dX12_quarrel_63 hl (by decide) rfl (fun ls hl => ?_)
            have keyZ : ∀ (nZ : Nat) (hZx : Int32) (be : Int32) (le : Int32) (H : Heap) (locs : List Loc) (ls : Array Slot), (th110834).toInt + 1 - hZx.toInt ≤ (nZ : Int) → (QLI (fun h9 => WGS (PWS (shf fnw 1424) (shf fnw 32) (fnw 0) (fnw 1) (fnw 2) je jp) (shf fnw 1424) h9 k8) fh110833 th110834 hZx be le) → va_PD G A [(h0, .inr (12, [.ref nw, .ref nk, .int mhasKept, .ref nt, .int mtaped, .ref nr, .int mrowMany, .int mroundOf, .int mroundFrom, .int 0, .ref nm, .int fh110833, .int th110834, .ref ns, .int mfrom, .int mto, .int msort, .int misFault, .int mdeep, .int mcoded, .int mlines, .ref nl, .ref nc, .ref nF, .ref np, .ref ntr, .ref nb, .int mbestCost, .ref nso, .ref nsi, .ref nit, .ref nsh, .ref nsf, .ref nss, .ref nrc, .int mtraced, .int mdealer, .int mnumber, .int mwhose, .int msize, .int misParted])), (nw, .inl (G.2.1, 1662, .inl fnw)), (nm, .inl (G.2.1, 36, .inl gnm10806))] H → va_S A s.heap H locs → lv_has ls 10 [(6, .int hZx), (5, .int le), (4, .int be), (0, .ref h0), (1, .int (nI je)), (2, .int (nI jp)), (3, .int x3)] → W p l e (RM 6 0 0) s m ([.ref h0, .int (nI je), .int (nI jp), .int x3] : List Value).toArray below meth c H locs 0 0 (MQ below (QI G (fun (r : Int32) (u : Int32 × Int32 × (Nat → Int32)) => (∃ s9, (QRQ (KST (shf fnw 104) (VSE fnw kq) (fnw 3).toInt k6) (shf fnw 104) (VSE fnw kq) (shf fnw 32) (shf fnw 12) (shf fnw 1424) (fnw 0) (fnw 1) (fnw 2) k6 kq kp k8 (nI je) (nI jp) x3 s9) ∧ r = s9) ∧ (MB u.2.2)) (fun u : Int32 × Int32 × (Nat → Int32) => [(h0, .inr (12, [.ref nw, .ref nk, .int mhasKept, .ref nt, .int mtaped, .ref nr, .int mrowMany, .int mroundOf, .int mroundFrom, .int 0, .ref nm, .int u.1, .int u.2.1, .ref ns, .int mfrom, .int mto, .int msort, .int misFault, .int mdeep, .int mcoded, .int mlines, .ref nl, .ref nc, .ref nF, .ref np, .ref ntr, .ref nb, .int mbestCost, .ref nso, .ref nsi, .ref nit, .ref nsh, .ref nsf, .ref nss, .ref nrc, .int mtraced, .int mdealer, .int mnumber, .int mwhose, .int msize, .int misParted])), (nw, .inl (G.2.1, 1662, .inl fnw)), (nm, .inl (G.2.1, 36, .inl u.2.2))]) A) ([.ref h0, .int (nI je), .int (nI jp), .int x3] : List Value).toArray s 0 0 A) (F0 m 65 ls []) := by
              intro nZ
              induction nZ with
              | zero =>
                intro hZx be le H locs ls hkZ hvZ hPD hS hl
                obtain ⟨hP, hD⟩ := hPD
                have hzZ : th110834 < hZx := hz_end (by omega)
                refine lv_iload hx hb dX12_quarrel_65 (lv_at hl 0 rfl) ?_
                refine lv_aload_n hx hb dX12_quarrel_67 rfl (lv_at hl 3 rfl) ?_
                refine gf_X12_164 hC rfl hK hP 0 rfl rfl dX12_quarrel_68 ?_
                refine lv_icmp_gt (tgt := 194) hx hb dX12_quarrel_71 (by decide) (fun _ => ?_) (fun c9 => absurd (hzZ) c9)
                refine lv_iload_n hx hb dX12_quarrel_194 rfl (lv_at hl 6 rfl) ?_
                refine lv_if_ne (tgt := 203) hx hb dX12_quarrel_195 (by decide) (fun c_195_10836 => ?_) (fun c_195_10836 => ?_)
                · refine lv_sipush (v := 1000) hx hb dX12_quarrel_203 (by decide) ?_
                  refine lv_iload hx hb dX12_quarrel_206 (lv_at hl 2 rfl) ?_
                  refine lv_iadd hx hb dX12_quarrel_208 ?_
                  exact RI (v := 1000 + be) hC hP hD hS [0, 1, 2] (fh110833, th110834, gnm10806) rfl rfl (by decide) (⟨⟨1000 + be, Or.inr ⟨je, jp, hje, hjp, rfl, rfl, a10801, Or.inr ⟨⟨by omega, a10803⟩, _, _, _, _, w10835, hvZ.bst hzZ hle9.1, Or.inr ⟨c_195_10836, Int32.add_comm _ _⟩⟩⟩, rfl⟩, by first | assumption | exact hM⟩) rfl dX12_quarrel_209
                · refine lv_iload hx hb dX12_quarrel_198 (lv_at hl 1 rfl) ?_
                  refine lv_goto (tgt := 209) hx hb dX12_quarrel_200 (by decide) ?_
                  exact RI (v := le) hC hP hD hS [0, 1, 2] (fh110833, th110834, gnm10806) rfl rfl (by decide) (⟨⟨le, Or.inr ⟨je, jp, hje, hjp, rfl, rfl, a10801, Or.inr ⟨⟨by omega, a10803⟩, _, _, _, _, w10835, hvZ.bst hzZ hle9.1, Or.inl ⟨c_195_10836, rfl⟩⟩⟩, rfl⟩, by first | assumption | exact hM⟩) rfl dX12_quarrel_209
              | succ nZ ihZ =>
                intro hZx be le H locs ls hkZ hvZ hPD hS hl
                obtain ⟨hP, hD⟩ := hPD
                refine lv_iload hx hb dX12_quarrel_65 (lv_at hl 0 rfl) ?_
                refine lv_aload_n hx hb dX12_quarrel_67 rfl (lv_at hl 3 rfl) ?_
                refine gf_X12_164 hC rfl hK hP 0 rfl rfl dX12_quarrel_68 ?_
                refine lv_icmp_gt (tgt := 194) hx hb dX12_quarrel_71 (by decide) (fun c_71_10837 => ?_) (fun c_71_10837 => ?_)
                · refine lv_iload_n hx hb dX12_quarrel_194 rfl (lv_at hl 6 rfl) ?_
                  refine lv_if_ne (tgt := 203) hx hb dX12_quarrel_195 (by decide) (fun c_195_10838 => ?_) (fun c_195_10838 => ?_)
                  · refine lv_sipush (v := 1000) hx hb dX12_quarrel_203 (by decide) ?_
                    refine lv_iload hx hb dX12_quarrel_206 (lv_at hl 2 rfl) ?_
                    refine lv_iadd hx hb dX12_quarrel_208 ?_
                    exact RI (v := 1000 + be) hC hP hD hS [0, 1, 2] (fh110833, th110834, gnm10806) rfl rfl (by decide) (⟨⟨1000 + be, Or.inr ⟨je, jp, hje, hjp, rfl, rfl, a10801, Or.inr ⟨⟨by omega, a10803⟩, _, _, _, _, w10835, hvZ.bst c_71_10837 hle9.1, Or.inr ⟨c_195_10838, Int32.add_comm _ _⟩⟩⟩, rfl⟩, by first | assumption | exact hM⟩) rfl dX12_quarrel_209
                  · refine lv_iload hx hb dX12_quarrel_198 (lv_at hl 1 rfl) ?_
                    refine lv_goto (tgt := 209) hx hb dX12_quarrel_200 (by decide) ?_
                    exact RI (v := le) hC hP hD hS [0, 1, 2] (fh110833, th110834, gnm10806) rfl rfl (by decide) (⟨⟨le, Or.inr ⟨je, jp, hje, hjp, rfl, rfl, a10801, Or.inr ⟨⟨by omega, a10803⟩, _, _, _, _, w10835, hvZ.bst c_71_10837 hle9.1, Or.inl ⟨c_195_10838, rfl⟩⟩⟩, rfl⟩, by first | assumption | exact hM⟩) rfl dX12_quarrel_209
                · refine lv_iconst (v := 0) hx hb dX12_quarrel_74 (by decide) ?_
                  refine lv_istore (lv' := [(7, .int 0), (6, .int hZx), (5, .int le), (4, .int be), (0, .ref h0), (1, .int (nI je)), (2, .int (nI jp)), (3, .int x3)]) hx hb dX12_quarrel_75 hl (by decide) rfl (fun ls hl => ?_)
                  refine lv_iconst (v := 0) hx hb dX12_quarrel_77 (by decide) ?_
                  refine lv_istore (lv' := [(8, .int 0), (7, .int 0), (6, .int hZx), (5, .int le), (4, .int be), (0, .ref h0), (1, .int (nI je)), (2, .int (nI jp)), (3, .int x3)]) hx hb dX12_quarrel_78 hl (by decide) rfl (fun ls hl => ?_)
                  have keyQ : ∀ (nQ kQ : Nat) (su : Int32) (H : Heap) (locs : List Loc) (ls : Array Slot), kQ + nQ = k8 → (su = WGS (PWS (shf fnw 1424) (shf fnw 32) (fnw 0) (fnw 1) (fnw 2) je jp) (shf fnw 1424) hZx kQ) → va_PD G A [(h0, .inr (12, [.ref nw, .ref nk, .int mhasKept, .ref nt, .int mtaped, .ref nr, .int mrowMany, .int mroundOf, .int mroundFrom, .int 0, .ref nm, .int fh110833, .int th110834, .ref ns, .int mfrom, .int mto, .int msort, .int misFault, .int mdeep, .int mcoded, .int mlines, .ref nl, .ref nc, .ref nF, .ref np, .ref ntr, .ref nb, .int mbestCost, .ref nso, .ref nsi, .ref nit, .ref nsh, .ref nsf, .ref nss, .ref nrc, .int mtraced, .int mdealer, .int mnumber, .int mwhose, .int msize, .int misParted])), (nw, .inl (G.2.1, 1662, .inl fnw)), (nm, .inl (G.2.1, 36, .inl gnm10806))] H → va_S A s.heap H locs → lv_has ls 10 [(8, .int (nI kQ)), (7, .int su), (6, .int hZx), (5, .int le), (4, .int be), (0, .ref h0), (1, .int (nI je)), (2, .int (nI jp)), (3, .int x3)] → W p l e (RM 6 0 0) s m ([.ref h0, .int (nI je), .int (nI jp), .int x3] : List Value).toArray below meth c H locs 0 0 (MQ below (QI G (fun (r : Int32) (u : Int32 × Int32 × (Nat → Int32)) => (∃ s9, (QRQ (KST (shf fnw 104) (VSE fnw kq) (fnw 3).toInt k6) (shf fnw 104) (VSE fnw kq) (shf fnw 32) (shf fnw 12) (shf fnw 1424) (fnw 0) (fnw 1) (fnw 2) k6 kq kp k8 (nI je) (nI jp) x3 s9) ∧ r = s9) ∧ (MB u.2.2)) (fun u : Int32 × Int32 × (Nat → Int32) => [(h0, .inr (12, [.ref nw, .ref nk, .int mhasKept, .ref nt, .int mtaped, .ref nr, .int mrowMany, .int mroundOf, .int mroundFrom, .int 0, .ref nm, .int u.1, .int u.2.1, .ref ns, .int mfrom, .int mto, .int msort, .int misFault, .int mdeep, .int mcoded, .int mlines, .ref nl, .ref nc, .ref nF, .ref np, .ref ntr, .ref nb, .int mbestCost, .ref nso, .ref nsi, .ref nit, .ref nsh, .ref nsf, .ref nss, .ref nrc, .int mtraced, .int mdealer, .int mnumber, .int mwhose, .int msize, .int misParted])), (nw, .inl (G.2.1, 1662, .inl fnw)), (nm, .inl (G.2.1, 36, .inl u.2.2))]) A) ([.ref h0, .int (nI je), .int (nI jp), .int x3] : List Value).toArray s 0 0 A) (F0 m 80 ls []) := by
                    intro nQ
                    induction nQ with
                    | zero =>
                      intro kQ su H locs ls hkQ hsu hPD hS hl
                      obtain ⟨hP, hD⟩ := hPD
                      obtain rfl : k8 = kQ := by omega
                      have hl : lv_has ls 10 [(8, .int (nI k8)), (7, .int su), (6, .int hZx), (5, .int le), (4, .int be), (0, .ref h0), (1, .int (nI je)), (2, .int (nI jp)), (3, .int x3)] := hl
                      refine lv_iload hx hb dX12_quarrel_80 (lv_at hl 0 rfl) ?_
                      refine lv_aload_n hx hb dX12_quarrel_82 rfl (lv_at hl 5 rfl) ?_
                      refine gf_X12_9 hC rfl hK hP 0 rfl rfl dX12_quarrel_83 ?_
                      refine lv_bipush (v := 8) hx hb dX12_quarrel_86 (by decide) ?_
                      refine ald hC hK hP 1 rfl (vin (by decide +kernel)) (k := 8) (by decide +kernel) (v := nI k8) (ek8) dX12_quarrel_88 ?_
                      refine lv_icmp_ge (tgt := 168) hx hb dX12_quarrel_89 (by decide) (fun _ => ?_) (fun c9 => absurd (Int32.le_refl _) c9)
                      refine lv_iload hx hb dX12_quarrel_168 (lv_at hl 3 rfl) ?_
                      refine lv_if_lt (tgt := 180) hx hb dX12_quarrel_170 (by decide) (fun c_170_10839 => ?_) (fun c_170_10839 => ?_)
                      · refine lv_iload hx hb dX12_quarrel_180 (lv_at hl 1 rfl) ?_
                        refine lv_istore (lv' := [(5, .int su), (8, .int (nI k8)), (7, .int su), (6, .int hZx), (4, .int be), (0, .ref h0), (1, .int (nI je)), (2, .int (nI jp)), (3, .int x3)]) hx hb dX12_quarrel_182 hl (by decide) rfl (fun ls hl => ?_)
                        refine lv_iload hx hb dX12_quarrel_184 (lv_at hl 3 rfl) ?_
                        refine lv_istore (lv' := [(4, .int hZx), (5, .int su), (8, .int (nI k8)), (7, .int su), (6, .int hZx), (0, .ref h0), (1, .int (nI je)), (2, .int (nI jp)), (3, .int x3)]) hx hb dX12_quarrel_186 hl (by decide) rfl (fun ls hl => ?_)
                        refine lv_iinc (v := hZx + 1) (lv' := [(6, .int (hZx + 1)), (4, .int hZx), (5, .int su), (8, .int (nI k8)), (7, .int su), (0, .ref h0), (1, .int (nI je)), (2, .int (nI jp)), (3, .int x3)]) hx hb dX12_quarrel_188 hl (k := 4) rfl (rfl) (by decide) rfl (fun ls hl => ?_)
                        refine lv_goto (tgt := 65) hx hb dX12_quarrel_191 (by decide) ?_
                        exact ihZ (hZx + 1) hZx su _ _ _ (hz_back c_71_10837 hle9.2.2 hkZ) (hvZ.new c_71_10837 hle9.2.2 hsu (fun y9 => WGS.pos hSO (by omega)) (Or.inl c_170_10839)) (And.intro hP hD) hS (lv_sub hl [0, 2, 1, 5, 6, 7, 8] rfl)
                      · refine lv_iload hx hb dX12_quarrel_173 (lv_at hl 1 rfl) ?_
                        refine lv_iload hx hb dX12_quarrel_175 (lv_at hl 3 rfl) ?_
                        refine lv_icmp_ge (tgt := 188) hx hb dX12_quarrel_177 (by decide) (fun c_177_10840 => ?_) (fun c_177_10840 => ?_)
                        · refine lv_iinc (v := hZx + 1) (lv' := [(6, .int (hZx + 1)), (8, .int (nI k8)), (7, .int su), (5, .int le), (4, .int be), (0, .ref h0), (1, .int (nI je)), (2, .int (nI jp)), (3, .int x3)]) hx hb dX12_quarrel_188 hl (k := 2) rfl (rfl) (by decide) rfl (fun ls hl => ?_)
                          refine lv_goto (tgt := 65) hx hb dX12_quarrel_191 (by decide) ?_
                          exact ihZ (hZx + 1) be le _ _ _ (hz_back c_71_10837 hle9.2.2 hkZ) (hvZ.old c_71_10837 hle9.2.2 hsu c_170_10839 c_177_10840) (And.intro hP hD) hS (lv_sub hl [0, 3, 4, 5, 6, 7, 8] rfl)
                        · refine lv_iload hx hb dX12_quarrel_180 (lv_at hl 1 rfl) ?_
                          refine lv_istore (lv' := [(5, .int su), (8, .int (nI k8)), (7, .int su), (6, .int hZx), (4, .int be), (0, .ref h0), (1, .int (nI je)), (2, .int (nI jp)), (3, .int x3)]) hx hb dX12_quarrel_182 hl (by decide) rfl (fun ls hl => ?_)
                          refine lv_iload hx hb dX12_quarrel_184 (lv_at hl 3 rfl) ?_
                          refine lv_istore (lv' := [(4, .int hZx), (5, .int su), (8, .int (nI k8)), (7, .int su), (6, .int hZx), (0, .ref h0), (1, .int (nI je)), (2, .int (nI jp)), (3, .int x3)]) hx hb dX12_quarrel_186 hl (by decide) rfl (fun ls hl => ?_)
                          refine lv_iinc (v := hZx + 1) (lv' := [(6, .int (hZx + 1)), (4, .int hZx), (5, .int su), (8, .int (nI k8)), (7, .int su), (0, .ref h0), (1, .int (nI je)), (2, .int (nI jp)), (3, .int x3)]) hx hb dX12_quarrel_188 hl (k := 4) rfl (rfl) (by decide) rfl (fun ls hl => ?_)
                          refine lv_goto (tgt := 65) hx hb dX12_quarrel_191 (by decide) ?_
                          exact ihZ (hZx + 1) hZx su _ _ _ (hz_back c_71_10837 hle9.2.2 hkZ) (hvZ.new c_71_10837 hle9.2.2 hsu (fun y9 => WGS.pos hSO (by omega)) (Or.inr (Int32.not_le.mp c_177_10840))) (And.intro hP hD) hS (lv_sub hl [0, 2, 1, 5, 6, 7, 8] rfl)
                    | succ nQ ihQ =>
                      intro kQ su H locs ls hkQ hsu hPD hS hl
                      obtain ⟨hP, hD⟩ := hPD
                      refine lv_iload hx hb dX12_quarrel_80 (lv_at hl 0 rfl) ?_
                      refine lv_aload_n hx hb dX12_quarrel_82 rfl (lv_at hl 5 rfl) ?_
                      refine gf_X12_9 hC rfl hK hP 0 rfl rfl dX12_quarrel_83 ?_
                      refine lv_bipush (v := 8) hx hb dX12_quarrel_86 (by decide) ?_
                      refine ald hC hK hP 1 rfl (vin (by decide +kernel)) (k := 8) (by decide +kernel) (v := nI k8) (ek8) dX12_quarrel_88 ?_
                      refine lv_icmp_ge (tgt := 168) hx hb dX12_quarrel_89 (by decide) (fun c9 => absurd c9 (nI_ge (a := kQ) (b := k8) (by omega) (by omega))) (fun _ => ?_)
                      refine lv_aload_n hx hb dX12_quarrel_92 rfl (lv_at hl 5 rfl) ?_
                      refine lv_iload hx hb dX12_quarrel_93 (lv_at hl 0 rfl) ?_
                      refine pV hC hK hl hP hD (m_doesCountX l G h0 kQ nw nk mhasKept nt mtaped nr mrowMany mroundOf mroundFrom nm fh110833 th110834 ns mfrom mto msort misFault mdeep mcoded mlines nl nc nF np ntr nb mbestCost nso nsi nit nsh nsf nss nrc mtraced mdealer mnumber mwhose msize misParted fnw (by omega) (hN)) si_X12_117 [0, 1] rfl rfl (by decide) rfl rfl rfl rfl rfl (Nat.le_of_ble_eq_true rfl) ⟨Nat.le_of_ble_eq_true rfl, Nat.le_of_ble_eq_true rfl⟩ ⟨by first | exact Nat.le_of_ble_eq_true rfl | exact Nat.zero_le _, by first | exact Nat.le_of_ble_eq_true rfl | exact Nat.zero_le _⟩ dX12_quarrel_95 (fun r10841 hr10841 => ?_)
                      rcases hr10841 with ⟨rfl, a10842⟩ | ⟨rfl, a10842⟩
                      · refine lv_if_eq (tgt := 127) hx hb dX12_quarrel_98 (by decide) (fun c9 => absurd c9 (by decide)) (fun _ => ?_)
                        refine lv_aload_n hx hb dX12_quarrel_101 rfl (lv_at hl 5 rfl) ?_
                        refine lv_iload hx hb dX12_quarrel_102 (lv_at hl 0 rfl) ?_
                        refine lv_iconst (v := 1) hx hb dX12_quarrel_104 (by decide) ?_
                        refine pV hC hK hl hP hD (m_saying l G h0 kQ 1 nw nk mhasKept nt mtaped nr mrowMany mroundOf mroundFrom 0 nm fh110833 th110834 ns mfrom mto msort misFault mdeep mcoded mlines nl nc nF np ntr nb mbestCost nso nsi nit nsh nsf nss nrc mtraced mdealer mnumber mwhose msize misParted fnw (by omega) (by omega)) si_X12_114 [0, 1] rfl rfl (by decide) rfl rfl rfl rfl rfl (Nat.le_of_ble_eq_true rfl) ⟨Nat.le_of_ble_eq_true rfl, Nat.le_of_ble_eq_true rfl⟩ ⟨by first | exact Nat.le_of_ble_eq_true rfl | exact Nat.zero_le _, by first | exact Nat.le_of_ble_eq_true rfl | exact Nat.zero_le _⟩ dX12_quarrel_105 (fun r10843 hr10843 => ?_)
                        obtain rfl := hr10843
                        refine lv_iload_n hx hb dX12_quarrel_108 rfl (lv_at hl 6 rfl) ?_
                        refine lv_icmp_ne (tgt := 127) hx hb dX12_quarrel_109 (by decide) (fun c_109_10845 => ?_) (fun c_109_10845 => ?_)
                        · refine lv_iconst (v := 0) hx hb dX12_quarrel_127 (by decide) ?_
                          refine lv_istore (lv' := [(9, .int 0), (8, .int (nI kQ)), (7, .int su), (6, .int hZx), (5, .int le), (4, .int be), (0, .ref h0), (1, .int (nI je)), (2, .int (nI jp)), (3, .int x3)]) hx hb dX12_quarrel_128 hl (by decide) rfl (fun ls hl => ?_)
                          refine lv_iload hx hb dX12_quarrel_130 (lv_at hl 2 rfl) ?_
                          refine lv_iload hx hb dX12_quarrel_132 (lv_at hl 0 rfl) ?_
                          refine lv_if_eq (tgt := 158) hx hb dX12_quarrel_134 (by decide) (fun _ => ?_) (fun c9 => absurd (by decide) c9)
                          refine lv_iconst (v := 0) hx hb dX12_quarrel_158 (by decide) ?_
                          refine lv_iadd hx hb dX12_quarrel_159 ?_
                          refine lv_istore (lv' := [(7, .int (su + 0)), (9, .int 0), (8, .int (nI kQ)), (6, .int hZx), (5, .int le), (4, .int be), (0, .ref h0), (1, .int (nI je)), (2, .int (nI jp)), (3, .int x3)]) hx hb dX12_quarrel_160 hl (by decide) rfl (fun ls hl => ?_)
                          refine lv_iinc (v := nI (kQ + 1)) (lv' := [(8, .int (nI (kQ + 1))), (7, .int (su + 0)), (9, .int 0), (6, .int hZx), (5, .int le), (4, .int be), (0, .ref h0), (1, .int (nI je)), (2, .int (nI jp)), (3, .int x3)]) hx hb dX12_quarrel_162 hl (k := 2) rfl (nI_1 _) (by decide) rfl (fun ls hl => ?_)
                          refine lv_goto (tgt := 80) hx hb dX12_quarrel_165 (by decide) ?_
                          have hst9 : su + 0 = WGS (PWS (shf fnw 1424) (shf fnw 32) (fnw 0) (fnw 1) (fnw 2) je jp) (shf fnw 1424) hZx (kQ + 1) := WGS.n0 hsu (fun h9 => (fun h8 => c_109_10845 (shf_sa.symm.trans h8)) h9.1.1)
                          exact ihQ (kQ + 1) (su + 0) _ _ _ (by omega) (by first | assumption | exact Or.inl rfl | exact Or.inr rfl | exact rfl) (And.intro hP hD) hS (lv_sub hl [0, 1, 3, 4, 5, 6, 7, 8, 9] rfl)
                        · refine lv_aload_n hx hb dX12_quarrel_112 rfl (lv_at hl 5 rfl) ?_
                          refine lv_iload hx hb dX12_quarrel_113 (lv_at hl 0 rfl) ?_
                          refine lv_iconst (v := 2) hx hb dX12_quarrel_115 (by decide) ?_
                          refine pV hC hK hl hP hD (m_saying l G h0 kQ 2 nw nk mhasKept nt mtaped nr mrowMany mroundOf mroundFrom 0 nm fh110833 th110834 ns mfrom mto msort misFault mdeep mcoded mlines nl nc nF np ntr nb mbestCost nso nsi nit nsh nsf nss nrc mtraced mdealer mnumber mwhose msize misParted fnw (by omega) (by omega)) si_X12_114 [0, 1] rfl rfl (by decide) rfl rfl rfl rfl rfl (Nat.le_of_ble_eq_true rfl) ⟨Nat.le_of_ble_eq_true rfl, Nat.le_of_ble_eq_true rfl⟩ ⟨by first | exact Nat.le_of_ble_eq_true rfl | exact Nat.zero_le _, by first | exact Nat.le_of_ble_eq_true rfl | exact Nat.zero_le _⟩ dX12_quarrel_116 (fun r10846 hr10846 => ?_)
                          obtain rfl := hr10846
                          refine lv_iload_n hx hb dX12_quarrel_119 rfl (lv_at hl 7 rfl) ?_
                          refine lv_icmp_ne (tgt := 127) hx hb dX12_quarrel_120 (by decide) (fun c_120_10848 => ?_) (fun c_120_10848 => ?_)
                          · refine lv_iconst (v := 0) hx hb dX12_quarrel_127 (by decide) ?_
                            refine lv_istore (lv' := [(9, .int 0), (8, .int (nI kQ)), (7, .int su), (6, .int hZx), (5, .int le), (4, .int be), (0, .ref h0), (1, .int (nI je)), (2, .int (nI jp)), (3, .int x3)]) hx hb dX12_quarrel_128 hl (by decide) rfl (fun ls hl => ?_)
                            refine lv_iload hx hb dX12_quarrel_130 (lv_at hl 2 rfl) ?_
                            refine lv_iload hx hb dX12_quarrel_132 (lv_at hl 0 rfl) ?_
                            refine lv_if_eq (tgt := 158) hx hb dX12_quarrel_134 (by decide) (fun _ => ?_) (fun c9 => absurd (by decide) c9)
                            refine lv_iconst (v := 0) hx hb dX12_quarrel_158 (by decide) ?_
                            refine lv_iadd hx hb dX12_quarrel_159 ?_
                            refine lv_istore (lv' := [(7, .int (su + 0)), (9, .int 0), (8, .int (nI kQ)), (6, .int hZx), (5, .int le), (4, .int be), (0, .ref h0), (1, .int (nI je)), (2, .int (nI jp)), (3, .int x3)]) hx hb dX12_quarrel_160 hl (by decide) rfl (fun ls hl => ?_)
                            refine lv_iinc (v := nI (kQ + 1)) (lv' := [(8, .int (nI (kQ + 1))), (7, .int (su + 0)), (9, .int 0), (6, .int hZx), (5, .int le), (4, .int be), (0, .ref h0), (1, .int (nI je)), (2, .int (nI jp)), (3, .int x3)]) hx hb dX12_quarrel_162 hl (k := 2) rfl (nI_1 _) (by decide) rfl (fun ls hl => ?_)
                            refine lv_goto (tgt := 80) hx hb dX12_quarrel_165 (by decide) ?_
                            have hst9 : su + 0 = WGS (PWS (shf fnw 1424) (shf fnw 32) (fnw 0) (fnw 1) (fnw 2) je jp) (shf fnw 1424) hZx (kQ + 1) := WGS.n0 hsu (fun h9 => (fun h8 => c_120_10848 (shf_sa.symm.trans h8)) h9.1.2.1)
                            exact ihQ (kQ + 1) (su + 0) _ _ _ (by omega) (by first | assumption | exact Or.inl rfl | exact Or.inr rfl | exact rfl) (And.intro hP hD) hS (lv_sub hl [0, 1, 3, 4, 5, 6, 7, 8, 9] rfl)
                          · refine lv_iconst (v := 1) hx hb dX12_quarrel_123 (by decide) ?_
                            refine lv_goto (tgt := 128) hx hb dX12_quarrel_124 (by decide) ?_
                            refine lv_istore (lv' := [(9, .int 1), (8, .int (nI kQ)), (7, .int su), (6, .int hZx), (5, .int le), (4, .int be), (0, .ref h0), (1, .int (nI je)), (2, .int (nI jp)), (3, .int x3)]) hx hb dX12_quarrel_128 hl (by decide) rfl (fun ls hl => ?_)
                            refine lv_iload hx hb dX12_quarrel_130 (lv_at hl 2 rfl) ?_
                            refine lv_iload hx hb dX12_quarrel_132 (lv_at hl 0 rfl) ?_
                            refine lv_if_eq (tgt := 158) hx hb dX12_quarrel_134 (by decide) (fun c9 => absurd c9 (by decide)) (fun _ => ?_)
                            refine lv_aload_n hx hb dX12_quarrel_137 rfl (lv_at hl 6 rfl) ?_
                            refine lv_iload hx hb dX12_quarrel_138 (lv_at hl 3 rfl) ?_
                            refine lv_iload hx hb dX12_quarrel_140 (lv_at hl 1 rfl) ?_
                            refine pV hC hK hl hP hD (m_isAgainstX l G h0 hZx kQ nw nk mhasKept nt mtaped nr mrowMany mroundOf mroundFrom 0 nm fh110833 th110834 ns mfrom mto msort misFault mdeep mcoded mlines nl nc nF np ntr nb mbestCost nso nsi nit nsh nsf nss nrc mtraced mdealer mnumber mwhose msize misParted fnw (by omega)) si_X12_302 [0, 1] rfl rfl (by decide) rfl rfl rfl rfl rfl (Nat.le_of_ble_eq_true rfl) ⟨Nat.le_of_ble_eq_true rfl, Nat.le_of_ble_eq_true rfl⟩ ⟨by first | exact Nat.le_of_ble_eq_true rfl | exact Nat.zero_le _, by first | exact Nat.le_of_ble_eq_true rfl | exact Nat.zero_le _⟩ dX12_quarrel_142 (fun r10849 hr10849 => ?_)
                            rcases hr10849 with ⟨rfl, a10850⟩ | ⟨rfl, a10850⟩
                            · refine lv_if_eq (tgt := 158) hx hb dX12_quarrel_145 (by decide) (fun c9 => absurd c9 (by decide)) (fun _ => ?_)
                              refine lv_aload_n hx hb dX12_quarrel_148 rfl (lv_at hl 6 rfl) ?_
                              refine lv_iload hx hb dX12_quarrel_149 (lv_at hl 1 rfl) ?_
                              refine lv_iconst (v := 4) hx hb dX12_quarrel_151 (by decide) ?_
                              refine pV hC hK hl hP hD (m_saying l G h0 kQ 4 nw nk mhasKept nt mtaped nr mrowMany mroundOf mroundFrom 0 nm fh110833 th110834 ns mfrom mto msort misFault mdeep mcoded mlines nl nc nF np ntr nb mbestCost nso nsi nit nsh nsf nss nrc mtraced mdealer mnumber mwhose msize misParted fnw (by omega) (by omega)) si_X12_114 [0, 1] rfl rfl (by decide) rfl rfl rfl rfl rfl (Nat.le_of_ble_eq_true rfl) ⟨Nat.le_of_ble_eq_true rfl, Nat.le_of_ble_eq_true rfl⟩ ⟨by first | exact Nat.le_of_ble_eq_true rfl | exact Nat.zero_le _, by first | exact Nat.le_of_ble_eq_true rfl | exact Nat.zero_le _⟩ dX12_quarrel_152 (fun r10851 hr10851 => ?_)
                              obtain rfl := hr10851
                              refine lv_goto (tgt := 159) hx hb dX12_quarrel_155 (by decide) ?_
                              refine lv_iadd hx hb dX12_quarrel_159 ?_
                              refine lv_istore (lv' := [(7, .int (su + (fnw (1424 + 8 * kQ + 4)))), (9, .int 1), (8, .int (nI kQ)), (6, .int hZx), (5, .int le), (4, .int be), (0, .ref h0), (1, .int (nI je)), (2, .int (nI jp)), (3, .int x3)]) hx hb dX12_quarrel_160 hl (by decide) rfl (fun ls hl => ?_)
                              refine lv_iinc (v := nI (kQ + 1)) (lv' := [(8, .int (nI (kQ + 1))), (7, .int (su + (fnw (1424 + 8 * kQ + 4)))), (9, .int 1), (6, .int hZx), (5, .int le), (4, .int be), (0, .ref h0), (1, .int (nI je)), (2, .int (nI jp)), (3, .int x3)]) hx hb dX12_quarrel_162 hl (k := 2) rfl (nI_1 _) (by decide) rfl (fun ls hl => ?_)
                              refine lv_goto (tgt := 80) hx hb dX12_quarrel_165 (by decide) ?_
                              have hst9 : su + (fnw (1424 + 8 * kQ + 4)) = WGS (PWS (shf fnw 1424) (shf fnw 32) (fnw 0) (fnw 1) (fnw 2) je jp) (shf fnw 1424) hZx (kQ + 1) := (congrArg (fun z9 => su + z9) (shf_sa (f := fnw) (s := kQ) (c := 4)).symm).trans (WGS.y hsu ⟨⟨shf_sa.trans c_109_10845, shf_sa.trans c_120_10848, a10842⟩, a10850⟩)
                              exact ihQ (kQ + 1) (su + (fnw (1424 + 8 * kQ + 4))) _ _ _ (by omega) (by first | assumption | exact Or.inl rfl | exact Or.inr rfl | exact rfl) (And.intro hP hD) hS (lv_sub hl [0, 1, 3, 4, 5, 6, 7, 8, 9] rfl)
                            · refine lv_if_eq (tgt := 158) hx hb dX12_quarrel_145 (by decide) (fun _ => ?_) (fun c9 => absurd (by decide) c9)
                              refine lv_iconst (v := 0) hx hb dX12_quarrel_158 (by decide) ?_
                              refine lv_iadd hx hb dX12_quarrel_159 ?_
                              refine lv_istore (lv' := [(7, .int (su + 0)), (9, .int 1), (8, .int (nI kQ)), (6, .int hZx), (5, .int le), (4, .int be), (0, .ref h0), (1, .int (nI je)), (2, .int (nI jp)), (3, .int x3)]) hx hb dX12_quarrel_160 hl (by decide) rfl (fun ls hl => ?_)
                              refine lv_iinc (v := nI (kQ + 1)) (lv' := [(8, .int (nI (kQ + 1))), (7, .int (su + 0)), (9, .int 1), (6, .int hZx), (5, .int le), (4, .int be), (0, .ref h0), (1, .int (nI je)), (2, .int (nI jp)), (3, .int x3)]) hx hb dX12_quarrel_162 hl (k := 2) rfl (nI_1 _) (by decide) rfl (fun ls hl => ?_)
                              refine lv_goto (tgt := 80) hx hb dX12_quarrel_165 (by decide) ?_
                              have hst9 : su + 0 = WGS (PWS (shf fnw 1424) (shf fnw 32) (fnw 0) (fnw 1) (fnw 2) je jp) (shf fnw 1424) hZx (kQ + 1) := WGS.n0 hsu (fun h9 => a10850 h9.2)
                              exact ihQ (kQ + 1) (su + 0) _ _ _ (by omega) (by first | assumption | exact Or.inl rfl | exact Or.inr rfl | exact rfl) (And.intro hP hD) hS (lv_sub hl [0, 1, 3, 4, 5, 6, 7, 8, 9] rfl)
                      · refine lv_if_eq (tgt := 127) hx hb dX12_quarrel_98 (by decide) (fun _ => ?_) (fun c9 => absurd (by decide) c9)
                        refine lv_iconst (v := 0) hx hb dX12_quarrel_127 (by decide) ?_
                        refine lv_istore (lv' := [(9, .int 0), (8, .int (nI kQ)), (7, .int su), (6, .int hZx), (5, .int le), (4, .int be), (0, .ref h0), (1, .int (nI je)), (2, .int (nI jp)), (3, .int x3)]) hx hb dX12_quarrel_128 hl (by decide) rfl (fun ls hl => ?_)
                        refine lv_iload hx hb dX12_quarrel_130 (lv_at hl 2 rfl) ?_
                        refine lv_iload hx hb dX12_quarrel_132 (lv_at hl 0 rfl) ?_
                        refine lv_if_eq (tgt := 158) hx hb dX12_quarrel_134 (by decide) (fun _ => ?_) (fun c9 => absurd (by decide) c9)
                        refine lv_iconst (v := 0) hx hb dX12_quarrel_158 (by decide) ?_
                        refine lv_iadd hx hb dX12_quarrel_159 ?_
                        refine lv_istore (lv' := [(7, .int (su + 0)), (9, .int 0), (8, .int (nI kQ)), (6, .int hZx), (5, .int le), (4, .int be), (0, .ref h0), (1, .int (nI je)), (2, .int (nI jp)), (3, .int x3)]) hx hb dX12_quarrel_160 hl (by decide) rfl (fun ls hl => ?_)
                        refine lv_iinc (v := nI (kQ + 1)) (lv' := [(8, .int (nI (kQ + 1))), (7, .int (su + 0)), (9, .int 0), (6, .int hZx), (5, .int le), (4, .int be), (0, .ref h0), (1, .int (nI je)), (2, .int (nI jp)), (3, .int x3)]) hx hb dX12_quarrel_162 hl (k := 2) rfl (nI_1 _) (by decide) rfl (fun ls hl => ?_)
                        refine lv_goto (tgt := 80) hx hb dX12_quarrel_165 (by decide) ?_
                        have hst9 : su + 0 = WGS (PWS (shf fnw 1424) (shf fnw 32) (fnw 0) (fnw 1) (fnw 2) je jp) (shf fnw 1424) hZx (kQ + 1) := WGS.n0 hsu (fun h9 => a10842 h9.1.2.2)
                        exact ihQ (kQ + 1) (su + 0) _ _ _ (by omega) (by first | assumption | exact Or.inl rfl | exact Or.inr rfl | exact rfl) (And.intro hP hD) hS (lv_sub hl [0, 1, 3, 4, 5, 6, 7, 8, 9] rfl)
                  exact keyQ k8 0 0 _ _ _ (by omega) (by first | assumption | exact Or.inl rfl | exact Or.inr rfl | exact rfl) (And.intro hP hD) hS (lv_sub hl [0, 1, 2, 3, 4, 5, 6, 7, 8] rfl)
            exact keyZ ((th110834).toInt + 1 - (fh110833).toInt).toNat fh110833 fh110833 (-1) _ _ _ (by omega) (QLI.zero hle9.1) (And.intro hP hD) hS (lv_sub hl [0, 1, 2, 3, 4, 5, 6] rfl)
        · refine lv_if_ne (tgt := 40) hx hb dX12_quarrel_34 (by decide) (fun c9 => absurd (by decide) c9) (fun _ => ?_)
          refine lv_bipush (v := (-3)) hx hb dX12_quarrel_37 (by decide) ?_
          exact RI (v := (-3)) hC hP hD hS [0, 1, 2] (mfromHour, mtoHour, fnm) rfl rfl (by decide) (⟨⟨(-3), Or.inr ⟨je, jp, hje, hjp, rfl, rfl, a10801, Or.inl ⟨fun h9 => a10803 h9.2, rfl⟩⟩, rfl⟩, by first | assumption | exact hM⟩) rfl dX12_quarrel_39
      · refine lv_if_ne (tgt := 29) hx hb dX12_quarrel_24 (by decide) (fun c9 => absurd (by decide) c9) (fun _ => ?_)
        refine lv_iconst (v := (-1)) hx hb dX12_quarrel_27 (by decide) ?_
        exact RI (v := (-1)) hC hP hD hS [0, 1, 2] (mfromHour, mtoHour, fnm) rfl rfl (by decide) (⟨⟨(-1), Or.inl ⟨fun h9 => a10801 h9.2.2, rfl⟩, rfl⟩, by first | assumption | exact hM⟩) rfl dX12_quarrel_28
    · refine lv_if_eq (tgt := 27) hx hb dX12_quarrel_15 (by decide) (fun _ => ?_) (fun c9 => absurd (by decide) c9)
      refine lv_iconst (v := (-1)) hx hb dX12_quarrel_27 (by decide) ?_
      exact RI (v := (-1)) hC hP hD hS [0, 1, 2] (mfromHour, mtoHour, fnm) rfl rfl (by decide) (⟨⟨(-1), Or.inl ⟨fun h9 => a10799 h9.2.1, rfl⟩, rfl⟩, by first | assumption | exact hM⟩) rfl dX12_quarrel_28
  · refine lv_if_eq (tgt := 27) hx hb dX12_quarrel_6 (by decide) (fun _ => ?_) (fun c9 => absurd (by decide) c9)
    refine lv_iconst (v := (-1)) hx hb dX12_quarrel_27 (by decide) ?_
    exact RI (v := (-1)) hC hP hD hS [0, 1, 2] (mfromHour, mtoHour, fnm) rfl rfl (by decide) (⟨⟨(-1), Or.inl ⟨fun h9 => a10797 h9.1, rfl⟩, rfl⟩, by first | assumption | exact hM⟩) rfl dX12_quarrel_28
