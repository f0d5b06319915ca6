section WR
variable {p : Program} {l : Launch} {e : Env} {R : Room} {s : State} {m : MethodId} {args : Array Value} {below : List Frame} {meth : Method} {c : Code} {H : Heap} {locs : List Loc} {cells slots : Nat} {Q : State → Prop}
variable {pc : Nat} {ls : Array Slot} {rest : List Value} {G : GG} {ws : va_W} {A : Nat → Prop} {y0 : MethodName} {b0 : ByteArray} {mL0 : Nat} {rt0 : Option FieldType} {a : Nat} {H0 : Heap}
theorem dL_law_18 : decode cL_law 18 = .ok (.iload_n 3, 1) := by decide +kernel
theorem dL_law_19 : decode cL_law 19 = .ok (.aload_n 0, 1) := by decide +kernel
theorem dL_law_20 : decode cL_law 20 = .ok (.arraylength, 1) := by decide +kernel
theorem dL_law_21 : decode cL_law 21 = .ok (.bipush 7, 2) := by decide +kernel
theorem dL_law_23 : decode cL_law 23 = .ok (.isub, 1) := by decide +kernel
theorem dL_law_24 : decode cL_law 24 = .ok (.if_icmp .gt 1700, 3) := by decide +kernel
theorem dL_law_1724 : decode cL_law 1724 = .ok (.iconst 1, 1) := by decide +kernel
theorem dL_law_1725 : decode cL_law 1725 = .ok (.ireturn, 1) := by decide +kernel
theorem dL_law_1718 : decode cL_law 1718 = .ok (.iinc 3 7, 3) := by decide +kernel
theorem dL_law_1721 : decode cL_law 1721 = .ok (.goto (-1703), 3) := by decide +kernel
theorem dL_law_27 : decode cL_law 27 = .ok (.aload_n 0, 1) := by decide +kernel
theorem dL_law_28 : decode cL_law 28 = .ok (.iload_n 3, 1) := by decide +kernel
theorem dL_law_29 : decode cL_law 29 = .ok (.iaload, 1) := by decide +kernel
theorem dL_law_30 : decode cL_law 30 = .ok (.bipush 63, 2) := by decide +kernel
theorem dL_law_32 : decode cL_law 32 = .ok (.iand, 1) := by decide +kernel
theorem dL_law_33 : decode cL_law 33 = .ok (.tableswitch 1685 0 41 #[183, 206, 239, 272, 305, 358, 381, 414, 457, 510, 533, 556, 605, 654, 713, 746, 789, 852, 865, 908, 941, 1032, 1075, 1088, 1141, 1174, 1207, 1240, 1263, 1296, 1339, 1352, 1365, 1408, 1451, 1494, 1537, 1570, 1613, 1636, 1659, 1672], 183) := by decide +kernel
theorem sw_0_41 {x : Int32} : ¬ x = 0 → ¬ x = 1 → ¬ x = 2 → ¬ x = 3 → ¬ x = 4 → ¬ x = 5 → ¬ x = 6 → ¬ x = 7 → ¬ x = 8 → ¬ x = 9 → ¬ x = 10 → ¬ x = 11 → ¬ x = 12 → ¬ x = 13 → ¬ x = 14 → ¬ x = 15 → ¬ x = 16 → ¬ x = 17 → ¬ x = 18 → ¬ x = 19 → ¬ x = 20 → ¬ x = 21 → ¬ x = 22 → ¬ x = 23 → ¬ x = 24 → ¬ x = 25 → ¬ x = 26 → ¬ x = 27 → ¬ x = 28 → ¬ x = 29 → ¬ x = 30 → ¬ x = 31 → ¬ x = 32 → ¬ x = 33 → ¬ x = 34 → ¬ x = 35 → ¬ x = 36 → ¬ x = 37 → ¬ x = 38 → ¬ x = 39 → ¬ x = 40 → ¬ x = 41 →  (x.toInt < 0 ∨ 41 < x.toInt) := by
  intros
  simp only [← Int32.toInt_inj] at *
  have hk : ∀ k : Int, x.toInt = k → x.toInt = k := fun _ h => h
  have k0 : (0 : Int32).toInt = 0 := by decide
  have k1 : (1 : Int32).toInt = 1 := by decide
  have k2 : (2 : Int32).toInt = 2 := by decide
  have k3 : (3 : Int32).toInt = 3 := by decide
  have k4 : (4 : Int32).toInt = 4 := by decide
  have k5 : (5 : Int32).toInt = 5 := by decide
  have k6 : (6 : Int32).toInt = 6 := by decide
  have k7 : (7 : Int32).toInt = 7 := by decide
  have k8 : (8 : Int32).toInt = 8 := by decide
  have k9 : (9 : Int32).toInt = 9 := by decide
  have k10 : (10 : Int32).toInt = 10 := by decide
  have k11 : (11 : Int32).toInt = 11 := by decide
  have k12 : (12 : Int32).toInt = 12 := by decide
  have k13 : (13 : Int32).toInt = 13 := by decide
  have k14 : (14 : Int32).toInt = 14 := by decide
  have k15 : (15 : Int32).toInt = 15 := by decide
  have k16 : (16 : Int32).toInt = 16 := by decide
  have k17 : (17 : Int32).toInt = 17 := by decide
  have k18 : (18 : Int32).toInt = 18 := by decide
  have k19 : (19 : Int32).toInt = 19 := by decide
  have k20 : (20 : Int32).toInt = 20 := by decide
  have k21 : (21 : Int32).toInt = 21 := by decide
  have k22 : (22 : Int32).toInt = 22 := by decide
  have k23 : (23 : Int32).toInt = 23 := by decide
  have k24 : (24 : Int32).toInt = 24 := by decide
  have k25 : (25 : Int32).toInt = 25 := by decide
  have k26 : (26 : Int32).toInt = 26 := by decide
  have k27 : (27 : Int32).toInt = 27 := by decide
  have k28 : (28 : Int32).toInt = 28 := by decide
  have k29 : (29 : Int32).toInt = 29 := by decide
  have k30 : (30 : Int32).toInt = 30 := by decide
  have k31 : (31 : Int32).toInt = 31 := by decide
  have k32 : (32 : Int32).toInt = 32 := by decide
  have k33 : (33 : Int32).toInt = 33 := by decide
  have k34 : (34 : Int32).toInt = 34 := by decide
  have k35 : (35 : Int32).toInt = 35 := by decide
  have k36 : (36 : Int32).toInt = 36 := by decide
  have k37 : (37 : Int32).toInt = 37 := by decide
  have k38 : (38 : Int32).toInt = 38 := by decide
  have k39 : (39 : Int32).toInt = 39 := by decide
  have k40 : (40 : Int32).toInt = 40 := by decide
  have k41 : (41 : Int32).toInt = 41 := by decide
  omega
end WR
set_option maxHeartbeats 4000000 in
set_option maxRecDepth 100000 in
theorem law_exit {p : Program} {l : Launch} {e : Env} {s : State} {m : MethodId} {below : List Frame} {meth : Method} {c : Code} {b L : Nat} {xs : Nat → Int32} {A : Nat → Prop} {xb xm : Nat} {H : Heap} {locs : List Loc} {ls : Array Slot} {ki : Nat} (hC : CX p s m meth c ⟨RL, meth.name, ""⟩ cL_law 4 ret #[Value.ref b]) (hX : va_X b L xs s s.heap) (hL : L ≤ 448) (hbl : b < s.heap.size) (hbA : ¬ A b) (hA2 : ∀ q : Nat, A q → s.heap.size ≤ q) (hki : ki ≤ 448) (hx7 : L < ki + 7) (hS : va_S A s.heap H locs) (hl : lv_has ls 4 [(3, .int (nI ki)), (2, .ref xm), (1, .ref xb), (0, .ref b)]) : W p l e room_1 s m #[Value.ref b] below meth c H locs 123 9503 (lw_Z below #[Value.ref b] s) (F0 m 18 ls []) := by
  obtain ⟨hx, hb, hr, hml, hB, hown, hlocks, hnm⟩ := id hC
  refine lv_iload_n hx hb dL_law_18 rfl (lv_at hl 0 rfl) ?_
  refine lv_aload_n hx hb dL_law_19 rfl (lv_at hl 3 rfl) ?_
  refine va_slen hx hb hX hbl hbA hS dL_law_20 ?_
  refine eqi (x1 := nI L) rfl ?_
  refine lv_bipush (v := 7) hx hb dL_law_21 (by decide) ?_
  refine lv_isub hx hb dL_law_23 ?_
  refine lv_icmp_gt (tgt := 1724) hx hb dL_law_24 (by decide) (fun _ => ?_) (fun c9 => absurd ((law_lt (by omega) (by omega)).mpr hx7) c9)
  refine lv_iconst (v := 1) hx hb dL_law_1724 (by decide) ?_
  refine va_forget (fun q9 h9 => hA2 _ (hS.2.2 q9 h9)) ?_
  refine W.widen (k := 600000) (n := 7302250) (Nat.le_of_ble_eq_true rfl) (Nat.le_of_ble_eq_true rfl) ?_
  exact lw_ret hx hb hr hlocks dL_law_1725
set_option maxHeartbeats 8000000 in
set_option maxRecDepth 100000 in
theorem law_loop {p : Program} {l : Launch} {e : Env} {s : State} {m : MethodId} {below : List Frame} {meth : Method} {c : Code} {b L : Nat} {xs : Nat → Int32} {G : GG} {K : OO} {A : Nat → Prop} {hf : Nat → Option Nat} {xb bb cc sg do9 ru9 ta9 tp9 ro9 ho9 de9 bpersons bpapers bstamps bversions blines bsteps bsayings bfindings bwarnings bquestions bpersonsc bpapersc bstampsc bversionsc blinesc bstepsc bsayingsc bfindingsc bwarningsc bquestionsc cpersons cpapers cstamps cversions clines csteps csayings cfindings cwarnings cquestions cpersonsc cpapersc cstampsc cversionsc clinesc cstepsc csayingsc cfindingsc cwarningsc cquestionsc tby tln tsp tlnc tspc hs hz hi hw hn ht tr9 clk fi la ml mm sl sm clm hd kc0 km0 kc1 km1 kc2 km2 kc3 km3 kc4 km4 kc5 km5 kc6 km6 kc7 km7 kc8 km8 kc9 km9 kc10 km10 kc11 km11 kc12 km12 fc sh rr tc rrc xm nw nk nt nr nm ns nl nc nF np ntr nb nso nsi nit nsh nsf nss nrc : Nat} (hC : CX p s m meth c ⟨RL, meth.name, ""⟩ cL_law 4 ret #[Value.ref b]) (hK : KK G s) (hO : OX K A s s.heap) (hX : va_X b L xs s s.heap) (hL : L ≤ 448) (hbl : b < s.heap.size) (hbA : ¬ A b) (hA : ∀ q : Nat, s.heap.size ≤ q → A q) (hA2 : ∀ q : Nat, A q → s.heap.size ≤ q) (hf0 : hf 0 = some kc0) (hf1 : hf 1 = some kc1) (hf2 : hf 2 = some kc2) (hf3 : hf 3 = some kc3) (hf4 : hf 4 = some kc4) (hf5 : hf 5 = some kc5) (hf6 : hf 6 = some kc6) (hf7 : hf 7 = some kc7) (hf8 : hf 8 = some kc8) (hf9 : hf 9 = some kc9) (hf10 : hf 10 = some kc10) (hf11 : hf 11 = some kc11) (hf12 : hf 12 = some kc12) : ∀ (n ki : Nat) (kbpersons kbpapers kbstamps kbversions kblines kbsteps kbsayings kbfindings kbwarnings kbquestions kcpersons kcpapers kcstamps kcversions kclines kcsteps kcsayings kcfindings kcwarnings kcquestions kt ks kn kln ksp jr kr ytp yrm yjr : Nat) (ikp td vd vl gp ktd kvd kvl kgp tkd tf9 dk dn dp da dq cl bo le bi r1 rc rh tf tt9 tl tbv asd st9 tol mroundOf mroundFrom mfromHour mtoHour mfrom mto msort misFault mdeep mcoded mlines mbestCost mdealer mnumber mwhose msize misParted : Int32) (fbpersons fbpapers fbstamps fbversions fblines fbsteps fbsayings fbfindings fbwarnings fbquestions fcpersons fcpapers fcstamps fcversions fclines fcsteps fcsayings fcfindings fcwarnings fcquestions fby ftln ftsp fhw fhn ftr fhs fhz fhi fclm ffi fla fml fmm fsl fsm fk0 fk1 fk2 fk3 fk4 fk5 fk6 fk7 fk8 fk9 fk10 fk11 fk12 ffc fsh frr ftc fht y_nw y_nk y_nt y_nr y_nm y_ns y_nl y_nc y_np y_ntr y_nb y_nso y_nsi y_nit y_nsh y_nsf y_nss y_nrc : Nat → Int32) (H : Heap) (locs : List Loc) (ls : Array Slot), L < ki + 7 * n + 7 → ki ≤ L → (kbpersons ≤ 10) → (kbpapers ≤ 12) → (kbstamps ≤ 24) → (kbversions ≤ 8) → (kblines ≤ 72) → (kbsteps ≤ 960) → (kbsayings ≤ 16) → (kbfindings ≤ 12) → (kbwarnings ≤ 16) → (kbquestions ≤ 7) → (kcpersons ≤ 10) → (kcpapers ≤ 12) → (kcstamps ≤ 24) → (kcversions ≤ 8) → (kclines ≤ 72) → (kcsteps ≤ 960) → (kcsayings ≤ 16) → (kcfindings ≤ 12) → (kcwarnings ≤ 16) → (kcquestions ≤ 7) → (kt ≤ 240) → (ks ≤ 240) → (kn ≤ 240) → (kln ≤ 9) → (ksp ≤ 120) → (jr ≤ 30) → (kr ≤ 7) → (ytp ≤ 240) → (yrm ≤ 7) → (yjr ≤ 30) → (ytp = kt) → (cl = 0 ∨ cl = 1) → (tol = 0 ∨ tol = 1) → (ikp = 0 ∨ ikp = 1) → (NI y_nw) → (VI y_nw) → (NI y_nk) → (VI y_nk) → (MB y_nm) → (B66 y_ntr y_nb) → (SZ y_nsi) → (SHR fhs fhz fhi y_nso y_nsi y_nit) → (SLR fhw fhn fht y_nsh y_nsf y_nss) → (SPI fbsayings kbsayings kbpapers) → (SPI fcsayings kcsayings kcpapers) → (SCX y_nw td vd vl gp (nI kbpersons) (nI kbpapers) (nI kbstamps) (nI kbsayings) (nI kbfindings) (nI kbwarnings) (nI kbquestions)) → (ikp = 0 ∨ SCX y_nk ktd kvd kvl kgp (nI kcpersons) (nI kcpapers) (nI kcstamps) (nI kcsayings) (nI kcfindings) (nI kcwarnings) (nI kcquestions)) → (EQT y_nw 12 20 fbpersons) → (EQT y_nw 32 72 fbpapers) → (EQT y_nw 104 72 fbstamps) → (EQT y_nw 1424 128 fbsayings) → (EQT y_nw 1552 48 fbfindings) → (EQT y_nw 1600 48 fbwarnings) → (EQT y_nw 1648 14 fbquestions) → (EQT y_nk 12 20 fcpersons) → (EQT y_nk 32 72 fcpapers) → (EQT y_nk 104 72 fcstamps) → (EQT y_nk 1424 128 fcsayings) → (EQT y_nk 1552 48 fcfindings) → (EQT y_nk 1600 48 fcwarnings) → (EQT y_nk 1648 14 fcquestions) → va_P G.1 vwCl (WLW G K hf xb bb cc sg do9 ru9 ta9 tp9 ro9 ho9 de9 bpersons bpapers bstamps bversions blines bsteps bsayings bfindings bwarnings bquestions bpersonsc bpapersc bstampsc bversionsc blinesc bstepsc bsayingsc bfindingsc bwarningsc bquestionsc cpersons cpapers cstamps cversions clines csteps csayings cfindings cwarnings cquestions cpersonsc cpapersc cstampsc cversionsc clinesc cstepsc csayingsc cfindingsc cwarningsc cquestionsc tby tln tsp tlnc tspc hs hz hi hw hn ht tr9 clk fi la ml mm sl sm clm hd kc0 km0 kc1 km1 kc2 km2 kc3 km3 kc4 km4 kc5 km5 kc6 km6 kc7 km7 kc8 km8 kc9 km9 kc10 km10 kc11 km11 kc12 km12 fc sh rr tc rrc xm nw nk nt nr nm ns nl nc nF np ntr nb nso nsi nit nsh nsf nss nrc kbpersons kbpapers kbstamps kbversions kblines kbsteps kbsayings kbfindings kbwarnings kbquestions kcpersons kcpapers kcstamps kcversions kclines kcsteps kcsayings kcfindings kcwarnings kcquestions kt ks kn kln ksp jr kr ytp yrm yjr ikp td vd vl gp ktd kvd kvl kgp tkd tf9 dk dn dp da dq cl bo le bi r1 rc rh tf tt9 tl tbv asd st9 tol mroundOf mroundFrom mfromHour mtoHour mfrom mto msort misFault mdeep mcoded mlines mbestCost mdealer mnumber mwhose msize misParted fbpersons fbpapers fbstamps fbversions fblines fbsteps fbsayings fbfindings fbwarnings fbquestions fcpersons fcpapers fcstamps fcversions fclines fcsteps fcsayings fcfindings fcwarnings fcquestions fby ftln ftsp fhw fhn ftr fhs fhz fhi fclm ffi fla fml fmm fsl fsm fk0 fk1 fk2 fk3 fk4 fk5 fk6 fk7 fk8 fk9 fk10 fk11 fk12 ffc fsh frr ftc fht y_nw y_nk y_nt y_nr y_nm y_ns y_nl y_nc y_np y_ntr y_nb y_nso y_nsi y_nit y_nsh y_nsf y_nss y_nrc) H → va_D A (WLW G K hf xb bb cc sg do9 ru9 ta9 tp9 ro9 ho9 de9 bpersons bpapers bstamps bversions blines bsteps bsayings bfindings bwarnings bquestions bpersonsc bpapersc bstampsc bversionsc blinesc bstepsc bsayingsc bfindingsc bwarningsc bquestionsc cpersons cpapers cstamps cversions clines csteps csayings cfindings cwarnings cquestions cpersonsc cpapersc cstampsc cversionsc clinesc cstepsc csayingsc cfindingsc cwarningsc cquestionsc tby tln tsp tlnc tspc hs hz hi hw hn ht tr9 clk fi la ml mm sl sm clm hd kc0 km0 kc1 km1 kc2 km2 kc3 km3 kc4 km4 kc5 km5 kc6 km6 kc7 km7 kc8 km8 kc9 km9 kc10 km10 kc11 km11 kc12 km12 fc sh rr tc rrc xm nw nk nt nr nm ns nl nc nF np ntr nb nso nsi nit nsh nsf nss nrc kbpersons kbpapers kbstamps kbversions kblines kbsteps kbsayings kbfindings kbwarnings kbquestions kcpersons kcpapers kcstamps kcversions kclines kcsteps kcsayings kcfindings kcwarnings kcquestions kt ks kn kln ksp jr kr ytp yrm yjr ikp td vd vl gp ktd kvd kvl kgp tkd tf9 dk dn dp da dq cl bo le bi r1 rc rh tf tt9 tl tbv asd st9 tol mroundOf mroundFrom mfromHour mtoHour mfrom mto msort misFault mdeep mcoded mlines mbestCost mdealer mnumber mwhose msize misParted fbpersons fbpapers fbstamps fbversions fblines fbsteps fbsayings fbfindings fbwarnings fbquestions fcpersons fcpapers fcstamps fcversions fclines fcsteps fcsayings fcfindings fcwarnings fcquestions fby ftln ftsp fhw fhn ftr fhs fhz fhi fclm ffi fla fml fmm fsl fsm fk0 fk1 fk2 fk3 fk4 fk5 fk6 fk7 fk8 fk9 fk10 fk11 fk12 ffc fsh frr ftc fht y_nw y_nk y_nt y_nr y_nm y_ns y_nl y_nc y_np y_ntr y_nb y_nso y_nsi y_nit y_nsh y_nsf y_nss y_nrc) → va_S A s.heap H locs → lv_has ls 4 [(3, .int (nI ki)), (2, .ref xm), (1, .ref xb), (0, .ref b)] → W p l e room_1 s m #[Value.ref b] below meth c H locs 123 9503 (lw_Z below #[Value.ref b] s) (F0 m 18 ls []) := by
  obtain ⟨hx, hb, hr, hml, hB, hown, hlocks, hnm⟩ := id hC
  intro n
  induction n with
  | zero =>
    intro ki kbpersons kbpapers kbstamps kbversions kblines kbsteps kbsayings kbfindings kbwarnings kbquestions kcpersons kcpapers kcstamps kcversions kclines kcsteps kcsayings kcfindings kcwarnings kcquestions kt ks kn kln ksp jr kr ytp yrm yjr ikp td vd vl gp ktd kvd kvl kgp tkd tf9 dk dn dp da dq cl bo le bi r1 rc rh tf tt9 tl tbv asd st9 tol mroundOf mroundFrom mfromHour mtoHour mfrom mto msort misFault mdeep mcoded mlines mbestCost mdealer mnumber mwhose msize misParted fbpersons fbpapers fbstamps fbversions fblines fbsteps fbsayings fbfindings fbwarnings fbquestions fcpersons fcpapers fcstamps fcversions fclines fcsteps fcsayings fcfindings fcwarnings fcquestions fby ftln ftsp fhw fhn ftr fhs fhz fhi fclm ffi fla fml fmm fsl fsm fk0 fk1 fk2 fk3 fk4 fk5 fk6 fk7 fk8 fk9 fk10 fk11 fk12 ffc fsh frr ftc fht y_nw y_nk y_nt y_nr y_nm y_ns y_nl y_nc y_np y_ntr y_nb y_nso y_nsi y_nit y_nsh y_nsf y_nss y_nrc H locs ls hnn hkk i_kbpersons i_kbpapers i_kbstamps i_kbversions i_kblines i_kbsteps i_kbsayings i_kbfindings i_kbwarnings i_kbquestions i_kcpersons i_kcpapers i_kcstamps i_kcversions i_kclines i_kcsteps i_kcsayings i_kcfindings i_kcwarnings i_kcquestions i_kt i_ks i_kn i_kln i_ksp i_jr i_kr i_ytp i_yrm i_yjr i_tp i_cl i_tol i_ikp i_nw i_vw i_nk i_vk i_mb i_b6 i_sz i_sh i_sl i_sp i_sq i_sc i_sk i_epersons i_epapers i_estamps i_esayings i_efindings i_ewarnings i_equestions i_kpersons i_kpapers i_kstamps i_ksayings i_kfindings i_kwarnings i_kquestions hP hD hS hl
    exact law_exit hC hX hL hbl hbA hA2 (by omega) (by omega) hS hl
  | succ n ih =>
    intro ki kbpersons kbpapers kbstamps kbversions kblines kbsteps kbsayings kbfindings kbwarnings kbquestions kcpersons kcpapers kcstamps kcversions kclines kcsteps kcsayings kcfindings kcwarnings kcquestions kt ks kn kln ksp jr kr ytp yrm yjr ikp td vd vl gp ktd kvd kvl kgp tkd tf9 dk dn dp da dq cl bo le bi r1 rc rh tf tt9 tl tbv asd st9 tol mroundOf mroundFrom mfromHour mtoHour mfrom mto msort misFault mdeep mcoded mlines mbestCost mdealer mnumber mwhose msize misParted fbpersons fbpapers fbstamps fbversions fblines fbsteps fbsayings fbfindings fbwarnings fbquestions fcpersons fcpapers fcstamps fcversions fclines fcsteps fcsayings fcfindings fcwarnings fcquestions fby ftln ftsp fhw fhn ftr fhs fhz fhi fclm ffi fla fml fmm fsl fsm fk0 fk1 fk2 fk3 fk4 fk5 fk6 fk7 fk8 fk9 fk10 fk11 fk12 ffc fsh frr ftc fht y_nw y_nk y_nt y_nr y_nm y_ns y_nl y_nc y_np y_ntr y_nb y_nso y_nsi y_nit y_nsh y_nsf y_nss y_nrc H locs ls hnn hkk i_kbpersons i_kbpapers i_kbstamps i_kbversions i_kblines i_kbsteps i_kbsayings i_kbfindings i_kbwarnings i_kbquestions i_kcpersons i_kcpapers i_kcstamps i_kcversions i_kclines i_kcsteps i_kcsayings i_kcfindings i_kcwarnings i_kcquestions i_kt i_ks i_kn i_kln i_ksp i_jr i_kr i_ytp i_yrm i_yjr i_tp i_cl i_tol i_ikp i_nw i_vw i_nk i_vk i_mb i_b6 i_sz i_sh i_sl i_sp i_sq i_sc i_sk i_epersons i_epapers i_estamps i_esayings i_efindings i_ewarnings i_equestions i_kpersons i_kpapers i_kstamps i_ksayings i_kfindings i_kwarnings i_kquestions hP hD hS hl
    rcases Nat.lt_or_ge L (ki + 7) with h7 | h7
    · exact law_exit hC hX hL hbl hbA hA2 (by omega) h7 hS hl
    have hback : ∀ (kbpersons kbpapers kbstamps kbversions kblines kbsteps kbsayings kbfindings kbwarnings kbquestions kcpersons kcpapers kcstamps kcversions kclines kcsteps kcsayings kcfindings kcwarnings kcquestions kt ks kn kln ksp jr kr ytp yrm yjr : Nat) (ikp td vd vl gp ktd kvd kvl kgp tkd tf9 dk dn dp da dq cl bo le bi r1 rc rh tf tt9 tl tbv asd st9 tol mroundOf mroundFrom mfromHour mtoHour mfrom mto msort misFault mdeep mcoded mlines mbestCost mdealer mnumber mwhose msize misParted : Int32) (fbpersons fbpapers fbstamps fbversions fblines fbsteps fbsayings fbfindings fbwarnings fbquestions fcpersons fcpapers fcstamps fcversions fclines fcsteps fcsayings fcfindings fcwarnings fcquestions fby ftln ftsp fhw fhn ftr fhs fhz fhi fclm ffi fla fml fmm fsl fsm fk0 fk1 fk2 fk3 fk4 fk5 fk6 fk7 fk8 fk9 fk10 fk11 fk12 ffc fsh frr ftc fht y_nw y_nk y_nt y_nr y_nm y_ns y_nl y_nc y_np y_ntr y_nb y_nso y_nsi y_nit y_nsh y_nsf y_nss y_nrc : Nat → Int32) (H : Heap) (locs : List Loc) (ls : Array Slot), (kbpersons ≤ 10) → (kbpapers ≤ 12) → (kbstamps ≤ 24) → (kbversions ≤ 8) → (kblines ≤ 72) → (kbsteps ≤ 960) → (kbsayings ≤ 16) → (kbfindings ≤ 12) → (kbwarnings ≤ 16) → (kbquestions ≤ 7) → (kcpersons ≤ 10) → (kcpapers ≤ 12) → (kcstamps ≤ 24) → (kcversions ≤ 8) → (kclines ≤ 72) → (kcsteps ≤ 960) → (kcsayings ≤ 16) → (kcfindings ≤ 12) → (kcwarnings ≤ 16) → (kcquestions ≤ 7) → (kt ≤ 240) → (ks ≤ 240) → (kn ≤ 240) → (kln ≤ 9) → (ksp ≤ 120) → (jr ≤ 30) → (kr ≤ 7) → (ytp ≤ 240) → (yrm ≤ 7) → (yjr ≤ 30) → (ytp = kt) → (cl = 0 ∨ cl = 1) → (tol = 0 ∨ tol = 1) → (ikp = 0 ∨ ikp = 1) → (NI y_nw) → (VI y_nw) → (NI y_nk) → (VI y_nk) → (MB y_nm) → (B66 y_ntr y_nb) → (SZ y_nsi) → (SHR fhs fhz fhi y_nso y_nsi y_nit) → (SLR fhw fhn fht y_nsh y_nsf y_nss) → (SPI fbsayings kbsayings kbpapers) → (SPI fcsayings kcsayings kcpapers) → (SCX y_nw td vd vl gp (nI kbpersons) (nI kbpapers) (nI kbstamps) (nI kbsayings) (nI kbfindings) (nI kbwarnings) (nI kbquestions)) → (ikp = 0 ∨ SCX y_nk ktd kvd kvl kgp (nI kcpersons) (nI kcpapers) (nI kcstamps) (nI kcsayings) (nI kcfindings) (nI kcwarnings) (nI kcquestions)) → (EQT y_nw 12 20 fbpersons) → (EQT y_nw 32 72 fbpapers) → (EQT y_nw 104 72 fbstamps) → (EQT y_nw 1424 128 fbsayings) → (EQT y_nw 1552 48 fbfindings) → (EQT y_nw 1600 48 fbwarnings) → (EQT y_nw 1648 14 fbquestions) → (EQT y_nk 12 20 fcpersons) → (EQT y_nk 32 72 fcpapers) → (EQT y_nk 104 72 fcstamps) → (EQT y_nk 1424 128 fcsayings) → (EQT y_nk 1552 48 fcfindings) → (EQT y_nk 1600 48 fcwarnings) → (EQT y_nk 1648 14 fcquestions) → va_P G.1 vwCl (WLW G K hf xb bb cc sg do9 ru9 ta9 tp9 ro9 ho9 de9 bpersons bpapers bstamps bversions blines bsteps bsayings bfindings bwarnings bquestions bpersonsc bpapersc bstampsc bversionsc blinesc bstepsc bsayingsc bfindingsc bwarningsc bquestionsc cpersons cpapers cstamps cversions clines csteps csayings cfindings cwarnings cquestions cpersonsc cpapersc cstampsc cversionsc clinesc cstepsc csayingsc cfindingsc cwarningsc cquestionsc tby tln tsp tlnc tspc hs hz hi hw hn ht tr9 clk fi la ml mm sl sm clm hd kc0 km0 kc1 km1 kc2 km2 kc3 km3 kc4 km4 kc5 km5 kc6 km6 kc7 km7 kc8 km8 kc9 km9 kc10 km10 kc11 km11 kc12 km12 fc sh rr tc rrc xm nw nk nt nr nm ns nl nc nF np ntr nb nso nsi nit nsh nsf nss nrc kbpersons kbpapers kbstamps kbversions kblines kbsteps kbsayings kbfindings kbwarnings kbquestions kcpersons kcpapers kcstamps kcversions kclines kcsteps kcsayings kcfindings kcwarnings kcquestions kt ks kn kln ksp jr kr ytp yrm yjr ikp td vd vl gp ktd kvd kvl kgp tkd tf9 dk dn dp da dq cl bo le bi r1 rc rh tf tt9 tl tbv asd st9 tol mroundOf mroundFrom mfromHour mtoHour mfrom mto msort misFault mdeep mcoded mlines mbestCost mdealer mnumber mwhose msize misParted fbpersons fbpapers fbstamps fbversions fblines fbsteps fbsayings fbfindings fbwarnings fbquestions fcpersons fcpapers fcstamps fcversions fclines fcsteps fcsayings fcfindings fcwarnings fcquestions fby ftln ftsp fhw fhn ftr fhs fhz fhi fclm ffi fla fml fmm fsl fsm fk0 fk1 fk2 fk3 fk4 fk5 fk6 fk7 fk8 fk9 fk10 fk11 fk12 ffc fsh frr ftc fht y_nw y_nk y_nt y_nr y_nm y_ns y_nl y_nc y_np y_ntr y_nb y_nso y_nsi y_nit y_nsh y_nsf y_nss y_nrc) H → va_D A (WLW G K hf xb bb cc sg do9 ru9 ta9 tp9 ro9 ho9 de9 bpersons bpapers bstamps bversions blines bsteps bsayings bfindings bwarnings bquestions bpersonsc bpapersc bstampsc bversionsc blinesc bstepsc bsayingsc bfindingsc bwarningsc bquestionsc cpersons cpapers cstamps cversions clines csteps csayings cfindings cwarnings cquestions cpersonsc cpapersc cstampsc cversionsc clinesc cstepsc csayingsc cfindingsc cwarningsc cquestionsc tby tln tsp tlnc tspc hs hz hi hw hn ht tr9 clk fi la ml mm sl sm clm hd kc0 km0 kc1 km1 kc2 km2 kc3 km3 kc4 km4 kc5 km5 kc6 km6 kc7 km7 kc8 km8 kc9 km9 kc10 km10 kc11 km11 kc12 km12 fc sh rr tc rrc xm nw nk nt nr nm ns nl nc nF np ntr nb nso nsi nit nsh nsf nss nrc kbpersons kbpapers kbstamps kbversions kblines kbsteps kbsayings kbfindings kbwarnings kbquestions kcpersons kcpapers kcstamps kcversions kclines kcsteps kcsayings kcfindings kcwarnings kcquestions kt ks kn kln ksp jr kr ytp yrm yjr ikp td vd vl gp ktd kvd kvl kgp tkd tf9 dk dn dp da dq cl bo le bi r1 rc rh tf tt9 tl tbv asd st9 tol mroundOf mroundFrom mfromHour mtoHour mfrom mto msort misFault mdeep mcoded mlines mbestCost mdealer mnumber mwhose msize misParted fbpersons fbpapers fbstamps fbversions fblines fbsteps fbsayings fbfindings fbwarnings fbquestions fcpersons fcpapers fcstamps fcversions fclines fcsteps fcsayings fcfindings fcwarnings fcquestions fby ftln ftsp fhw fhn ftr fhs fhz fhi fclm ffi fla fml fmm fsl fsm fk0 fk1 fk2 fk3 fk4 fk5 fk6 fk7 fk8 fk9 fk10 fk11 fk12 ffc fsh frr ftc fht y_nw y_nk y_nt y_nr y_nm y_ns y_nl y_nc y_np y_ntr y_nb y_nso y_nsi y_nit y_nsh y_nsf y_nss y_nrc) → va_S A s.heap H locs → lv_has ls 4 [(3, .int (nI ki)), (2, .ref xm), (1, .ref xb), (0, .ref b)] → W p l e room_1 s m #[Value.ref b] below meth c H locs 123 9503 (lw_Z below #[Value.ref b] s) (F0 m 1718 ls []) := by
      intro kbpersons kbpapers kbstamps kbversions kblines kbsteps kbsayings kbfindings kbwarnings kbquestions kcpersons kcpapers kcstamps kcversions kclines kcsteps kcsayings kcfindings kcwarnings kcquestions kt ks kn kln ksp jr kr ytp yrm yjr ikp td vd vl gp ktd kvd kvl kgp tkd tf9 dk dn dp da dq cl bo le bi r1 rc rh tf tt9 tl tbv asd st9 tol mroundOf mroundFrom mfromHour mtoHour mfrom mto msort misFault mdeep mcoded mlines mbestCost mdealer mnumber mwhose msize misParted fbpersons fbpapers fbstamps fbversions fblines fbsteps fbsayings fbfindings fbwarnings fbquestions fcpersons fcpapers fcstamps fcversions fclines fcsteps fcsayings fcfindings fcwarnings fcquestions fby ftln ftsp fhw fhn ftr fhs fhz fhi fclm ffi fla fml fmm fsl fsm fk0 fk1 fk2 fk3 fk4 fk5 fk6 fk7 fk8 fk9 fk10 fk11 fk12 ffc fsh frr ftc fht y_nw y_nk y_nt y_nr y_nm y_ns y_nl y_nc y_np y_ntr y_nb y_nso y_nsi y_nit y_nsh y_nsf y_nss y_nrc H locs ls i_kbpersons i_kbpapers i_kbstamps i_kbversions i_kblines i_kbsteps i_kbsayings i_kbfindings i_kbwarnings i_kbquestions i_kcpersons i_kcpapers i_kcstamps i_kcversions i_kclines i_kcsteps i_kcsayings i_kcfindings i_kcwarnings i_kcquestions i_kt i_ks i_kn i_kln i_ksp i_jr i_kr i_ytp i_yrm i_yjr i_tp i_cl i_tol i_ikp i_nw i_vw i_nk i_vk i_mb i_b6 i_sz i_sh i_sl i_sp i_sq i_sc i_sk i_epersons i_epapers i_estamps i_esayings i_efindings i_ewarnings i_equestions i_kpersons i_kpapers i_kstamps i_ksayings i_kfindings i_kwarnings i_kquestions hP hD hS hl
      refine lv_iinc (v := nI (ki + 7)) (lv' := [(3, .int (nI (ki + 7))), (2, .ref xm), (1, .ref xb), (0, .ref b)]) hx hb dL_law_1718 hl (k := 0) rfl ((congrArg (fun z9 => nI ki + z9) (show Int32.ofInt 7 = nI 7 from by decide)).trans (nI_add ki 7)) (by decide) rfl (fun ls hl => ?_)
      refine lv_goto (tgt := 18) hx hb dL_law_1721 (by decide) ?_
      exact ih (ki + 7) kbpersons kbpapers kbstamps kbversions kblines kbsteps kbsayings kbfindings kbwarnings kbquestions kcpersons kcpapers kcstamps kcversions kclines kcsteps kcsayings kcfindings kcwarnings kcquestions kt ks kn kln ksp jr kr ytp yrm yjr ikp td vd vl gp ktd kvd kvl kgp tkd tf9 dk dn dp da dq cl bo le bi r1 rc rh tf tt9 tl tbv asd st9 tol mroundOf mroundFrom mfromHour mtoHour mfrom mto msort misFault mdeep mcoded mlines mbestCost mdealer mnumber mwhose msize misParted fbpersons fbpapers fbstamps fbversions fblines fbsteps fbsayings fbfindings fbwarnings fbquestions fcpersons fcpapers fcstamps fcversions fclines fcsteps fcsayings fcfindings fcwarnings fcquestions fby ftln ftsp fhw fhn ftr fhs fhz fhi fclm ffi fla fml fmm fsl fsm fk0 fk1 fk2 fk3 fk4 fk5 fk6 fk7 fk8 fk9 fk10 fk11 fk12 ffc fsh frr ftc fht y_nw y_nk y_nt y_nr y_nm y_ns y_nl y_nc y_np y_ntr y_nb y_nso y_nsi y_nit y_nsh y_nsf y_nss y_nrc H locs ls (by omega) (by omega) i_kbpersons i_kbpapers i_kbstamps i_kbversions i_kblines i_kbsteps i_kbsayings i_kbfindings i_kbwarnings i_kbquestions i_kcpersons i_kcpapers i_kcstamps i_kcversions i_kclines i_kcsteps i_kcsayings i_kcfindings i_kcwarnings i_kcquestions i_kt i_ks i_kn i_kln i_ksp i_jr i_kr i_ytp i_yrm i_yjr i_tp i_cl i_tol i_ikp i_nw i_vw i_nk i_vk i_mb i_b6 i_sz i_sh i_sl i_sp i_sq i_sc i_sk i_epersons i_epapers i_estamps i_esayings i_efindings i_ewarnings i_equestions i_kpersons i_kpapers i_kstamps i_ksayings i_kfindings i_kwarnings i_kquestions hP hD hS hl
    refine lv_iload_n hx hb dL_law_18 rfl (lv_at hl 0 rfl) ?_
    refine lv_aload_n hx hb dL_law_19 rfl (lv_at hl 3 rfl) ?_
    refine va_slen hx hb hX hbl hbA hS dL_law_20 ?_
    refine eqi (x1 := nI L) rfl ?_
    refine lv_bipush (v := 7) hx hb dL_law_21 (by decide) ?_
    refine lv_isub hx hb dL_law_23 ?_
    refine lv_icmp_gt (tgt := 1724) hx hb dL_law_24 (by decide) (fun c9 => absurd c9 (fun h9 => absurd ((law_lt (by omega) (by omega)).mp h9) (by omega))) (fun _ => ?_)
    refine lv_aload_n hx hb dL_law_27 rfl (lv_at hl 3 rfl) ?_
    refine lv_iload_n hx hb dL_law_28 rfl (lv_at hl 0 rfl) ?_
    refine va_sld hx hb hX hbl hbA hS (vp_in_nI (by omega) (by omega)) dL_law_29 ?_
    refine eqi (x1 := xs ki) (congrArg xs (nI_clamp (by omega))) ?_
    refine lv_bipush (v := 63) hx hb dL_law_30 (by decide) ?_
    refine lv_iand hx hb dL_law_32 ?_
    by_cases c_33_10077 : (xs ki) &&& 63 = 0
    · refine lv_tableIn (tgt := 216) hx hb dL_law_33 (by rw [c_33_10077]; decide) (by rw [c_33_10077]; decide) (by rw [c_33_10077]; rfl) (by decide) ?_
      exact law_0 hC hK hO hX hL hbl hbA hA hA2 h7 hf0 hf1 hf2 hf3 hf4 hf5 hf6 hf7 hf8 hf9 hf10 hf11 hf12 i_kbpersons i_kbpapers i_kbstamps i_kbversions i_kblines i_kbsteps i_kbsayings i_kbfindings i_kbwarnings i_kbquestions i_kcpersons i_kcpapers i_kcstamps i_kcversions i_kclines i_kcsteps i_kcsayings i_kcfindings i_kcwarnings i_kcquestions i_kt i_ks i_kn i_kln i_ksp i_jr i_kr i_ytp i_yrm i_yjr i_tp i_cl i_tol i_ikp i_nw i_vw i_nk i_vk i_mb i_b6 i_sz i_sh i_sl i_sp i_sq i_sc i_sk i_epersons i_epapers i_estamps i_esayings i_efindings i_ewarnings i_equestions i_kpersons i_kpapers i_kstamps i_ksayings i_kfindings i_kwarnings i_kquestions hback hP hD hS (lv_sub hl [0, 1, 2, 3] rfl)
    by_cases c_33_10078 : (xs ki) &&& 63 = 1
    · refine lv_tableIn (tgt := 239) hx hb dL_law_33 (by rw [c_33_10078]; decide) (by rw [c_33_10078]; decide) (by rw [c_33_10078]; rfl) (by decide) ?_
      exact law_1 hC hK hO hX hL hbl hbA hA hA2 h7 hf0 hf1 hf2 hf3 hf4 hf5 hf6 hf7 hf8 hf9 hf10 hf11 hf12 i_kbpersons i_kbpapers i_kbstamps i_kbversions i_kblines i_kbsteps i_kbsayings i_kbfindings i_kbwarnings i_kbquestions i_kcpersons i_kcpapers i_kcstamps i_kcversions i_kclines i_kcsteps i_kcsayings i_kcfindings i_kcwarnings i_kcquestions i_kt i_ks i_kn i_kln i_ksp i_jr i_kr i_ytp i_yrm i_yjr i_tp i_cl i_tol i_ikp i_nw i_vw i_nk i_vk i_mb i_b6 i_sz i_sh i_sl i_sp i_sq i_sc i_sk i_epersons i_epapers i_estamps i_esayings i_efindings i_ewarnings i_equestions i_kpersons i_kpapers i_kstamps i_ksayings i_kfindings i_kwarnings i_kquestions hback hP hD hS (lv_sub hl [0, 1, 2, 3] rfl)
    by_cases c_33_10079 : (xs ki) &&& 63 = 2
    · refine lv_tableIn (tgt := 272) hx hb dL_law_33 (by rw [c_33_10079]; decide) (by rw [c_33_10079]; decide) (by rw [c_33_10079]; rfl) (by decide) ?_
      exact law_2 hC hK hO hX hL hbl hbA hA hA2 h7 hf0 hf1 hf2 hf3 hf4 hf5 hf6 hf7 hf8 hf9 hf10 hf11 hf12 i_kbpersons i_kbpapers i_kbstamps i_kbversions i_kblines i_kbsteps i_kbsayings i_kbfindings i_kbwarnings i_kbquestions i_kcpersons i_kcpapers i_kcstamps i_kcversions i_kclines i_kcsteps i_kcsayings i_kcfindings i_kcwarnings i_kcquestions i_kt i_ks i_kn i_kln i_ksp i_jr i_kr i_ytp i_yrm i_yjr i_tp i_cl i_tol i_ikp i_nw i_vw i_nk i_vk i_mb i_b6 i_sz i_sh i_sl i_sp i_sq i_sc i_sk i_epersons i_epapers i_estamps i_esayings i_efindings i_ewarnings i_equestions i_kpersons i_kpapers i_kstamps i_ksayings i_kfindings i_kwarnings i_kquestions hback hP hD hS (lv_sub hl [0, 1, 2, 3] rfl)
    by_cases c_33_10080 : (xs ki) &&& 63 = 3
    · refine lv_tableIn (tgt := 305) hx hb dL_law_33 (by rw [c_33_10080]; decide) (by rw [c_33_10080]; decide) (by rw [c_33_10080]; rfl) (by decide) ?_
      exact law_3 hC hK hO hX hL hbl hbA hA hA2 h7 hf0 hf1 hf2 hf3 hf4 hf5 hf6 hf7 hf8 hf9 hf10 hf11 hf12 i_kbpersons i_kbpapers i_kbstamps i_kbversions i_kblines i_kbsteps i_kbsayings i_kbfindings i_kbwarnings i_kbquestions i_kcpersons i_kcpapers i_kcstamps i_kcversions i_kclines i_kcsteps i_kcsayings i_kcfindings i_kcwarnings i_kcquestions i_kt i_ks i_kn i_kln i_ksp i_jr i_kr i_ytp i_yrm i_yjr i_tp i_cl i_tol i_ikp i_nw i_vw i_nk i_vk i_mb i_b6 i_sz i_sh i_sl i_sp i_sq i_sc i_sk i_epersons i_epapers i_estamps i_esayings i_efindings i_ewarnings i_equestions i_kpersons i_kpapers i_kstamps i_ksayings i_kfindings i_kwarnings i_kquestions hback hP hD hS (lv_sub hl [0, 1, 2, 3] rfl)
    by_cases c_33_10081 : (xs ki) &&& 63 = 4
    · refine lv_tableIn (tgt := 338) hx hb dL_law_33 (by rw [c_33_10081]; decide) (by rw [c_33_10081]; decide) (by rw [c_33_10081]; rfl) (by decide) ?_
      exact law_4 hC hK hO hX hL hbl hbA hA hA2 h7 hf0 hf1 hf2 hf3 hf4 hf5 hf6 hf7 hf8 hf9 hf10 hf11 hf12 i_kbpersons i_kbpapers i_kbstamps i_kbversions i_kblines i_kbsteps i_kbsayings i_kbfindings i_kbwarnings i_kbquestions i_kcpersons i_kcpapers i_kcstamps i_kcversions i_kclines i_kcsteps i_kcsayings i_kcfindings i_kcwarnings i_kcquestions i_kt i_ks i_kn i_kln i_ksp i_jr i_kr i_ytp i_yrm i_yjr i_tp i_cl i_tol i_ikp i_nw i_vw i_nk i_vk i_mb i_b6 i_sz i_sh i_sl i_sp i_sq i_sc i_sk i_epersons i_epapers i_estamps i_esayings i_efindings i_ewarnings i_equestions i_kpersons i_kpapers i_kstamps i_ksayings i_kfindings i_kwarnings i_kquestions hback hP hD hS (lv_sub hl [0, 1, 2, 3] rfl)
    by_cases c_33_10082 : (xs ki) &&& 63 = 5
    · refine lv_tableIn (tgt := 391) hx hb dL_law_33 (by rw [c_33_10082]; decide) (by rw [c_33_10082]; decide) (by rw [c_33_10082]; rfl) (by decide) ?_
      exact law_5 hC hK hO hX hL hbl hbA hA hA2 h7 hf0 hf1 hf2 hf3 hf4 hf5 hf6 hf7 hf8 hf9 hf10 hf11 hf12 i_kbpersons i_kbpapers i_kbstamps i_kbversions i_kblines i_kbsteps i_kbsayings i_kbfindings i_kbwarnings i_kbquestions i_kcpersons i_kcpapers i_kcstamps i_kcversions i_kclines i_kcsteps i_kcsayings i_kcfindings i_kcwarnings i_kcquestions i_kt i_ks i_kn i_kln i_ksp i_jr i_kr i_ytp i_yrm i_yjr i_tp i_cl i_tol i_ikp i_nw i_vw i_nk i_vk i_mb i_b6 i_sz i_sh i_sl i_sp i_sq i_sc i_sk i_epersons i_epapers i_estamps i_esayings i_efindings i_ewarnings i_equestions i_kpersons i_kpapers i_kstamps i_ksayings i_kfindings i_kwarnings i_kquestions hback hP hD hS (lv_sub hl [0, 1, 2, 3] rfl)
    by_cases c_33_10083 : (xs ki) &&& 63 = 6
    · refine lv_tableIn (tgt := 414) hx hb dL_law_33 (by rw [c_33_10083]; decide) (by rw [c_33_10083]; decide) (by rw [c_33_10083]; rfl) (by decide) ?_
      exact law_6 hC hK hO hX hL hbl hbA hA hA2 h7 hf0 hf1 hf2 hf3 hf4 hf5 hf6 hf7 hf8 hf9 hf10 hf11 hf12 i_kbpersons i_kbpapers i_kbstamps i_kbversions i_kblines i_kbsteps i_kbsayings i_kbfindings i_kbwarnings i_kbquestions i_kcpersons i_kcpapers i_kcstamps i_kcversions i_kclines i_kcsteps i_kcsayings i_kcfindings i_kcwarnings i_kcquestions i_kt i_ks i_kn i_kln i_ksp i_jr i_kr i_ytp i_yrm i_yjr i_tp i_cl i_tol i_ikp i_nw i_vw i_nk i_vk i_mb i_b6 i_sz i_sh i_sl i_sp i_sq i_sc i_sk i_epersons i_epapers i_estamps i_esayings i_efindings i_ewarnings i_equestions i_kpersons i_kpapers i_kstamps i_ksayings i_kfindings i_kwarnings i_kquestions hback hP hD hS (lv_sub hl [0, 1, 2, 3] rfl)
    by_cases c_33_10084 : (xs ki) &&& 63 = 7
    · refine lv_tableIn (tgt := 447) hx hb dL_law_33 (by rw [c_33_10084]; decide) (by rw [c_33_10084]; decide) (by rw [c_33_10084]; rfl) (by decide) ?_
      exact law_7 hC hK hO hX hL hbl hbA hA hA2 h7 hf0 hf1 hf2 hf3 hf4 hf5 hf6 hf7 hf8 hf9 hf10 hf11 hf12 i_kbpersons i_kbpapers i_kbstamps i_kbversions i_kblines i_kbsteps i_kbsayings i_kbfindings i_kbwarnings i_kbquestions i_kcpersons i_kcpapers i_kcstamps i_kcversions i_kclines i_kcsteps i_kcsayings i_kcfindings i_kcwarnings i_kcquestions i_kt i_ks i_kn i_kln i_ksp i_jr i_kr i_ytp i_yrm i_yjr i_tp i_cl i_tol i_ikp i_nw i_vw i_nk i_vk i_mb i_b6 i_sz i_sh i_sl i_sp i_sq i_sc i_sk i_epersons i_epapers i_estamps i_esayings i_efindings i_ewarnings i_equestions i_kpersons i_kpapers i_kstamps i_ksayings i_kfindings i_kwarnings i_kquestions hback hP hD hS (lv_sub hl [0, 1, 2, 3] rfl)
    by_cases c_33_10085 : (xs ki) &&& 63 = 8
    · refine lv_tableIn (tgt := 490) hx hb dL_law_33 (by rw [c_33_10085]; decide) (by rw [c_33_10085]; decide) (by rw [c_33_10085]; rfl) (by decide) ?_
      exact law_8 hC hK hO hX hL hbl hbA hA hA2 h7 hf0 hf1 hf2 hf3 hf4 hf5 hf6 hf7 hf8 hf9 hf10 hf11 hf12 i_kbpersons i_kbpapers i_kbstamps i_kbversions i_kblines i_kbsteps i_kbsayings i_kbfindings i_kbwarnings i_kbquestions i_kcpersons i_kcpapers i_kcstamps i_kcversions i_kclines i_kcsteps i_kcsayings i_kcfindings i_kcwarnings i_kcquestions i_kt i_ks i_kn i_kln i_ksp i_jr i_kr i_ytp i_yrm i_yjr i_tp i_cl i_tol i_ikp i_nw i_vw i_nk i_vk i_mb i_b6 i_sz i_sh i_sl i_sp i_sq i_sc i_sk i_epersons i_epapers i_estamps i_esayings i_efindings i_ewarnings i_equestions i_kpersons i_kpapers i_kstamps i_ksayings i_kfindings i_kwarnings i_kquestions hback hP hD hS (lv_sub hl [0, 1, 2, 3] rfl)
    by_cases c_33_10086 : (xs ki) &&& 63 = 9
    · refine lv_tableIn (tgt := 543) hx hb dL_law_33 (by rw [c_33_10086]; decide) (by rw [c_33_10086]; decide) (by rw [c_33_10086]; rfl) (by decide) ?_
      exact law_9 hC hK hO hX hL hbl hbA hA hA2 h7 hf0 hf1 hf2 hf3 hf4 hf5 hf6 hf7 hf8 hf9 hf10 hf11 hf12 i_kbpersons i_kbpapers i_kbstamps i_kbversions i_kblines i_kbsteps i_kbsayings i_kbfindings i_kbwarnings i_kbquestions i_kcpersons i_kcpapers i_kcstamps i_kcversions i_kclines i_kcsteps i_kcsayings i_kcfindings i_kcwarnings i_kcquestions i_kt i_ks i_kn i_kln i_ksp i_jr i_kr i_ytp i_yrm i_yjr i_tp i_cl i_tol i_ikp i_nw i_vw i_nk i_vk i_mb i_b6 i_sz i_sh i_sl i_sp i_sq i_sc i_sk i_epersons i_epapers i_estamps i_esayings i_efindings i_ewarnings i_equestions i_kpersons i_kpapers i_kstamps i_ksayings i_kfindings i_kwarnings i_kquestions hback hP hD hS (lv_sub hl [0, 1, 2, 3] rfl)
    by_cases c_33_10087 : (xs ki) &&& 63 = 10
    · refine lv_tableIn (tgt := 566) hx hb dL_law_33 (by rw [c_33_10087]; decide) (by rw [c_33_10087]; decide) (by rw [c_33_10087]; rfl) (by decide) ?_
      exact law_10 hC hK hO hX hL hbl hbA hA hA2 h7 hf0 hf1 hf2 hf3 hf4 hf5 hf6 hf7 hf8 hf9 hf10 hf11 hf12 i_kbpersons i_kbpapers i_kbstamps i_kbversions i_kblines i_kbsteps i_kbsayings i_kbfindings i_kbwarnings i_kbquestions i_kcpersons i_kcpapers i_kcstamps i_kcversions i_kclines i_kcsteps i_kcsayings i_kcfindings i_kcwarnings i_kcquestions i_kt i_ks i_kn i_kln i_ksp i_jr i_kr i_ytp i_yrm i_yjr i_tp i_cl i_tol i_ikp i_nw i_vw i_nk i_vk i_mb i_b6 i_sz i_sh i_sl i_sp i_sq i_sc i_sk i_epersons i_epapers i_estamps i_esayings i_efindings i_ewarnings i_equestions i_kpersons i_kpapers i_kstamps i_ksayings i_kfindings i_kwarnings i_kquestions hback hP hD hS (lv_sub hl [0, 1, 2, 3] rfl)
    by_cases c_33_10088 : (xs ki) &&& 63 = 11
    · refine lv_tableIn (tgt := 589) hx hb dL_law_33 (by rw [c_33_10088]; decide) (by rw [c_33_10088]; decide) (by rw [c_33_10088]; rfl) (by decide) ?_
      exact law_11 hC hK hO hX hL hbl hbA hA hA2 h7 hf0 hf1 hf2 hf3 hf4 hf5 hf6 hf7 hf8 hf9 hf10 hf11 hf12 i_kbpersons i_kbpapers i_kbstamps i_kbversions i_kblines i_kbsteps i_kbsayings i_kbfindings i_kbwarnings i_kbquestions i_kcpersons i_kcpapers i_kcstamps i_kcversions i_kclines i_kcsteps i_kcsayings i_kcfindings i_kcwarnings i_kcquestions i_kt i_ks i_kn i_kln i_ksp i_jr i_kr i_ytp i_yrm i_yjr i_tp i_cl i_tol i_ikp i_nw i_vw i_nk i_vk i_mb i_b6 i_sz i_sh i_sl i_sp i_sq i_sc i_sk i_epersons i_epapers i_estamps i_esayings i_efindings i_ewarnings i_equestions i_kpersons i_kpapers i_kstamps i_ksayings i_kfindings i_kwarnings i_kquestions hback hP hD hS (lv_sub hl [0, 1, 2, 3] rfl)
    by_cases c_33_10089 : (xs ki) &&& 63 = 12
    · refine lv_tableIn (tgt := 638) hx hb dL_law_33 (by rw [c_33_10089]; decide) (by rw [c_33_10089]; decide) (by rw [c_33_10089]; rfl) (by decide) ?_
      exact law_12 hC hK hO hX hL hbl hbA hA hA2 h7 hf0 hf1 hf2 hf3 hf4 hf5 hf6 hf7 hf8 hf9 hf10 hf11 hf12 i_kbpersons i_kbpapers i_kbstamps i_kbversions i_kblines i_kbsteps i_kbsayings i_kbfindings i_kbwarnings i_kbquestions i_kcpersons i_kcpapers i_kcstamps i_kcversions i_kclines i_kcsteps i_kcsayings i_kcfindings i_kcwarnings i_kcquestions i_kt i_ks i_kn i_kln i_ksp i_jr i_kr i_ytp i_yrm i_yjr i_tp i_cl i_tol i_ikp i_nw i_vw i_nk i_vk i_mb i_b6 i_sz i_sh i_sl i_sp i_sq i_sc i_sk i_epersons i_epapers i_estamps i_esayings i_efindings i_ewarnings i_equestions i_kpersons i_kpapers i_kstamps i_ksayings i_kfindings i_kwarnings i_kquestions hback hP hD hS (lv_sub hl [0, 1, 2, 3] rfl)
    by_cases c_33_10090 : (xs ki) &&& 63 = 13
    · refine lv_tableIn (tgt := 687) hx hb dL_law_33 (by rw [c_33_10090]; decide) (by rw [c_33_10090]; decide) (by rw [c_33_10090]; rfl) (by decide) ?_
      exact law_13 hC hK hO hX hL hbl hbA hA hA2 h7 hf0 hf1 hf2 hf3 hf4 hf5 hf6 hf7 hf8 hf9 hf10 hf11 hf12 i_kbpersons i_kbpapers i_kbstamps i_kbversions i_kblines i_kbsteps i_kbsayings i_kbfindings i_kbwarnings i_kbquestions i_kcpersons i_kcpapers i_kcstamps i_kcversions i_kclines i_kcsteps i_kcsayings i_kcfindings i_kcwarnings i_kcquestions i_kt i_ks i_kn i_kln i_ksp i_jr i_kr i_ytp i_yrm i_yjr i_tp i_cl i_tol i_ikp i_nw i_vw i_nk i_vk i_mb i_b6 i_sz i_sh i_sl i_sp i_sq i_sc i_sk i_epersons i_epapers i_estamps i_esayings i_efindings i_ewarnings i_equestions i_kpersons i_kpapers i_kstamps i_ksayings i_kfindings i_kwarnings i_kquestions hback hP hD hS (lv_sub hl [0, 1, 2, 3] rfl)
    by_cases c_33_10091 : (xs ki) &&& 63 = 14
    · refine lv_tableIn (tgt := 746) hx hb dL_law_33 (by rw [c_33_10091]; decide) (by rw [c_33_10091]; decide) (by rw [c_33_10091]; rfl) (by decide) ?_
      exact law_14 hC hK hO hX hL hbl hbA hA hA2 h7 hf0 hf1 hf2 hf3 hf4 hf5 hf6 hf7 hf8 hf9 hf10 hf11 hf12 i_kbpersons i_kbpapers i_kbstamps i_kbversions i_kblines i_kbsteps i_kbsayings i_kbfindings i_kbwarnings i_kbquestions i_kcpersons i_kcpapers i_kcstamps i_kcversions i_kclines i_kcsteps i_kcsayings i_kcfindings i_kcwarnings i_kcquestions i_kt i_ks i_kn i_kln i_ksp i_jr i_kr i_ytp i_yrm i_yjr i_tp i_cl i_tol i_ikp i_nw i_vw i_nk i_vk i_mb i_b6 i_sz i_sh i_sl i_sp i_sq i_sc i_sk i_epersons i_epapers i_estamps i_esayings i_efindings i_ewarnings i_equestions i_kpersons i_kpapers i_kstamps i_ksayings i_kfindings i_kwarnings i_kquestions hback hP hD hS (lv_sub hl [0, 1, 2, 3] rfl)
    by_cases c_33_10092 : (xs ki) &&& 63 = 15
    · refine lv_tableIn (tgt := 779) hx hb dL_law_33 (by rw [c_33_10092]; decide) (by rw [c_33_10092]; decide) (by rw [c_33_10092]; rfl) (by decide) ?_
      exact law_15 hC hK hO hX hL hbl hbA hA hA2 h7 hf0 hf1 hf2 hf3 hf4 hf5 hf6 hf7 hf8 hf9 hf10 hf11 hf12 i_kbpersons i_kbpapers i_kbstamps i_kbversions i_kblines i_kbsteps i_kbsayings i_kbfindings i_kbwarnings i_kbquestions i_kcpersons i_kcpapers i_kcstamps i_kcversions i_kclines i_kcsteps i_kcsayings i_kcfindings i_kcwarnings i_kcquestions i_kt i_ks i_kn i_kln i_ksp i_jr i_kr i_ytp i_yrm i_yjr i_tp i_cl i_tol i_ikp i_nw i_vw i_nk i_vk i_mb i_b6 i_sz i_sh i_sl i_sp i_sq i_sc i_sk i_epersons i_epapers i_estamps i_esayings i_efindings i_ewarnings i_equestions i_kpersons i_kpapers i_kstamps i_ksayings i_kfindings i_kwarnings i_kquestions hback hP hD hS (lv_sub hl [0, 1, 2, 3] rfl)
    by_cases c_33_10093 : (xs ki) &&& 63 = 16
    · refine lv_tableIn (tgt := 822) hx hb dL_law_33 (by rw [c_33_10093]; decide) (by rw [c_33_10093]; decide) (by rw [c_33_10093]; rfl) (by decide) ?_
      exact law_16 hC hK hO hX hL hbl hbA hA hA2 h7 hf0 hf1 hf2 hf3 hf4 hf5 hf6 hf7 hf8 hf9 hf10 hf11 hf12 i_kbpersons i_kbpapers i_kbstamps i_kbversions i_kblines i_kbsteps i_kbsayings i_kbfindings i_kbwarnings i_kbquestions i_kcpersons i_kcpapers i_kcstamps i_kcversions i_kclines i_kcsteps i_kcsayings i_kcfindings i_kcwarnings i_kcquestions i_kt i_ks i_kn i_kln i_ksp i_jr i_kr i_ytp i_yrm i_yjr i_tp i_cl i_tol i_ikp i_nw i_vw i_nk i_vk i_mb i_b6 i_sz i_sh i_sl i_sp i_sq i_sc i_sk i_epersons i_epapers i_estamps i_esayings i_efindings i_ewarnings i_equestions i_kpersons i_kpapers i_kstamps i_ksayings i_kfindings i_kwarnings i_kquestions hback hP hD hS (lv_sub hl [0, 1, 2, 3] rfl)
    by_cases c_33_10094 : (xs ki) &&& 63 = 17
    · refine lv_tableIn (tgt := 885) hx hb dL_law_33 (by rw [c_33_10094]; decide) (by rw [c_33_10094]; decide) (by rw [c_33_10094]; rfl) (by decide) ?_
      exact law_17 hC hK hO hX hL hbl hbA hA hA2 h7 hf0 hf1 hf2 hf3 hf4 hf5 hf6 hf7 hf8 hf9 hf10 hf11 hf12 i_kbpersons i_kbpapers i_kbstamps i_kbversions i_kblines i_kbsteps i_kbsayings i_kbfindings i_kbwarnings i_kbquestions i_kcpersons i_kcpapers i_kcstamps i_kcversions i_kclines i_kcsteps i_kcsayings i_kcfindings i_kcwarnings i_kcquestions i_kt i_ks i_kn i_kln i_ksp i_jr i_kr i_ytp i_yrm i_yjr i_tp i_cl i_tol i_ikp i_nw i_vw i_nk i_vk i_mb i_b6 i_sz i_sh i_sl i_sp i_sq i_sc i_sk i_epersons i_epapers i_estamps i_esayings i_efindings i_ewarnings i_equestions i_kpersons i_kpapers i_kstamps i_ksayings i_kfindings i_kwarnings i_kquestions hback hP hD hS (lv_sub hl [0, 1, 2, 3] rfl)
    by_cases c_33_10095 : (xs ki) &&& 63 = 18
    · refine lv_tableIn (tgt := 898) hx hb dL_law_33 (by rw [c_33_10095]; decide) (by rw [c_33_10095]; decide) (by rw [c_33_10095]; rfl) (by decide) ?_
      exact law_18 hC hK hO hX hL hbl hbA hA hA2 h7 hf0 hf1 hf2 hf3 hf4 hf5 hf6 hf7 hf8 hf9 hf10 hf11 hf12 i_kbpersons i_kbpapers i_kbstamps i_kbversions i_kblines i_kbsteps i_kbsayings i_kbfindings i_kbwarnings i_kbquestions i_kcpersons i_kcpapers i_kcstamps i_kcversions i_kclines i_kcsteps i_kcsayings i_kcfindings i_kcwarnings i_kcquestions i_kt i_ks i_kn i_kln i_ksp i_jr i_kr i_ytp i_yrm i_yjr i_tp i_cl i_tol i_ikp i_nw i_vw i_nk i_vk i_mb i_b6 i_sz i_sh i_sl i_sp i_sq i_sc i_sk i_epersons i_epapers i_estamps i_esayings i_efindings i_ewarnings i_equestions i_kpersons i_kpapers i_kstamps i_ksayings i_kfindings i_kwarnings i_kquestions hback hP hD hS (lv_sub hl [0, 1, 2, 3] rfl)
    by_cases c_33_10096 : (xs ki) &&& 63 = 19
    · refine lv_tableIn (tgt := 941) hx hb dL_law_33 (by rw [c_33_10096]; decide) (by rw [c_33_10096]; decide) (by rw [c_33_10096]; rfl) (by decide) ?_
      exact law_19 hC hK hO hX hL hbl hbA hA hA2 h7 hf0 hf1 hf2 hf3 hf4 hf5 hf6 hf7 hf8 hf9 hf10 hf11 hf12 i_kbpersons i_kbpapers i_kbstamps i_kbversions i_kblines i_kbsteps i_kbsayings i_kbfindings i_kbwarnings i_kbquestions i_kcpersons i_kcpapers i_kcstamps i_kcversions i_kclines i_kcsteps i_kcsayings i_kcfindings i_kcwarnings i_kcquestions i_kt i_ks i_kn i_kln i_ksp i_jr i_kr i_ytp i_yrm i_yjr i_tp i_cl i_tol i_ikp i_nw i_vw i_nk i_vk i_mb i_b6 i_sz i_sh i_sl i_sp i_sq i_sc i_sk i_epersons i_epapers i_estamps i_esayings i_efindings i_ewarnings i_equestions i_kpersons i_kpapers i_kstamps i_ksayings i_kfindings i_kwarnings i_kquestions hback hP hD hS (lv_sub hl [0, 1, 2, 3] rfl)
    by_cases c_33_10097 : (xs ki) &&& 63 = 20
    · refine lv_tableIn (tgt := 974) hx hb dL_law_33 (by rw [c_33_10097]; decide) (by rw [c_33_10097]; decide) (by rw [c_33_10097]; rfl) (by decide) ?_
      exact law_20 hC hK hO hX hL hbl hbA hA hA2 h7 hf0 hf1 hf2 hf3 hf4 hf5 hf6 hf7 hf8 hf9 hf10 hf11 hf12 i_kbpersons i_kbpapers i_kbstamps i_kbversions i_kblines i_kbsteps i_kbsayings i_kbfindings i_kbwarnings i_kbquestions i_kcpersons i_kcpapers i_kcstamps i_kcversions i_kclines i_kcsteps i_kcsayings i_kcfindings i_kcwarnings i_kcquestions i_kt i_ks i_kn i_kln i_ksp i_jr i_kr i_ytp i_yrm i_yjr i_tp i_cl i_tol i_ikp i_nw i_vw i_nk i_vk i_mb i_b6 i_sz i_sh i_sl i_sp i_sq i_sc i_sk i_epersons i_epapers i_estamps i_esayings i_efindings i_ewarnings i_equestions i_kpersons i_kpapers i_kstamps i_ksayings i_kfindings i_kwarnings i_kquestions hback hP hD hS (lv_sub hl [0, 1, 2, 3] rfl)
    by_cases c_33_10098 : (xs ki) &&& 63 = 21
    · refine lv_tableIn (tgt := 1065) hx hb dL_law_33 (by rw [c_33_10098]; decide) (by rw [c_33_10098]; decide) (by rw [c_33_10098]; rfl) (by decide) ?_
      exact law_21 hC hK hO hX hL hbl hbA hA hA2 h7 hf0 hf1 hf2 hf3 hf4 hf5 hf6 hf7 hf8 hf9 hf10 hf11 hf12 i_kbpersons i_kbpapers i_kbstamps i_kbversions i_kblines i_kbsteps i_kbsayings i_kbfindings i_kbwarnings i_kbquestions i_kcpersons i_kcpapers i_kcstamps i_kcversions i_kclines i_kcsteps i_kcsayings i_kcfindings i_kcwarnings i_kcquestions i_kt i_ks i_kn i_kln i_ksp i_jr i_kr i_ytp i_yrm i_yjr i_tp i_cl i_tol i_ikp i_nw i_vw i_nk i_vk i_mb i_b6 i_sz i_sh i_sl i_sp i_sq i_sc i_sk i_epersons i_epapers i_estamps i_esayings i_efindings i_ewarnings i_equestions i_kpersons i_kpapers i_kstamps i_ksayings i_kfindings i_kwarnings i_kquestions hback hP hD hS (lv_sub hl [0, 1, 2, 3] rfl)
    by_cases c_33_10099 : (xs ki) &&& 63 = 22
    · refine lv_tableIn (tgt := 1108) hx hb dL_law_33 (by rw [c_33_10099]; decide) (by rw [c_33_10099]; decide) (by rw [c_33_10099]; rfl) (by decide) ?_
      exact law_22 hC hK hO hX hL hbl hbA hA hA2 h7 hf0 hf1 hf2 hf3 hf4 hf5 hf6 hf7 hf8 hf9 hf10 hf11 hf12 i_kbpersons i_kbpapers i_kbstamps i_kbversions i_kblines i_kbsteps i_kbsayings i_kbfindings i_kbwarnings i_kbquestions i_kcpersons i_kcpapers i_kcstamps i_kcversions i_kclines i_kcsteps i_kcsayings i_kcfindings i_kcwarnings i_kcquestions i_kt i_ks i_kn i_kln i_ksp i_jr i_kr i_ytp i_yrm i_yjr i_tp i_cl i_tol i_ikp i_nw i_vw i_nk i_vk i_mb i_b6 i_sz i_sh i_sl i_sp i_sq i_sc i_sk i_epersons i_epapers i_estamps i_esayings i_efindings i_ewarnings i_equestions i_kpersons i_kpapers i_kstamps i_ksayings i_kfindings i_kwarnings i_kquestions hback hP hD hS (lv_sub hl [0, 1, 2, 3] rfl)
    by_cases c_33_10100 : (xs ki) &&& 63 = 23
    · refine lv_tableIn (tgt := 1121) hx hb dL_law_33 (by rw [c_33_10100]; decide) (by rw [c_33_10100]; decide) (by rw [c_33_10100]; rfl) (by decide) ?_
      exact law_23 hC hK hO hX hL hbl hbA hA hA2 h7 hf0 hf1 hf2 hf3 hf4 hf5 hf6 hf7 hf8 hf9 hf10 hf11 hf12 i_kbpersons i_kbpapers i_kbstamps i_kbversions i_kblines i_kbsteps i_kbsayings i_kbfindings i_kbwarnings i_kbquestions i_kcpersons i_kcpapers i_kcstamps i_kcversions i_kclines i_kcsteps i_kcsayings i_kcfindings i_kcwarnings i_kcquestions i_kt i_ks i_kn i_kln i_ksp i_jr i_kr i_ytp i_yrm i_yjr i_tp i_cl i_tol i_ikp i_nw i_vw i_nk i_vk i_mb i_b6 i_sz i_sh i_sl i_sp i_sq i_sc i_sk i_epersons i_epapers i_estamps i_esayings i_efindings i_ewarnings i_equestions i_kpersons i_kpapers i_kstamps i_ksayings i_kfindings i_kwarnings i_kquestions hback hP hD hS (lv_sub hl [0, 1, 2, 3] rfl)
    by_cases c_33_10101 : (xs ki) &&& 63 = 24
    · refine lv_tableIn (tgt := 1174) hx hb dL_law_33 (by rw [c_33_10101]; decide) (by rw [c_33_10101]; decide) (by rw [c_33_10101]; rfl) (by decide) ?_
      exact law_24 hC hK hO hX hL hbl hbA hA hA2 h7 hf0 hf1 hf2 hf3 hf4 hf5 hf6 hf7 hf8 hf9 hf10 hf11 hf12 i_kbpersons i_kbpapers i_kbstamps i_kbversions i_kblines i_kbsteps i_kbsayings i_kbfindings i_kbwarnings i_kbquestions i_kcpersons i_kcpapers i_kcstamps i_kcversions i_kclines i_kcsteps i_kcsayings i_kcfindings i_kcwarnings i_kcquestions i_kt i_ks i_kn i_kln i_ksp i_jr i_kr i_ytp i_yrm i_yjr i_tp i_cl i_tol i_ikp i_nw i_vw i_nk i_vk i_mb i_b6 i_sz i_sh i_sl i_sp i_sq i_sc i_sk i_epersons i_epapers i_estamps i_esayings i_efindings i_ewarnings i_equestions i_kpersons i_kpapers i_kstamps i_ksayings i_kfindings i_kwarnings i_kquestions hback hP hD hS (lv_sub hl [0, 1, 2, 3] rfl)
    by_cases c_33_10102 : (xs ki) &&& 63 = 25
    · refine lv_tableIn (tgt := 1207) hx hb dL_law_33 (by rw [c_33_10102]; decide) (by rw [c_33_10102]; decide) (by rw [c_33_10102]; rfl) (by decide) ?_
      exact law_25 hC hK hO hX hL hbl hbA hA hA2 h7 hf0 hf1 hf2 hf3 hf4 hf5 hf6 hf7 hf8 hf9 hf10 hf11 hf12 i_kbpersons i_kbpapers i_kbstamps i_kbversions i_kblines i_kbsteps i_kbsayings i_kbfindings i_kbwarnings i_kbquestions i_kcpersons i_kcpapers i_kcstamps i_kcversions i_kclines i_kcsteps i_kcsayings i_kcfindings i_kcwarnings i_kcquestions i_kt i_ks i_kn i_kln i_ksp i_jr i_kr i_ytp i_yrm i_yjr i_tp i_cl i_tol i_ikp i_nw i_vw i_nk i_vk i_mb i_b6 i_sz i_sh i_sl i_sp i_sq i_sc i_sk i_epersons i_epapers i_estamps i_esayings i_efindings i_ewarnings i_equestions i_kpersons i_kpapers i_kstamps i_ksayings i_kfindings i_kwarnings i_kquestions hback hP hD hS (lv_sub hl [0, 1, 2, 3] rfl)
    by_cases c_33_10103 : (xs ki) &&& 63 = 26
    · refine lv_tableIn (tgt := 1240) hx hb dL_law_33 (by rw [c_33_10103]; decide) (by rw [c_33_10103]; decide) (by rw [c_33_10103]; rfl) (by decide) ?_
      exact law_26 hC hK hO hX hL hbl hbA hA hA2 h7 hf0 hf1 hf2 hf3 hf4 hf5 hf6 hf7 hf8 hf9 hf10 hf11 hf12 i_kbpersons i_kbpapers i_kbstamps i_kbversions i_kblines i_kbsteps i_kbsayings i_kbfindings i_kbwarnings i_kbquestions i_kcpersons i_kcpapers i_kcstamps i_kcversions i_kclines i_kcsteps i_kcsayings i_kcfindings i_kcwarnings i_kcquestions i_kt i_ks i_kn i_kln i_ksp i_jr i_kr i_ytp i_yrm i_yjr i_tp i_cl i_tol i_ikp i_nw i_vw i_nk i_vk i_mb i_b6 i_sz i_sh i_sl i_sp i_sq i_sc i_sk i_epersons i_epapers i_estamps i_esayings i_efindings i_ewarnings i_equestions i_kpersons i_kpapers i_kstamps i_ksayings i_kfindings i_kwarnings i_kquestions hback hP hD hS (lv_sub hl [0, 1, 2, 3] rfl)
    by_cases c_33_10104 : (xs ki) &&& 63 = 27
    · refine lv_tableIn (tgt := 1273) hx hb dL_law_33 (by rw [c_33_10104]; decide) (by rw [c_33_10104]; decide) (by rw [c_33_10104]; rfl) (by decide) ?_
      exact law_27 hC hK hO hX hL hbl hbA hA hA2 h7 hf0 hf1 hf2 hf3 hf4 hf5 hf6 hf7 hf8 hf9 hf10 hf11 hf12 i_kbpersons i_kbpapers i_kbstamps i_kbversions i_kblines i_kbsteps i_kbsayings i_kbfindings i_kbwarnings i_kbquestions i_kcpersons i_kcpapers i_kcstamps i_kcversions i_kclines i_kcsteps i_kcsayings i_kcfindings i_kcwarnings i_kcquestions i_kt i_ks i_kn i_kln i_ksp i_jr i_kr i_ytp i_yrm i_yjr i_tp i_cl i_tol i_ikp i_nw i_vw i_nk i_vk i_mb i_b6 i_sz i_sh i_sl i_sp i_sq i_sc i_sk i_epersons i_epapers i_estamps i_esayings i_efindings i_ewarnings i_equestions i_kpersons i_kpapers i_kstamps i_ksayings i_kfindings i_kwarnings i_kquestions hback hP hD hS (lv_sub hl [0, 1, 2, 3] rfl)
    by_cases c_33_10105 : (xs ki) &&& 63 = 28
    · refine lv_tableIn (tgt := 1296) hx hb dL_law_33 (by rw [c_33_10105]; decide) (by rw [c_33_10105]; decide) (by rw [c_33_10105]; rfl) (by decide) ?_
      exact law_28 hC hK hO hX hL hbl hbA hA hA2 h7 hf0 hf1 hf2 hf3 hf4 hf5 hf6 hf7 hf8 hf9 hf10 hf11 hf12 i_kbpersons i_kbpapers i_kbstamps i_kbversions i_kblines i_kbsteps i_kbsayings i_kbfindings i_kbwarnings i_kbquestions i_kcpersons i_kcpapers i_kcstamps i_kcversions i_kclines i_kcsteps i_kcsayings i_kcfindings i_kcwarnings i_kcquestions i_kt i_ks i_kn i_kln i_ksp i_jr i_kr i_ytp i_yrm i_yjr i_tp i_cl i_tol i_ikp i_nw i_vw i_nk i_vk i_mb i_b6 i_sz i_sh i_sl i_sp i_sq i_sc i_sk i_epersons i_epapers i_estamps i_esayings i_efindings i_ewarnings i_equestions i_kpersons i_kpapers i_kstamps i_ksayings i_kfindings i_kwarnings i_kquestions hback hP hD hS (lv_sub hl [0, 1, 2, 3] rfl)
    by_cases c_33_10106 : (xs ki) &&& 63 = 29
    · refine lv_tableIn (tgt := 1329) hx hb dL_law_33 (by rw [c_33_10106]; decide) (by rw [c_33_10106]; decide) (by rw [c_33_10106]; rfl) (by decide) ?_
      exact law_29 hC hK hO hX hL hbl hbA hA hA2 h7 hf0 hf1 hf2 hf3 hf4 hf5 hf6 hf7 hf8 hf9 hf10 hf11 hf12 i_kbpersons i_kbpapers i_kbstamps i_kbversions i_kblines i_kbsteps i_kbsayings i_kbfindings i_kbwarnings i_kbquestions i_kcpersons i_kcpapers i_kcstamps i_kcversions i_kclines i_kcsteps i_kcsayings i_kcfindings i_kcwarnings i_kcquestions i_kt i_ks i_kn i_kln i_ksp i_jr i_kr i_ytp i_yrm i_yjr i_tp i_cl i_tol i_ikp i_nw i_vw i_nk i_vk i_mb i_b6 i_sz i_sh i_sl i_sp i_sq i_sc i_sk i_epersons i_epapers i_estamps i_esayings i_efindings i_ewarnings i_equestions i_kpersons i_kpapers i_kstamps i_ksayings i_kfindings i_kwarnings i_kquestions hback hP hD hS (lv_sub hl [0, 1, 2, 3] rfl)
    by_cases c_33_10107 : (xs ki) &&& 63 = 30
    · refine lv_tableIn (tgt := 1372) hx hb dL_law_33 (by rw [c_33_10107]; decide) (by rw [c_33_10107]; decide) (by rw [c_33_10107]; rfl) (by decide) ?_
      exact law_30 hC hK hO hX hL hbl hbA hA hA2 h7 hf0 hf1 hf2 hf3 hf4 hf5 hf6 hf7 hf8 hf9 hf10 hf11 hf12 i_kbpersons i_kbpapers i_kbstamps i_kbversions i_kblines i_kbsteps i_kbsayings i_kbfindings i_kbwarnings i_kbquestions i_kcpersons i_kcpapers i_kcstamps i_kcversions i_kclines i_kcsteps i_kcsayings i_kcfindings i_kcwarnings i_kcquestions i_kt i_ks i_kn i_kln i_ksp i_jr i_kr i_ytp i_yrm i_yjr i_tp i_cl i_tol i_ikp i_nw i_vw i_nk i_vk i_mb i_b6 i_sz i_sh i_sl i_sp i_sq i_sc i_sk i_epersons i_epapers i_estamps i_esayings i_efindings i_ewarnings i_equestions i_kpersons i_kpapers i_kstamps i_ksayings i_kfindings i_kwarnings i_kquestions hback hP hD hS (lv_sub hl [0, 1, 2, 3] rfl)
    by_cases c_33_10108 : (xs ki) &&& 63 = 31
    · refine lv_tableIn (tgt := 1385) hx hb dL_law_33 (by rw [c_33_10108]; decide) (by rw [c_33_10108]; decide) (by rw [c_33_10108]; rfl) (by decide) ?_
      exact law_31 hC hK hO hX hL hbl hbA hA hA2 h7 hf0 hf1 hf2 hf3 hf4 hf5 hf6 hf7 hf8 hf9 hf10 hf11 hf12 i_kbpersons i_kbpapers i_kbstamps i_kbversions i_kblines i_kbsteps i_kbsayings i_kbfindings i_kbwarnings i_kbquestions i_kcpersons i_kcpapers i_kcstamps i_kcversions i_kclines i_kcsteps i_kcsayings i_kcfindings i_kcwarnings i_kcquestions i_kt i_ks i_kn i_kln i_ksp i_jr i_kr i_ytp i_yrm i_yjr i_tp i_cl i_tol i_ikp i_nw i_vw i_nk i_vk i_mb i_b6 i_sz i_sh i_sl i_sp i_sq i_sc i_sk i_epersons i_epapers i_estamps i_esayings i_efindings i_ewarnings i_equestions i_kpersons i_kpapers i_kstamps i_ksayings i_kfindings i_kwarnings i_kquestions hback hP hD hS (lv_sub hl [0, 1, 2, 3] rfl)
    by_cases c_33_10109 : (xs ki) &&& 63 = 32
    · refine lv_tableIn (tgt := 1398) hx hb dL_law_33 (by rw [c_33_10109]; decide) (by rw [c_33_10109]; decide) (by rw [c_33_10109]; rfl) (by decide) ?_
      exact law_32 hC hK hO hX hL hbl hbA hA hA2 h7 hf0 hf1 hf2 hf3 hf4 hf5 hf6 hf7 hf8 hf9 hf10 hf11 hf12 i_kbpersons i_kbpapers i_kbstamps i_kbversions i_kblines i_kbsteps i_kbsayings i_kbfindings i_kbwarnings i_kbquestions i_kcpersons i_kcpapers i_kcstamps i_kcversions i_kclines i_kcsteps i_kcsayings i_kcfindings i_kcwarnings i_kcquestions i_kt i_ks i_kn i_kln i_ksp i_jr i_kr i_ytp i_yrm i_yjr i_tp i_cl i_tol i_ikp i_nw i_vw i_nk i_vk i_mb i_b6 i_sz i_sh i_sl i_sp i_sq i_sc i_sk i_epersons i_epapers i_estamps i_esayings i_efindings i_ewarnings i_equestions i_kpersons i_kpapers i_kstamps i_ksayings i_kfindings i_kwarnings i_kquestions hback hP hD hS (lv_sub hl [0, 1, 2, 3] rfl)
    by_cases c_33_10110 : (xs ki) &&& 63 = 33
    · refine lv_tableIn (tgt := 1441) hx hb dL_law_33 (by rw [c_33_10110]; decide) (by rw [c_33_10110]; decide) (by rw [c_33_10110]; rfl) (by decide) ?_
      exact law_33 hC hK hO hX hL hbl hbA hA hA2 h7 hf0 hf1 hf2 hf3 hf4 hf5 hf6 hf7 hf8 hf9 hf10 hf11 hf12 i_kbpersons i_kbpapers i_kbstamps i_kbversions i_kblines i_kbsteps i_kbsayings i_kbfindings i_kbwarnings i_kbquestions i_kcpersons i_kcpapers i_kcstamps i_kcversions i_kclines i_kcsteps i_kcsayings i_kcfindings i_kcwarnings i_kcquestions i_kt i_ks i_kn i_kln i_ksp i_jr i_kr i_ytp i_yrm i_yjr i_tp i_cl i_tol i_ikp i_nw i_vw i_nk i_vk i_mb i_b6 i_sz i_sh i_sl i_sp i_sq i_sc i_sk i_epersons i_epapers i_estamps i_esayings i_efindings i_ewarnings i_equestions i_kpersons i_kpapers i_kstamps i_ksayings i_kfindings i_kwarnings i_kquestions hback hP hD hS (lv_sub hl [0, 1, 2, 3] rfl)
    by_cases c_33_10111 : (xs ki) &&& 63 = 34
    · refine lv_tableIn (tgt := 1484) hx hb dL_law_33 (by rw [c_33_10111]; decide) (by rw [c_33_10111]; decide) (by rw [c_33_10111]; rfl) (by decide) ?_
      exact law_34 hC hK hO hX hL hbl hbA hA hA2 h7 hf0 hf1 hf2 hf3 hf4 hf5 hf6 hf7 hf8 hf9 hf10 hf11 hf12 i_kbpersons i_kbpapers i_kbstamps i_kbversions i_kblines i_kbsteps i_kbsayings i_kbfindings i_kbwarnings i_kbquestions i_kcpersons i_kcpapers i_kcstamps i_kcversions i_kclines i_kcsteps i_kcsayings i_kcfindings i_kcwarnings i_kcquestions i_kt i_ks i_kn i_kln i_ksp i_jr i_kr i_ytp i_yrm i_yjr i_tp i_cl i_tol i_ikp i_nw i_vw i_nk i_vk i_mb i_b6 i_sz i_sh i_sl i_sp i_sq i_sc i_sk i_epersons i_epapers i_estamps i_esayings i_efindings i_ewarnings i_equestions i_kpersons i_kpapers i_kstamps i_ksayings i_kfindings i_kwarnings i_kquestions hback hP hD hS (lv_sub hl [0, 1, 2, 3] rfl)
    by_cases c_33_10112 : (xs ki) &&& 63 = 35
    · refine lv_tableIn (tgt := 1527) hx hb dL_law_33 (by rw [c_33_10112]; decide) (by rw [c_33_10112]; decide) (by rw [c_33_10112]; rfl) (by decide) ?_
      exact law_35 hC hK hO hX hL hbl hbA hA hA2 h7 hf0 hf1 hf2 hf3 hf4 hf5 hf6 hf7 hf8 hf9 hf10 hf11 hf12 i_kbpersons i_kbpapers i_kbstamps i_kbversions i_kblines i_kbsteps i_kbsayings i_kbfindings i_kbwarnings i_kbquestions i_kcpersons i_kcpapers i_kcstamps i_kcversions i_kclines i_kcsteps i_kcsayings i_kcfindings i_kcwarnings i_kcquestions i_kt i_ks i_kn i_kln i_ksp i_jr i_kr i_ytp i_yrm i_yjr i_tp i_cl i_tol i_ikp i_nw i_vw i_nk i_vk i_mb i_b6 i_sz i_sh i_sl i_sp i_sq i_sc i_sk i_epersons i_epapers i_estamps i_esayings i_efindings i_ewarnings i_equestions i_kpersons i_kpapers i_kstamps i_ksayings i_kfindings i_kwarnings i_kquestions hback hP hD hS (lv_sub hl [0, 1, 2, 3] rfl)
    by_cases c_33_10113 : (xs ki) &&& 63 = 36
    · refine lv_tableIn (tgt := 1570) hx hb dL_law_33 (by rw [c_33_10113]; decide) (by rw [c_33_10113]; decide) (by rw [c_33_10113]; rfl) (by decide) ?_
      exact law_36 hC hK hO hX hL hbl hbA hA hA2 h7 hf0 hf1 hf2 hf3 hf4 hf5 hf6 hf7 hf8 hf9 hf10 hf11 hf12 i_kbpersons i_kbpapers i_kbstamps i_kbversions i_kblines i_kbsteps i_kbsayings i_kbfindings i_kbwarnings i_kbquestions i_kcpersons i_kcpapers i_kcstamps i_kcversions i_kclines i_kcsteps i_kcsayings i_kcfindings i_kcwarnings i_kcquestions i_kt i_ks i_kn i_kln i_ksp i_jr i_kr i_ytp i_yrm i_yjr i_tp i_cl i_tol i_ikp i_nw i_vw i_nk i_vk i_mb i_b6 i_sz i_sh i_sl i_sp i_sq i_sc i_sk i_epersons i_epapers i_estamps i_esayings i_efindings i_ewarnings i_equestions i_kpersons i_kpapers i_kstamps i_ksayings i_kfindings i_kwarnings i_kquestions hback hP hD hS (lv_sub hl [0, 1, 2, 3] rfl)
    by_cases c_33_10114 : (xs ki) &&& 63 = 37
    · refine lv_tableIn (tgt := 1603) hx hb dL_law_33 (by rw [c_33_10114]; decide) (by rw [c_33_10114]; decide) (by rw [c_33_10114]; rfl) (by decide) ?_
      exact law_37 hC hK hO hX hL hbl hbA hA hA2 h7 hf0 hf1 hf2 hf3 hf4 hf5 hf6 hf7 hf8 hf9 hf10 hf11 hf12 i_kbpersons i_kbpapers i_kbstamps i_kbversions i_kblines i_kbsteps i_kbsayings i_kbfindings i_kbwarnings i_kbquestions i_kcpersons i_kcpapers i_kcstamps i_kcversions i_kclines i_kcsteps i_kcsayings i_kcfindings i_kcwarnings i_kcquestions i_kt i_ks i_kn i_kln i_ksp i_jr i_kr i_ytp i_yrm i_yjr i_tp i_cl i_tol i_ikp i_nw i_vw i_nk i_vk i_mb i_b6 i_sz i_sh i_sl i_sp i_sq i_sc i_sk i_epersons i_epapers i_estamps i_esayings i_efindings i_ewarnings i_equestions i_kpersons i_kpapers i_kstamps i_ksayings i_kfindings i_kwarnings i_kquestions hback hP hD hS (lv_sub hl [0, 1, 2, 3] rfl)
    by_cases c_33_10115 : (xs ki) &&& 63 = 38
    · refine lv_tableIn (tgt := 1646) hx hb dL_law_33 (by rw [c_33_10115]; decide) (by rw [c_33_10115]; decide) (by rw [c_33_10115]; rfl) (by decide) ?_
      exact law_38 hC hK hO hX hL hbl hbA hA hA2 h7 hf0 hf1 hf2 hf3 hf4 hf5 hf6 hf7 hf8 hf9 hf10 hf11 hf12 i_kbpersons i_kbpapers i_kbstamps i_kbversions i_kblines i_kbsteps i_kbsayings i_kbfindings i_kbwarnings i_kbquestions i_kcpersons i_kcpapers i_kcstamps i_kcversions i_kclines i_kcsteps i_kcsayings i_kcfindings i_kcwarnings i_kcquestions i_kt i_ks i_kn i_kln i_ksp i_jr i_kr i_ytp i_yrm i_yjr i_tp i_cl i_tol i_ikp i_nw i_vw i_nk i_vk i_mb i_b6 i_sz i_sh i_sl i_sp i_sq i_sc i_sk i_epersons i_epapers i_estamps i_esayings i_efindings i_ewarnings i_equestions i_kpersons i_kpapers i_kstamps i_ksayings i_kfindings i_kwarnings i_kquestions hback hP hD hS (lv_sub hl [0, 1, 2, 3] rfl)
    by_cases c_33_10116 : (xs ki) &&& 63 = 39
    · refine lv_tableIn (tgt := 1669) hx hb dL_law_33 (by rw [c_33_10116]; decide) (by rw [c_33_10116]; decide) (by rw [c_33_10116]; rfl) (by decide) ?_
      exact law_39 hC hK hO hX hL hbl hbA hA hA2 h7 hf0 hf1 hf2 hf3 hf4 hf5 hf6 hf7 hf8 hf9 hf10 hf11 hf12 i_kbpersons i_kbpapers i_kbstamps i_kbversions i_kblines i_kbsteps i_kbsayings i_kbfindings i_kbwarnings i_kbquestions i_kcpersons i_kcpapers i_kcstamps i_kcversions i_kclines i_kcsteps i_kcsayings i_kcfindings i_kcwarnings i_kcquestions i_kt i_ks i_kn i_kln i_ksp i_jr i_kr i_ytp i_yrm i_yjr i_tp i_cl i_tol i_ikp i_nw i_vw i_nk i_vk i_mb i_b6 i_sz i_sh i_sl i_sp i_sq i_sc i_sk i_epersons i_epapers i_estamps i_esayings i_efindings i_ewarnings i_equestions i_kpersons i_kpapers i_kstamps i_ksayings i_kfindings i_kwarnings i_kquestions hback hP hD hS (lv_sub hl [0, 1, 2, 3] rfl)
    by_cases c_33_10117 : (xs ki) &&& 63 = 40
    · refine lv_tableIn (tgt := 1692) hx hb dL_law_33 (by rw [c_33_10117]; decide) (by rw [c_33_10117]; decide) (by rw [c_33_10117]; rfl) (by decide) ?_
      exact law_40 hC hK hO hX hL hbl hbA hA hA2 h7 hf0 hf1 hf2 hf3 hf4 hf5 hf6 hf7 hf8 hf9 hf10 hf11 hf12 i_kbpersons i_kbpapers i_kbstamps i_kbversions i_kblines i_kbsteps i_kbsayings i_kbfindings i_kbwarnings i_kbquestions i_kcpersons i_kcpapers i_kcstamps i_kcversions i_kclines i_kcsteps i_kcsayings i_kcfindings i_kcwarnings i_kcquestions i_kt i_ks i_kn i_kln i_ksp i_jr i_kr i_ytp i_yrm i_yjr i_tp i_cl i_tol i_ikp i_nw i_vw i_nk i_vk i_mb i_b6 i_sz i_sh i_sl i_sp i_sq i_sc i_sk i_epersons i_epapers i_estamps i_esayings i_efindings i_ewarnings i_equestions i_kpersons i_kpapers i_kstamps i_ksayings i_kfindings i_kwarnings i_kquestions hback hP hD hS (lv_sub hl [0, 1, 2, 3] rfl)
    by_cases c_33_10118 : (xs ki) &&& 63 = 41
    · refine lv_tableIn (tgt := 1705) hx hb dL_law_33 (by rw [c_33_10118]; decide) (by rw [c_33_10118]; decide) (by rw [c_33_10118]; rfl) (by decide) ?_
      exact law_41 hC hK hO hX hL hbl hbA hA hA2 h7 hf0 hf1 hf2 hf3 hf4 hf5 hf6 hf7 hf8 hf9 hf10 hf11 hf12 i_kbpersons i_kbpapers i_kbstamps i_kbversions i_kblines i_kbsteps i_kbsayings i_kbfindings i_kbwarnings i_kbquestions i_kcpersons i_kcpapers i_kcstamps i_kcversions i_kclines i_kcsteps i_kcsayings i_kcfindings i_kcwarnings i_kcquestions i_kt i_ks i_kn i_kln i_ksp i_jr i_kr i_ytp i_yrm i_yjr i_tp i_cl i_tol i_ikp i_nw i_vw i_nk i_vk i_mb i_b6 i_sz i_sh i_sl i_sp i_sq i_sc i_sk i_epersons i_epapers i_estamps i_esayings i_efindings i_ewarnings i_equestions i_kpersons i_kpapers i_kstamps i_ksayings i_kfindings i_kwarnings i_kquestions hback hP hD hS (lv_sub hl [0, 1, 2, 3] rfl)
    refine lv_tableOut (tgt := 1718) hx hb dL_law_33 (by have q9 := sw_0_41 (x := (xs ki) &&& 63); simp only [c_33_10077, c_33_10078, c_33_10079, c_33_10080, c_33_10081, c_33_10082, c_33_10083, c_33_10084, c_33_10085, c_33_10086, c_33_10087, c_33_10088, c_33_10089, c_33_10090, c_33_10091, c_33_10092, c_33_10093, c_33_10094, c_33_10095, c_33_10096, c_33_10097, c_33_10098, c_33_10099, c_33_10100, c_33_10101, c_33_10102, c_33_10103, c_33_10104, c_33_10105, c_33_10106, c_33_10107, c_33_10108, c_33_10109, c_33_10110, c_33_10111, c_33_10112, c_33_10113, c_33_10114, c_33_10115, c_33_10116, c_33_10117, c_33_10118, not_false_eq_true, true_implies] at q9; exact q9) (by decide) ?_
    exact hback kbpersons kbpapers kbstamps kbversions kblines kbsteps kbsayings kbfindings kbwarnings kbquestions kcpersons kcpapers kcstamps kcversions kclines kcsteps kcsayings kcfindings kcwarnings kcquestions kt ks kn kln ksp jr kr ytp yrm yjr ikp td vd vl gp ktd kvd kvl kgp tkd tf9 dk dn dp da dq cl bo le bi r1 rc rh tf tt9 tl tbv asd st9 tol mroundOf mroundFrom mfromHour mtoHour mfrom mto msort misFault mdeep mcoded mlines mbestCost mdealer mnumber mwhose msize misParted fbpersons fbpapers fbstamps fbversions fblines fbsteps fbsayings fbfindings fbwarnings fbquestions fcpersons fcpapers fcstamps fcversions fclines fcsteps fcsayings fcfindings fcwarnings fcquestions fby ftln ftsp fhw fhn ftr fhs fhz fhi fclm ffi fla fml fmm fsl fsm fk0 fk1 fk2 fk3 fk4 fk5 fk6 fk7 fk8 fk9 fk10 fk11 fk12 ffc fsh frr ftc fht y_nw y_nk y_nt y_nr y_nm y_ns y_nl y_nc y_np y_ntr y_nb y_nso y_nsi y_nit y_nsh y_nsf y_nss y_nrc H locs ls i_kbpersons i_kbpapers i_kbstamps i_kbversions i_kblines i_kbsteps i_kbsayings i_kbfindings i_kbwarnings i_kbquestions i_kcpersons i_kcpapers i_kcstamps i_kcversions i_kclines i_kcsteps i_kcsayings i_kcfindings i_kcwarnings i_kcquestions i_kt i_ks i_kn i_kln i_ksp i_jr i_kr i_ytp i_yrm i_yjr i_tp i_cl i_tol i_ikp i_nw i_vw i_nk i_vk i_mb i_b6 i_sz i_sh i_sl i_sp i_sq i_sc i_sk i_epersons i_epapers i_estamps i_esayings i_efindings i_ewarnings i_equestions i_kpersons i_kpapers i_kstamps i_ksayings i_kfindings i_kwarnings i_kquestions hP hD hS (lv_sub hl [0, 1, 2, 3] rfl)
section WR
variable {p : Program} {l : Launch} {e : Env} {R : Room} {s : State} {m : MethodId} {args : Array Value} {below : List Frame} {meth : Method} {c : Code} {H : Heap} {locs : List Loc} {cells slots : Nat} {Q : State → Prop}
variable {pc : Nat} {ls : Array Slot} {rest : List Value} {G : GG} {ws : va_W} {A : Nat → Prop} {y0 : MethodName} {b0 : ByteArray} {mL0 : Nat} {rt0 : Option FieldType} {a : Nat} {H0 : Heap}
end WR
theorem nI_z {k : Nat} (hk : k < 2 ^ 31) (h : nI k = 0) : k = 0 := (nI_eq (b := 0) hk (by decide)).mp h
section WR
variable {p : Program} {l : Launch} {e : Env} {R : Room} {s : State} {m : MethodId} {args : Array Value} {below : List Frame} {meth : Method} {c : Code} {H : Heap} {locs : List Loc} {cells slots : Nat} {Q : State → Prop}
variable {pc : Nat} {ls : Array Slot} {rest : List Value} {G : GG} {ws : va_W} {A : Nat → Prop} {y0 : MethodName} {b0 : ByteArray} {mL0 : Nat} {rt0 : Option FieldType} {a : Nat} {H0 : Heap}
end WR
theorem Wi_j {j N : Nat} {b : Int32} (hb : b = nI N) (hN : N < 2 ^ 31) (h : j ≤ N) : Wi (nI j) 0 b := by
  subst hb
  rw [Wi_iff, nI_toInt (by omega), nI_toInt hN]
  have e0 : (0 : Int32).toInt = 0 := by decide
  omega
section WR
variable {p : Program} {l : Launch} {e : Env} {R : Room} {s : State} {m : MethodId} {args : Array Value} {below : List Frame} {meth : Method} {c : Code} {H : Heap} {locs : List Loc} {cells slots : Nat} {Q : State → Prop}
variable {pc : Nat} {ls : Array Slot} {rest : List Value} {G : GG} {ws : va_W} {A : Nat → Prop} {y0 : MethodName} {b0 : ByteArray} {mL0 : Nat} {rt0 : Option FieldType} {a : Nat} {H0 : Heap}
end WR
theorem tatq {W j k c : Nat} {f : Nat → Int32} {col : Int32} (hj : j < k) (hk : k < 2 ^ 31) (hc : c < W) (hW : W < 2 ^ 31) (ec : col = nI c) : tat W f k (nI j) col = f (j * W + c) := by
  subst ec
  unfold tat
  rw [ifc_t ⟨nI_pos (by omega), fun h => by rw [nI_leI (by omega) (by omega)] at h; omega, nI_pos (by omega), nI_lt hc hW⟩, nI_clamp (by omega), nI_clamp (by omega)]
/-- stamps as they are laid: paper, clock, hour -/
def SVL (ft : Nat → Int32) (n : Nat) : Prop := ∀ s, s < n → (∃ p, p < 12 ∧ ft (s * 3 + 0) = nI p) ∧ (∃ c, c < 6 ∧ ft (s * 3 + 1) = nI c) ∧ 0 ≤ (ft (s * 3 + 2)).toInt ∧ (ft (s * 3 + 2)).toInt ≤ 999
def GPR (g : Int32) : Prop := 0 ≤ g.toInt ∧ g.toInt ≤ 99
/-- what a stamp behind another one binds -/
def KFO (K : Nat → Nat → Int → Prop) (ft : Nat → Int32) (gp : Int) (s0 n : Nat) : Nat → Nat → Int → Prop := KAD (KAD K (CKS ft s0) (CKS ft n) (HRS ft n - HRS ft s0)) (CKS ft n) (CKS ft s0) (gp - (HRS ft n - HRS ft s0))
theorem KFO.mk {K : Nat → Nat → Int → Prop} {ft : Nat → Int32} {gp : Int32} {ja jb ca cb : Nat} (ea : ft (ja * 3 + 1) = nI ca) (eb : ft (jb * 3 + 1) = nI cb) (ha : ca < 6) (hb : cb < 6) (a0 : 0 ≤ (ft (ja * 3 + 2)).toInt) (a9 : (ft (ja * 3 + 2)).toInt ≤ 999) (b0 : 0 ≤ (ft (jb * 3 + 2)).toInt) (b9 : (ft (jb * 3 + 2)).toInt ≤ 999) (hg : GPR gp) : KFO K ft gp.toInt ja jb = KAD (KAD K ca cb (ft (jb * 3 + 2) - ft (ja * 3 + 2)).toInt) cb ca (gp - (ft (jb * 3 + 2) - ft (ja * 3 + 2))).toInt := by
  have h1 := ti_sb (x := ft (jb * 3 + 2)) (y := ft (ja * 3 + 2)) (by omega) (by omega) (by omega) (by omega)
  have h2 := ti_sb (x := gp) (y := ft (jb * 3 + 2) - ft (ja * 3 + 2)) (by have := hg.1; omega) (by have := hg.2; omega) (by omega) (by omega)
  unfold KFO CKS HRS
  rw [ea, eb, nI_clamp (by omega), nI_clamp (by omega), h2, h1]
section WR
variable {p : Program} {l : Launch} {e : Env} {R : Room} {s : State} {m : MethodId} {args : Array Value} {below : List Frame} {meth : Method} {c : Code} {H : Heap} {locs : List Loc} {cells slots : Nat} {Q : State → Prop}
variable {pc : Nat} {ls : Array Slot} {rest : List Value} {G : GG} {ws : va_W} {A : Nat → Prop} {y0 : MethodName} {b0 : ByteArray} {mL0 : Nat} {rt0 : Option FieldType} {a : Nat} {H0 : Heap}
end WR
/-- what the papers that are asked of are -/
def VPP (pp : Int32) : Nat → Prop := fun p => HB pp (nI p)
def AFI (ft : Nat → Int32) (V : Nat → Prop) (k : Nat) (f : Nat → Int32) : Prop := ∀ p, p < 12 → FIS ft V k p (f p)
def ALA (ft : Nat → Int32) (V : Nat → Prop) (k : Nat) (f : Nat → Int32) : Prop := ∀ p, p < 12 → LAS ft V k p (f p)
/-- the first papers are unseen -/
def M1P (k : Nat) (f g : Nat → Int32) : Prop := ∀ p, p < k → f p = (-1) ∧ g p = (-1)
theorem M1P.zero {f g : Nat → Int32} : M1P 0 f g := fun p h => absurd h (Nat.not_lt_zero p)
theorem M1P.next {k : Nat} {f g : Nat → Int32} (h : M1P k f g) : M1P (k + 1) (upd f k (-1)) (upd g k (-1)) := by
  intro p hp
  unfold upd
  by_cases c : p = k
  · rw [if_pos c, if_pos c]; exact ⟨rfl, rfl⟩
  · rw [if_neg c, if_neg c]; exact h p (by omega)
theorem AFI.zero {ft : Nat → Int32} {V : Nat → Prop} {f g : Nat → Int32} (h : M1P 12 f g) : AFI ft V 0 f := fun p hp => by rw [(h p hp).1]; exact FIS.zero
theorem ALA.zero {ft : Nat → Int32} {V : Nat → Prop} {f g : Nat → Int32} (h : M1P 12 f g) : ALA ft V 0 g := fun p hp => by rw [(h p hp).2]; exact LAS.zero
theorem nI_inj9 {a b : Nat} (ha : a < 2 ^ 31) (hb : b < 2 ^ 31) (h : nI a = nI b) : a = b := (nI_eq ha hb).mp h
theorem AFI.skip {ft : Nat → Int32} {V : Nat → Prop} {k p : Nat} {f : Nat → Int32} (h : AFI ft V k f) (e : ft (k * 3 + 0) = nI p) (hp : p < 12) (hv : ¬ V p) : AFI ft V (k + 1) f := fun q hq => FIS.skip (h q hq) fun e2 => by
  rw [← nI_inj9 (by omega) (by omega) (e.symm.trans e2)]
  exact hv
theorem ALA.skip {ft : Nat → Int32} {V : Nat → Prop} {k p : Nat} {f : Nat → Int32} (h : ALA ft V k f) (e : ft (k * 3 + 0) = nI p) (hp : p < 12) (hv : ¬ V p) : ALA ft V (k + 1) f := fun q hq => LAS.skip (h q hq) fun e2 => by
  rw [← nI_inj9 (by omega) (by omega) (e.symm.trans e2)]
  exact hv
theorem ALA.put {ft : Nat → Int32} {V : Nat → Prop} {k p : Nat} {f : Nat → Int32} (h : ALA ft V k f) (e : ft (k * 3 + 0) = nI p) (hp : p < 12) (hv : V p) : ALA ft V (k + 1) (upd f p (nI k)) := by
  intro q hq
  unfold upd
  by_cases c : q = p
  · rw [if_pos c, c]
    exact LAS.new e hv
  · rw [if_neg c]
    exact LAS.skip (h q hq) fun e2 => absurd (nI_inj9 (by omega) (by omega) (e2.symm.trans e)) c
theorem LAS.neg {ft : Nat → Int32} {V : Nat → Prop} {k p : Nat} {x : Int32} (h : LAS ft V k p x) (hx : x < 0) (hk : k < 2 ^ 31) : x = (-1) := by
  rcases h with ⟨h1, -⟩ | ⟨s, h1, h2, -⟩
  · exact h1
  · rw [h2] at hx
    exact absurd hx (nI_pos (by omega))
theorem LAS.nneg {x : Int32} (hx : ¬ x < 0) : ¬ x = (-1) := fun e => hx (by rw [e]; decide)
theorem AFI.put {ft : Nat → Int32} {V : Nat → Prop} {k p : Nat} {f g : Nat → Int32} (h : AFI ft V k f) (hl : ALA ft V k g) (hx : g p < 0) (hk : k < 2 ^ 31) (e : ft (k * 3 + 0) = nI p) (hp : p < 12) (hv : V p) : AFI ft V (k + 1) (upd f p (nI k)) := by
  intro q hq
  unfold upd
  by_cases c : q = p
  · rw [if_pos c, c]
    exact FIS.new (hl p hp) ((hl p hp).neg hx hk) hk e hv
  · rw [if_neg c]
    exact FIS.skip (h q hq) fun e2 => absurd (nI_inj9 (by omega) (by omega) (e2.symm.trans e)) c
theorem ALA.seen {ft : Nat → Int32} {V : Nat → Prop} {k p : Nat} {g : Nat → Int32} (h : ALA ft V k g) (hp : p < 12) (hx : ¬ g p < 0) : ∃ s, s < k ∧ g p = nI s ∧ ft (s * 3 + 0) = nI p ∧ V p := by
  rcases h p hp with ⟨h1, -⟩ | ⟨s, h1, h2, h3, h4, -⟩
  · exact absurd h1 (LAS.nneg hx)
  · exact ⟨s, h1, h2, h3, h4⟩
theorem AFI.seen {ft : Nat → Int32} {V : Nat → Prop} {k p : Nat} {f g : Nat → Int32} (h : AFI ft V k f) (hl : ALA ft V k g) (hp : p < 12) (hx : ¬ g p < 0) : ∃ s, s < k ∧ f p = nI s ∧ ft (s * 3 + 0) = nI p := by
  obtain ⟨s, h1, h2, h3, h4⟩ := hl.seen hp hx
  rcases h p hp with ⟨-, h5⟩ | ⟨s2, h5, h6, h7, -⟩
  · exact absurd h4 (h5 s h1 h3)
  · exact ⟨s2, h5, h6, h7⟩
theorem AFI.keep {ft : Nat → Int32} {V : Nat → Prop} {k p : Nat} {f g : Nat → Int32} (h : AFI ft V k f) (hl : ALA ft V k g) (hx : ¬ g p < 0) (hk : k < 2 ^ 31) (e : ft (k * 3 + 0) = nI p) (hp : p < 12) : AFI ft V (k + 1) f := by
  intro q hq
  by_cases c : q = p
  · rw [c]
    obtain ⟨s, h1, h2, -⟩ := h.seen hl hp hx
    exact FIS.keep (h p hp) (LAS.nneg (by rw [h2]; exact nI_pos (by omega)))
  · exact FIS.skip (h q hq) fun e2 => absurd (nI_inj9 (by omega) (by omega) (e2.symm.trans e)) c
/-- a clash, or narrow bounds -/
def CCS (c : Int32) (K : Nat → Nat → Int → Prop) (M : Nat → Nat → Int) : Prop := (c = 0 ∧ CLB K M) ∨ (c = 1 ∧ NOS K)
theorem CCS.zero {ft : Nat → Int32} {V : Nat → Prop} {gp : Int} {M : Nat → Nat → Int} (h : CLO KB M) : CCS 0 (KST ft V gp 0) M := Or.inl ⟨rfl, by rw [KST.zero]; exact h, KST.bas⟩
theorem CCS.get {c : Int32} {K : Nat → Nat → Int → Prop} {M : Nat → Nat → Int} (h : CCS c K M) (hc : c = 0) : CLB K M := by
  rcases h with ⟨-, h⟩ | ⟨h1, -⟩
  · exact h
  · exact absurd (h1.symm.trans hc) (by decide)
theorem CCS.nos {c : Int32} {K : Nat → Nat → Int → Prop} {M : Nat → Nat → Int} (h : CCS c K M) (hc : ¬ c = 0) : c = 1 ∧ NOS K := by
  rcases h with ⟨h1, -⟩ | h
  · exact absurd h1 hc
  · exact h
theorem CCS.b {c : Int32} {K : Nat → Nat → Int → Prop} {M : Nat → Nat → Int} (h : CCS c K M) : c = 0 ∨ c = 1 := by
  rcases h with ⟨h1, -⟩ | ⟨h1, -⟩
  · exact Or.inl h1
  · exact Or.inr h1
theorem CCS.no {c : Int32} {ft : Nat → Int32} {V : Nat → Prop} {gp : Int} {k : Nat} {M : Nat → Nat → Int} (h : CCS c (KST ft V gp k) M) (hn : ∀ s1, ¬ PRC ft V s1 k) : CCS c (KST ft V gp (k + 1)) M := by rw [KST.no hn]; exact h
theorem KST.fo {ft : Nat → Int32} {V : Nat → Prop} {gp : Int} {n s0 : Nat} (h : PRC ft V s0 n) : KST ft V gp (n + 1) = KFO (KST ft V gp n) ft gp s0 n := KST.yes h
theorem CCS.yes1 {ft : Nat → Int32} {V : Nat → Prop} {gp : Int} {k s0 : Nat} {M : Nat → Nat → Int} (hp : PRC ft V s0 k) (h : CLB (KFO (KST ft V gp k) ft gp s0 k) M) : CCS 0 (KST ft V gp (k + 1)) M := Or.inl ⟨rfl, by rw [KST.fo hp]; exact h⟩
theorem CCS.yes0 {ft : Nat → Int32} {V : Nat → Prop} {gp : Int} {k s0 : Nat} {M : Nat → Nat → Int} (hp : PRC ft V s0 k) (h : NOS (KFO (KST ft V gp k) ft gp s0 k)) : CCS 1 (KST ft V gp (k + 1)) M := Or.inr ⟨rfl, by rw [KST.fo hp]; exact h⟩
theorem CCS.stay {c x : Int32} {ft : Nat → Int32} {V : Nat → Prop} {gp : Int} {k : Nat} {M : Nat → Nat → Int} (h : CCS c (KST ft V gp k) M) (hc : ¬ c = 0) (hp : ∃ s, s < k ∧ x = nI s ∧ PRC ft V s k) : CCS c (KST ft V gp (k + 1)) M := by
  obtain ⟨h1, h2⟩ := h.nos hc
  obtain ⟨s, -, -, hp⟩ := hp
  exact Or.inr ⟨h1, by rw [KST.fo hp]; exact h2.ad.ad⟩
/-- the true hour of a stamp, at the least and at the most -/
def TR0 (ft fm : Nat → Int32) (s : Nat) : Int32 := ft (s * 3 + 2) + -(fm (0 * 6 + CKS ft s))
def TR1 (ft fm : Nat → Int32) (s : Nat) : Int32 := ft (s * 3 + 2) + fm (CKS ft s * 6 + 0)
def BHP (ft fm f g a b c d : Nat → Int32) (k : Nat) : Prop := ∀ p, p < k → ¬ g p < 0 → a p = TR0 ft fm (f p).toNatClampNeg ∧ b p = TR1 ft fm (f p).toNatClampNeg ∧ c p = TR0 ft fm (g p).toNatClampNeg ∧ d p = TR1 ft fm (g p).toNatClampNeg
theorem BHP.zero {ft fm f g a b c d : Nat → Int32} : BHP ft fm f g a b c d 0 := fun p h => absurd h (Nat.not_lt_zero p)
theorem BHP.skip {ft fm f g a b c d : Nat → Int32} {k : Nat} (h : BHP ft fm f g a b c d k) (hx : g k < 0) : BHP ft fm f g a b c d (k + 1) := fun p hp hg => by
  by_cases e : p = k
  · rw [e] at hg; exact absurd hx hg
  · exact h p (by omega) hg
theorem BHP.put {ft fm f g a b c d : Nat → Int32} {k s1 s2 : Nat} (h : BHP ft fm f g a b c d k) (e1 : f k = nI s1) (e2 : g k = nI s2) (h1 : s1 < 2 ^ 31) (h2 : s2 < 2 ^ 31) : BHP ft fm f g (upd a k (TR0 ft fm s1)) (upd b k (TR1 ft fm s1)) (upd c k (TR0 ft fm s2)) (upd d k (TR1 ft fm s2)) (k + 1) := fun p hp hg => by
  unfold upd
  by_cases e : p = k
  · rw [if_pos e, if_pos e, if_pos e, if_pos e, e, e1, e2, nI_clamp h1, nI_clamp h2]
    exact ⟨rfl, rfl, rfl, rfl⟩
  · rw [if_neg e, if_neg e, if_neg e, if_neg e]
    exact h p (by omega) hg
/-- what looking at papers tells -/
def LKP (ft : Nat → Int32) (pp gp : Int32) (k : Nat) (c : Int32) (fm f g ml mm sl sm : Nat → Int32) : Prop := CCS c (KST ft (VPP pp) gp.toInt k) (MAT fm) ∧ AFI ft (VPP pp) k f ∧ ALA ft (VPP pp) k g ∧ BHP ft fm f g ml mm sl sm 12
section WR
variable {p : Program} {l : Launch} {e : Env} {R : Room} {s : State} {m : MethodId} {args : Array Value} {below : List Frame} {meth : Method} {c : Code} {H : Heap} {locs : List Loc} {cells slots : Nat} {Q : State → Prop}
variable {pc : Nat} {ls : Array Slot} {rest : List Value} {G : GG} {ws : va_W} {A : Nat → Prop} {y0 : MethodName} {b0 : ByteArray} {mL0 : Nat} {rt0 : Option FieldType} {a : Nat} {H0 : Heap}
end WR
theorem HB.no {f : Nat → Int32} {td vd vl : Int32} {n p : Nat} (hn : n ≤ 12) (hp : ¬ p < n) (h12 : p < 12) : ¬ HB (IVW f td vd vl n) (nI p) := by
  obtain ⟨j, hj, e⟩ := IVW.nat (f := f) (td := td) (vd := vd) (vl := vl) n hn
  have h2 : 2 ^ n ≤ 2 ^ p := Nat.pow_le_pow_right (by decide) (by omega)
  have h3 : (2 : Nat) ^ p ≤ 2 ^ 12 := Nat.pow_le_pow_right (by decide) (by omega)
  have h4 : (2 : Nat) ^ 12 = 4096 := by decide
  have h5 := (sh13 ⟨p, by omega⟩).2.1
  have h6 : j / 2 ^ p = 0 := Nat.div_eq_of_lt (by omega)
  have h9 : j / 2 ^ p ≤ j := Nat.div_le_self _ _
  have h7 : (nI j >>> (nI p &&& 31)) &&& 1 = nI (j / 2 ^ p % 2) := by
    rw [pk_shrN (by omega) _ p h5]
    exact pk_andN (by omega) 1 (by decide)
  intro h
  have h8 := h.2.2
  rw [e, h7, h6] at h8
  exact absurd h8 (by decide)
theorem CLB.eq {K : Nat → Nat → Int → Prop} {f g : Nat → Int32} (h1 : CLB K (MAT f)) (h2 : CLB K (MAT g)) {a b : Nat} (ha : a < 6) (hb : b < 6) : f (a * 6 + b) = g (a * 6 + b) := Int32.toInt_inj.mp (h1.1.uniq h2.1 ha hb)
/-- how far a clock may be ahead, as it is answered -/
def SPQ (K : Nat → Nat → Int → Prop) (x1 x2 r : Int32) : Prop := (¬ Wi x1 0 5 ∧ r = (-1)) ∨ (Wi x1 0 5 ∧ NOS K ∧ r = (-4)) ∨ (Wi x1 0 5 ∧ ∃ f : Nat → Int32, CLB K (MAT f) ∧ ((x2 = 0 ∧ r = -(f (x1.toNatClampNeg * 6 + 0)) + 1000) ∨ (¬ x2 = 0 ∧ r = f (0 * 6 + x1.toNatClampNeg) + 1000)))
theorem SPQ.uniq {K : Nat → Nat → Int → Prop} {x1 x2 r s : Int32} (h1 : SPQ K x1 x2 r) (h2 : SPQ K x1 x2 s) : r = s := by
  rcases h1 with ⟨a, b⟩ | ⟨a, b, c⟩ | ⟨a, f, b, c⟩
  · rcases h2 with ⟨a2, b2⟩ | ⟨a2, b2, c2⟩ | ⟨a2, g, b2, c2⟩
    · exact b.trans b2.symm
    · exact absurd a2 a
    · exact absurd a2 a
  · rcases h2 with ⟨a2, b2⟩ | ⟨a2, b2, c2⟩ | ⟨a2, g, b2, c2⟩
    · exact absurd a a2
    · exact c.trans c2.symm
    · exact absurd b b2.nos
  · rcases h2 with ⟨a2, b2⟩ | ⟨a2, b2, c2⟩ | ⟨a2, g, b2, c2⟩
    · exact absurd a a2
    · exact absurd b2 b.nos
    · obtain ⟨j, hj, e⟩ := Wi5 a
      have ej : x1.toNatClampNeg = j := by rw [e, nI_clamp (by omega)]
      rw [ej] at c c2
      have q1 := b.eq b2 hj (show 0 < 6 by decide)
      have q2 := b.eq b2 (show 0 < 6 by decide) hj
      rcases c with ⟨c, d⟩ | ⟨c, d⟩
      · rcases c2 with ⟨c2, d2⟩ | ⟨c2, d2⟩
        · rw [d, d2, q1]
        · exact absurd c c2
      · rcases c2 with ⟨c2, d2⟩ | ⟨c2, d2⟩
        · exact absurd c2 c
        · rw [d, d2, q2]
theorem SPQ.uq {K L : Nat → Nat → Int → Prop} {x1 x2 r s : Int32} (h1 : SPQ K x1 x2 r) (h2 : SPQ L x1 x2 s) (e : K = L) : r = s := by
  subst e
  exact h1.uniq h2
theorem GPR.gap {n g g1 : Int32} (h : GPR g) (e : ifc (Wi n 0 99) n g = g1) : GPR g1 := by
  subst e
  by_cases c : Wi n 0 99
  · rw [ifc_t c]
    have h1 := Wi_iff.mp c
    have e0 : (0 : Int32).toInt = 0 := by decide
    have e9 : (99 : Int32).toInt = 99 := by decide
    rw [e0, e9] at h1
    exact h1
  · rw [ifc_f c]
    exact h
section WR
variable {p : Program} {l : Launch} {e : Env} {R : Room} {s : State} {m : MethodId} {args : Array Value} {below : List Frame} {meth : Method} {c : Code} {H : Heap} {locs : List Loc} {cells slots : Nat} {Q : State → Prop}
variable {pc : Nat} {ls : Array Slot} {rest : List Value} {G : GG} {ws : va_W} {A : Nat → Prop} {y0 : MethodName} {b0 : ByteArray} {mL0 : Nat} {rt0 : Option FieldType} {a : Nat} {H0 : Heap}
end WR
theorem Hs.of {p k : Nat} (h : p < k) (hk : k < 2 ^ 31) : Hs (nI p) k := ⟨nI_pos (by omega), fun h9 => by
  rw [nI_leI hk (by omega)] at h9
  omega⟩
/-- the last stamp of a paper; the first one -/
def LST (ft : Nat → Int32) (k p s : Nat) : Prop := s < k ∧ ft (s * 3 + 0) = nI p ∧ ∀ s2, s < s2 → s2 < k → ¬ ft (s2 * 3 + 0) = nI p
def FST (ft : Nat → Int32) (k p s : Nat) : Prop := s < k ∧ ft (s * 3 + 0) = nI p ∧ ∀ s2, s2 < s → ¬ ft (s2 * 3 + 0) = nI p
theorem LST.uniq {ft : Nat → Int32} {k p a b : Nat} (h1 : LST ft k p a) (h2 : LST ft k p b) : a = b := by
  rcases Nat.lt_trichotomy a b with c | c | c
  · exact absurd h2.2.1 (h1.2.2 b c h2.1)
  · exact c
  · exact absurd h1.2.1 (h2.2.2 a c h1.1)
theorem FST.uniq {ft : Nat → Int32} {k p a b : Nat} (h1 : FST ft k p a) (h2 : FST ft k p b) : a = b := by
  rcases Nat.lt_trichotomy a b with c | c | c
  · exact absurd h1.2.1 (h2.2.2 a c)
  · exact c
  · exact absurd h2.2.1 (h1.2.2 b c)
theorem SVL.ck {ft : Nat → Int32} {n s : Nat} (h : SVL ft n) (hs : s < n) : CKS ft s < 6 := by
  obtain ⟨-, ⟨c, hc, e⟩, -⟩ := h s hs
  unfold CKS
  rw [e, nI_clamp (by omega)]
  exact hc
/-- an hour of a paper, as it is answered -/
def HRQ (K : Nat → Nat → Int → Prop) (ft : Nat → Int32) (V : Nat → Prop) (k p : Nat) (P : Nat → Prop) (x2 r : Int32) : Prop := ((NOS K ∨ ¬ V p ∨ ∀ s, s < k → ¬ ft (s * 3 + 0) = nI p) ∧ r = (-3)) ∨ ∃ (f : Nat → Int32) (s : Nat), CLB K (MAT f) ∧ V p ∧ P s ∧ s < k ∧ ft (s * 3 + 0) = nI p ∧ ((x2 = 0 ∧ r = TR0 ft f s + 1000) ∨ (¬ x2 = 0 ∧ r = TR1 ft f s + 1000))
theorem HRQ.uniq {K : Nat → Nat → Int → Prop} {ft : Nat → Int32} {V : Nat → Prop} {k p : Nat} {P : Nat → Prop} {x2 r t : Int32} (hP : ∀ a b, P a → P b → a = b) (hS : SVL ft k) (h1 : HRQ K ft V k p P x2 r) (h2 : HRQ K ft V k p P x2 t) : r = t := by
  rcases h1 with ⟨n1, e1⟩ | ⟨f, a, b1, v1, p1, s1, q1, c1⟩
  · rcases h2 with ⟨n2, e2⟩ | ⟨g, b, b2, v2, p2, s2, q2, c2⟩
    · exact e1.trans e2.symm
    · rcases n1 with n1 | n1 | n1
      · exact absurd n1 b2.nos
      · exact absurd v2 n1
      · exact absurd q2 (n1 b s2)
  · rcases h2 with ⟨n2, e2⟩ | ⟨g, b, b2, v2, p2, s2, q2, c2⟩
    · rcases n2 with n2 | n2 | n2
      · exact absurd n2 b1.nos
      · exact absurd v1 n2
      · exact absurd q1 (n2 a s1)
    · have e := hP a b p1 p2
      rw [← e] at c2
      have hc := hS.ck s1
      have t0 : TR0 ft f a = TR0 ft g a := by
        unfold TR0
        rw [b1.eq b2 (by decide) hc]
      have t1 : TR1 ft f a = TR1 ft g a := by
        unfold TR1
        rw [b1.eq b2 hc (by decide)]
      rcases c1 with ⟨x, y⟩ | ⟨x, y⟩
      · rcases c2 with ⟨z, w⟩ | ⟨z, w⟩
        · rw [y, w, t0]
        · exact absurd x z
      · rcases c2 with ⟨z, w⟩ | ⟨z, w⟩
        · exact absurd z x
        · rw [y, w, t1]
theorem LST.cg {ft gt : Nat → Int32} {k p s : Nat} (h : ∀ i, i < 72 → gt i = ft i) (hn : k ≤ 24) (h1 : LST gt k p s) : LST ft k p s := by
  obtain ⟨a, b, c⟩ := h1
  exact ⟨a, (h (s * 3 + 0) (by omega)).symm.trans b, fun s2 h2 h3 e => c s2 h2 h3 ((h (s2 * 3 + 0) (by omega)).trans e)⟩
theorem FST.cg {ft gt : Nat → Int32} {k p s : Nat} (h : ∀ i, i < 72 → gt i = ft i) (hn : k ≤ 24) (h1 : FST gt k p s) : FST ft k p s := by
  obtain ⟨a, b, c⟩ := h1
  exact ⟨a, (h (s * 3 + 0) (by omega)).symm.trans b, fun s2 h2 e => c s2 h2 ((h (s2 * 3 + 0) (by omega)).trans e)⟩
theorem HRQ.cg {K : Nat → Nat → Int → Prop} {ft gt : Nat → Int32} {V U : Nat → Prop} {k p : Nat} {P Q : Nat → Prop} {x2 r : Int32} (h : ∀ i, i < 72 → gt i = ft i) (hn : k ≤ 24) (hv : U p ↔ V p) (hPQ : ∀ s, P s → Q s) (h1 : HRQ K gt U k p P x2 r) : HRQ K ft V k p Q x2 r := by
  rcases h1 with ⟨n1, e1⟩ | ⟨f, a, b1, v1, p1, s1, q1, c1⟩
  · refine Or.inl ⟨?_, e1⟩
    rcases n1 with n1 | n1 | n1
    · exact Or.inl n1
    · exact Or.inr (Or.inl fun h9 => n1 (hv.mpr h9))
    · exact Or.inr (Or.inr fun s hs e => n1 s hs ((h (s * 3 + 0) (by omega)).trans e))
  · have t0 : TR0 gt f a = TR0 ft f a := by
      unfold TR0 CKS
      rw [h (a * 3 + 2) (by omega), h (a * 3 + 1) (by omega)]
    have t1 : TR1 gt f a = TR1 ft f a := by
      unfold TR1 CKS
      rw [h (a * 3 + 2) (by omega), h (a * 3 + 1) (by omega)]
    rw [t0, t1] at c1
    exact Or.inr ⟨f, a, b1, hv.mp v1, hPQ a p1, s1, (h (a * 3 + 0) (by omega)).symm.trans q1, c1⟩
/-- when a paper was sent, as it is answered -/
def SNQ (K : Nat → Nat → Int → Prop) (ft : Nat → Int32) (V : Nat → Prop) (k kp : Nat) (x1 x2 r : Int32) : Prop := (¬ Hs x1 kp ∧ r = (-1)) ∨ ∃ p, p < kp ∧ x1 = nI p ∧ HRQ K ft V k p (LST ft k p) x2 r
theorem SNQ.uq {K L : Nat → Nat → Int → Prop} {ft gt : Nat → Int32} {V U : Nat → Prop} {k kp : Nat} {x1 x2 r t : Int32} (h1 : SNQ K ft V k kp x1 x2 r) (h2 : SNQ L gt U k kp x1 x2 t) (e : K = L) (h : ∀ i, i < 72 → gt i = ft i) (hn : k ≤ 24) (hv : ∀ p, p < 12 → (U p ↔ V p)) (hS : SVL ft k) (hkp : kp ≤ 12) : r = t := by
  subst e
  rcases h1 with ⟨a, b⟩ | ⟨p, hp, ep, q⟩
  · rcases h2 with ⟨c, d⟩ | ⟨p2, hp2, ep2, q2⟩
    · exact b.trans d.symm
    · rw [ep2] at a
      exact absurd (Hs.of hp2 (by omega)) a
  · rcases h2 with ⟨c, d⟩ | ⟨p2, hp2, ep2, q2⟩
    · rw [ep] at c
      exact absurd (Hs.of hp (by omega)) c
    · have e2 : p2 = p := (nI_eq (by omega) (by omega)).mp (ep2.symm.trans ep)
      rw [e2] at q2
      exact HRQ.uniq (fun a b => LST.uniq) hS q (HRQ.cg h hn (hv p (by omega)) (fun s => LST.cg h hn) q2)
theorem LKP.none {ft : Nat → Int32} {pp gp : Int32} {k p : Nat} {c : Int32} {fm f g ml mm sl sm : Nat → Int32} (h : LKP ft pp gp k c fm f g ml mm sl sm) (hp : p < 12) (hk : k < 2 ^ 31) (hn : ¬ (c = 0 ∧ ¬ g p < 0)) : NOS (KST ft (VPP pp) gp.toInt k) ∨ ¬ VPP pp p ∨ ∀ s, s < k → ¬ ft (s * 3 + 0) = nI p := by
  by_cases c0 : c = 0
  · by_cases g0 : g p < 0
    · rcases h.2.2.1 p hp with ⟨-, q⟩ | ⟨s, q1, q2, -⟩
      · by_cases v : VPP pp p
        · exact Or.inr (Or.inr fun s hs e => q s hs e v)
        · exact Or.inr (Or.inl v)
      · rw [q2] at g0
        exact absurd g0 (nI_pos (by omega))
    · exact absurd ⟨c0, g0⟩ hn
  · exact Or.inl (h.1.nos c0).2
theorem LKP.some {ft : Nat → Int32} {pp gp : Int32} {k p : Nat} {c : Int32} {fm f g ml mm sl sm : Nat → Int32} (h : LKP ft pp gp k c fm f g ml mm sl sm) (hp : p < 12) (hk : k < 2 ^ 31) (hn : c = 0 ∧ ¬ g p < 0) : CLB (KST ft (VPP pp) gp.toInt k) (MAT fm) ∧ VPP pp p ∧ ∃ s, LST ft k p s ∧ sl p = TR0 ft fm s ∧ sm p = TR1 ft fm s := by
  have hb := h.2.2.2 p hp hn.2
  rcases h.2.2.1 p hp with ⟨q, -⟩ | ⟨s, q1, q2, q3, q4, q5⟩
  · exact absurd q (LAS.nneg hn.2)
  · rw [q2, nI_clamp (by omega)] at hb
    exact ⟨h.1.get hn.1, q4, s, ⟨q1, q3, q5⟩, hb.2.2.1, hb.2.2.2⟩
section WR
variable {p : Program} {l : Launch} {e : Env} {R : Room} {s : State} {m : MethodId} {args : Array Value} {below : List Frame} {meth : Method} {c : Code} {H : Heap} {locs : List Loc} {cells slots : Nat} {Q : State → Prop}
variable {pc : Nat} {ls : Array Slot} {rest : List Value} {G : GG} {ws : va_W} {A : Nat → Prop} {y0 : MethodName} {b0 : ByteArray} {mL0 : Nat} {rt0 : Option FieldType} {a : Nat} {H0 : Heap}
end WR
theorem SNQ.got {K : Nat → Nat → Int → Prop} {ft : Nat → Int32} {V : Nat → Prop} {k p : Nat} {fm : Nat → Int32} {x2 r a b : Int32} (h : CLB K (MAT fm) ∧ V p ∧ ∃ s, LST ft k p s ∧ a = TR0 ft fm s ∧ b = TR1 ft fm s) (hr : (x2 = 0 ∧ r = a + 1000) ∨ (¬ x2 = 0 ∧ r = b + 1000)) : ∃ (f : Nat → Int32) (s : Nat), CLB K (MAT f) ∧ V p ∧ LST ft k p s ∧ s < k ∧ ft (s * 3 + 0) = nI p ∧ ((x2 = 0 ∧ r = TR0 ft f s + 1000) ∨ (¬ x2 = 0 ∧ r = TR1 ft f s + 1000)) := by
  obtain ⟨h1, h2, s, h3, h4, h5⟩ := h
  rw [h4, h5] at hr
  exact ⟨fm, s, h1, h2, h3, h3.1, h3.2.1, hr⟩
section WR
variable {p : Program} {l : Launch} {e : Env} {R : Room} {s : State} {m : MethodId} {args : Array Value} {below : List Frame} {meth : Method} {c : Code} {H : Heap} {locs : List Loc} {cells slots : Nat} {Q : State → Prop}
variable {pc : Nat} {ls : Array Slot} {rest : List Value} {G : GG} {ws : va_W} {A : Nat → Prop} {y0 : MethodName} {b0 : ByteArray} {mL0 : Nat} {rt0 : Option FieldType} {a : Nat} {H0 : Heap}
end WR
/-- which of two papers was sent ahead, as it is answered when both are sent -/
def BFV (f ft : Nat → Int32) (a b : Nat) : Int32 := if MAT f (CKS ft a) (CKS ft b) < HRS ft b - HRS ft a then 2 else if -(MAT f (CKS ft b) (CKS ft a)) < HRS ft b - HRS ft a then 1 else 0
def UNS (ft : Nat → Int32) (V : Nat → Prop) (k p : Nat) : Prop := ¬ V p ∨ ∀ s, s < k → ¬ ft (s * 3 + 0) = nI p
def BFH (K : Nat → Nat → Int → Prop) (ft : Nat → Int32) (V : Nat → Prop) (k p q : Nat) (r : Int32) : Prop := ((NOS K ∨ UNS ft V k p ∨ UNS ft V k q) ∧ r = (-3)) ∨ ∃ (f : Nat → Int32) (a b : Nat), CLB K (MAT f) ∧ V p ∧ V q ∧ LST ft k p a ∧ LST ft k q b ∧ r = BFV f ft a b
theorem BFH.uniq {K : Nat → Nat → Int → Prop} {ft : Nat → Int32} {V : Nat → Prop} {k p q : Nat} {r t : Int32} (hS : SVL ft k) (h1 : BFH K ft V k p q r) (h2 : BFH K ft V k p q t) : r = t := by
  rcases h1 with ⟨n1, e1⟩ | ⟨f, a, b, c1, v1, w1, l1, m1, e1⟩
  · rcases h2 with ⟨n2, e2⟩ | ⟨g, a2, b2, c2, v2, w2, l2, m2, e2⟩
    · exact e1.trans e2.symm
    · rcases n1 with n1 | (n1 | n1) | (n1 | n1)
      · exact absurd n1 c2.nos
      · exact absurd v2 n1
      · exact absurd l2.2.1 (n1 a2 l2.1)
      · exact absurd w2 n1
      · exact absurd m2.2.1 (n1 b2 m2.1)
  · rcases h2 with ⟨n2, e2⟩ | ⟨g, a2, b2, c2, v2, w2, l2, m2, e2⟩
    · rcases n2 with n2 | (n2 | n2) | (n2 | n2)
      · exact absurd n2 c1.nos
      · exact absurd v1 n2
      · exact absurd l1.2.1 (n2 a l1.1)
      · exact absurd w1 n2
      · exact absurd m1.2.1 (n2 b m1.1)
    · have ea := l1.uniq l2
      have eb := m1.uniq m2
      have ha := hS.ck l1.1
      have hb := hS.ck m1.1
      rw [e1, e2, ← ea, ← eb]
      unfold BFV
      rw [c1.1.uniq c2.1 ha hb, c1.1.uniq c2.1 hb ha]
section WR
variable {p : Program} {l : Launch} {e : Env} {R : Room} {s : State} {m : MethodId} {args : Array Value} {below : List Frame} {meth : Method} {c : Code} {H : Heap} {locs : List Loc} {cells slots : Nat} {Q : State → Prop}
variable {pc : Nat} {ls : Array Slot} {rest : List Value} {G : GG} {ws : va_W} {A : Nat → Prop} {y0 : MethodName} {b0 : ByteArray} {mL0 : Nat} {rt0 : Option FieldType} {a : Nat} {H0 : Heap}
end WR
/-- an hour of a paper, with what is late behind it, as it is answered -/
def HRZ (K : Nat → Nat → Int → Prop) (ft : Nat → Int32) (V : Nat → Prop) (k p : Nat) (P : Nat → Prop) (sl x2 r : Int32) : Prop := ((NOS K ∨ ¬ V p ∨ ∀ s, s < k → ¬ ft (s * 3 + 0) = nI p) ∧ r = (-3)) ∨ ∃ (f : Nat → Int32) (s : Nat), CLB K (MAT f) ∧ V p ∧ P s ∧ s < k ∧ ft (s * 3 + 0) = nI p ∧ ((x2 = 0 ∧ r = TR0 ft f s + 1000) ∨ (¬ x2 = 0 ∧ r = TR1 ft f s + sl + 1000))
theorem HRZ.uniq {K : Nat → Nat → Int → Prop} {ft : Nat → Int32} {V : Nat → Prop} {k p : Nat} {P : Nat → Prop} {sl x2 r t : Int32} (hP : ∀ a b, P a → P b → a = b) (hS : SVL ft k) (h1 : HRZ K ft V k p P sl x2 r) (h2 : HRZ K ft V k p P sl x2 t) : r = t := by
  rcases h1 with ⟨n1, e1⟩ | ⟨f, a, b1, v1, p1, s1, q1, c1⟩
  · rcases h2 with ⟨n2, e2⟩ | ⟨g, b, b2, v2, p2, s2, q2, c2⟩
    · exact e1.trans e2.symm
    · rcases n1 with n1 | n1 | n1
      · exact absurd n1 b2.nos
      · exact absurd v2 n1
      · exact absurd q2 (n1 b s2)
  · rcases h2 with ⟨n2, e2⟩ | ⟨g, b, b2, v2, p2, s2, q2, c2⟩
    · rcases n2 with n2 | n2 | n2
      · exact absurd n2 b1.nos
      · exact absurd v1 n2
      · exact absurd q1 (n2 a s1)
    · have e := hP a b p1 p2
      rw [← e] at c2
      have hc := hS.ck s1
      have t0 : TR0 ft f a = TR0 ft g a := by
        unfold TR0
        rw [b1.eq b2 (by decide) hc]
      have t1 : TR1 ft f a = TR1 ft g a := by
        unfold TR1
        rw [b1.eq b2 hc (by decide)]
      rcases c1 with ⟨x, y⟩ | ⟨x, y⟩
      · rcases c2 with ⟨z, w⟩ | ⟨z, w⟩
        · rw [y, w, t0]
        · exact absurd x z
      · rcases c2 with ⟨z, w⟩ | ⟨z, w⟩
        · exact absurd z x
        · rw [y, w, t1]
theorem HRZ.cg {K : Nat → Nat → Int → Prop} {ft gt : Nat → Int32} {V U : Nat → Prop} {k p : Nat} {P Q : Nat → Prop} {sl x2 r : Int32} (h : ∀ i, i < 72 → gt i = ft i) (hn : k ≤ 24) (hv : U p ↔ V p) (hPQ : ∀ s, P s → Q s) (h1 : HRZ K gt U k p P sl x2 r) : HRZ K ft V k p Q sl x2 r := by
  rcases h1 with ⟨n1, e1⟩ | ⟨f, a, b1, v1, p1, s1, q1, c1⟩
  · refine Or.inl ⟨?_, e1⟩
    rcases n1 with n1 | n1 | n1
    · exact Or.inl n1
    · exact Or.inr (Or.inl fun h9 => n1 (hv.mpr h9))
    · exact Or.inr (Or.inr fun s hs e => n1 s hs ((h (s * 3 + 0) (by omega)).trans e))
  · have t0 : TR0 gt f a = TR0 ft f a := by
      unfold TR0 CKS
      rw [h (a * 3 + 2) (by omega), h (a * 3 + 1) (by omega)]
    have t1 : TR1 gt f a = TR1 ft f a := by
      unfold TR1 CKS
      rw [h (a * 3 + 2) (by omega), h (a * 3 + 1) (by omega)]
    rw [t0, t1] at c1
    exact Or.inr ⟨f, a, b1, hv.mp v1, hPQ a p1, s1, (h (a * 3 + 0) (by omega)).symm.trans q1, c1⟩
/-- a paper in a hand, by who made it and to whom it is, as it is answered -/
def HAQ (K : Nat → Nat → Int → Prop) (ft : Nat → Int32) (V : Nat → Prop) (by9 to9 sl : Int32) (k p e : Nat) (x2 r : Int32) : Prop := (by9 = nI e ∧ HRZ K ft V k p (FST ft k p) 0 x2 r) ∨ (¬ by9 = nI e ∧ HB to9 (nI e) ∧ HRZ K ft V k p (LST ft k p) sl x2 r) ∨ (¬ by9 = nI e ∧ ¬ HB to9 (nI e) ∧ r = (-3))
theorem HAQ.uniq {K : Nat → Nat → Int → Prop} {ft : Nat → Int32} {V : Nat → Prop} {by9 to9 sl : Int32} {k p e : Nat} {x2 r t : Int32} (hS : SVL ft k) (h1 : HAQ K ft V by9 to9 sl k p e x2 r) (h2 : HAQ K ft V by9 to9 sl k p e x2 t) : r = t := by
  rcases h1 with ⟨a, b⟩ | ⟨a, b, c⟩ | ⟨a, b, c⟩
  · rcases h2 with ⟨a2, b2⟩ | ⟨a2, b2, c2⟩ | ⟨a2, b2, c2⟩
    · exact HRZ.uniq (fun a b => FST.uniq) hS b b2
    · exact absurd a a2
    · exact absurd a a2
  · rcases h2 with ⟨a2, b2⟩ | ⟨a2, b2, c2⟩ | ⟨a2, b2, c2⟩
    · exact absurd a2 a
    · exact HRZ.uniq (fun a b => LST.uniq) hS c c2
    · exact absurd b b2
  · rcases h2 with ⟨a2, b2⟩ | ⟨a2, b2, c2⟩ | ⟨a2, b2, c2⟩
    · exact absurd a2 a
    · exact absurd b2 b
    · exact c.trans c2.symm
theorem HAQ.cg {K : Nat → Nat → Int → Prop} {ft gt : Nat → Int32} {V U : Nat → Prop} {by9 to9 sl : Int32} {k p e : Nat} {x2 r : Int32} (h : ∀ i, i < 72 → gt i = ft i) (hn : k ≤ 24) (hv : U p ↔ V p) (h1 : HAQ K gt U by9 to9 sl k p e x2 r) : HAQ K ft V by9 to9 sl k p e x2 r := by
  rcases h1 with ⟨a, b⟩ | ⟨a, b, c⟩ | h1
  · exact Or.inl ⟨a, HRZ.cg h hn hv (fun s => FST.cg h hn) b⟩
  · exact Or.inr (Or.inl ⟨a, b, HRZ.cg h hn hv (fun s => LST.cg h hn) c⟩)
  · exact Or.inr (Or.inr h1)
def HNQ (K : Nat → Nat → Int → Prop) (ft : Nat → Int32) (V : Nat → Prop) (fp fe : Nat → Int32) (k kp ke : Nat) (x1 x2 x3 r : Int32) : Prop := (¬ (Hs x1 kp ∧ Hs x2 ke) ∧ r = (-1)) ∨ ∃ p e, p < kp ∧ e < ke ∧ x1 = nI p ∧ x2 = nI e ∧ HAQ K ft V (fp (p * 6 + 0)) (fp (p * 6 + 1)) (fe (e * 2 + 1)) k p e x3 r
theorem HNQ.uq {K L : Nat → Nat → Int → Prop} {ft gt fp gp fe ge : Nat → Int32} {V U : Nat → Prop} {k kp ke : Nat} {x1 x2 x3 r t : Int32} (h1 : HNQ K ft V fp fe k kp ke x1 x2 x3 r) (h2 : HNQ L gt U gp ge k kp ke x1 x2 x3 t) (e : K = L) (h : ∀ i, i < 72 → gt i = ft i) (hn : k ≤ 24) (hv : ∀ p, p < 12 → (U p ↔ V p)) (hS : SVL ft k) (hkp : kp ≤ 12) (hke : ke ≤ 10) (hp : ∀ i, i < 72 → gp i = fp i) (he : ∀ i, i < 20 → ge i = fe i) : r = t := by
  subst e
  rcases h1 with ⟨a, b⟩ | ⟨p, q, hp1, hq1, ep, eq1, z⟩
  · rcases h2 with ⟨c, d⟩ | ⟨p2, q2, hp2, hq2, ep2, eq2, z2⟩
    · exact b.trans d.symm
    · exact absurd (And.intro (by rw [ep2]; exact Hs.of hp2 (by omega)) (by rw [eq2]; exact Hs.of hq2 (by omega))) a
  · rcases h2 with ⟨c, d⟩ | ⟨p2, q2, hp2, hq2, ep2, eq2, z2⟩
    · exact absurd (And.intro (by rw [ep]; exact Hs.of hp1 (by omega)) (by rw [eq1]; exact Hs.of hq1 (by omega))) c
    · have e1 : p2 = p := (nI_eq (by omega) (by omega)).mp (ep2.symm.trans ep)
      have e2 : q2 = q := (nI_eq (by omega) (by omega)).mp (eq2.symm.trans eq1)
      rw [e1, e2, hp (p * 6 + 0) (by omega), hp (p * 6 + 1) (by omega), he (q * 2 + 1) (by omega)] at z2
      exact HAQ.uniq hS z (HAQ.cg h hn (hv p (by omega)) z2)
theorem LKP.fst {ft : Nat → Int32} {pp gp : Int32} {k p : Nat} {c : Int32} {fm f g ml mm sl sm : Nat → Int32} (h : LKP ft pp gp k c fm f g ml mm sl sm) (hp : p < 12) (hk : k < 2 ^ 31) (hn : c = 0 ∧ ¬ g p < 0) : CLB (KST ft (VPP pp) gp.toInt k) (MAT fm) ∧ VPP pp p ∧ ∃ s, FST ft k p s ∧ ml p = TR0 ft fm s ∧ mm p = TR1 ft fm s := by
  have hb := h.2.2.2 p hp hn.2
  obtain ⟨h1, v, s0, hs0, -⟩ := h.some hp hk hn
  rcases h.2.1 p hp with ⟨-, q2⟩ | ⟨s, q1, q2, q3, q4, q5⟩
  · exact absurd v (q2 s0 hs0.1 hs0.2.1)
  · rw [q2, nI_clamp (by omega)] at hb
    exact ⟨h1, v, s, ⟨q1, q3, q5⟩, hb.1, hb.2.1⟩
theorem LKP.lastn {ft : Nat → Int32} {pp gp : Int32} {k p : Nat} {c : Int32} {fm f g ml mm sl sm : Nat → Int32} (h : LKP ft pp gp k c fm f g ml mm sl sm) (hp : p < 12) (hn : c = 0 ∧ ¬ g p < 0) : CLB (KST ft (VPP pp) gp.toInt k) (MAT fm) ∧ VPP pp p ∧ ∃ s, LST ft k p s ∧ g p = nI s := by
  rcases h.2.2.1 p hp with ⟨q, -⟩ | ⟨s, q1, q2, q3, q4, q5⟩
  · exact absurd q (LAS.nneg hn.2)
  · exact ⟨h.1.get hn.1, q4, s, ⟨q1, q3, q5⟩, q2⟩
theorem HAQ.nn {K : Nat → Nat → Int → Prop} {ft : Nat → Int32} {V : Nat → Prop} {by9 to9 sl : Int32} {k p e : Nat} {x2 : Int32} (h : NOS K ∨ ¬ V p ∨ ∀ s, s < k → ¬ ft (s * 3 + 0) = nI p) : HAQ K ft V by9 to9 sl k p e x2 (-3) := by
  by_cases a : by9 = nI e
  · exact Or.inl ⟨a, Or.inl ⟨h, rfl⟩⟩
  · by_cases b : HB to9 (nI e)
    · exact Or.inr (Or.inl ⟨a, b, Or.inl ⟨h, rfl⟩⟩)
    · exact Or.inr (Or.inr ⟨a, b, rfl⟩)
theorem HAQ.no {ft : Nat → Int32} {pp gp : Int32} {k p e : Nat} {c : Int32} {fm f g ml mm sl sm : Nat → Int32} {by9 to9 z x2 : Int32} (h : LKP ft pp gp k c fm f g ml mm sl sm) (hp : p < 12) (hk : k < 2 ^ 31) (hn : ¬ ((c = 0 ∧ ¬ g p < 0) ∧ (by9 = nI e ∨ HB to9 (nI e)))) : HAQ (KST ft (VPP pp) gp.toInt k) ft (VPP pp) by9 to9 z k p e x2 (-3) := by
  by_cases a : by9 = nI e
  · exact Or.inl ⟨a, Or.inl ⟨h.none hp hk (fun h9 => hn ⟨h9, Or.inl a⟩), rfl⟩⟩
  · by_cases b : HB to9 (nI e)
    · exact Or.inr (Or.inl ⟨a, b, Or.inl ⟨h.none hp hk (fun h9 => hn ⟨h9, Or.inr b⟩), rfl⟩⟩)
    · exact Or.inr (Or.inr ⟨a, b, rfl⟩)
theorem HAQ.made {ft : Nat → Int32} {pp gp : Int32} {k p e : Nat} {c : Int32} {fm f g ml mm sl sm : Nat → Int32} {by9 to9 z x2 r : Int32} (h : LKP ft pp gp k c fm f g ml mm sl sm) (hp : p < 12) (hk : k < 2 ^ 31) (hn : c = 0 ∧ ¬ g p < 0) (a : by9 = nI e) (hr : (x2 = 0 ∧ r = ml p + 1000) ∨ (¬ x2 = 0 ∧ r = mm p + 1000)) : HAQ (KST ft (VPP pp) gp.toInt k) ft (VPP pp) by9 to9 z k p e x2 r := by
  obtain ⟨h1, h2, s, h3, h4, h5⟩ := h.fst hp hk hn
  rw [h4, h5] at hr
  refine Or.inl ⟨a, Or.inr ⟨fm, s, h1, h2, h3, h3.1, h3.2.1, ?_⟩⟩
  rcases hr with hr | ⟨hx, hr⟩
  · exact Or.inl hr
  · exact Or.inr ⟨hx, by rw [Int32.add_zero]; exact hr⟩
theorem HAQ.sent {ft : Nat → Int32} {pp gp : Int32} {k p e : Nat} {c : Int32} {fm f g ml mm sl sm : Nat → Int32} {by9 to9 z x2 r : Int32} (h : LKP ft pp gp k c fm f g ml mm sl sm) (hp : p < 12) (hk : k < 2 ^ 31) (hn : c = 0 ∧ ¬ g p < 0) (a : ¬ by9 = nI e) (b : HB to9 (nI e)) (hr : (x2 = 0 ∧ r = sl p + 1000) ∨ (¬ x2 = 0 ∧ r = sm p + z + 1000)) : HAQ (KST ft (VPP pp) gp.toInt k) ft (VPP pp) by9 to9 z k p e x2 r := by
  obtain ⟨h1, h2, s, h3, h4, h5⟩ := h.some hp hk hn
  rw [h4, h5] at hr
  exact Or.inr (Or.inl ⟨a, b, Or.inr ⟨fm, s, h1, h2, h3, h3.1, h3.2.1, hr⟩⟩)
theorem SVL.cke {ft : Nat → Int32} {n s : Nat} (h : SVL ft n) (hs : s < n) : ft (s * 3 + 1) = nI (CKS ft s) := by
  obtain ⟨-, ⟨c, hc, e⟩, -⟩ := h s hs
  unfold CKS
  rw [e, nI_clamp (by omega)]
theorem SVL.hrs {ft : Nat → Int32} {n s : Nat} (h : SVL ft n) (hs : s < n) : 0 ≤ HRS ft s ∧ HRS ft s ≤ 999 := by
  obtain ⟨-, -, h1, h2⟩ := h s hs
  exact ⟨h1, h2⟩
theorem ti_ng {x : Int32} (h1 : -1000000 ≤ x.toInt) (h2 : x.toInt ≤ 1000000) : (-x).toInt = -x.toInt := by
  rw [Int32.toInt_neg, bm32 (by omega) (by omega)]
/-- what is read between two stamps -/
theorem rdb {ft : Nat → Int32} {n a b : Nat} (h : SVL ft n) (ha : a < n) (hb : b < n) : (ft (b * 3 + 2) - ft (a * 3 + 2)).toInt = HRS ft b - HRS ft a := by
  have h1 := h.hrs ha
  have h2 := h.hrs hb
  have e1 : (ft (a * 3 + 2)).toInt = HRS ft a := rfl
  have e2 : (ft (b * 3 + 2)).toInt = HRS ft b := rfl
  rw [ti_sb (by omega) (by omega) (by omega) (by omega), e1, e2]
theorem BFV.least {K : Nat → Nat → Int → Prop} {f ft : Nat → Int32} {n a b : Nat} (hc : CLB K (MAT f)) (h : SVL ft n) (ha : a < n) (hb : b < n) : (ft (b * 3 + 2) - ft (a * 3 + 2) - f (CKS ft a * 6 + CKS ft b)) ≤ 0 ↔ ¬ MAT f (CKS ft a) (CKS ft b) < HRS ft b - HRS ft a := by
  have h1 := h.hrs ha
  have h2 := h.hrs hb
  have h3 := hc.lim _ _ (h.ck ha) (h.ck hb)
  have e3 : (f (CKS ft a * 6 + CKS ft b)).toInt = MAT f (CKS ft a) (CKS ft b) := rfl
  have e4 := rdb h ha hb
  have e0 : (0 : Int32).toInt = 0 := by decide
  rw [Int32.le_iff_toInt_le, ti_sb (by omega) (by omega) (by omega) (by omega), e4, e3, e0]
  omega
theorem BFV.most {K : Nat → Nat → Int → Prop} {f ft : Nat → Int32} {n a b : Nat} (hc : CLB K (MAT f)) (h : SVL ft n) (ha : a < n) (hb : b < n) : (ft (b * 3 + 2) - ft (a * 3 + 2) + f (CKS ft b * 6 + CKS ft a)) ≤ 0 ↔ ¬ -(MAT f (CKS ft b) (CKS ft a)) < HRS ft b - HRS ft a := by
  have h1 := h.hrs ha
  have h2 := h.hrs hb
  have h3 := hc.lim _ _ (h.ck hb) (h.ck ha)
  have e3 : (f (CKS ft b * 6 + CKS ft a)).toInt = MAT f (CKS ft b) (CKS ft a) := rfl
  have e4 := rdb h ha hb
  have e0 : (0 : Int32).toInt = 0 := by decide
  rw [Int32.le_iff_toInt_le, ti_ad (by omega) (by omega) (by omega) (by omega), e4, e3, e0]
  omega
theorem BFV.two {f ft : Nat → Int32} {a b : Nat} (h : MAT f (CKS ft a) (CKS ft b) < HRS ft b - HRS ft a) : (2 : Int32) = BFV f ft a b := by
  unfold BFV
  rw [if_pos h]
theorem BFV.one {f ft : Nat → Int32} {a b : Nat} (h : ¬ MAT f (CKS ft a) (CKS ft b) < HRS ft b - HRS ft a) (h2 : -(MAT f (CKS ft b) (CKS ft a)) < HRS ft b - HRS ft a) : (1 : Int32) = BFV f ft a b := by
  unfold BFV
  rw [if_neg h, if_pos h2]
theorem BFV.nil {f ft : Nat → Int32} {a b : Nat} (h : ¬ MAT f (CKS ft a) (CKS ft b) < HRS ft b - HRS ft a) (h2 : ¬ -(MAT f (CKS ft b) (CKS ft a)) < HRS ft b - HRS ft a) : (0 : Int32) = BFV f ft a b := by
  unfold BFV
  rw [if_neg h, if_neg h2]
theorem BFH.cg {K : Nat → Nat → Int → Prop} {ft gt : Nat → Int32} {V U : Nat → Prop} {k p q : Nat} {r : Int32} (h : ∀ i, i < 72 → gt i = ft i) (hn : k ≤ 24) (hv : U p ↔ V p) (hw : U q ↔ V q) (h1 : BFH K gt U k p q r) : BFH K ft V k p q r := by
  have un : ∀ x, (U x ↔ V x) → UNS gt U k x → UNS ft V k x := fun x hx hu => by
    rcases hu with hu | hu
    · exact Or.inl fun h9 => hu (hx.mpr h9)
    · exact Or.inr fun s hs e => hu s hs ((h (s * 3 + 0) (by omega)).trans e)
  rcases h1 with ⟨n1, e1⟩ | ⟨f, a, b, c1, v1, w1, l1, m1, e1⟩
  · refine Or.inl ⟨?_, e1⟩
    rcases n1 with n1 | n1 | n1
    · exact Or.inl n1
    · exact Or.inr (Or.inl (un p hv n1))
    · exact Or.inr (Or.inr (un q hw n1))
  · have ha := l1.1
    have hb := m1.1
    have e2 : BFV f gt a b = BFV f ft a b := by
      unfold BFV CKS HRS
      rw [h (a * 3 + 1) (by omega), h (b * 3 + 1) (by omega), h (a * 3 + 2) (by omega), h (b * 3 + 2) (by omega)]
    exact Or.inr ⟨f, a, b, c1, hv.mp v1, hw.mp w1, LST.cg h hn l1, LST.cg h hn m1, e1.trans e2⟩
def BFQ (K : Nat → Nat → Int → Prop) (ft : Nat → Int32) (V : Nat → Prop) (k kp : Nat) (x1 x2 r : Int32) : Prop := (¬ (Hs x1 kp ∧ Hs x2 kp ∧ ¬ x1 = x2) ∧ r = (-1)) ∨ ∃ p q, p < kp ∧ q < kp ∧ x1 = nI p ∧ x2 = nI q ∧ ¬ p = q ∧ BFH K ft V k p q r
theorem BFQ.uq {K L : Nat → Nat → Int → Prop} {ft gt : Nat → Int32} {V U : Nat → Prop} {k kp : Nat} {x1 x2 r t : Int32} (h1 : BFQ K ft V k kp x1 x2 r) (h2 : BFQ L gt U k kp x1 x2 t) (e : K = L) (h : ∀ i, i < 72 → gt i = ft i) (hn : k ≤ 24) (hv : ∀ p, p < 12 → (U p ↔ V p)) (hS : SVL ft k) (hkp : kp ≤ 12) : r = t := by
  subst e
  have ok : ∀ p q : Nat, p < kp → q < kp → x1 = nI p → x2 = nI q → ¬ p = q → Hs x1 kp ∧ Hs x2 kp ∧ ¬ x1 = x2 := fun p q h1 h2 e1 e2 h3 => by
    rw [e1, e2]
    exact ⟨Hs.of h1 (by omega), Hs.of h2 (by omega), fun e => h3 ((nI_eq (by omega) (by omega)).mp e)⟩
  rcases h1 with ⟨a, b⟩ | ⟨p, q, hp1, hq1, ep, eq1, n1, z⟩
  · rcases h2 with ⟨c, d⟩ | ⟨p2, q2, hp2, hq2, ep2, eq2, n2, z2⟩
    · exact b.trans d.symm
    · exact absurd (ok p2 q2 hp2 hq2 ep2 eq2 n2) a
  · rcases h2 with ⟨c, d⟩ | ⟨p2, q2, hp2, hq2, ep2, eq2, n2, z2⟩
    · exact absurd (ok p q hp1 hq1 ep eq1 n1) c
    · have e1 : p2 = p := (nI_eq (by omega) (by omega)).mp (ep2.symm.trans ep)
      have e2 : q2 = q := (nI_eq (by omega) (by omega)).mp (eq2.symm.trans eq1)
      rw [e1, e2] at z2
      exact BFH.uniq hS z (BFH.cg h hn (hv p (by omega)) (hv q (by omega)) z2)
theorem LKP.uns {ft : Nat → Int32} {pp gp : Int32} {k p : Nat} {c : Int32} {fm f g ml mm sl sm : Nat → Int32} (h : LKP ft pp gp k c fm f g ml mm sl sm) (hp : p < 12) (hk : k < 2 ^ 31) (hn : ¬ (c = 0 ∧ ¬ g p < 0)) : NOS (KST ft (VPP pp) gp.toInt k) ∨ UNS ft (VPP pp) k p := by
  rcases h.none hp hk hn with h1 | h1 | h1
  · exact Or.inl h1
  · exact Or.inr (Or.inl h1)
  · exact Or.inr (Or.inr h1)
section WR
variable {p : Program} {l : Launch} {e : Env} {R : Room} {s : State} {m : MethodId} {args : Array Value} {below : List Frame} {meth : Method} {c : Code} {H : Heap} {locs : List Loc} {cells slots : Nat} {Q : State → Prop}
variable {pc : Nat} {ls : Array Slot} {rest : List Value} {G : GG} {ws : va_W} {A : Nat → Prop} {y0 : MethodName} {b0 : ByteArray} {mL0 : Nat} {rt0 : Option FieldType} {a : Nat} {H0 : Heap}
end WR
theorem nI_z9 {k : Nat} (hk : k < 2 ^ 31) (h : nI k = 0) : k = 0 := (nI_eq (b := 0) hk (by decide)).mp h
section WR
variable {p : Program} {l : Launch} {e : Env} {R : Room} {s : State} {m : MethodId} {args : Array Value} {below : List Frame} {meth : Method} {c : Code} {H : Heap} {locs : List Loc} {cells slots : Nat} {Q : State → Prop}
variable {pc : Nat} {ls : Array Slot} {rest : List Value} {G : GG} {ws : va_W} {A : Nat → Prop} {y0 : MethodName} {b0 : ByteArray} {mL0 : Nat} {rt0 : Option FieldType} {a : Nat} {H0 : Heap}
end WR
theorem mat_s {f : Nat → Int32} {a b : Nat} : 0 ≤ f (6 * a + b) ↔ 0 ≤ MAT f a b := by
  rw [mat6, Int32.le_iff_toInt_le]
  have e0 : (0 : Int32).toInt = 0 := by decide
  rw [e0]
theorem NI.hour {f : Nat → Int32} (h : NI f) {s : Nat} (hs : s < 24) : 0 ≤ (f (104 + 3 * s + 2)).toInt ∧ (f (104 + 3 * s + 2)).toInt ≤ 999 := by
  have h1 := h (104 + 3 * s + 2)
  rw [bnd_st2 (s := s) rfl hs] at h1
  exact h1
theorem NI.pap {f : Nat → Int32} (h : NI f) {s : Nat} (hs : s < 24) : ∃ p, p < 12 ∧ f (104 + 3 * s) = nI p := by
  obtain ⟨k, hk, e⟩ := h.nat (bnd_st0 (s := s) rfl hs) (by decide)
  exact ⟨k, by omega, e⟩
section WR
variable {p : Program} {l : Launch} {e : Env} {R : Room} {s : State} {m : MethodId} {args : Array Value} {below : List Frame} {meth : Method} {c : Code} {H : Heap} {locs : List Loc} {cells slots : Nat} {Q : State → Prop}
variable {pc : Nat} {ls : Array Slot} {rest : List Value} {G : GG} {ws : va_W} {A : Nat → Prop} {y0 : MethodName} {b0 : ByteArray} {mL0 : Nat} {rt0 : Option FieldType} {a : Nat} {H0 : Heap}
end WR
theorem SPQ.mk1 {K : Nat → Nat → Int → Prop} {jc : Nat} {x2 : Int32} {f : Nat → Int32} (hw : Wi (nI jc) 0 5) (hj : jc < 6) (h : CLB K (MAT f)) (hx : ¬ x2 = 0) : SPQ K (nI jc) x2 (1000 + f jc) := by
  refine Or.inr (Or.inr ⟨hw, f, h, Or.inr ⟨hx, ?_⟩⟩)
  rw [nI_clamp (n := jc) (by omega), Int32.add_comm, Nat.zero_mul, Nat.zero_add]
theorem SPQ.mk0 {K : Nat → Nat → Int → Prop} {jc : Nat} {x2 : Int32} {f : Nat → Int32} (hw : Wi (nI jc) 0 5) (hj : jc < 6) (h : CLB K (MAT f)) (hx : x2 = 0) : SPQ K (nI jc) x2 (1000 + -(f (6 * jc))) := by
  refine Or.inr (Or.inr ⟨hw, f, h, Or.inl ⟨hx, ?_⟩⟩)
  rw [nI_clamp (n := jc) (by omega), Int32.add_comm, show jc * 6 + 0 = 6 * jc by omega]
theorem GPRm.of {f : Nat → Int32} {g : Int32} (e : f 3 = g) (h : GPR g) : GPRm (f 3) := by
  rw [e]
  exact h
theorem SVL.of {y fs : Nat → Int32} {n : Nat} (h : NI y) (e : EQT y 104 72 fs) (hn : n ≤ 24) : SVL fs n := by
  intro s hs
  have e0 := e (s * 3 + 0) (by omega)
  have e1 := e (s * 3 + 1) (by omega)
  have e2 := e (s * 3 + 2) (by omega)
  rw [show 104 + (s * 3 + 0) = 104 + 3 * s by omega] at e0
  rw [show 104 + (s * 3 + 1) = 104 + 3 * s + 1 by omega] at e1
  rw [show 104 + (s * 3 + 2) = 104 + 3 * s + 2 by omega] at e2
  obtain ⟨p, hp, ep⟩ := NI.pap h (s := s) (by omega)
  obtain ⟨c, hc, ec⟩ := h.nat (bnd_st1 (s := s) rfl (by omega)) (by decide)
  have hh := NI.hour h (s := s) (by omega)
  rw [e2] at hh
  exact ⟨⟨p, hp, e0.symm.trans ep⟩, ⟨c, by omega, e1.symm.trans ec⟩, hh⟩
theorem PRC.cg {ft gt : Nat → Int32} {V U : Nat → Prop} {n a b : Nat} (h : ∀ i, i < 72 → gt i = ft i) (hn : n ≤ 24) (hv : ∀ p, p < 12 → (U p ↔ V p)) (hp : SVL ft n) (hb : b < n) : PRC ft V a b ↔ PRC gt U a b := by
  obtain ⟨p, hp12, ep⟩ := (hp b hb).1
  have eb := h (b * 3 + 0) (by omega)
  have q : (V (ft (b * 3 + 0)).toNatClampNeg ↔ U (gt (b * 3 + 0)).toNatClampNeg) := by
    rw [eb, ep, nI_clamp (by omega)]
    exact (hv p hp12).symm
  constructor
  · intro ⟨h1, h2, h3, h4⟩
    refine ⟨h1, ?_, q.mp h3, fun s hs1 hs2 hs3 => h4 s hs1 hs2 ?_⟩
    · rw [h (a * 3 + 0) (by omega), eb]
      exact h2
    · rw [h (s * 3 + 0) (by omega), eb] at hs3
      exact hs3
  · intro ⟨h1, h2, h3, h4⟩
    refine ⟨h1, ?_, q.mpr h3, fun s hs1 hs2 hs3 => h4 s hs1 hs2 ?_⟩
    · rw [h (a * 3 + 0) (by omega), eb] at h2
      exact h2
    · rw [h (s * 3 + 0) (by omega), eb]
      exact hs3
theorem KST.cg {ft gt : Nat → Int32} {V U : Nat → Prop} {gp : Int} {n : Nat} (h : ∀ i, i < 72 → gt i = ft i) (hn : n ≤ 24) (hv : ∀ p, p < 12 → (U p ↔ V p)) (hp : SVL ft n) : KST ft V gp n = KST gt U gp n := by
  have ec : ∀ s, s < n → CKS gt s = CKS ft s := fun s hs => congrArg Int32.toNatClampNeg (h (s * 3 + 1) (by omega))
  have eh : ∀ s, s < n → HRS gt s = HRS ft s := fun s hs => congrArg Int32.toInt (h (s * 3 + 2) (by omega))
  funext x y w
  apply propext
  constructor
  · intro h9
    rcases h9 with h9 | ⟨a, b, h1, h2, h3⟩
    · exact Or.inl h9
    · have ha : a < n := Nat.lt_trans h2.1 h1
      refine Or.inr ⟨a, b, h1, (PRC.cg h hn hv hp h1).mp h2, ?_⟩
      rw [ec a ha, ec b h1, eh a ha, eh b h1]
      exact h3
  · intro h9
    rcases h9 with h9 | ⟨a, b, h1, h2, h3⟩
    · exact Or.inl h9
    · have ha : a < n := Nat.lt_trans h2.1 h1
      refine Or.inr ⟨a, b, h1, (PRC.cg h hn hv hp h1).mpr h2, ?_⟩
      rw [ec a ha, ec b h1, eh a ha, eh b h1] at h3
      exact h3
/-- what binds the clocks is the same on both sides -/
theorem KQE {y fs fp : Nat → Int32} {td vd vl gp : Int32} {kp ks : Nat} (es : EQT y 104 72 fs) (ep : EQT y 32 72 fp) (e0 : y 0 = td) (e1 : y 1 = vd) (e2 : y 2 = vl) (e3 : y 3 = gp) (hkp : kp ≤ 12) (hks : ks ≤ 24) (hN : NI y) : KST fs (VPP (IVW fp td vd vl kp)) gp.toInt ks = KST (shf y 104) (VSE y kp) (y 3).toInt ks := by
  rw [e3]
  refine KST.cg (fun i hi => es i hi) hks (fun p hp => ?_) (SVL.of hN es hks)
  have q : SEE (shf y 32) (y 0) (y 1) (y 2) p ↔ SEE fp td vd vl p := by
    rw [e0, e1, e2]
    rw [SEE.cg (f := shf y 32) (g := fp) (n := 72) (fun i hi => ep i hi) (by omega)]
  by_cases c : p < kp
  · exact ⟨fun h9 => (IVW.hb hkp c).mpr (q.mp h9.2), fun h9 => ⟨c, q.mpr ((IVW.hb hkp c).mp h9)⟩⟩
  · exact ⟨fun h9 => absurd h9.1 c, fun h9 => absurd h9 (HB.no hkp c hp)⟩
section WR
variable {p : Program} {l : Launch} {e : Env} {R : Room} {s : State} {m : MethodId} {args : Array Value} {below : List Frame} {meth : Method} {c : Code} {H : Heap} {locs : List Loc} {cells slots : Nat} {Q : State → Prop}
variable {pc : Nat} {ls : Array Slot} {rest : List Value} {G : GG} {ws : va_W} {A : Nat → Prop} {y0 : MethodName} {b0 : ByteArray} {mL0 : Nat} {rt0 : Option FieldType} {a : Nat} {H0 : Heap}
end WR
theorem STQ.lst {f : Nat → Int32} {p k i s : Nat} (h : STQ f p k i s) (hi : i + 1 = cntS f (nI p) k) : LST (shf f 104) k p s := by
  obtain ⟨h1, h2, h3⟩ := h
  refine ⟨h1, (shf_st (f := f) (s := s) (c := 0)).trans h2, fun s2 a b e => ?_⟩
  have e2 : f (104 + 3 * s2) = nI p := (shf_st (f := f) (s := s2) (c := 0)).symm.trans e
  have q1 := cntS_lt a h2
  have q2 := cntS_lt b e2
  omega
theorem cntS_no {f : Nat → Int32} {p k : Nat} (h : cntS f (nI p) k = 0) : ∀ s, s < k → ¬ shf f 104 (s * 3 + 0) = nI p := fun s hs e => by
  have e2 : f (104 + 3 * s) = nI p := (shf_st (f := f) (s := s) (c := 0)).symm.trans e
  have q2 := cntS_lt hs e2
  omega
theorem TR0.mk {f fm : Nat → Int32} {s c : Nat} (e : f (104 + 3 * s + 1) = nI c) (hc : c < 2 ^ 31) : f (104 + 3 * s + 2) - fm c = TR0 (shf f 104) fm s := by
  unfold TR0
  rw [CKS.mk e hc, shf_st, Int32.sub_eq_add_neg, Nat.zero_mul, Nat.zero_add]
theorem TR1.mk {f fm : Nat → Int32} {s c : Nat} (e : f (104 + 3 * s + 1) = nI c) (hc : c < 2 ^ 31) : f (104 + 3 * s + 2) - -(fm (6 * c)) = TR1 (shf f 104) fm s := by
  unfold TR1
  rw [CKS.mk e hc, shf_st, Int32.sub_eq_add_neg, Int32.neg_neg, show c * 6 + 0 = 6 * c by omega]
section WR
variable {p : Program} {l : Launch} {e : Env} {R : Room} {s : State} {m : MethodId} {args : Array Value} {below : List Frame} {meth : Method} {c : Code} {H : Heap} {locs : List Loc} {cells slots : Nat} {Q : State → Prop}
variable {pc : Nat} {ls : Array Slot} {rest : List Value} {G : GG} {ws : va_W} {A : Nat → Prop} {y0 : MethodName} {b0 : ByteArray} {mL0 : Nat} {rt0 : Option FieldType} {a : Nat} {H0 : Heap}
end WR
theorem SNQ.gom {K : Nat → Nat → Int → Prop} {ft : Nat → Int32} {V : Nat → Prop} {k p : Nat} {fm : Nat → Int32} {x2 r a b : Int32} (hc : CLB K (MAT fm)) (h : ∃ s9, LST ft k p s9 ∧ V p ∧ a = TR0 ft fm s9 ∧ b = TR1 ft fm s9) (hr : (x2 = 0 ∧ r = 1000 + a) ∨ (¬ x2 = 0 ∧ r = 1000 + b)) : HRQ K ft V k p (LST ft k p) x2 r := by
  obtain ⟨s, h3, h2, h4, h5⟩ := h
  rw [h4, h5, Int32.add_comm, Int32.add_comm (1000 : Int32) (TR1 ft fm s)] at hr
  exact Or.inr ⟨fm, s, hc, h2, h3, h3.1, h3.2.1, hr⟩
theorem HRQ.nom {K : Nat → Nat → Int → Prop} {ft : Nat → Int32} {V : Nat → Prop} {k p : Nat} {P : Nat → Prop} {x2 : Int32} (h : ¬ V p ∨ ∀ s9, s9 < k → ¬ ft (s9 * 3 + 0) = nI p) : HRQ K ft V k p P x2 (-3) := Or.inl ⟨Or.inr h, rfl⟩
/-- both sides see the same papers -/
theorem VQE {y fp : Nat → Int32} {td vd vl : Int32} {kp : Nat} (ep : EQT y 32 72 fp) (e0 : y 0 = td) (e1 : y 1 = vd) (e2 : y 2 = vl) (hkp : kp ≤ 12) : ∀ p, p < 12 → (VSE y kp p ↔ VPP (IVW fp td vd vl kp) p) := fun p hp => by
  have q : SEE (shf y 32) (y 0) (y 1) (y 2) p ↔ SEE fp td vd vl p := by
    rw [e0, e1, e2]
    rw [SEE.cg (f := shf y 32) (g := fp) (n := 72) (fun i hi => ep i hi) (by omega)]
  by_cases c : p < kp
  · exact ⟨fun h9 => (IVW.hb hkp c).mpr (q.mp h9.2), fun h9 => ⟨c, q.mpr ((IVW.hb hkp c).mp h9)⟩⟩
  · exact ⟨fun h9 => absurd h9.1 c, fun h9 => absurd h9 (HB.no hkp c hp)⟩
section WR
variable {p : Program} {l : Launch} {e : Env} {R : Room} {s : State} {m : MethodId} {args : Array Value} {below : List Frame} {meth : Method} {c : Code} {H : Heap} {locs : List Loc} {cells slots : Nat} {Q : State → Prop}
variable {pc : Nat} {ls : Array Slot} {rest : List Value} {G : GG} {ws : va_W} {A : Nat → Prop} {y0 : MethodName} {b0 : ByteArray} {mL0 : Nat} {rt0 : Option FieldType} {a : Nat} {H0 : Heap}
end WR
theorem STQ.fst {f : Nat → Int32} {p k s : Nat} (h : STQ f p k 0 s) : FST (shf f 104) k p s := by
  obtain ⟨h1, h2, h3⟩ := h
  refine ⟨h1, (shf_st (f := f) (s := s) (c := 0)).trans h2, fun s2 a e => ?_⟩
  have e2 : f (104 + 3 * s2) = nI p := (shf_st (f := f) (s := s2) (c := 0)).symm.trans e
  have q1 := cntS_lt a e2
  omega
theorem LST.cnt {f : Nat → Int32} {p k s : Nat} (h : LST (shf f 104) k p s) : 1 ≤ cntS f (nI p) k := by
  have e2 : f (104 + 3 * s) = nI p := (shf_st (f := f) (s := s) (c := 0)).symm.trans h.2.1
  have q1 := cntS_lt h.1 e2
  omega
theorem shf_pa {f : Nat → Int32} {p c : Nat} : shf f 32 (p * 6 + c) = f (32 + 6 * p + c) := congrArg f (by omega)
theorem shf_pe {f : Nat → Int32} {e c : Nat} : shf f 12 (e * 2 + c) = f (12 + 2 * e + c) := congrArg f (by omega)
theorem HB.iff {x : Int32} {k : Nat} (hk : k < 31) : HB x (nI k) ↔ (x >>> (nI k &&& 31)) &&& 1 = 1 := ⟨fun h => h.2.2, fun h => HB.mk hk h⟩
theorem HAQ.ra {K : Nat → Nat → Int → Prop} {ft fm : Nat → Int32} {V : Nat → Prop} {by9 to9 z x2 r a b : Int32} {k p e : Nat} (hc : CLB K (MAT fm)) (h : by9 = nI e ∧ ∃ s9, FST ft k p s9 ∧ V p ∧ a = TR0 ft fm s9 ∧ b = TR1 ft fm s9) (hr : (x2 = 0 ∧ r = 1000 + a) ∨ (¬ x2 = 0 ∧ r = 1000 + b)) : HAQ K ft V by9 to9 z k p e x2 r := by
  obtain ⟨hb, s, h3, h2, h4, h5⟩ := h
  rw [h4, h5, Int32.add_comm, Int32.add_comm (1000 : Int32) (TR1 ft fm s)] at hr
  refine Or.inl ⟨hb, Or.inr ⟨fm, s, hc, h2, h3, h3.1, h3.2.1, ?_⟩⟩
  rcases hr with hr | ⟨hx, hr⟩
  · exact Or.inl hr
  · exact Or.inr ⟨hx, by rw [Int32.add_zero]; exact hr⟩
theorem HAQ.rb {K : Nat → Nat → Int → Prop} {ft fm : Nat → Int32} {V : Nat → Prop} {by9 to9 z x2 r a b : Int32} {k p e : Nat} (he : e < 31) (hc : CLB K (MAT fm)) (h : ¬ by9 = nI e ∧ (to9 >>> (nI e &&& 31)) &&& 1 = 1 ∧ ∃ s9, LST ft k p s9 ∧ V p ∧ a = TR0 ft fm s9 ∧ b = TR1 ft fm s9 + z) (hr : (x2 = 0 ∧ r = 1000 + a) ∨ (¬ x2 = 0 ∧ r = 1000 + b)) : HAQ K ft V by9 to9 z k p e x2 r := by
  obtain ⟨hb, ht, s, h3, h2, h4, h5⟩ := h
  rw [h4, h5, Int32.add_comm, Int32.add_comm (1000 : Int32) (TR1 ft fm s + z)] at hr
  exact Or.inr (Or.inl ⟨hb, HB.mk he ht, Or.inr ⟨fm, s, hc, h2, h3, h3.1, h3.2.1, hr⟩⟩)
theorem HAQ.rn {K : Nat → Nat → Int → Prop} {ft : Nat → Int32} {V : Nat → Prop} {by9 to9 z x2 : Int32} {k p e : Nat} (he : e < 31) (h : (¬ V p ∨ ∀ s, s < k → ¬ ft (s * 3 + 0) = nI p) ∨ (¬ by9 = nI e ∧ ¬ (to9 >>> (nI e &&& 31)) &&& 1 = 1)) : HAQ K ft V by9 to9 z k p e x2 (-3) := by
  rcases h with h | ⟨h1, h2⟩
  · exact HAQ.nn (Or.inr h)
  · exact Or.inr (Or.inr ⟨h1, fun h9 => h2 h9.2.2, rfl⟩)
theorem HAQ.re {K : Nat → Nat → Int → Prop} {ft f : Nat → Int32} {V : Nat → Prop} {k p e : Nat} {x2 r : Int32} (h : HAQ K ft V (f (32 + 6 * p + 0)) (f (32 + 6 * p + 1)) (f (12 + 2 * e + 1)) k p e x2 r) : HAQ K ft V (shf f 32 (p * 6 + 0)) (shf f 32 (p * 6 + 1)) (shf f 12 (e * 2 + 1)) k p e x2 r := by
  rw [shf_pa, shf_pa, shf_pe]
  exact h
theorem BFV.rd {f : Nat → Int32} {a b : Nat} (h1 : 0 ≤ (f (104 + 3 * a + 2)).toInt ∧ (f (104 + 3 * a + 2)).toInt ≤ 999) (h2 : 0 ≤ (f (104 + 3 * b + 2)).toInt ∧ (f (104 + 3 * b + 2)).toInt ≤ 999) : (f (104 + 3 * b + 2) - f (104 + 3 * a + 2)).toInt = HRS (shf f 104) b - HRS (shf f 104) a := by
  have e1 : HRS (shf f 104) a = (f (104 + 3 * a + 2)).toInt := congrArg Int32.toInt (shf_st (f := f) (s := a) (c := 2))
  have e2 : HRS (shf f 104) b = (f (104 + 3 * b + 2)).toInt := congrArg Int32.toInt (shf_st (f := f) (s := b) (c := 2))
  rw [ti_sb (by omega) (by omega) (by omega) (by omega), e1, e2]
theorem BFV.rleast {K : Nat → Nat → Int → Prop} {f fm : Nat → Int32} {a b ca cb : Nat} (hc : CLB K (MAT fm)) (h1 : 0 ≤ (f (104 + 3 * a + 2)).toInt ∧ (f (104 + 3 * a + 2)).toInt ≤ 999) (h2 : 0 ≤ (f (104 + 3 * b + 2)).toInt ∧ (f (104 + 3 * b + 2)).toInt ≤ 999) (ea : f (104 + 3 * a + 1) = nI ca) (eb : f (104 + 3 * b + 1) = nI cb) (la : ca < 6) (lb : cb < 6) : (f (104 + 3 * b + 2) - f (104 + 3 * a + 2)) ≤ fm (6 * ca + cb) ↔ ¬ MAT fm (CKS (shf f 104) a) (CKS (shf f 104) b) < HRS (shf f 104) b - HRS (shf f 104) a := by
  have e4 := BFV.rd h1 h2
  have e3 : (fm (6 * ca + cb)).toInt = MAT fm ca cb := congrArg (fun z9 => (fm z9).toInt) (show 6 * ca + cb = ca * 6 + cb by omega)
  rw [Int32.le_iff_toInt_le, e4, e3, CKS.mk ea (by omega), CKS.mk eb (by omega)]
  omega
theorem BFV.rmost {K : Nat → Nat → Int → Prop} {f fm : Nat → Int32} {a b ca cb : Nat} (hc : CLB K (MAT fm)) (h1 : 0 ≤ (f (104 + 3 * a + 2)).toInt ∧ (f (104 + 3 * a + 2)).toInt ≤ 999) (h2 : 0 ≤ (f (104 + 3 * b + 2)).toInt ∧ (f (104 + 3 * b + 2)).toInt ≤ 999) (ea : f (104 + 3 * a + 1) = nI ca) (eb : f (104 + 3 * b + 1) = nI cb) (la : ca < 6) (lb : cb < 6) : (f (104 + 3 * b + 2) - f (104 + 3 * a + 2)) ≤ -(fm (6 * cb + ca)) ↔ ¬ -(MAT fm (CKS (shf f 104) b) (CKS (shf f 104) a)) < HRS (shf f 104) b - HRS (shf f 104) a := by
  have e4 := BFV.rd h1 h2
  have e3 : (fm (6 * cb + ca)).toInt = MAT fm cb ca := congrArg (fun z9 => (fm z9).toInt) (show 6 * cb + ca = cb * 6 + ca by omega)
  have h3 := hc.lim cb ca lb la
  rw [Int32.le_iff_toInt_le, e4, ti_ng (by omega) (by omega), e3, CKS.mk ea (by omega), CKS.mk eb (by omega)]
  omega
section WR
variable {p : Program} {l : Launch} {e : Env} {R : Room} {s : State} {m : MethodId} {args : Array Value} {below : List Frame} {meth : Method} {c : Code} {H : Heap} {locs : List Loc} {cells slots : Nat} {Q : State → Prop}
variable {pc : Nat} {ls : Array Slot} {rest : List Value} {G : GG} {ws : va_W} {A : Nat → Prop} {y0 : MethodName} {b0 : ByteArray} {mL0 : Nat} {rt0 : Option FieldType} {a : Nat} {H0 : Heap}
end WR
set_option maxHeartbeats 4000000 in
set_option maxRecDepth 100000 in
theorem c_freeX (l : Launch) (G : GG) (h0 : Nat) (cm : Nat) (fm : Nat → Int32) : MV l G yX1_free cX1_free 4 1 0 0 [.ref h0] [(h0, .inr (1, [.ref cm])), (cm, .inl (G.2.1, 36, .inl fm))] (fun u : (Nat → Int32) => CLO KB (MAT u)) (fun u : (Nat → Int32) => [(h0, .inr (1, [.ref cm])), (cm, .inl (G.2.1, 36, .inl u))]) := by
  refine MV.start (by decide +kernel) (Nat.le_of_ble_eq_true rfl) ?_
  intro p e s m below meth c A ls hC hK hP hD hS hA hl
  have hl : lv_has ls 4 [(0, .ref h0)] := hl
  obtain ⟨hx, hb, hr, hml, hB, hown, hlocks, hnm⟩ := id hC
  refine lv_iconst (v := 0) hx hb dX1_free_0 (by decide) ?_
  refine lv_istore_n (lv' := [(1, .int 0), (0, .ref h0)]) hx hb dX1_free_1 rfl hl (by decide) rfl (fun ls hl => ?_)
  have keyA : ∀ (nA kA : Nat) (fa : Nat → Int32) (H : Heap) (locs : List Loc) (ls : Array Slot), kA + nA = 6 → (FRP kA 0 (MAT fa)) → va_PD G A [(h0, .inr (1, [.ref cm])), (cm, .inl (G.2.1, 36, .inl fa))] H → va_S A s.heap H locs → lv_has ls 4 [(1, .int (nI kA)), (0, .ref h0)] → W p l e (RM 1 0 0) s m ([.ref h0] : List Value).toArray below meth c H locs 0 0 (MQ below (QV G (fun u : (Nat → Int32) => CLO KB (MAT u)) (fun u : (Nat → Int32) => [(h0, .inr (1, [.ref cm])), (cm, .inl (G.2.1, 36, .inl u))]) A) ([.ref h0] : List Value).toArray s 0 0 A) (F0 m 2 ls []) := by
    intro nA
    induction nA with
    | zero =>
      intro kA fa H locs ls hkA hfa hPD hS hl
      obtain ⟨hP, hD⟩ := hPD
      obtain rfl : 6 = kA := by omega
      have hl : lv_has ls 4 [(1, .int 6), (0, .ref h0)] := hl
      refine lv_iload_n hx hb dX1_free_2 rfl (lv_at hl 0 rfl) ?_
      refine lv_bipush (v := 6) hx hb dX1_free_3 (by decide) ?_
      refine lv_icmp_ge (tgt := 65) hx hb dX1_free_5 (by decide) (fun _ => ?_) (fun c9 => absurd (by decide) c9)
      exact RV hC hP hD hS [0, 1] fa rfl rfl (by decide) (FRP.clo hfa) dX1_free_65
    | succ nA ihA =>
      intro kA fa H locs ls hkA hfa hPD hS hl
      obtain ⟨hP, hD⟩ := hPD
      refine lv_iload_n hx hb dX1_free_2 rfl (lv_at hl 0 rfl) ?_
      refine lv_bipush (v := 6) hx hb dX1_free_3 (by decide) ?_
      refine lv_icmp_ge (tgt := 65) hx hb dX1_free_5 (by decide) (fun c9 => absurd c9 (nI_ge (a := kA) (b := 6) (by omega) (by omega))) (fun _ => ?_)
      refine lv_iconst (v := 0) hx hb dX1_free_8 (by decide) ?_
      refine lv_istore_n (lv' := [(2, .int 0), (1, .int (nI kA)), (0, .ref h0)]) hx hb dX1_free_9 rfl hl (by decide) rfl (fun ls hl => ?_)
      have keyB : ∀ (nB kB : Nat) (fb : Nat → Int32) (H : Heap) (locs : List Loc) (ls : Array Slot), kB + nB = 6 → (FRP kA kB (MAT fb)) → va_PD G A [(h0, .inr (1, [.ref cm])), (cm, .inl (G.2.1, 36, .inl fb))] H → va_S A s.heap H locs → lv_has ls 4 [(2, .int (nI kB)), (1, .int (nI kA)), (0, .ref h0)] → W p l e (RM 1 0 0) s m ([.ref h0] : List Value).toArray below meth c H locs 0 0 (MQ below (QV G (fun u : (Nat → Int32) => CLO KB (MAT u)) (fun u : (Nat → Int32) => [(h0, .inr (1, [.ref cm])), (cm, .inl (G.2.1, 36, .inl u))]) A) ([.ref h0] : List Value).toArray s 0 0 A) (F0 m 10 ls []) := by
        intro nB
        induction nB with
        | zero =>
          intro kB fb H locs ls hkB hfb hPD hS hl
          obtain ⟨hP, hD⟩ := hPD
          obtain rfl : 6 = kB := by omega
          have hl : lv_has ls 4 [(2, .int 6), (1, .int (nI kA)), (0, .ref h0)] := hl
          refine lv_iload_n hx hb dX1_free_10 rfl (lv_at hl 0 rfl) ?_
          refine lv_bipush (v := 6) hx hb dX1_free_11 (by decide) ?_
          refine lv_icmp_ge (tgt := 59) hx hb dX1_free_13 (by decide) (fun _ => ?_) (fun c9 => absurd (by decide) c9)
          refine lv_iinc (v := nI (kA + 1)) (lv' := [(1, .int (nI (kA + 1))), (2, .int 6), (0, .ref h0)]) hx hb dX1_free_59 hl (k := 1) rfl (nI_1 _) (by decide) rfl (fun ls hl => ?_)
          refine lv_goto (tgt := 2) hx hb dX1_free_62 (by decide) ?_
          have hst8 : FRP (kA + 1) 0 (MAT fb) := FRP.row hfb
          exact ihA (kA + 1) fb _ _ _ (by omega) (by first | assumption | exact Or.inl rfl | exact Or.inr rfl | exact FRP.zero) (And.intro hP hD) hS (lv_sub hl [0, 2] rfl)
        | succ nB ihB =>
          intro kB fb H locs ls hkB hfb hPD hS hl
          obtain ⟨hP, hD⟩ := hPD
          refine lv_iload_n hx hb dX1_free_10 rfl (lv_at hl 0 rfl) ?_
          refine lv_bipush (v := 6) hx hb dX1_free_11 (by decide) ?_
          refine lv_icmp_ge (tgt := 59) hx hb dX1_free_13 (by decide) (fun c9 => absurd c9 (nI_ge (a := kB) (b := 6) (by omega) (by omega))) (fun _ => ?_)
          refine lv_iload_n hx hb dX1_free_16 rfl (lv_at hl 1 rfl) ?_
          refine lv_if_eq (tgt := 24) hx hb dX1_free_17 (by decide) (fun c_17_10128 => ?_) (fun c_17_10128 => ?_)
          · refine lv_bipush (v := 60) hx hb dX1_free_24 (by decide) ?_
            refine lv_goto (tgt := 31) hx hb dX1_free_26 (by decide) ?_
            refine lv_istore_n (lv' := [(3, .int 60), (2, .int (nI kB)), (1, .int (nI kA)), (0, .ref h0)]) hx hb dX1_free_31 rfl hl (by decide) rfl (fun ls hl => ?_)
            refine lv_aload_n hx hb dX1_free_32 rfl (lv_at hl 3 rfl) ?_
            refine gf_X1_9 hC rfl hK hP 0 rfl rfl dX1_free_33 ?_
            refine lv_iload_n hx hb dX1_free_36 rfl (lv_at hl 2 rfl) ?_
            refine lv_bipush (v := 6) hx hb dX1_free_37 (by decide) ?_
            refine lv_imul hx hb dX1_free_39 ?_
            refine eqi (x1 := nI (kA * 6)) (nI_mul kA 6) ?_
            refine lv_iload_n hx hb dX1_free_40 rfl (lv_at hl 1 rfl) ?_
            refine lv_iadd hx hb dX1_free_41 ?_
            refine eqi (x1 := nI (kA * 6 + kB)) (nI_add (kA * 6) kB) ?_
            refine lv_iload_n hx hb dX1_free_42 rfl (lv_at hl 2 rfl) ?_
            refine lv_iload_n hx hb dX1_free_43 rfl (lv_at hl 1 rfl) ?_
            refine lv_icmp_ne (tgt := 51) hx hb dX1_free_44 (by decide) (fun c_44_10129 => ?_) (fun c_44_10129 => ?_)
            · refine lv_iload_n hx hb dX1_free_51 rfl (lv_at hl 0 rfl) ?_
              refine ast hC hK hP hD hS 1 (ws' := [(h0, .inr (1, [.ref cm])), (cm, .inl (G.2.1, 36, .inl (upd fb (kA * 6 + kB) 60)))]) rfl (vp_in_nI (by omega) (by omega)) (k := (kA * 6 + kB)) (nI_clamp (by omega)) (rfl) dX1_free_52 (fun H locs hP hD hS => ?_)
              refine lv_iinc (v := nI (kB + 1)) (lv' := [(2, .int (nI (kB + 1))), (3, .int 60), (1, .int (nI kA)), (0, .ref h0)]) hx hb dX1_free_53 hl (k := 1) rfl (nI_1 _) (by decide) rfl (fun ls hl => ?_)
              refine lv_goto (tgt := 10) hx hb dX1_free_56 (by decide) ?_
              have n1 : kA = 0 := nI_z (by omega) c_17_10128
              have n3 : ¬ kA = kB := fun h9 => c_44_10129 (congrArg nI h9)
              have hst9 : FRP kA (kB + 1) (MAT (upd fb (kA * 6 + kB) 60)) := FRP.set hfb (by omega) (by have e0 : (0 : Int32).toInt = 0 := (by decide); have e60 : (60 : Int32).toInt = 60 := (by decide); have e120 : (120 : Int32).toInt = 120 := (by decide); unfold BASW; split <;> (first | omega | (split <;> omega)))
              exact ihB (kB + 1) (upd fb (kA * 6 + kB) 60) _ _ _ (by omega) (by first | assumption | exact Or.inl rfl | exact Or.inr rfl) (And.intro hP hD) hS (lv_sub hl [0, 2, 3] rfl)
            · refine lv_iconst (v := 0) hx hb dX1_free_47 (by decide) ?_
              refine lv_goto (tgt := 52) hx hb dX1_free_48 (by decide) ?_
              refine ast hC hK hP hD hS 1 (ws' := [(h0, .inr (1, [.ref cm])), (cm, .inl (G.2.1, 36, .inl (upd fb (kA * 6 + kB) 0)))]) rfl (vp_in_nI (by omega) (by omega)) (k := (kA * 6 + kB)) (nI_clamp (by omega)) (rfl) dX1_free_52 (fun H locs hP hD hS => ?_)
              refine lv_iinc (v := nI (kB + 1)) (lv' := [(2, .int (nI (kB + 1))), (3, .int 60), (1, .int (nI kA)), (0, .ref h0)]) hx hb dX1_free_53 hl (k := 1) rfl (nI_1 _) (by decide) rfl (fun ls hl => ?_)
              refine lv_goto (tgt := 10) hx hb dX1_free_56 (by decide) ?_
              have n1 : kA = 0 := nI_z (by omega) c_17_10128
              have n3 : kA = kB := (nI_eq (by omega) (by omega)).mp c_44_10129
              have hst9 : FRP kA (kB + 1) (MAT (upd fb (kA * 6 + kB) 0)) := FRP.set hfb (by omega) (by have e0 : (0 : Int32).toInt = 0 := (by decide); have e60 : (60 : Int32).toInt = 60 := (by decide); have e120 : (120 : Int32).toInt = 120 := (by decide); unfold BASW; split <;> (first | omega | (split <;> omega)))
              exact ihB (kB + 1) (upd fb (kA * 6 + kB) 0) _ _ _ (by omega) (by first | assumption | exact Or.inl rfl | exact Or.inr rfl) (And.intro hP hD) hS (lv_sub hl [0, 2, 3] rfl)
          · refine lv_iload_n hx hb dX1_free_20 rfl (lv_at hl 0 rfl) ?_
            refine lv_if_ne (tgt := 29) hx hb dX1_free_21 (by decide) (fun c_21_10130 => ?_) (fun c_21_10130 => ?_)
            · refine lv_bipush (v := 120) hx hb dX1_free_29 (by decide) ?_
              refine lv_istore_n (lv' := [(3, .int 120), (2, .int (nI kB)), (1, .int (nI kA)), (0, .ref h0)]) hx hb dX1_free_31 rfl hl (by decide) rfl (fun ls hl => ?_)
              refine lv_aload_n hx hb dX1_free_32 rfl (lv_at hl 3 rfl) ?_
              refine gf_X1_9 hC rfl hK hP 0 rfl rfl dX1_free_33 ?_
              refine lv_iload_n hx hb dX1_free_36 rfl (lv_at hl 2 rfl) ?_
              refine lv_bipush (v := 6) hx hb dX1_free_37 (by decide) ?_
              refine lv_imul hx hb dX1_free_39 ?_
              refine eqi (x1 := nI (kA * 6)) (nI_mul kA 6) ?_
              refine lv_iload_n hx hb dX1_free_40 rfl (lv_at hl 1 rfl) ?_
              refine lv_iadd hx hb dX1_free_41 ?_
              refine eqi (x1 := nI (kA * 6 + kB)) (nI_add (kA * 6) kB) ?_
              refine lv_iload_n hx hb dX1_free_42 rfl (lv_at hl 2 rfl) ?_
              refine lv_iload_n hx hb dX1_free_43 rfl (lv_at hl 1 rfl) ?_
              refine lv_icmp_ne (tgt := 51) hx hb dX1_free_44 (by decide) (fun c_44_10131 => ?_) (fun c_44_10131 => ?_)
              · refine lv_iload_n hx hb dX1_free_51 rfl (lv_at hl 0 rfl) ?_
                refine ast hC hK hP hD hS 1 (ws' := [(h0, .inr (1, [.ref cm])), (cm, .inl (G.2.1, 36, .inl (upd fb (kA * 6 + kB) 120)))]) rfl (vp_in_nI (by omega) (by omega)) (k := (kA * 6 + kB)) (nI_clamp (by omega)) (rfl) dX1_free_52 (fun H locs hP hD hS => ?_)
                refine lv_iinc (v := nI (kB + 1)) (lv' := [(2, .int (nI (kB + 1))), (3, .int 120), (1, .int (nI kA)), (0, .ref h0)]) hx hb dX1_free_53 hl (k := 1) rfl (nI_1 _) (by decide) rfl (fun ls hl => ?_)
                refine lv_goto (tgt := 10) hx hb dX1_free_56 (by decide) ?_
                have n1 : ¬ kA = 0 := fun h9 => c_17_10128 (congrArg nI h9)
                have n2 : ¬ kB = 0 := fun h9 => c_21_10130 (congrArg nI h9)
                have n3 : ¬ kA = kB := fun h9 => c_44_10131 (congrArg nI h9)
                have hst9 : FRP kA (kB + 1) (MAT (upd fb (kA * 6 + kB) 120)) := FRP.set hfb (by omega) (by have e0 : (0 : Int32).toInt = 0 := (by decide); have e60 : (60 : Int32).toInt = 60 := (by decide); have e120 : (120 : Int32).toInt = 120 := (by decide); unfold BASW; split <;> (first | omega | (split <;> omega)))
                exact ihB (kB + 1) (upd fb (kA * 6 + kB) 120) _ _ _ (by omega) (by first | assumption | exact Or.inl rfl | exact Or.inr rfl) (And.intro hP hD) hS (lv_sub hl [0, 2, 3] rfl)
              · refine lv_iconst (v := 0) hx hb dX1_free_47 (by decide) ?_
                refine lv_goto (tgt := 52) hx hb dX1_free_48 (by decide) ?_
                refine ast hC hK hP hD hS 1 (ws' := [(h0, .inr (1, [.ref cm])), (cm, .inl (G.2.1, 36, .inl (upd fb (kA * 6 + kB) 0)))]) rfl (vp_in_nI (by omega) (by omega)) (k := (kA * 6 + kB)) (nI_clamp (by omega)) (rfl) dX1_free_52 (fun H locs hP hD hS => ?_)
                refine lv_iinc (v := nI (kB + 1)) (lv' := [(2, .int (nI (kB + 1))), (3, .int 120), (1, .int (nI kA)), (0, .ref h0)]) hx hb dX1_free_53 hl (k := 1) rfl (nI_1 _) (by decide) rfl (fun ls hl => ?_)
                refine lv_goto (tgt := 10) hx hb dX1_free_56 (by decide) ?_
                have n1 : ¬ kA = 0 := fun h9 => c_17_10128 (congrArg nI h9)
                have n2 : ¬ kB = 0 := fun h9 => c_21_10130 (congrArg nI h9)
                have n3 : kA = kB := (nI_eq (by omega) (by omega)).mp c_44_10131
                have hst9 : FRP kA (kB + 1) (MAT (upd fb (kA * 6 + kB) 0)) := FRP.set hfb (by omega) (by have e0 : (0 : Int32).toInt = 0 := (by decide); have e60 : (60 : Int32).toInt = 60 := (by decide); have e120 : (120 : Int32).toInt = 120 := (by decide); unfold BASW; split <;> (first | omega | (split <;> omega)))
                exact ihB (kB + 1) (upd fb (kA * 6 + kB) 0) _ _ _ (by omega) (by first | assumption | exact Or.inl rfl | exact Or.inr rfl) (And.intro hP hD) hS (lv_sub hl [0, 2, 3] rfl)
            · refine lv_bipush (v := 60) hx hb dX1_free_24 (by decide) ?_
              refine lv_goto (tgt := 31) hx hb dX1_free_26 (by decide) ?_
              refine lv_istore_n (lv' := [(3, .int 60), (2, .int (nI kB)), (1, .int (nI kA)), (0, .ref h0)]) hx hb dX1_free_31 rfl hl (by decide) rfl (fun ls hl => ?_)
              refine lv_aload_n hx hb dX1_free_32 rfl (lv_at hl 3 rfl) ?_
              refine gf_X1_9 hC rfl hK hP 0 rfl rfl dX1_free_33 ?_
              refine lv_iload_n hx hb dX1_free_36 rfl (lv_at hl 2 rfl) ?_
              refine lv_bipush (v := 6) hx hb dX1_free_37 (by decide) ?_
              refine lv_imul hx hb dX1_free_39 ?_
              refine eqi (x1 := nI (kA * 6)) (nI_mul kA 6) ?_
              refine lv_iload_n hx hb dX1_free_40 rfl (lv_at hl 1 rfl) ?_
              refine lv_iadd hx hb dX1_free_41 ?_
              refine eqi (x1 := nI (kA * 6 + kB)) (nI_add (kA * 6) kB) ?_
              refine lv_iload_n hx hb dX1_free_42 rfl (lv_at hl 2 rfl) ?_
              refine lv_iload_n hx hb dX1_free_43 rfl (lv_at hl 1 rfl) ?_
              refine lv_icmp_ne (tgt := 51) hx hb dX1_free_44 (by decide) (fun c_44_10132 => ?_) (fun c_44_10132 => ?_)
              · refine lv_iload_n hx hb dX1_free_51 rfl (lv_at hl 0 rfl) ?_
                refine ast hC hK hP hD hS 1 (ws' := [(h0, .inr (1, [.ref cm])), (cm, .inl (G.2.1, 36, .inl (upd fb (kA * 6 + kB) 60)))]) rfl (vp_in_nI (by omega) (by omega)) (k := (kA * 6 + kB)) (nI_clamp (by omega)) (rfl) dX1_free_52 (fun H locs hP hD hS => ?_)
                refine lv_iinc (v := nI (kB + 1)) (lv' := [(2, .int (nI (kB + 1))), (3, .int 60), (1, .int (nI kA)), (0, .ref h0)]) hx hb dX1_free_53 hl (k := 1) rfl (nI_1 _) (by decide) rfl (fun ls hl => ?_)
                refine lv_goto (tgt := 10) hx hb dX1_free_56 (by decide) ?_
                have n1 : ¬ kA = 0 := fun h9 => c_17_10128 (congrArg nI h9)
                have n2 : kB = 0 := nI_z (by omega) c_21_10130
                have n3 : ¬ kA = kB := fun h9 => c_44_10132 (congrArg nI h9)
                have hst9 : FRP kA (kB + 1) (MAT (upd fb (kA * 6 + kB) 60)) := FRP.set hfb (by omega) (by have e0 : (0 : Int32).toInt = 0 := (by decide); have e60 : (60 : Int32).toInt = 60 := (by decide); have e120 : (120 : Int32).toInt = 120 := (by decide); unfold BASW; split <;> (first | omega | (split <;> omega)))
                exact ihB (kB + 1) (upd fb (kA * 6 + kB) 60) _ _ _ (by omega) (by first | assumption | exact Or.inl rfl | exact Or.inr rfl) (And.intro hP hD) hS (lv_sub hl [0, 2, 3] rfl)
              · refine lv_iconst (v := 0) hx hb dX1_free_47 (by decide) ?_
                refine lv_goto (tgt := 52) hx hb dX1_free_48 (by decide) ?_
                refine ast hC hK hP hD hS 1 (ws' := [(h0, .inr (1, [.ref cm])), (cm, .inl (G.2.1, 36, .inl (upd fb (kA * 6 + kB) 0)))]) rfl (vp_in_nI (by omega) (by omega)) (k := (kA * 6 + kB)) (nI_clamp (by omega)) (rfl) dX1_free_52 (fun H locs hP hD hS => ?_)
                refine lv_iinc (v := nI (kB + 1)) (lv' := [(2, .int (nI (kB + 1))), (3, .int 60), (1, .int (nI kA)), (0, .ref h0)]) hx hb dX1_free_53 hl (k := 1) rfl (nI_1 _) (by decide) rfl (fun ls hl => ?_)
                refine lv_goto (tgt := 10) hx hb dX1_free_56 (by decide) ?_
                have n1 : ¬ kA = 0 := fun h9 => c_17_10128 (congrArg nI h9)
                have n2 : kB = 0 := nI_z (by omega) c_21_10130
                have n3 : kA = kB := (nI_eq (by omega) (by omega)).mp c_44_10132
                have hst9 : FRP kA (kB + 1) (MAT (upd fb (kA * 6 + kB) 0)) := FRP.set hfb (by omega) (by have e0 : (0 : Int32).toInt = 0 := (by decide); have e60 : (60 : Int32).toInt = 60 := (by decide); have e120 : (120 : Int32).toInt = 120 := (by decide); unfold BASW; split <;> (first | omega | (split <;> omega)))
                exact ihB (kB + 1) (upd fb (kA * 6 + kB) 0) _ _ _ (by omega) (by first | assumption | exact Or.inl rfl | exact Or.inr rfl) (And.intro hP hD) hS (lv_sub hl [0, 2, 3] rfl)
      exact keyB 6 0 fa _ _ _ (by omega) (by first | assumption | exact Or.inl rfl | exact Or.inr rfl) (And.intro hP hD) hS (lv_sub hl [0, 1, 2] rfl)
  exact keyA 6 0 fm _ _ _ (by omega) (by first | assumption | exact Or.inl rfl | exact Or.inr rfl | exact FRP.zero) (And.intro hP hD) hS (lv_sub hl [0, 1] rfl)
set_option maxHeartbeats 4000000 in
set_option maxRecDepth 100000 in
theorem c_narrowX (l : Launch) (G : GG) (K9 : Nat → Nat → Int → Prop) (h0 : Nat) (jf : Nat) (jt : Nat) (bo : Int32) (cm : Nat) (fm : Nat → Int32) (hCB : CLB K9 (MAT fm)) (hb1 : -2000 ≤ bo.toInt) (hb2 : bo.toInt ≤ 2000) (hjf : jf < 6) (hjt : jt < 6) : MI l G yX1_narrow cX1_narrow 8 (some .boolean) 2 0 0 [.ref h0, .int (nI jf), .int (nI jt), .int bo] [(h0, .inr (1, [.ref cm])), (cm, .inl (G.2.1, 36, .inl fm))] (fun (r : Int32) (u : (Nat → Int32)) => ((r = 1 ∧ CLB (KAD K9 jf jt bo.toInt) (MAT u)) ∨ (r = 0 ∧ NOS (KAD K9 jf jt bo.toInt)))) (fun u : (Nat → Int32) => [(h0, .inr (1, [.ref cm])), (cm, .inl (G.2.1, 36, .inl u))]) := by
  refine MI.start (by decide +kernel) (Nat.le_of_ble_eq_true rfl) ?_
  intro p e s m below meth c A ls hC hK hP hD hS hA hl
  have hl : lv_has ls 8 [(0, .ref h0), (1, .int (nI jf)), (2, .int (nI jt)), (3, .int bo)] := hl
  obtain ⟨hx, hb, hr, hml, hB, hown, hlocks, hnm⟩ := id hC
  have wj1 : Wi (nI jf) 0 5 := Wi_j (N := 5) rfl (by decide) (by omega)
  have wj2 : Wi (nI jt) 0 5 := Wi_j (N := 5) rfl (by decide) (by omega)
  have hlm := hCB.lim
  have hlt := nar_lt (x := fm (jt * 6 + jf)) (y := bo) (a := MAT fm jt jf) rfl (hlm jt jf hjt hjf).1 (hlm jt jf hjt hjf).2 hb1 hb2
  refine lv_iload_n hx hb dX1_narrow_0 rfl (lv_at hl 1 rfl) ?_
  refine lv_iconst (v := 0) hx hb dX1_narrow_1 (by decide) ?_
  refine lv_iconst (v := 5) hx hb dX1_narrow_2 (by decide) ?_
  refine pSN hC hK hl (c_within l G (nI jf) 0 5) si_X1_31 rfl rfl (Nat.le_of_ble_eq_true rfl) ⟨Nat.le_of_ble_eq_true rfl, Nat.le_of_ble_eq_true rfl⟩ ⟨by first | exact Nat.le_of_ble_eq_true rfl | exact Nat.zero_le _, by first | exact Nat.le_of_ble_eq_true rfl | exact Nat.zero_le _⟩ dX1_narrow_3 (fun r10133 hr10133 => ?_)
  rcases hr10133 with ⟨rfl, a10134⟩ | ⟨rfl, a10134⟩
  · refine lv_if_eq (tgt := 18) hx hb dX1_narrow_6 (by decide) (fun c9 => absurd c9 (by decide)) (fun _ => ?_)
    refine lv_iload_n hx hb dX1_narrow_9 rfl (lv_at hl 2 rfl) ?_
    refine lv_iconst (v := 0) hx hb dX1_narrow_10 (by decide) ?_
    refine lv_iconst (v := 5) hx hb dX1_narrow_11 (by decide) ?_
    refine pSN hC hK hl (c_within l G (nI jt) 0 5) si_X1_31 rfl rfl (Nat.le_of_ble_eq_true rfl) ⟨Nat.le_of_ble_eq_true rfl, Nat.le_of_ble_eq_true rfl⟩ ⟨by first | exact Nat.le_of_ble_eq_true rfl | exact Nat.zero_le _, by first | exact Nat.le_of_ble_eq_true rfl | exact Nat.zero_le _⟩ dX1_narrow_12 (fun r10135 hr10135 => ?_)
    rcases hr10135 with ⟨rfl, a10136⟩ | ⟨rfl, a10136⟩
    · refine lv_if_ne (tgt := 20) hx hb dX1_narrow_15 (by decide) (fun _ => ?_) (fun c9 => absurd c9 (by decide))
      refine lv_aload_n hx hb dX1_narrow_20 rfl (lv_at hl 0 rfl) ?_
      refine gf_X1_9 hC rfl hK hP 0 rfl rfl dX1_narrow_21 ?_
      refine lv_iload_n hx hb dX1_narrow_24 rfl (lv_at hl 2 rfl) ?_
      refine lv_bipush (v := 6) hx hb dX1_narrow_25 (by decide) ?_
      refine lv_imul hx hb dX1_narrow_27 ?_
      refine eqi (x1 := nI (jt * 6)) (nI_mul jt 6) ?_
      refine lv_iload_n hx hb dX1_narrow_28 rfl (lv_at hl 1 rfl) ?_
      refine lv_iadd hx hb dX1_narrow_29 ?_
      refine eqi (x1 := nI (jt * 6 + jf)) (nI_add (jt * 6) jf) ?_
      refine ald hC hK hP 1 rfl (vp_in_nI (by omega) (by omega)) (k := (jt * 6 + jf)) (nI_clamp (by omega)) (v := fm (jt * 6 + jf)) rfl dX1_narrow_30 ?_
      refine lv_iload_n hx hb dX1_narrow_31 rfl (lv_at hl 3 rfl) ?_
      refine lv_iadd hx hb dX1_narrow_32 ?_
      refine lv_if_ge (tgt := 38) hx hb dX1_narrow_33 (by decide) (fun c_33_10137 => ?_) (fun c_33_10137 => ?_)
      · refine lv_iload_n hx hb dX1_narrow_38 rfl (lv_at hl 3 rfl) ?_
        refine lv_aload_n hx hb dX1_narrow_39 rfl (lv_at hl 0 rfl) ?_
        refine gf_X1_9 hC rfl hK hP 0 rfl rfl dX1_narrow_40 ?_
        refine lv_iload_n hx hb dX1_narrow_43 rfl (lv_at hl 1 rfl) ?_
        refine lv_bipush (v := 6) hx hb dX1_narrow_44 (by decide) ?_
        refine lv_imul hx hb dX1_narrow_46 ?_
        refine eqi (x1 := nI (jf * 6)) (nI_mul jf 6) ?_
        refine lv_iload_n hx hb dX1_narrow_47 rfl (lv_at hl 2 rfl) ?_
        refine lv_iadd hx hb dX1_narrow_48 ?_
        refine eqi (x1 := nI (jf * 6 + jt)) (nI_add (jf * 6) jt) ?_
        refine ald hC hK hP 1 rfl (vp_in_nI (by omega) (by omega)) (k := (jf * 6 + jt)) (nI_clamp (by omega)) (v := fm (jf * 6 + jt)) rfl dX1_narrow_49 ?_
        refine lv_icmp_lt (tgt := 55) hx hb dX1_narrow_50 (by decide) (fun c_50_10138 => ?_) (fun c_50_10138 => ?_)
        · refine lv_iconst (v := 0) hx hb dX1_narrow_55 (by decide) ?_
          refine lv_istore (lv' := [(4, .int 0), (0, .ref h0), (1, .int (nI jf)), (2, .int (nI jt)), (3, .int bo)]) hx hb dX1_narrow_56 hl (by decide) rfl (fun ls hl => ?_)
          have keyA : ∀ (nA kA : Nat) (fa : Nat → Int32) (H : Heap) (locs : List Loc) (ls : Array Slot), kA + nA = 6 → (NRP (MAT fm) jf jt bo.toInt kA 0 (MAT fa)) → va_PD G A [(h0, .inr (1, [.ref cm])), (cm, .inl (G.2.1, 36, .inl fa))] H → va_S A s.heap H locs → lv_has ls 8 [(4, .int (nI kA)), (0, .ref h0), (1, .int (nI jf)), (2, .int (nI jt)), (3, .int bo)] → W p l e (RM 2 0 0) s m ([.ref h0, .int (nI jf), .int (nI jt), .int bo] : List Value).toArray below meth c H locs 0 0 (MQ below (QI G (fun (r : Int32) (u : (Nat → Int32)) => ((r = 1 ∧ CLB (KAD K9 jf jt bo.toInt) (MAT u)) ∨ (r = 0 ∧ NOS (KAD K9 jf jt bo.toInt)))) (fun u : (Nat → Int32) => [(h0, .inr (1, [.ref cm])), (cm, .inl (G.2.1, 36, .inl u))]) A) ([.ref h0, .int (nI jf), .int (nI jt), .int bo] : List Value).toArray s 0 0 A) (F0 m 58 ls []) := by
            intro nA
            induction nA with
            | zero =>
              intro kA fa H locs ls hkA hnA hPD hS hl
              obtain ⟨hP, hD⟩ := hPD
              obtain rfl : 6 = kA := by omega
              have hl : lv_has ls 8 [(4, .int 6), (0, .ref h0), (1, .int (nI jf)), (2, .int (nI jt)), (3, .int bo)] := hl
              refine lv_iload hx hb dX1_narrow_58 (lv_at hl 0 rfl) ?_
              refine lv_bipush (v := 6) hx hb dX1_narrow_60 (by decide) ?_
              refine lv_icmp_ge (tgt := 153) hx hb dX1_narrow_62 (by decide) (fun _ => ?_) (fun c9 => absurd (by decide) c9)
              refine lv_iconst (v := 1) hx hb dX1_narrow_153 (by decide) ?_
              exact RI (v := 1) hC hP hD hS [0, 1] fa rfl rfl (by decide) (Or.inl ⟨rfl, NRP.clo hnA hCB.1 hjf hjt (hlt.mp c_33_10137), hCB.2.ad⟩) (by decide +kernel) dX1_narrow_154
            | succ nA ihA =>
              intro kA fa H locs ls hkA hnA hPD hS hl
              obtain ⟨hP, hD⟩ := hPD
              refine lv_iload hx hb dX1_narrow_58 (lv_at hl 0 rfl) ?_
              refine lv_bipush (v := 6) hx hb dX1_narrow_60 (by decide) ?_
              refine lv_icmp_ge (tgt := 153) hx hb dX1_narrow_62 (by decide) (fun c9 => absurd c9 (nI_ge (a := kA) (b := 6) (by omega) (by omega))) (fun _ => ?_)
              refine lv_aload_n hx hb dX1_narrow_65 rfl (lv_at hl 1 rfl) ?_
              refine gf_X1_9 hC rfl hK hP 0 rfl rfl dX1_narrow_66 ?_
              refine lv_iload hx hb dX1_narrow_69 (lv_at hl 0 rfl) ?_
              refine lv_bipush (v := 6) hx hb dX1_narrow_71 (by decide) ?_
              refine lv_imul hx hb dX1_narrow_73 ?_
              refine eqi (x1 := nI (kA * 6)) (nI_mul kA 6) ?_
              refine lv_iload_n hx hb dX1_narrow_74 rfl (lv_at hl 2 rfl) ?_
              refine lv_iadd hx hb dX1_narrow_75 ?_
              refine eqi (x1 := nI (kA * 6 + jf)) (nI_add (kA * 6) jf) ?_
              refine ald hC hK hP 1 rfl (vp_in_nI (by omega) (by omega)) (k := (kA * 6 + jf)) (nI_clamp (by omega)) (v := fa (kA * 6 + jf)) rfl dX1_narrow_76 ?_
              refine lv_iload_n hx hb dX1_narrow_77 rfl (lv_at hl 4 rfl) ?_
              refine lv_iadd hx hb dX1_narrow_78 ?_
              refine lv_istore (lv' := [(5, .int ((fa (kA * 6 + jf)) + bo)), (4, .int (nI kA)), (0, .ref h0), (1, .int (nI jf)), (2, .int (nI jt)), (3, .int bo)]) hx hb dX1_narrow_79 hl (by decide) rfl (fun ls hl => ?_)
              refine lv_iconst (v := 0) hx hb dX1_narrow_81 (by decide) ?_
              refine lv_istore (lv' := [(6, .int 0), (5, .int ((fa (kA * 6 + jf)) + bo)), (4, .int (nI kA)), (0, .ref h0), (1, .int (nI jf)), (2, .int (nI jt)), (3, .int bo)]) hx hb dX1_narrow_82 hl (by decide) rfl (fun ls hl => ?_)
              have keyB : ∀ (nB kB : Nat) (fb : Nat → Int32) (H : Heap) (locs : List Loc) (ls : Array Slot), kB + nB = 6 → (NRP (MAT fm) jf jt bo.toInt kA kB (MAT fb)) → va_PD G A [(h0, .inr (1, [.ref cm])), (cm, .inl (G.2.1, 36, .inl fb))] H → va_S A s.heap H locs → lv_has ls 8 [(6, .int (nI kB)), (5, .int ((fa (kA * 6 + jf)) + bo)), (4, .int (nI kA)), (0, .ref h0), (1, .int (nI jf)), (2, .int (nI jt)), (3, .int bo)] → W p l e (RM 2 0 0) s m ([.ref h0, .int (nI jf), .int (nI jt), .int bo] : List Value).toArray below meth c H locs 0 0 (MQ below (QI G (fun (r : Int32) (u : (Nat → Int32)) => ((r = 1 ∧ CLB (KAD K9 jf jt bo.toInt) (MAT u)) ∨ (r = 0 ∧ NOS (KAD K9 jf jt bo.toInt)))) (fun u : (Nat → Int32) => [(h0, .inr (1, [.ref cm])), (cm, .inl (G.2.1, 36, .inl u))]) A) ([.ref h0, .int (nI jf), .int (nI jt), .int bo] : List Value).toArray s 0 0 A) (F0 m 84 ls []) := by
                intro nB
                induction nB with
                | zero =>
                  intro kB fb H locs ls hkB hnB hPD hS hl
                  obtain ⟨hP, hD⟩ := hPD
                  obtain rfl : 6 = kB := by omega
                  have hl : lv_has ls 8 [(6, .int 6), (5, .int ((fa (kA * 6 + jf)) + bo)), (4, .int (nI kA)), (0, .ref h0), (1, .int (nI jf)), (2, .int (nI jt)), (3, .int bo)] := hl
                  refine lv_iload hx hb dX1_narrow_84 (lv_at hl 0 rfl) ?_
                  refine lv_bipush (v := 6) hx hb dX1_narrow_86 (by decide) ?_
                  refine lv_icmp_ge (tgt := 147) hx hb dX1_narrow_88 (by decide) (fun _ => ?_) (fun c9 => absurd (by decide) c9)
                  refine lv_iinc (v := nI (kA + 1)) (lv' := [(4, .int (nI (kA + 1))), (6, .int 6), (5, .int ((fa (kA * 6 + jf)) + bo)), (0, .ref h0), (1, .int (nI jf)), (2, .int (nI jt)), (3, .int bo)]) hx hb dX1_narrow_147 hl (k := 2) rfl (nI_1 _) (by decide) rfl (fun ls hl => ?_)
                  refine lv_goto (tgt := 58) hx hb dX1_narrow_150 (by decide) ?_
                  have hst8 : NRP (MAT fm) jf jt bo.toInt (kA + 1) 0 (MAT fb) := NRP.row hnB
                  exact ihA (kA + 1) fb _ _ _ (by omega) (by first | assumption | exact Or.inl rfl | exact Or.inr rfl | exact NRP.zero) (And.intro hP hD) hS (lv_sub hl [0, 3, 4, 5, 6] rfl)
                | succ nB ihB =>
                  intro kB fb H locs ls hkB hnB hPD hS hl
                  obtain ⟨hP, hD⟩ := hPD
                  refine lv_iload hx hb dX1_narrow_84 (lv_at hl 0 rfl) ?_
                  refine lv_bipush (v := 6) hx hb dX1_narrow_86 (by decide) ?_
                  refine lv_icmp_ge (tgt := 147) hx hb dX1_narrow_88 (by decide) (fun c9 => absurd c9 (nI_ge (a := kB) (b := 6) (by omega) (by omega))) (fun _ => ?_)
                  refine lv_iload hx hb dX1_narrow_91 (lv_at hl 1 rfl) ?_
                  refine lv_aload_n hx hb dX1_narrow_93 rfl (lv_at hl 3 rfl) ?_
                  refine gf_X1_9 hC rfl hK hP 0 rfl rfl dX1_narrow_94 ?_
                  refine lv_iload_n hx hb dX1_narrow_97 rfl (lv_at hl 5 rfl) ?_
                  refine lv_bipush (v := 6) hx hb dX1_narrow_98 (by decide) ?_
                  refine lv_imul hx hb dX1_narrow_100 ?_
                  refine eqi (x1 := nI (jt * 6)) (nI_mul jt 6) ?_
                  refine lv_iload hx hb dX1_narrow_101 (lv_at hl 0 rfl) ?_
                  refine lv_iadd hx hb dX1_narrow_103 ?_
                  refine eqi (x1 := nI (jt * 6 + kB)) (nI_add (jt * 6) kB) ?_
                  refine ald hC hK hP 1 rfl (vp_in_nI (by omega) (by omega)) (k := (jt * 6 + kB)) (nI_clamp (by omega)) (v := fb (jt * 6 + kB)) rfl dX1_narrow_104 ?_
                  refine lv_iadd hx hb dX1_narrow_105 ?_
                  refine lv_istore (lv' := [(7, .int (((fa (kA * 6 + jf)) + bo) + (fb (jt * 6 + kB)))), (6, .int (nI kB)), (5, .int ((fa (kA * 6 + jf)) + bo)), (4, .int (nI kA)), (0, .ref h0), (1, .int (nI jf)), (2, .int (nI jt)), (3, .int bo)]) hx hb dX1_narrow_106 hl (by decide) rfl (fun ls hl => ?_)
                  refine lv_iload hx hb dX1_narrow_108 (lv_at hl 0 rfl) ?_
                  refine lv_aload_n hx hb dX1_narrow_110 rfl (lv_at hl 4 rfl) ?_
                  refine gf_X1_9 hC rfl hK hP 0 rfl rfl dX1_narrow_111 ?_
                  refine lv_iload hx hb dX1_narrow_114 (lv_at hl 3 rfl) ?_
                  refine lv_bipush (v := 6) hx hb dX1_narrow_116 (by decide) ?_
                  refine lv_imul hx hb dX1_narrow_118 ?_
                  refine eqi (x1 := nI (kA * 6)) (nI_mul kA 6) ?_
                  refine lv_iload hx hb dX1_narrow_119 (lv_at hl 1 rfl) ?_
                  refine lv_iadd hx hb dX1_narrow_121 ?_
                  refine eqi (x1 := nI (kA * 6 + kB)) (nI_add (kA * 6) kB) ?_
                  refine ald hC hK hP 1 rfl (vp_in_nI (by omega) (by omega)) (k := (kA * 6 + kB)) (nI_clamp (by omega)) (v := fb (kA * 6 + kB)) rfl dX1_narrow_122 ?_
                  refine lv_icmp_ge (tgt := 141) hx hb dX1_narrow_123 (by decide) (fun c_123_10139 => ?_) (fun c_123_10139 => ?_)
                  · refine lv_iinc (v := nI (kB + 1)) (lv' := [(6, .int (nI (kB + 1))), (7, .int (((fa (kA * 6 + jf)) + bo) + (fb (jt * 6 + kB)))), (5, .int ((fa (kA * 6 + jf)) + bo)), (4, .int (nI kA)), (0, .ref h0), (1, .int (nI jf)), (2, .int (nI jt)), (3, .int bo)]) hx hb dX1_narrow_141 hl (k := 1) rfl (nI_1 _) (by decide) rfl (fun ls hl => ?_)
                    refine lv_goto (tgt := 84) hx hb dX1_narrow_144 (by decide) ?_
                    have hwy := NRP.way hnA hnB (by omega) (by omega) hjf hjt hlm hb1 hb2 (hlt.mp c_33_10137)
                    have hst9 : NRP (MAT fm) jf jt bo.toInt kA (kB + 1) (MAT fb) := NRP.skip hnB (by omega) (by omega) hwy c_123_10139
                    exact ihB (kB + 1) fb _ _ _ (by omega) (by first | assumption | exact Or.inl rfl | exact Or.inr rfl) (And.intro hP hD) hS (lv_sub hl [0, 2, 3, 4, 5, 6, 7] rfl)
                  · refine lv_aload_n hx hb dX1_narrow_126 rfl (lv_at hl 4 rfl) ?_
                    refine gf_X1_9 hC rfl hK hP 0 rfl rfl dX1_narrow_127 ?_
                    refine lv_iload hx hb dX1_narrow_130 (lv_at hl 3 rfl) ?_
                    refine lv_bipush (v := 6) hx hb dX1_narrow_132 (by decide) ?_
                    refine lv_imul hx hb dX1_narrow_134 ?_
                    refine eqi (x1 := nI (kA * 6)) (nI_mul kA 6) ?_
                    refine lv_iload hx hb dX1_narrow_135 (lv_at hl 1 rfl) ?_
                    refine lv_iadd hx hb dX1_narrow_137 ?_
                    refine eqi (x1 := nI (kA * 6 + kB)) (nI_add (kA * 6) kB) ?_
                    refine lv_iload hx hb dX1_narrow_138 (lv_at hl 0 rfl) ?_
                    refine ast hC hK hP hD hS 1 (ws' := [(h0, .inr (1, [.ref cm])), (cm, .inl (G.2.1, 36, .inl (upd fb (kA * 6 + kB) (((fa (kA * 6 + jf)) + bo) + (fb (jt * 6 + kB))))))]) rfl (vp_in_nI (by omega) (by omega)) (k := (kA * 6 + kB)) (nI_clamp (by omega)) (rfl) dX1_narrow_140 (fun H locs hP hD hS => ?_)
                    refine lv_iinc (v := nI (kB + 1)) (lv' := [(6, .int (nI (kB + 1))), (7, .int (((fa (kA * 6 + jf)) + bo) + (fb (jt * 6 + kB)))), (5, .int ((fa (kA * 6 + jf)) + bo)), (4, .int (nI kA)), (0, .ref h0), (1, .int (nI jf)), (2, .int (nI jt)), (3, .int bo)]) hx hb dX1_narrow_141 hl (k := 1) rfl (nI_1 _) (by decide) rfl (fun ls hl => ?_)
                    refine lv_goto (tgt := 84) hx hb dX1_narrow_144 (by decide) ?_
                    have hwy := NRP.way hnA hnB (by omega) (by omega) hjf hjt hlm hb1 hb2 (hlt.mp c_33_10137)
                    have hst9 : NRP (MAT fm) jf jt bo.toInt kA (kB + 1) (MAT (upd fb (kA * 6 + kB) (((fa (kA * 6 + jf)) + bo) + (fb (jt * 6 + kB))))) := NRP.put hnB (by omega) (by omega) hwy c_123_10139
                    exact ihB (kB + 1) (upd fb (kA * 6 + kB) (((fa (kA * 6 + jf)) + bo) + (fb (jt * 6 + kB)))) _ _ _ (by omega) (by first | assumption | exact Or.inl rfl | exact Or.inr rfl) (And.intro hP hD) hS (lv_sub hl [0, 2, 3, 4, 5, 6, 7] rfl)
              exact keyB 6 0 fa _ _ _ (by omega) (by first | assumption | exact Or.inl rfl | exact Or.inr rfl) (And.intro hP hD) hS (lv_sub hl [0, 1, 2, 3, 4, 5, 6] rfl)
          exact keyA 6 0 fm _ _ _ (by omega) (by first | assumption | exact Or.inl rfl | exact Or.inr rfl | exact NRP.zero) (And.intro hP hD) hS (lv_sub hl [0, 1, 2, 3, 4] rfl)
        · refine lv_iconst (v := 1) hx hb dX1_narrow_53 (by decide) ?_
          exact RI (v := 1) hC hP hD hS [0, 1] fm rfl rfl (by decide) (Or.inl ⟨rfl, hCB.1.same hjf hjt (by have h8 := Int32.not_lt.mp c_50_10138; rw [Int32.le_iff_toInt_le] at h8; exact h8), hCB.2.ad⟩) (by decide +kernel) dX1_narrow_54
      · refine lv_iconst (v := 0) hx hb dX1_narrow_36 (by decide) ?_
        exact RI (v := 0) hC hP hD hS [0, 1] fm rfl rfl (by decide) (Or.inr ⟨rfl, hCB.1.no hjf hjt (by have h8 : ¬ 0 ≤ MAT fm jt jf + bo.toInt := fun h9 => c_33_10137 (hlt.mpr h9); omega)⟩) (by decide +kernel) dX1_narrow_37
    · exact absurd wj2 a10136
  · exact absurd wj1 a10134
set_option maxHeartbeats 4000000 in
set_option maxRecDepth 100000 in
theorem c_followX (l : Launch) (G : GG) (K9 : Nat → Nat → Int → Prop) (h0 : Nat) (tt : Nat) (ja : Nat) (jb : Nat) (gp : Int32) (cm : Nat) (fm : Nat → Int32) (tc : Nat) (kt : Nat) (ft : Nat → Int32) (hCB : CLB K9 (MAT fm)) (hSV : SVL ft kt) (hgp : GPR gp) (hja : ja < kt) (hjb : jb < kt) (hkt : kt ≤ 24) : MI l G yX1_follow cX1_follow 8 (some .boolean) 3 0 0 [.ref h0, .ref tt, .int (nI ja), .int (nI jb), .int gp] [(h0, .inr (1, [.ref cm])), (cm, .inl (G.2.1, 36, .inl fm)), (tt, .inr (8, [.int 24, .int 3, .ref tc, .int (nI kt)])), (tc, .inl (G.2.1, 72, .inl ft))] (fun (r : Int32) (u : (Nat → Int32)) => ((r = 1 ∧ CLB (KFO K9 ft gp.toInt ja jb) (MAT u)) ∨ (r = 0 ∧ NOS (KFO K9 ft gp.toInt ja jb)))) (fun u : (Nat → Int32) => [(h0, .inr (1, [.ref cm])), (cm, .inl (G.2.1, 36, .inl u)), (tt, .inr (8, [.int 24, .int 3, .ref tc, .int (nI kt)])), (tc, .inl (G.2.1, 72, .inl ft))]) := by
  refine MI.start (by decide +kernel) (Nat.le_of_ble_eq_true rfl) ?_
  intro p e s m below meth c A ls hC hK hP hD hS hA hl
  have hl : lv_has ls 8 [(0, .ref h0), (1, .ref tt), (2, .int (nI ja)), (3, .int (nI jb)), (4, .int gp)] := hl
  obtain ⟨hx, hb, hr, hml, hB, hown, hlocks, hnm⟩ := id hC
  obtain ⟨-, ⟨ca, hca, eca⟩, ha0, ha9⟩ := hSV ja hja
  obtain ⟨-, ⟨cb, hcb, ecb⟩, hb0, hb9⟩ := hSV jb hjb
  have hsb := ti_sb (x := ft (jb * 3 + 2)) (y := ft (ja * 3 + 2)) (by omega) (by omega) (by omega) (by omega)
  have hsg := ti_sb (x := gp) (y := ft (jb * 3 + 2) - ft (ja * 3 + 2)) (by have := hgp.1; omega) (by have := hgp.2; omega) (by omega) (by omega)
  have hg1 := hgp.1
  have hg2 := hgp.2
  refine lv_aload_n hx hb dX1_follow_0 rfl (lv_at hl 1 rfl) ?_
  refine lv_iload_n hx hb dX1_follow_1 rfl (lv_at hl 2 rfl) ?_
  refine lv_iconst (v := 1) hx hb dX1_follow_2 (by decide) ?_
  refine pV hC hK hl hP hD (c_T_at l G tt (nI ja) 1 24 3 tc kt ft (hkt) (by omega) (by omega)) si_X1_21 [2, 3] rfl rfl (by decide) rfl rfl rfl rfl rfl (Nat.le_of_ble_eq_true rfl) ⟨Nat.le_of_ble_eq_true rfl, Nat.le_of_ble_eq_true rfl⟩ ⟨by first | exact Nat.le_of_ble_eq_true rfl | exact Nat.zero_le _, by first | exact Nat.le_of_ble_eq_true rfl | exact Nat.zero_le _⟩ dX1_follow_3 (fun r10140 hr10140 => ?_)
  refine eqi (x1 := nI ca) ((hr10140.trans (tatq (by omega) (by omega) (by decide) (by decide) rfl)).trans eca) ?_
  refine lv_istore (lv' := [(5, .int (nI ca)), (0, .ref h0), (1, .ref tt), (2, .int (nI ja)), (3, .int (nI jb)), (4, .int gp)]) hx hb dX1_follow_6 hl (by decide) rfl (fun ls hl => ?_)
  refine lv_aload_n hx hb dX1_follow_8 rfl (lv_at hl 2 rfl) ?_
  refine lv_iload_n hx hb dX1_follow_9 rfl (lv_at hl 4 rfl) ?_
  refine lv_iconst (v := 1) hx hb dX1_follow_10 (by decide) ?_
  refine pV hC hK hl hP hD (c_T_at l G tt (nI jb) 1 24 3 tc kt ft (hkt) (by omega) (by omega)) si_X1_21 [2, 3] rfl rfl (by decide) rfl rfl rfl rfl rfl (Nat.le_of_ble_eq_true rfl) ⟨Nat.le_of_ble_eq_true rfl, Nat.le_of_ble_eq_true rfl⟩ ⟨by first | exact Nat.le_of_ble_eq_true rfl | exact Nat.zero_le _, by first | exact Nat.le_of_ble_eq_true rfl | exact Nat.zero_le _⟩ dX1_follow_11 (fun r10142 hr10142 => ?_)
  refine eqi (x1 := nI cb) ((hr10142.trans (tatq (by omega) (by omega) (by decide) (by decide) rfl)).trans ecb) ?_
  refine lv_istore (lv' := [(6, .int (nI cb)), (5, .int (nI ca)), (0, .ref h0), (1, .ref tt), (2, .int (nI ja)), (3, .int (nI jb)), (4, .int gp)]) hx hb dX1_follow_14 hl (by decide) rfl (fun ls hl => ?_)
  refine lv_aload_n hx hb dX1_follow_16 rfl (lv_at hl 3 rfl) ?_
  refine lv_iload_n hx hb dX1_follow_17 rfl (lv_at hl 5 rfl) ?_
  refine lv_iconst (v := 2) hx hb dX1_follow_18 (by decide) ?_
  refine pV hC hK hl hP hD (c_T_at l G tt (nI jb) 2 24 3 tc kt ft (hkt) (by omega) (by omega)) si_X1_21 [2, 3] rfl rfl (by decide) rfl rfl rfl rfl rfl (Nat.le_of_ble_eq_true rfl) ⟨Nat.le_of_ble_eq_true rfl, Nat.le_of_ble_eq_true rfl⟩ ⟨by first | exact Nat.le_of_ble_eq_true rfl | exact Nat.zero_le _, by first | exact Nat.le_of_ble_eq_true rfl | exact Nat.zero_le _⟩ dX1_follow_19 (fun r10144 hr10144 => ?_)
  refine eqi (x1 := ft (jb * 3 + 2)) (hr10144.trans (tatq (by omega) (by omega) (by decide) (by decide) rfl)) ?_
  refine lv_aload_n hx hb dX1_follow_22 rfl (lv_at hl 3 rfl) ?_
  refine lv_iload_n hx hb dX1_follow_23 rfl (lv_at hl 4 rfl) ?_
  refine lv_iconst (v := 2) hx hb dX1_follow_24 (by decide) ?_
  refine pV hC hK hl hP hD (c_T_at l G tt (nI ja) 2 24 3 tc kt ft (hkt) (by omega) (by omega)) si_X1_21 [2, 3] rfl rfl (by decide) rfl rfl rfl rfl rfl (Nat.le_of_ble_eq_true rfl) ⟨Nat.le_of_ble_eq_true rfl, Nat.le_of_ble_eq_true rfl⟩ ⟨by first | exact Nat.le_of_ble_eq_true rfl | exact Nat.zero_le _, by first | exact Nat.le_of_ble_eq_true rfl | exact Nat.zero_le _⟩ dX1_follow_25 (fun r10146 hr10146 => ?_)
  refine eqi (x1 := ft (ja * 3 + 2)) (hr10146.trans (tatq (by omega) (by omega) (by decide) (by decide) rfl)) ?_
  refine lv_isub hx hb dX1_follow_28 ?_
  refine lv_istore (lv' := [(7, .int ((ft (jb * 3 + 2)) - (ft (ja * 3 + 2)))), (6, .int (nI cb)), (5, .int (nI ca)), (0, .ref h0), (1, .ref tt), (2, .int (nI ja)), (3, .int (nI jb)), (4, .int gp)]) hx hb dX1_follow_29 hl (by decide) rfl (fun ls hl => ?_)
  refine lv_aload_n hx hb dX1_follow_31 rfl (lv_at hl 3 rfl) ?_
  refine lv_iload hx hb dX1_follow_32 (lv_at hl 2 rfl) ?_
  refine lv_iload hx hb dX1_follow_34 (lv_at hl 1 rfl) ?_
  refine lv_iload hx hb dX1_follow_36 (lv_at hl 0 rfl) ?_
  refine iV (wr := [(tt, .inr (8, [.int 24, .int 3, .ref tc, .int (nI kt)])), (tc, .inl (G.2.1, 72, .inl ft))]) hC hK hl hP hD hS hA (c_narrowX l G K9 h0 ca cb ((ft (jb * 3 + 2)) - (ft (ja * 3 + 2))) cm fm (hCB) (by omega) (by omega) (by omega) (by omega)) si_X1_27 [0, 1] [2, 3] rfl rfl (by decide) rfl (by decide) (by decide) rfl rfl rfl rfl rfl (Nat.le_of_ble_eq_true rfl) ⟨Nat.le_of_ble_eq_true rfl, Nat.le_of_ble_eq_true rfl⟩ ⟨Nat.le_of_ble_eq_true rfl, Nat.le_of_ble_eq_true rfl⟩ dX1_follow_38 (fun r10148 u10149 H locs hr10148 hP hD hS => ?_)
  obtain ⟨f110150, rfl⟩ : ∃ z9, z9 = u10149 := ⟨_, rfl⟩
  try dsimp only at hr10148
  have hPD : va_PD G A [(tt, .inr (8, [.int 24, .int 3, .ref tc, .int (nI kt)])), (tc, .inl (G.2.1, 72, .inl ft)), (h0, .inr (1, [.ref cm])), (cm, .inl (G.2.1, 36, .inl f110150))] H := And.intro hP hD
  obtain ⟨hP, hD⟩ := hPD
  rcases hr10148 with ⟨rfl, a10151⟩ | ⟨rfl, a10151⟩
  · refine lv_if_eq (tgt := 64) hx hb dX1_follow_41 (by decide) (fun c9 => absurd c9 (by decide)) (fun _ => ?_)
    refine lv_aload_n hx hb dX1_follow_44 rfl (lv_at hl 3 rfl) ?_
    refine lv_iload hx hb dX1_follow_45 (lv_at hl 1 rfl) ?_
    refine lv_iload hx hb dX1_follow_47 (lv_at hl 2 rfl) ?_
    refine lv_iload hx hb dX1_follow_49 (lv_at hl 7 rfl) ?_
    refine lv_iload hx hb dX1_follow_51 (lv_at hl 0 rfl) ?_
    refine lv_isub hx hb dX1_follow_53 ?_
    refine iV (wr := [(tt, .inr (8, [.int 24, .int 3, .ref tc, .int (nI kt)])), (tc, .inl (G.2.1, 72, .inl ft))]) hC hK hl hP hD hS hA (c_narrowX l G (KAD K9 ca cb ((ft (jb * 3 + 2)) - (ft (ja * 3 + 2))).toInt) h0 cb ca (gp - ((ft (jb * 3 + 2)) - (ft (ja * 3 + 2)))) cm f110150 (a10151) (by omega) (by omega) (by omega) (by omega)) si_X1_27 [2, 3] [0, 1] rfl rfl (by decide) rfl (by decide) (by decide) rfl rfl rfl rfl rfl (Nat.le_of_ble_eq_true rfl) ⟨Nat.le_of_ble_eq_true rfl, Nat.le_of_ble_eq_true rfl⟩ ⟨Nat.le_of_ble_eq_true rfl, Nat.le_of_ble_eq_true rfl⟩ dX1_follow_54 (fun r10152 u10153 H locs hr10152 hP hD hS => ?_)
    obtain ⟨f110154, rfl⟩ : ∃ z9, z9 = u10153 := ⟨_, rfl⟩
    try dsimp only at hr10152
    have hPD : va_PD G A [(tt, .inr (8, [.int 24, .int 3, .ref tc, .int (nI kt)])), (tc, .inl (G.2.1, 72, .inl ft)), (h0, .inr (1, [.ref cm])), (cm, .inl (G.2.1, 36, .inl f110154))] H := And.intro hP hD
    obtain ⟨hP, hD⟩ := hPD
    rcases hr10152 with ⟨rfl, a10155⟩ | ⟨rfl, a10155⟩
    · refine lv_if_eq (tgt := 64) hx hb dX1_follow_57 (by decide) (fun c9 => absurd c9 (by decide)) (fun _ => ?_)
      refine lv_iconst (v := 1) hx hb dX1_follow_60 (by decide) ?_
      refine lv_goto (tgt := 65) hx hb dX1_follow_61 (by decide) ?_
      exact RI (v := 1) hC hP hD hS [2, 3, 0, 1] f110154 rfl rfl (by decide) (Or.inl ⟨rfl, by rw [(KFO.mk eca ecb hca hcb ha0 ha9 hb0 hb9 hgp)]; exact a10155⟩) (by decide +kernel) dX1_follow_65
    · refine lv_if_eq (tgt := 64) hx hb dX1_follow_57 (by decide) (fun _ => ?_) (fun c9 => absurd (by decide) c9)
      refine lv_iconst (v := 0) hx hb dX1_follow_64 (by decide) ?_
      exact RI (v := 0) hC hP hD hS [2, 3, 0, 1] f110154 rfl rfl (by decide) (Or.inr ⟨rfl, by rw [(KFO.mk eca ecb hca hcb ha0 ha9 hb0 hb9 hgp)]; exact a10155⟩) (by decide +kernel) dX1_follow_65
  · refine lv_if_eq (tgt := 64) hx hb dX1_follow_41 (by decide) (fun _ => ?_) (fun c9 => absurd (by decide) c9)
    refine lv_iconst (v := 0) hx hb dX1_follow_64 (by decide) ?_
    exact RI (v := 0) hC hP hD hS [2, 3, 0, 1] f110150 rfl rfl (by decide) (Or.inr ⟨rfl, by rw [(KFO.mk eca ecb hca hcb ha0 ha9 hb0 hb9 hgp)]; exact a10151.ad⟩) (by decide +kernel) dX1_follow_65
set_option maxHeartbeats 4000000 in
set_option maxRecDepth 100000 in
theorem c_mostAheadX (l : Launch) (G : GG) (h0 : Nat) (jf : Nat) (jt : Nat) (cm : Nat) (fm : Nat → Int32) (hjf : jf < 6) (hjt : jt < 6) : MP l G yX1_mostAhead cX1_mostAhead 3 (some .int) 1 [.ref h0, .int (nI jf), .int (nI jt)] [(h0, .inr (1, [.ref cm])), (cm, .inl (G.2.1, 36, .inl fm))] (fun r : Int32 => r = (fm (jf * 6 + jt))) := by
  refine MP.start (by decide +kernel) (Nat.le_of_ble_eq_true rfl) ?_
  intro p e s m below meth c ls hC hK hP hD hl
  have hl : lv_has ls 3 [(0, .ref h0), (1, .int (nI jf)), (2, .int (nI jt))] := hl
  obtain ⟨hx, hb, hr, hml, hB, hown, hlocks, hnm⟩ := id hC
  refine lv_iload_n hx hb dX1_mostAhead_0 rfl (lv_at hl 1 rfl) ?_
  refine lv_if_lt (tgt := 20) hx hb dX1_mostAhead_1 (by decide) (fun c9 => absurd c9 (nI_pos (by omega))) (fun _ => ?_)
  refine lv_iload_n hx hb dX1_mostAhead_4 rfl (lv_at hl 1 rfl) ?_
  refine lv_bipush (v := 6) hx hb dX1_mostAhead_5 (by decide) ?_
  refine lv_icmp_ge (tgt := 20) hx hb dX1_mostAhead_7 (by decide) (fun c9 => absurd c9 (nI_ge (a := jf) (b := 6) (by omega) (by omega))) (fun _ => ?_)
  refine lv_iload_n hx hb dX1_mostAhead_10 rfl (lv_at hl 2 rfl) ?_
  refine lv_if_lt (tgt := 20) hx hb dX1_mostAhead_11 (by decide) (fun c9 => absurd c9 (nI_pos (by omega))) (fun _ => ?_)
  refine lv_iload_n hx hb dX1_mostAhead_14 rfl (lv_at hl 2 rfl) ?_
  refine lv_bipush (v := 6) hx hb dX1_mostAhead_15 (by decide) ?_
  refine lv_icmp_lt (tgt := 22) hx hb dX1_mostAhead_17 (by decide) (fun _ => ?_) (fun c9 => absurd (nI_lt (by omega) (by decide)) c9)
  refine lv_aload_n hx hb dX1_mostAhead_22 rfl (lv_at hl 0 rfl) ?_
  refine gf_X1_9 hC rfl hK hP 0 rfl rfl dX1_mostAhead_23 ?_
  refine lv_iload_n hx hb dX1_mostAhead_26 rfl (lv_at hl 1 rfl) ?_
  refine lv_bipush (v := 6) hx hb dX1_mostAhead_27 (by decide) ?_
  refine lv_imul hx hb dX1_mostAhead_29 ?_
  refine eqi (x1 := nI (jf * 6)) (nI_mul jf 6) ?_
  refine lv_iload_n hx hb dX1_mostAhead_30 rfl (lv_at hl 2 rfl) ?_
  refine lv_iadd hx hb dX1_mostAhead_31 ?_
  refine eqi (x1 := nI (jf * 6 + jt)) (nI_add (jf * 6) jt) ?_
  refine ald hC hK hP 1 rfl (vp_in_nI (by omega) (by omega)) (k := (jf * 6 + jt)) (nI_clamp (by omega)) (v := fm (jf * 6 + jt)) rfl dX1_mostAhead_32 ?_
  exact RP (v := fm (jf * 6 + jt)) hC (rfl) rfl dX1_mostAhead_33
set_option maxHeartbeats 4000000 in
set_option maxRecDepth 100000 in
theorem c_trueHour0X (l : Launch) (G : GG) (h0 : Nat) (js : Nat) (bb : Nat) (clk : Nat) (fi : Nat) (la : Nat) (ml : Nat) (mm : Nat) (sl : Nat) (sm : Nat) (cl : Int32) (clm : Nat) (fclm : Nat → Int32) (bpersons : Nat) (bpapers : Nat) (bstamps : Nat) (bversions : Nat) (blines : Nat) (bsteps : Nat) (bsayings : Nat) (bfindings : Nat) (bwarnings : Nat) (bquestions : Nat) (td : Int32) (vd : Int32) (vl : Int32) (gp : Int32) (bstampsc : Nat) (kbstamps : Nat) (fbstamps : Nat → Int32) (hkbstamps : kbstamps ≤ 24) (hSV : SVL fbstamps kbstamps) (hjs : js < kbstamps) : MP l G yX7_trueHour cX7_trueHour 5 (some .int) 3 [.ref h0, .int (nI js), .int 0] [(h0, .inr (7, [.ref bb, .ref clk, .ref fi, .ref la, .ref ml, .ref mm, .ref sl, .ref sm, .int cl])), (clk, .inr (1, [.ref clm])), (clm, .inl (G.2.1, 36, .inl fclm)), (bb, .inr (0, [.ref bpersons, .ref bpapers, .ref bstamps, .ref bversions, .ref blines, .ref bsteps, .ref bsayings, .ref bfindings, .ref bwarnings, .ref bquestions, .int td, .int vd, .int vl, .int gp])), (bstamps, .inr (8, [.int 24, .int 3, .ref bstampsc, .int (nI kbstamps)])), (bstampsc, .inl (G.2.1, 72, .inl fbstamps))] (fun r : Int32 => r = (TR0 fbstamps fclm js)) := by
  refine MP.start (by decide +kernel) (Nat.le_of_ble_eq_true rfl) ?_
  intro p e s m below meth c ls hC hK hP hD hl
  have hl : lv_has ls 5 [(0, .ref h0), (1, .int (nI js)), (2, .int 0)] := hl
  obtain ⟨hx, hb, hr, hml, hB, hown, hlocks, hnm⟩ := id hC
  obtain ⟨-, ⟨jc, hjc, ejc⟩, -, -⟩ := hSV js hjs
  refine lv_aload_n hx hb dX7_trueHour_0 rfl (lv_at hl 0 rfl) ?_
  refine gf_X7_37 hC rfl hK hP 0 rfl rfl dX7_trueHour_1 ?_
  refine gf_X7_48 hC rfl hK hP 3 rfl rfl dX7_trueHour_4 ?_
  refine lv_iload_n hx hb dX7_trueHour_7 rfl (lv_at hl 1 rfl) ?_
  refine lv_iconst (v := 1) hx hb dX7_trueHour_8 (by decide) ?_
  refine pV hC hK hl hP hD (c_T_at l G bstamps (nI js) 1 24 3 bstampsc kbstamps fbstamps (hkbstamps) (by omega) (by omega)) si_X7_60 [4, 5] rfl rfl (by decide) rfl rfl rfl rfl rfl (Nat.le_of_ble_eq_true rfl) ⟨Nat.le_of_ble_eq_true rfl, Nat.le_of_ble_eq_true rfl⟩ ⟨by first | exact Nat.le_of_ble_eq_true rfl | exact Nat.zero_le _, by first | exact Nat.le_of_ble_eq_true rfl | exact Nat.zero_le _⟩ dX7_trueHour_9 (fun r10156 hr10156 => ?_)
  refine eqi (x1 := nI jc) ((hr10156.trans (tatq (by omega) (by omega) (by decide) (by decide) rfl)).trans ejc) ?_
  refine lv_istore_n (lv' := [(3, .int (nI jc)), (0, .ref h0), (1, .int (nI js)), (2, .int 0)]) hx hb dX7_trueHour_12 rfl hl (by decide) rfl (fun ls hl => ?_)
  refine lv_iload_n hx hb dX7_trueHour_13 rfl (lv_at hl 3 rfl) ?_
  refine lv_if_eq (tgt := 29) hx hb dX7_trueHour_14 (by decide) (fun _ => ?_) (fun c9 => absurd (by decide) c9)
  refine lv_aload_n hx hb dX7_trueHour_29 rfl (lv_at hl 1 rfl) ?_
  refine gf_X7_12 hC rfl hK hP 0 rfl rfl dX7_trueHour_30 ?_
  refine lv_iconst (v := 0) hx hb dX7_trueHour_33 (by decide) ?_
  refine lv_iload_n hx hb dX7_trueHour_34 rfl (lv_at hl 0 rfl) ?_
  refine pV hC hK hl hP hD (c_mostAheadX l G clk 0 jc clm fclm (by omega) (by omega)) si_X7_87 [1, 2] rfl rfl (by decide) rfl rfl rfl rfl rfl (Nat.le_of_ble_eq_true rfl) ⟨Nat.le_of_ble_eq_true rfl, Nat.le_of_ble_eq_true rfl⟩ ⟨by first | exact Nat.le_of_ble_eq_true rfl | exact Nat.zero_le _, by first | exact Nat.le_of_ble_eq_true rfl | exact Nat.zero_le _⟩ dX7_trueHour_35 (fun r10158 hr10158 => ?_)
  obtain rfl := hr10158
  refine lv_ineg hx hb dX7_trueHour_38 ?_
  refine lv_istore (lv' := [(4, .int (-(fclm (0 * 6 + jc)))), (3, .int (nI jc)), (0, .ref h0), (1, .int (nI js)), (2, .int 0)]) hx hb dX7_trueHour_39 hl (by decide) rfl (fun ls hl => ?_)
  refine lv_aload_n hx hb dX7_trueHour_41 rfl (lv_at hl 2 rfl) ?_
  refine gf_X7_37 hC rfl hK hP 0 rfl rfl dX7_trueHour_42 ?_
  refine gf_X7_48 hC rfl hK hP 3 rfl rfl dX7_trueHour_45 ?_
  refine lv_iload_n hx hb dX7_trueHour_48 rfl (lv_at hl 3 rfl) ?_
  refine lv_iconst (v := 2) hx hb dX7_trueHour_49 (by decide) ?_
  refine pV hC hK hl hP hD (c_T_at l G bstamps (nI js) 2 24 3 bstampsc kbstamps fbstamps (hkbstamps) (by omega) (by omega)) si_X7_60 [4, 5] rfl rfl (by decide) rfl rfl rfl rfl rfl (Nat.le_of_ble_eq_true rfl) ⟨Nat.le_of_ble_eq_true rfl, Nat.le_of_ble_eq_true rfl⟩ ⟨by first | exact Nat.le_of_ble_eq_true rfl | exact Nat.zero_le _, by first | exact Nat.le_of_ble_eq_true rfl | exact Nat.zero_le _⟩ dX7_trueHour_50 (fun r10160 hr10160 => ?_)
  refine eqi (x1 := fbstamps (js * 3 + 2)) (hr10160.trans (tatq (by omega) (by omega) (by decide) (by decide) rfl)) ?_
  refine lv_iload hx hb dX7_trueHour_53 (lv_at hl 0 rfl) ?_
  refine lv_iadd hx hb dX7_trueHour_55 ?_
  exact RP (v := (fbstamps (js * 3 + 2)) + (-(fclm (0 * 6 + jc)))) hC ((by unfold TR0 CKS; rw [ejc, nI_clamp (by omega)])) rfl dX7_trueHour_56
set_option maxHeartbeats 4000000 in
set_option maxRecDepth 100000 in
theorem c_trueHour1X (l : Launch) (G : GG) (h0 : Nat) (js : Nat) (bb : Nat) (clk : Nat) (fi : Nat) (la : Nat) (ml : Nat) (mm : Nat) (sl : Nat) (sm : Nat) (cl : Int32) (clm : Nat) (fclm : Nat → Int32) (bpersons : Nat) (bpapers : Nat) (bstamps : Nat) (bversions : Nat) (blines : Nat) (bsteps : Nat) (bsayings : Nat) (bfindings : Nat) (bwarnings : Nat) (bquestions : Nat) (td : Int32) (vd : Int32) (vl : Int32) (gp : Int32) (bstampsc : Nat) (kbstamps : Nat) (fbstamps : Nat → Int32) (hkbstamps : kbstamps ≤ 24) (hSV : SVL fbstamps kbstamps) (hjs : js < kbstamps) : MP l G yX7_trueHour cX7_trueHour 5 (some .int) 3 [.ref h0, .int (nI js), .int 1] [(h0, .inr (7, [.ref bb, .ref clk, .ref fi, .ref la, .ref ml, .ref mm, .ref sl, .ref sm, .int cl])), (clk, .inr (1, [.ref clm])), (clm, .inl (G.2.1, 36, .inl fclm)), (bb, .inr (0, [.ref bpersons, .ref bpapers, .ref bstamps, .ref bversions, .ref blines, .ref bsteps, .ref bsayings, .ref bfindings, .ref bwarnings, .ref bquestions, .int td, .int vd, .int vl, .int gp])), (bstamps, .inr (8, [.int 24, .int 3, .ref bstampsc, .int (nI kbstamps)])), (bstampsc, .inl (G.2.1, 72, .inl fbstamps))] (fun r : Int32 => r = (TR1 fbstamps fclm js)) := by
  refine MP.start (by decide +kernel) (Nat.le_of_ble_eq_true rfl) ?_
  intro p e s m below meth c ls hC hK hP hD hl
  have hl : lv_has ls 5 [(0, .ref h0), (1, .int (nI js)), (2, .int 1)] := hl
  obtain ⟨hx, hb, hr, hml, hB, hown, hlocks, hnm⟩ := id hC
  obtain ⟨-, ⟨jc, hjc, ejc⟩, -, -⟩ := hSV js hjs
  refine lv_aload_n hx hb dX7_trueHour_0 rfl (lv_at hl 0 rfl) ?_
  refine gf_X7_37 hC rfl hK hP 0 rfl rfl dX7_trueHour_1 ?_
  refine gf_X7_48 hC rfl hK hP 3 rfl rfl dX7_trueHour_4 ?_
  refine lv_iload_n hx hb dX7_trueHour_7 rfl (lv_at hl 1 rfl) ?_
  refine lv_iconst (v := 1) hx hb dX7_trueHour_8 (by decide) ?_
  refine pV hC hK hl hP hD (c_T_at l G bstamps (nI js) 1 24 3 bstampsc kbstamps fbstamps (hkbstamps) (by omega) (by omega)) si_X7_60 [4, 5] rfl rfl (by decide) rfl rfl rfl rfl rfl (Nat.le_of_ble_eq_true rfl) ⟨Nat.le_of_ble_eq_true rfl, Nat.le_of_ble_eq_true rfl⟩ ⟨by first | exact Nat.le_of_ble_eq_true rfl | exact Nat.zero_le _, by first | exact Nat.le_of_ble_eq_true rfl | exact Nat.zero_le _⟩ dX7_trueHour_9 (fun r10162 hr10162 => ?_)
  refine eqi (x1 := nI jc) ((hr10162.trans (tatq (by omega) (by omega) (by decide) (by decide) rfl)).trans ejc) ?_
  refine lv_istore_n (lv' := [(3, .int (nI jc)), (0, .ref h0), (1, .int (nI js)), (2, .int 1)]) hx hb dX7_trueHour_12 rfl hl (by decide) rfl (fun ls hl => ?_)
  refine lv_iload_n hx hb dX7_trueHour_13 rfl (lv_at hl 3 rfl) ?_
  refine lv_if_eq (tgt := 29) hx hb dX7_trueHour_14 (by decide) (fun c9 => absurd c9 (by decide)) (fun _ => ?_)
  refine lv_aload_n hx hb dX7_trueHour_17 rfl (lv_at hl 1 rfl) ?_
  refine gf_X7_12 hC rfl hK hP 0 rfl rfl dX7_trueHour_18 ?_
  refine lv_iload_n hx hb dX7_trueHour_21 rfl (lv_at hl 0 rfl) ?_
  refine lv_iconst (v := 0) hx hb dX7_trueHour_22 (by decide) ?_
  refine pV hC hK hl hP hD (c_mostAheadX l G clk jc 0 clm fclm (by omega) (by omega)) si_X7_87 [1, 2] rfl rfl (by decide) rfl rfl rfl rfl rfl (Nat.le_of_ble_eq_true rfl) ⟨Nat.le_of_ble_eq_true rfl, Nat.le_of_ble_eq_true rfl⟩ ⟨by first | exact Nat.le_of_ble_eq_true rfl | exact Nat.zero_le _, by first | exact Nat.le_of_ble_eq_true rfl | exact Nat.zero_le _⟩ dX7_trueHour_23 (fun r10164 hr10164 => ?_)
  obtain rfl := hr10164
  refine lv_goto (tgt := 39) hx hb dX7_trueHour_26 (by decide) ?_
  refine lv_istore (lv' := [(4, .int (fclm (jc * 6 + 0))), (3, .int (nI jc)), (0, .ref h0), (1, .int (nI js)), (2, .int 1)]) hx hb dX7_trueHour_39 hl (by decide) rfl (fun ls hl => ?_)
  refine lv_aload_n hx hb dX7_trueHour_41 rfl (lv_at hl 2 rfl) ?_
  refine gf_X7_37 hC rfl hK hP 0 rfl rfl dX7_trueHour_42 ?_
  refine gf_X7_48 hC rfl hK hP 3 rfl rfl dX7_trueHour_45 ?_
  refine lv_iload_n hx hb dX7_trueHour_48 rfl (lv_at hl 3 rfl) ?_
  refine lv_iconst (v := 2) hx hb dX7_trueHour_49 (by decide) ?_
  refine pV hC hK hl hP hD (c_T_at l G bstamps (nI js) 2 24 3 bstampsc kbstamps fbstamps (hkbstamps) (by omega) (by omega)) si_X7_60 [4, 5] rfl rfl (by decide) rfl rfl rfl rfl rfl (Nat.le_of_ble_eq_true rfl) ⟨Nat.le_of_ble_eq_true rfl, Nat.le_of_ble_eq_true rfl⟩ ⟨by first | exact Nat.le_of_ble_eq_true rfl | exact Nat.zero_le _, by first | exact Nat.le_of_ble_eq_true rfl | exact Nat.zero_le _⟩ dX7_trueHour_50 (fun r10166 hr10166 => ?_)
  refine eqi (x1 := fbstamps (js * 3 + 2)) (hr10166.trans (tatq (by omega) (by omega) (by decide) (by decide) rfl)) ?_
  refine lv_iload hx hb dX7_trueHour_53 (lv_at hl 0 rfl) ?_
  refine lv_iadd hx hb dX7_trueHour_55 ?_
  exact RP (v := (fbstamps (js * 3 + 2)) + (fclm (jc * 6 + 0))) hC ((by unfold TR1 CKS; rw [ejc, nI_clamp (by omega)])) rfl dX7_trueHour_56
set_option maxHeartbeats 4000000 in
set_option maxRecDepth 100000 in
theorem c_boundHoursX (l : Launch) (G : GG) (pp : Int32) (h0 : Nat) (bb : Nat) (clk : Nat) (fi : Nat) (la : Nat) (ml : Nat) (mm : Nat) (sl : Nat) (sm : Nat) (cl : Int32) (ffi : Nat → Int32) (fla : Nat → Int32) (fml : Nat → Int32) (fmm : Nat → Int32) (fsl : Nat → Int32) (fsm : Nat → Int32) (clm : Nat) (fclm : Nat → Int32) (bpersons : Nat) (bpapers : Nat) (bstamps : Nat) (bversions : Nat) (blines : Nat) (bsteps : Nat) (bsayings : Nat) (bfindings : Nat) (bwarnings : Nat) (bquestions : Nat) (td : Int32) (vd : Int32) (vl : Int32) (gp : Int32) (bstampsc : Nat) (kbstamps : Nat) (fbstamps : Nat → Int32) (hkbstamps : kbstamps ≤ 24) (hSV : SVL fbstamps kbstamps) (hAF : AFI fbstamps (VPP pp) kbstamps ffi) (hAL : ALA fbstamps (VPP pp) kbstamps fla) : MV l G yX7_boundHours cX7_boundHours 2 4 0 0 [.ref h0] [(h0, .inr (7, [.ref bb, .ref clk, .ref fi, .ref la, .ref ml, .ref mm, .ref sl, .ref sm, .int cl])), (fi, .inl (G.2.1, 12, .inl ffi)), (la, .inl (G.2.1, 12, .inl fla)), (ml, .inl (G.2.1, 12, .inl fml)), (mm, .inl (G.2.1, 12, .inl fmm)), (sl, .inl (G.2.1, 12, .inl fsl)), (sm, .inl (G.2.1, 12, .inl fsm)), (clk, .inr (1, [.ref clm])), (clm, .inl (G.2.1, 36, .inl fclm)), (bb, .inr (0, [.ref bpersons, .ref bpapers, .ref bstamps, .ref bversions, .ref blines, .ref bsteps, .ref bsayings, .ref bfindings, .ref bwarnings, .ref bquestions, .int td, .int vd, .int vl, .int gp])), (bstamps, .inr (8, [.int 24, .int 3, .ref bstampsc, .int (nI kbstamps)])), (bstampsc, .inl (G.2.1, 72, .inl fbstamps))] (fun u : (Nat → Int32) × (Nat → Int32) × (Nat → Int32) × (Nat → Int32) => BHP fbstamps fclm ffi fla u.1 u.2.1 u.2.2.1 u.2.2.2 12) (fun u : (Nat → Int32) × (Nat → Int32) × (Nat → Int32) × (Nat → Int32) => [(h0, .inr (7, [.ref bb, .ref clk, .ref fi, .ref la, .ref ml, .ref mm, .ref sl, .ref sm, .int cl])), (fi, .inl (G.2.1, 12, .inl ffi)), (la, .inl (G.2.1, 12, .inl fla)), (ml, .inl (G.2.1, 12, .inl u.1)), (mm, .inl (G.2.1, 12, .inl u.2.1)), (sl, .inl (G.2.1, 12, .inl u.2.2.1)), (sm, .inl (G.2.1, 12, .inl u.2.2.2)), (clk, .inr (1, [.ref clm])), (clm, .inl (G.2.1, 36, .inl fclm)), (bb, .inr (0, [.ref bpersons, .ref bpapers, .ref bstamps, .ref bversions, .ref blines, .ref bsteps, .ref bsayings, .ref bfindings, .ref bwarnings, .ref bquestions, .int td, .int vd, .int vl, .int gp])), (bstamps, .inr (8, [.int 24, .int 3, .ref bstampsc, .int (nI kbstamps)])), (bstampsc, .inl (G.2.1, 72, .inl fbstamps))]) := by
  refine MV.start (by decide +kernel) (Nat.le_of_ble_eq_true rfl) ?_
  intro p e s m below meth c A ls hC hK hP hD hS hA hl
  have hl : lv_has ls 2 [(0, .ref h0)] := hl
  obtain ⟨hx, hb, hr, hml, hB, hown, hlocks, hnm⟩ := id hC
  refine lv_iconst (v := 0) hx hb dX7_boundHours_0 (by decide) ?_
  refine lv_istore_n (lv' := [(1, .int 0), (0, .ref h0)]) hx hb dX7_boundHours_1 rfl hl (by decide) rfl (fun ls hl => ?_)
  have keyP : ∀ (nP kP : Nat) (vml : Nat → Int32) (vmm : Nat → Int32) (vsl : Nat → Int32) (vsm : Nat → Int32) (H : Heap) (locs : List Loc) (ls : Array Slot), kP + nP = 12 → (BHP fbstamps fclm ffi fla vml vmm vsl vsm kP) → va_PD G A [(h0, .inr (7, [.ref bb, .ref clk, .ref fi, .ref la, .ref ml, .ref mm, .ref sl, .ref sm, .int cl])), (fi, .inl (G.2.1, 12, .inl ffi)), (la, .inl (G.2.1, 12, .inl fla)), (ml, .inl (G.2.1, 12, .inl vml)), (mm, .inl (G.2.1, 12, .inl vmm)), (sl, .inl (G.2.1, 12, .inl vsl)), (sm, .inl (G.2.1, 12, .inl vsm)), (clk, .inr (1, [.ref clm])), (clm, .inl (G.2.1, 36, .inl fclm)), (bb, .inr (0, [.ref bpersons, .ref bpapers, .ref bstamps, .ref bversions, .ref blines, .ref bsteps, .ref bsayings, .ref bfindings, .ref bwarnings, .ref bquestions, .int td, .int vd, .int vl, .int gp])), (bstamps, .inr (8, [.int 24, .int 3, .ref bstampsc, .int (nI kbstamps)])), (bstampsc, .inl (G.2.1, 72, .inl fbstamps))] H → va_S A s.heap H locs → lv_has ls 2 [(1, .int (nI kP)), (0, .ref h0)] → W p l e (RM 4 0 0) s m ([.ref h0] : List Value).toArray below meth c H locs 0 0 (MQ below (QV G (fun u : (Nat → Int32) × (Nat → Int32) × (Nat → Int32) × (Nat → Int32) => BHP fbstamps fclm ffi fla u.1 u.2.1 u.2.2.1 u.2.2.2 12) (fun u : (Nat → Int32) × (Nat → Int32) × (Nat → Int32) × (Nat → Int32) => [(h0, .inr (7, [.ref bb, .ref clk, .ref fi, .ref la, .ref ml, .ref mm, .ref sl, .ref sm, .int cl])), (fi, .inl (G.2.1, 12, .inl ffi)), (la, .inl (G.2.1, 12, .inl fla)), (ml, .inl (G.2.1, 12, .inl u.1)), (mm, .inl (G.2.1, 12, .inl u.2.1)), (sl, .inl (G.2.1, 12, .inl u.2.2.1)), (sm, .inl (G.2.1, 12, .inl u.2.2.2)), (clk, .inr (1, [.ref clm])), (clm, .inl (G.2.1, 36, .inl fclm)), (bb, .inr (0, [.ref bpersons, .ref bpapers, .ref bstamps, .ref bversions, .ref blines, .ref bsteps, .ref bsayings, .ref bfindings, .ref bwarnings, .ref bquestions, .int td, .int vd, .int vl, .int gp])), (bstamps, .inr (8, [.int 24, .int 3, .ref bstampsc, .int (nI kbstamps)])), (bstampsc, .inl (G.2.1, 72, .inl fbstamps))]) A) ([.ref h0] : List Value).toArray s 0 0 A) (F0 m 2 ls []) := by
    intro nP
    induction nP with
    | zero =>
      intro kP vml vmm vsl vsm H locs ls hkP hbh hPD hS hl
      obtain ⟨hP, hD⟩ := hPD
      obtain rfl : 12 = kP := by omega
      have hl : lv_has ls 2 [(1, .int 12), (0, .ref h0)] := hl
      refine lv_iload_n hx hb dX7_boundHours_2 rfl (lv_at hl 0 rfl) ?_
      refine lv_bipush (v := 12) hx hb dX7_boundHours_3 (by decide) ?_
      refine lv_icmp_ge (tgt := 94) hx hb dX7_boundHours_5 (by decide) (fun _ => ?_) (fun c9 => absurd (by decide) c9)
      exact RV hC hP hD hS [0, 1, 2, 3, 4, 5, 6, 7, 8, 9, 10, 11] (vml, vmm, vsl, vsm) rfl rfl (by decide) (hbh) dX7_boundHours_94
    | succ nP ihP =>
      intro kP vml vmm vsl vsm H locs ls hkP hbh hPD hS hl
      obtain ⟨hP, hD⟩ := hPD
      refine lv_iload_n hx hb dX7_boundHours_2 rfl (lv_at hl 0 rfl) ?_
      refine lv_bipush (v := 12) hx hb dX7_boundHours_3 (by decide) ?_
      refine lv_icmp_ge (tgt := 94) hx hb dX7_boundHours_5 (by decide) (fun c9 => absurd c9 (nI_ge (a := kP) (b := 12) (by omega) (by omega))) (fun _ => ?_)
      refine lv_aload_n hx hb dX7_boundHours_8 rfl (lv_at hl 1 rfl) ?_
      refine gf_X7_22 hC rfl hK hP 0 rfl rfl dX7_boundHours_9 ?_
      refine lv_iload_n hx hb dX7_boundHours_12 rfl (lv_at hl 0 rfl) ?_
      refine ald hC hK hP 2 rfl (vp_in_nI (by omega) (by omega)) (k := kP) (nI_clamp (by omega)) (v := fla kP) rfl dX7_boundHours_13 ?_
      refine lv_if_ge (tgt := 20) hx hb dX7_boundHours_14 (by decide) (fun c_14_10168 => ?_) (fun c_14_10168 => ?_)
      · obtain ⟨js1, hjs1, ejs1, -⟩ := hAF.seen hAL (p := kP) (by omega) (Int32.not_lt.mpr c_14_10168)
        obtain ⟨js2, hjs2, ejs2, -, -⟩ := hAL.seen (p := kP) (by omega) (Int32.not_lt.mpr c_14_10168)
        refine lv_aload_n hx hb dX7_boundHours_20 rfl (lv_at hl 1 rfl) ?_
        refine gf_X7_25 hC rfl hK hP 0 rfl rfl dX7_boundHours_21 ?_
        refine lv_iload_n hx hb dX7_boundHours_24 rfl (lv_at hl 0 rfl) ?_
        refine lv_aload_n hx hb dX7_boundHours_25 rfl (lv_at hl 1 rfl) ?_
        refine lv_aload_n hx hb dX7_boundHours_26 rfl (lv_at hl 1 rfl) ?_
        refine gf_X7_18 hC rfl hK hP 0 rfl rfl dX7_boundHours_27 ?_
        refine lv_iload_n hx hb dX7_boundHours_30 rfl (lv_at hl 0 rfl) ?_
        refine ald hC hK hP 1 rfl (vp_in_nI (by omega) (by omega)) (k := kP) (nI_clamp (by omega)) (v := ffi kP) rfl dX7_boundHours_31 ?_
        refine eqi (x1 := nI js1) ejs1 ?_
        refine lv_iconst (v := 0) hx hb dX7_boundHours_32 (by decide) ?_
        refine pV hC hK hl hP hD (c_trueHour0X l G h0 js1 bb clk fi la ml mm sl sm cl clm fclm bpersons bpapers bstamps bversions blines bsteps bsayings bfindings bwarnings bquestions td vd vl gp bstampsc kbstamps fbstamps (hkbstamps) (hSV) (by omega)) si_X7_83 [0, 7, 8, 9, 10, 11] rfl rfl (by decide) rfl rfl rfl rfl rfl (Nat.le_of_ble_eq_true rfl) ⟨Nat.le_of_ble_eq_true rfl, Nat.le_of_ble_eq_true rfl⟩ ⟨by first | exact Nat.le_of_ble_eq_true rfl | exact Nat.zero_le _, by first | exact Nat.le_of_ble_eq_true rfl | exact Nat.zero_le _⟩ dX7_boundHours_33 (fun r10169 hr10169 => ?_)
        obtain rfl := hr10169
        refine ast hC hK hP hD hS 3 (ws' := [(h0, .inr (7, [.ref bb, .ref clk, .ref fi, .ref la, .ref ml, .ref mm, .ref sl, .ref sm, .int cl])), (fi, .inl (G.2.1, 12, .inl ffi)), (la, .inl (G.2.1, 12, .inl fla)), (ml, .inl (G.2.1, 12, .inl (upd vml kP (TR0 fbstamps fclm js1)))), (mm, .inl (G.2.1, 12, .inl vmm)), (sl, .inl (G.2.1, 12, .inl vsl)), (sm, .inl (G.2.1, 12, .inl vsm)), (clk, .inr (1, [.ref clm])), (clm, .inl (G.2.1, 36, .inl fclm)), (bb, .inr (0, [.ref bpersons, .ref bpapers, .ref bstamps, .ref bversions, .ref blines, .ref bsteps, .ref bsayings, .ref bfindings, .ref bwarnings, .ref bquestions, .int td, .int vd, .int vl, .int gp])), (bstamps, .inr (8, [.int 24, .int 3, .ref bstampsc, .int (nI kbstamps)])), (bstampsc, .inl (G.2.1, 72, .inl fbstamps))]) rfl (vp_in_nI (by omega) (by omega)) (k := kP) (nI_clamp (by omega)) (rfl) dX7_boundHours_36 (fun H locs hP hD hS => ?_)
        refine lv_aload_n hx hb dX7_boundHours_37 rfl (lv_at hl 1 rfl) ?_
        refine gf_X7_28 hC rfl hK hP 0 rfl rfl dX7_boundHours_38 ?_
        refine lv_iload_n hx hb dX7_boundHours_41 rfl (lv_at hl 0 rfl) ?_
        refine lv_aload_n hx hb dX7_boundHours_42 rfl (lv_at hl 1 rfl) ?_
        refine lv_aload_n hx hb dX7_boundHours_43 rfl (lv_at hl 1 rfl) ?_
        refine gf_X7_18 hC rfl hK hP 0 rfl rfl dX7_boundHours_44 ?_
        refine lv_iload_n hx hb dX7_boundHours_47 rfl (lv_at hl 0 rfl) ?_
        refine ald hC hK hP 1 rfl (vp_in_nI (by omega) (by omega)) (k := kP) (nI_clamp (by omega)) (v := ffi kP) rfl dX7_boundHours_48 ?_
        refine eqi (x1 := nI js1) ejs1 ?_
        refine lv_iconst (v := 1) hx hb dX7_boundHours_49 (by decide) ?_
        refine pV hC hK hl hP hD (c_trueHour1X l G h0 js1 bb clk fi la ml mm sl sm cl clm fclm bpersons bpapers bstamps bversions blines bsteps bsayings bfindings bwarnings bquestions td vd vl gp bstampsc kbstamps fbstamps (hkbstamps) (hSV) (by omega)) si_X7_83 [0, 7, 8, 9, 10, 11] rfl rfl (by decide) rfl rfl rfl rfl rfl (Nat.le_of_ble_eq_true rfl) ⟨Nat.le_of_ble_eq_true rfl, Nat.le_of_ble_eq_true rfl⟩ ⟨by first | exact Nat.le_of_ble_eq_true rfl | exact Nat.zero_le _, by first | exact Nat.le_of_ble_eq_true rfl | exact Nat.zero_le _⟩ dX7_boundHours_50 (fun r10171 hr10171 => ?_)
        obtain rfl := hr10171
        refine ast hC hK hP hD hS 4 (ws' := [(h0, .inr (7, [.ref bb, .ref clk, .ref fi, .ref la, .ref ml, .ref mm, .ref sl, .ref sm, .int cl])), (fi, .inl (G.2.1, 12, .inl ffi)), (la, .inl (G.2.1, 12, .inl fla)), (ml, .inl (G.2.1, 12, .inl (upd vml kP (TR0 fbstamps fclm js1)))), (mm, .inl (G.2.1, 12, .inl (upd vmm kP (TR1 fbstamps fclm js1)))), (sl, .inl (G.2.1, 12, .inl vsl)), (sm, .inl (G.2.1, 12, .inl vsm)), (clk, .inr (1, [.ref clm])), (clm, .inl (G.2.1, 36, .inl fclm)), (bb, .inr (0, [.ref bpersons, .ref bpapers, .ref bstamps, .ref bversions, .ref blines, .ref bsteps, .ref bsayings, .ref bfindings, .ref bwarnings, .ref bquestions, .int td, .int vd, .int vl, .int gp])), (bstamps, .inr (8, [.int 24, .int 3, .ref bstampsc, .int (nI kbstamps)])), (bstampsc, .inl (G.2.1, 72, .inl fbstamps))]) rfl (vp_in_nI (by omega) (by omega)) (k := kP) (nI_clamp (by omega)) (rfl) dX7_boundHours_53 (fun H locs hP hD hS => ?_)
        refine lv_aload_n hx hb dX7_boundHours_54 rfl (lv_at hl 1 rfl) ?_
        refine gf_X7_31 hC rfl hK hP 0 rfl rfl dX7_boundHours_55 ?_
        refine lv_iload_n hx hb dX7_boundHours_58 rfl (lv_at hl 0 rfl) ?_
        refine lv_aload_n hx hb dX7_boundHours_59 rfl (lv_at hl 1 rfl) ?_
        refine lv_aload_n hx hb dX7_boundHours_60 rfl (lv_at hl 1 rfl) ?_
        refine gf_X7_22 hC rfl hK hP 0 rfl rfl dX7_boundHours_61 ?_
        refine lv_iload_n hx hb dX7_boundHours_64 rfl (lv_at hl 0 rfl) ?_
        refine ald hC hK hP 2 rfl (vp_in_nI (by omega) (by omega)) (k := kP) (nI_clamp (by omega)) (v := fla kP) rfl dX7_boundHours_65 ?_
        refine eqi (x1 := nI js2) ejs2 ?_
        refine lv_iconst (v := 0) hx hb dX7_boundHours_66 (by decide) ?_
        refine pV hC hK hl hP hD (c_trueHour0X l G h0 js2 bb clk fi la ml mm sl sm cl clm fclm bpersons bpapers bstamps bversions blines bsteps bsayings bfindings bwarnings bquestions td vd vl gp bstampsc kbstamps fbstamps (hkbstamps) (hSV) (by omega)) si_X7_83 [0, 7, 8, 9, 10, 11] rfl rfl (by decide) rfl rfl rfl rfl rfl (Nat.le_of_ble_eq_true rfl) ⟨Nat.le_of_ble_eq_true rfl, Nat.le_of_ble_eq_true rfl⟩ ⟨by first | exact Nat.le_of_ble_eq_true rfl | exact Nat.zero_le _, by first | exact Nat.le_of_ble_eq_true rfl | exact Nat.zero_le _⟩ dX7_boundHours_67 (fun r10173 hr10173 => ?_)
        obtain rfl := hr10173
        refine ast hC hK hP hD hS 5 (ws' := [(h0, .inr (7, [.ref bb, .ref clk, .ref fi, .ref la, .ref ml, .ref mm, .ref sl, .ref sm, .int cl])), (fi, .inl (G.2.1, 12, .inl ffi)), (la, .inl (G.2.1, 12, .inl fla)), (ml, .inl (G.2.1, 12, .inl (upd vml kP (TR0 fbstamps fclm js1)))), (mm, .inl (G.2.1, 12, .inl (upd vmm kP (TR1 fbstamps fclm js1)))), (sl, .inl (G.2.1, 12, .inl (upd vsl kP (TR0 fbstamps fclm js2)))), (sm, .inl (G.2.1, 12, .inl vsm)), (clk, .inr (1, [.ref clm])), (clm, .inl (G.2.1, 36, .inl fclm)), (bb, .inr (0, [.ref bpersons, .ref bpapers, .ref bstamps, .ref bversions, .ref blines, .ref bsteps, .ref bsayings, .ref bfindings, .ref bwarnings, .ref bquestions, .int td, .int vd, .int vl, .int gp])), (bstamps, .inr (8, [.int 24, .int 3, .ref bstampsc, .int (nI kbstamps)])), (bstampsc, .inl (G.2.1, 72, .inl fbstamps))]) rfl (vp_in_nI (by omega) (by omega)) (k := kP) (nI_clamp (by omega)) (rfl) dX7_boundHours_70 (fun H locs hP hD hS => ?_)
        refine lv_aload_n hx hb dX7_boundHours_71 rfl (lv_at hl 1 rfl) ?_
        refine gf_X7_34 hC rfl hK hP 0 rfl rfl dX7_boundHours_72 ?_
        refine lv_iload_n hx hb dX7_boundHours_75 rfl (lv_at hl 0 rfl) ?_
        refine lv_aload_n hx hb dX7_boundHours_76 rfl (lv_at hl 1 rfl) ?_
        refine lv_aload_n hx hb dX7_boundHours_77 rfl (lv_at hl 1 rfl) ?_
        refine gf_X7_22 hC rfl hK hP 0 rfl rfl dX7_boundHours_78 ?_
        refine lv_iload_n hx hb dX7_boundHours_81 rfl (lv_at hl 0 rfl) ?_
        refine ald hC hK hP 2 rfl (vp_in_nI (by omega) (by omega)) (k := kP) (nI_clamp (by omega)) (v := fla kP) rfl dX7_boundHours_82 ?_
        refine eqi (x1 := nI js2) ejs2 ?_
        refine lv_iconst (v := 1) hx hb dX7_boundHours_83 (by decide) ?_
        refine pV hC hK hl hP hD (c_trueHour1X l G h0 js2 bb clk fi la ml mm sl sm cl clm fclm bpersons bpapers bstamps bversions blines bsteps bsayings bfindings bwarnings bquestions td vd vl gp bstampsc kbstamps fbstamps (hkbstamps) (hSV) (by omega)) si_X7_83 [0, 7, 8, 9, 10, 11] rfl rfl (by decide) rfl rfl rfl rfl rfl (Nat.le_of_ble_eq_true rfl) ⟨Nat.le_of_ble_eq_true rfl, Nat.le_of_ble_eq_true rfl⟩ ⟨by first | exact Nat.le_of_ble_eq_true rfl | exact Nat.zero_le _, by first | exact Nat.le_of_ble_eq_true rfl | exact Nat.zero_le _⟩ dX7_boundHours_84 (fun r10175 hr10175 => ?_)
        obtain rfl := hr10175
        refine ast hC hK hP hD hS 6 (ws' := [(h0, .inr (7, [.ref bb, .ref clk, .ref fi, .ref la, .ref ml, .ref mm, .ref sl, .ref sm, .int cl])), (fi, .inl (G.2.1, 12, .inl ffi)), (la, .inl (G.2.1, 12, .inl fla)), (ml, .inl (G.2.1, 12, .inl (upd vml kP (TR0 fbstamps fclm js1)))), (mm, .inl (G.2.1, 12, .inl (upd vmm kP (TR1 fbstamps fclm js1)))), (sl, .inl (G.2.1, 12, .inl (upd vsl kP (TR0 fbstamps fclm js2)))), (sm, .inl (G.2.1, 12, .inl (upd vsm kP (TR1 fbstamps fclm js2)))), (clk, .inr (1, [.ref clm])), (clm, .inl (G.2.1, 36, .inl fclm)), (bb, .inr (0, [.ref bpersons, .ref bpapers, .ref bstamps, .ref bversions, .ref blines, .ref bsteps, .ref bsayings, .ref bfindings, .ref bwarnings, .ref bquestions, .int td, .int vd, .int vl, .int gp])), (bstamps, .inr (8, [.int 24, .int 3, .ref bstampsc, .int (nI kbstamps)])), (bstampsc, .inl (G.2.1, 72, .inl fbstamps))]) rfl (vp_in_nI (by omega) (by omega)) (k := kP) (nI_clamp (by omega)) (rfl) dX7_boundHours_87 (fun H locs hP hD hS => ?_)
        refine lv_iinc (v := nI (kP + 1)) (lv' := [(1, .int (nI (kP + 1))), (0, .ref h0)]) hx hb dX7_boundHours_88 hl (k := 0) rfl (nI_1 _) (by decide) rfl (fun ls hl => ?_)
        refine lv_goto (tgt := 2) hx hb dX7_boundHours_91 (by decide) ?_
        have hst9 : BHP fbstamps fclm ffi fla (upd vml kP (TR0 fbstamps fclm js1)) (upd vmm kP (TR1 fbstamps fclm js1)) (upd vsl kP (TR0 fbstamps fclm js2)) (upd vsm kP (TR1 fbstamps fclm js2)) (kP + 1) := BHP.put hbh ejs1 ejs2 (by omega) (by omega)
        exact ihP (kP + 1) (upd vml kP (TR0 fbstamps fclm js1)) (upd vmm kP (TR1 fbstamps fclm js1)) (upd vsl kP (TR0 fbstamps fclm js2)) (upd vsm kP (TR1 fbstamps fclm js2)) _ _ _ (by omega) (by first | assumption | exact Or.inl rfl | exact Or.inr rfl | exact BHP.zero) (And.intro hP hD) hS (lv_sub hl [0, 1] rfl)
      · refine lv_goto (tgt := 88) hx hb dX7_boundHours_17 (by decide) ?_
        refine lv_iinc (v := nI (kP + 1)) (lv' := [(1, .int (nI (kP + 1))), (0, .ref h0)]) hx hb dX7_boundHours_88 hl (k := 0) rfl (nI_1 _) (by decide) rfl (fun ls hl => ?_)
        refine lv_goto (tgt := 2) hx hb dX7_boundHours_91 (by decide) ?_
        have hst9 : BHP fbstamps fclm ffi fla vml vmm vsl vsm (kP + 1) := BHP.skip hbh (Int32.not_le.mp c_14_10168)
        exact ihP (kP + 1) vml vmm vsl vsm _ _ _ (by omega) (by first | assumption | exact Or.inl rfl | exact Or.inr rfl | exact BHP.zero) (And.intro hP hD) hS (lv_sub hl [0, 1] rfl)
  exact keyP 12 0 fml fmm fsl fsm _ _ _ (by omega) (by first | assumption | exact Or.inl rfl | exact Or.inr rfl | exact BHP.zero) (And.intro hP hD) hS (lv_sub hl [0, 1] rfl)
set_option maxHeartbeats 4000000 in
set_option maxRecDepth 100000 in
theorem c_lookX (l : Launch) (G : GG) (h0 : Nat) (pp : Int32) (bb : Nat) (clk : Nat) (fi : Nat) (la : Nat) (ml : Nat) (mm : Nat) (sl : Nat) (sm : Nat) (cl : Int32) (clm : Nat) (fclm : Nat → Int32) (ffi : Nat → Int32) (fla : Nat → Int32) (fml : Nat → Int32) (fmm : Nat → Int32) (fsl : Nat → Int32) (fsm : Nat → Int32) (bpersons : Nat) (bpapers : Nat) (bstamps : Nat) (bversions : Nat) (blines : Nat) (bsteps : Nat) (bsayings : Nat) (bfindings : Nat) (bwarnings : Nat) (bquestions : Nat) (td : Int32) (vd : Int32) (vl : Int32) (gp : Int32) (bstampsc : Nat) (kbstamps : Nat) (fbstamps : Nat → Int32) (hkbstamps : kbstamps ≤ 24) (hSV : SVL fbstamps kbstamps) (hgp : GPR gp) : MV l G yX7_look cX7_look 4 5 0 0 [.ref h0, .int pp] [(h0, .inr (7, [.ref bb, .ref clk, .ref fi, .ref la, .ref ml, .ref mm, .ref sl, .ref sm, .int cl])), (clk, .inr (1, [.ref clm])), (clm, .inl (G.2.1, 36, .inl fclm)), (fi, .inl (G.2.1, 12, .inl ffi)), (la, .inl (G.2.1, 12, .inl fla)), (ml, .inl (G.2.1, 12, .inl fml)), (mm, .inl (G.2.1, 12, .inl fmm)), (sl, .inl (G.2.1, 12, .inl fsl)), (sm, .inl (G.2.1, 12, .inl fsm)), (bb, .inr (0, [.ref bpersons, .ref bpapers, .ref bstamps, .ref bversions, .ref blines, .ref bsteps, .ref bsayings, .ref bfindings, .ref bwarnings, .ref bquestions, .int td, .int vd, .int vl, .int gp])), (bstamps, .inr (8, [.int 24, .int 3, .ref bstampsc, .int (nI kbstamps)])), (bstampsc, .inl (G.2.1, 72, .inl fbstamps))] (fun u : Int32 × (Nat → Int32) × (Nat → Int32) × (Nat → Int32) × (Nat → Int32) × (Nat → Int32) × (Nat → Int32) × (Nat → Int32) => (u.1 = 0 ∨ u.1 = 1) ∧ LKP fbstamps pp gp kbstamps u.1 u.2.1 u.2.2.1 u.2.2.2.1 u.2.2.2.2.1 u.2.2.2.2.2.1 u.2.2.2.2.2.2.1 u.2.2.2.2.2.2.2) (fun u : Int32 × (Nat → Int32) × (Nat → Int32) × (Nat → Int32) × (Nat → Int32) × (Nat → Int32) × (Nat → Int32) × (Nat → Int32) => [(h0, .inr (7, [.ref bb, .ref clk, .ref fi, .ref la, .ref ml, .ref mm, .ref sl, .ref sm, .int u.1])), (clk, .inr (1, [.ref clm])), (clm, .inl (G.2.1, 36, .inl u.2.1)), (fi, .inl (G.2.1, 12, .inl u.2.2.1)), (la, .inl (G.2.1, 12, .inl u.2.2.2.1)), (ml, .inl (G.2.1, 12, .inl u.2.2.2.2.1)), (mm, .inl (G.2.1, 12, .inl u.2.2.2.2.2.1)), (sl, .inl (G.2.1, 12, .inl u.2.2.2.2.2.2.1)), (sm, .inl (G.2.1, 12, .inl u.2.2.2.2.2.2.2)), (bb, .inr (0, [.ref bpersons, .ref bpapers, .ref bstamps, .ref bversions, .ref blines, .ref bsteps, .ref bsayings, .ref bfindings, .ref bwarnings, .ref bquestions, .int td, .int vd, .int vl, .int gp])), (bstamps, .inr (8, [.int 24, .int 3, .ref bstampsc, .int (nI kbstamps)])), (bstampsc, .inl (G.2.1, 72, .inl fbstamps))]) := by
  refine MV.start (by decide +kernel) (Nat.le_of_ble_eq_true rfl) ?_
  intro p e s m below meth c A ls hC hK hP hD hS hA hl
  have hl : lv_has ls 4 [(0, .ref h0), (1, .int pp)] := hl
  obtain ⟨hx, hb, hr, hml, hB, hown, hlocks, hnm⟩ := id hC
  refine lv_aload_n hx hb dX7_look_0 rfl (lv_at hl 0 rfl) ?_
  refine lv_iconst (v := 0) hx hb dX7_look_1 (by decide) ?_
  refine pf_X7_41 hC rfl hK hP hD hS 0 (ws' := [(h0, .inr (7, [.ref bb, .ref clk, .ref fi, .ref la, .ref ml, .ref mm, .ref sl, .ref sm, .int 0])), (clk, .inr (1, [.ref clm])), (clm, .inl (G.2.1, 36, .inl fclm)), (fi, .inl (G.2.1, 12, .inl ffi)), (la, .inl (G.2.1, 12, .inl fla)), (ml, .inl (G.2.1, 12, .inl fml)), (mm, .inl (G.2.1, 12, .inl fmm)), (sl, .inl (G.2.1, 12, .inl fsl)), (sm, .inl (G.2.1, 12, .inl fsm)), (bb, .inr (0, [.ref bpersons, .ref bpapers, .ref bstamps, .ref bversions, .ref blines, .ref bsteps, .ref bsayings, .ref bfindings, .ref bwarnings, .ref bquestions, .int td, .int vd, .int vl, .int gp])), (bstamps, .inr (8, [.int 24, .int 3, .ref bstampsc, .int (nI kbstamps)])), (bstampsc, .inl (G.2.1, 72, .inl fbstamps))]) rfl (Nat.le_of_ble_eq_true rfl) rfl (by decide +kernel) (by decide +kernel) dX7_look_2 (fun H locs hP hD hS => ?_)
  refine lv_aload_n hx hb dX7_look_5 rfl (lv_at hl 0 rfl) ?_
  refine gf_X7_12 hC rfl hK hP 0 rfl rfl dX7_look_6 ?_
  refine vV (wr := [(h0, .inr (7, [.ref bb, .ref clk, .ref fi, .ref la, .ref ml, .ref mm, .ref sl, .ref sm, .int 0])), (fi, .inl (G.2.1, 12, .inl ffi)), (la, .inl (G.2.1, 12, .inl fla)), (ml, .inl (G.2.1, 12, .inl fml)), (mm, .inl (G.2.1, 12, .inl fmm)), (sl, .inl (G.2.1, 12, .inl fsl)), (sm, .inl (G.2.1, 12, .inl fsm)), (bb, .inr (0, [.ref bpersons, .ref bpapers, .ref bstamps, .ref bversions, .ref blines, .ref bsteps, .ref bsayings, .ref bfindings, .ref bwarnings, .ref bquestions, .int td, .int vd, .int vl, .int gp])), (bstamps, .inr (8, [.int 24, .int 3, .ref bstampsc, .int (nI kbstamps)])), (bstampsc, .inl (G.2.1, 72, .inl fbstamps))]) hC hK hl hP hD hS hA (c_freeX l G clk clm fclm) si_X7_45 [1, 2] [0, 3, 4, 5, 6, 7, 8, 9, 10, 11] rfl rfl (by decide) rfl (by decide) (by decide) rfl rfl rfl rfl rfl (Nat.le_of_ble_eq_true rfl) ⟨Nat.le_of_ble_eq_true rfl, Nat.le_of_ble_eq_true rfl⟩ ⟨Nat.le_of_ble_eq_true rfl, Nat.le_of_ble_eq_true rfl⟩ dX7_look_9 (fun u10178 H locs hr10177 hP hD hS => ?_)
  obtain ⟨f110179, rfl⟩ : ∃ z9, z9 = u10178 := ⟨_, rfl⟩
  try dsimp only at hr10177
  have hPD : va_PD G A [(h0, .inr (7, [.ref bb, .ref clk, .ref fi, .ref la, .ref ml, .ref mm, .ref sl, .ref sm, .int 0])), (fi, .inl (G.2.1, 12, .inl ffi)), (la, .inl (G.2.1, 12, .inl fla)), (ml, .inl (G.2.1, 12, .inl fml)), (mm, .inl (G.2.1, 12, .inl fmm)), (sl, .inl (G.2.1, 12, .inl fsl)), (sm, .inl (G.2.1, 12, .inl fsm)), (bb, .inr (0, [.ref bpersons, .ref bpapers, .ref bstamps, .ref bversions, .ref blines, .ref bsteps, .ref bsayings, .ref bfindings, .ref bwarnings, .ref bquestions, .int td, .int vd, .int vl, .int gp])), (bstamps, .inr (8, [.int 24, .int 3, .ref bstampsc, .int (nI kbstamps)])), (bstampsc, .inl (G.2.1, 72, .inl fbstamps)), (clk, .inr (1, [.ref clm])), (clm, .inl (G.2.1, 36, .inl f110179))] H := And.intro hP hD
  obtain ⟨hP, hD⟩ := hPD
  have w10180 := hr10177
  refine lv_iconst (v := 0) hx hb dX7_look_12 (by decide) ?_
  refine lv_istore_n (lv' := [(2, .int 0), (0, .ref h0), (1, .int pp)]) hx hb dX7_look_13 rfl hl (by decide) rfl (fun ls hl => ?_)
  have keyP : ∀ (nP kP : Nat) (vfi : Nat → Int32) (vla : Nat → Int32) (H : Heap) (locs : List Loc) (ls : Array Slot), kP + nP = 12 → (M1P kP vfi vla) → va_PD G A [(h0, .inr (7, [.ref bb, .ref clk, .ref fi, .ref la, .ref ml, .ref mm, .ref sl, .ref sm, .int 0])), (fi, .inl (G.2.1, 12, .inl vfi)), (la, .inl (G.2.1, 12, .inl vla)), (ml, .inl (G.2.1, 12, .inl fml)), (mm, .inl (G.2.1, 12, .inl fmm)), (sl, .inl (G.2.1, 12, .inl fsl)), (sm, .inl (G.2.1, 12, .inl fsm)), (bb, .inr (0, [.ref bpersons, .ref bpapers, .ref bstamps, .ref bversions, .ref blines, .ref bsteps, .ref bsayings, .ref bfindings, .ref bwarnings, .ref bquestions, .int td, .int vd, .int vl, .int gp])), (bstamps, .inr (8, [.int 24, .int 3, .ref bstampsc, .int (nI kbstamps)])), (bstampsc, .inl (G.2.1, 72, .inl fbstamps)), (clk, .inr (1, [.ref clm])), (clm, .inl (G.2.1, 36, .inl f110179))] H → va_S A s.heap H locs → lv_has ls 4 [(2, .int (nI kP)), (0, .ref h0), (1, .int pp)] → W p l e (RM 5 0 0) s m ([.ref h0, .int pp] : List Value).toArray below meth c H locs 0 0 (MQ below (QV G (fun u : Int32 × (Nat → Int32) × (Nat → Int32) × (Nat → Int32) × (Nat → Int32) × (Nat → Int32) × (Nat → Int32) × (Nat → Int32) => (u.1 = 0 ∨ u.1 = 1) ∧ LKP fbstamps pp gp kbstamps u.1 u.2.1 u.2.2.1 u.2.2.2.1 u.2.2.2.2.1 u.2.2.2.2.2.1 u.2.2.2.2.2.2.1 u.2.2.2.2.2.2.2) (fun u : Int32 × (Nat → Int32) × (Nat → Int32) × (Nat → Int32) × (Nat → Int32) × (Nat → Int32) × (Nat → Int32) × (Nat → Int32) => [(h0, .inr (7, [.ref bb, .ref clk, .ref fi, .ref la, .ref ml, .ref mm, .ref sl, .ref sm, .int u.1])), (clk, .inr (1, [.ref clm])), (clm, .inl (G.2.1, 36, .inl u.2.1)), (fi, .inl (G.2.1, 12, .inl u.2.2.1)), (la, .inl (G.2.1, 12, .inl u.2.2.2.1)), (ml, .inl (G.2.1, 12, .inl u.2.2.2.2.1)), (mm, .inl (G.2.1, 12, .inl u.2.2.2.2.2.1)), (sl, .inl (G.2.1, 12, .inl u.2.2.2.2.2.2.1)), (sm, .inl (G.2.1, 12, .inl u.2.2.2.2.2.2.2)), (bb, .inr (0, [.ref bpersons, .ref bpapers, .ref bstamps, .ref bversions, .ref blines, .ref bsteps, .ref bsayings, .ref bfindings, .ref bwarnings, .ref bquestions, .int td, .int vd, .int vl, .int gp])), (bstamps, .inr (8, [.int 24, .int 3, .ref bstampsc, .int (nI kbstamps)])), (bstampsc, .inl (G.2.1, 72, .inl fbstamps))]) A) ([.ref h0, .int pp] : List Value).toArray s 0 0 A) (F0 m 14 ls []) := by
    intro nP
    induction nP with
    | zero =>
      intro kP vfi vla H locs ls hkP hm1 hPD hS hl
      obtain ⟨hP, hD⟩ := hPD
      obtain rfl : 12 = kP := by omega
      have hl : lv_has ls 4 [(2, .int 12), (0, .ref h0), (1, .int pp)] := hl
      refine lv_iload_n hx hb dX7_look_14 rfl (lv_at hl 0 rfl) ?_
      refine lv_bipush (v := 12) hx hb dX7_look_15 (by decide) ?_
      refine lv_icmp_ge (tgt := 40) hx hb dX7_look_17 (by decide) (fun _ => ?_) (fun c9 => absurd (by decide) c9)
      refine lv_iconst (v := 0) hx hb dX7_look_40 (by decide) ?_
      refine lv_istore_n (lv' := [(2, .int 0), (0, .ref h0), (1, .int pp)]) hx hb dX7_look_41 rfl hl (by decide) rfl (fun ls hl => ?_)
      have hz6 : CCS 0 (KST fbstamps (VPP pp) gp.toInt 0) (MAT f110179) := CCS.zero w10180
      have hz7 : AFI fbstamps (VPP pp) 0 vfi := AFI.zero hm1
      have hz8 : ALA fbstamps (VPP pp) 0 vla := ALA.zero hm1
      have keyQ : ∀ (nQ kQ : Nat) (wcl : Int32) (wfi : Nat → Int32) (wla : Nat → Int32) (wclm : Nat → Int32) (H : Heap) (locs : List Loc) (ls : Array Slot), kQ + nQ = kbstamps → (wcl = 0 ∨ wcl = 1) → (CCS wcl (KST fbstamps (VPP pp) gp.toInt kQ) (MAT wclm)) → (AFI fbstamps (VPP pp) kQ wfi) → (ALA fbstamps (VPP pp) kQ wla) → va_PD G A [(h0, .inr (7, [.ref bb, .ref clk, .ref fi, .ref la, .ref ml, .ref mm, .ref sl, .ref sm, .int wcl])), (fi, .inl (G.2.1, 12, .inl wfi)), (la, .inl (G.2.1, 12, .inl wla)), (ml, .inl (G.2.1, 12, .inl fml)), (mm, .inl (G.2.1, 12, .inl fmm)), (sl, .inl (G.2.1, 12, .inl fsl)), (sm, .inl (G.2.1, 12, .inl fsm)), (bb, .inr (0, [.ref bpersons, .ref bpapers, .ref bstamps, .ref bversions, .ref blines, .ref bsteps, .ref bsayings, .ref bfindings, .ref bwarnings, .ref bquestions, .int td, .int vd, .int vl, .int gp])), (bstamps, .inr (8, [.int 24, .int 3, .ref bstampsc, .int (nI kbstamps)])), (bstampsc, .inl (G.2.1, 72, .inl fbstamps)), (clk, .inr (1, [.ref clm])), (clm, .inl (G.2.1, 36, .inl wclm))] H → va_S A s.heap H locs → lv_has ls 4 [(2, .int (nI kQ)), (0, .ref h0), (1, .int pp)] → W p l e (RM 5 0 0) s m ([.ref h0, .int pp] : List Value).toArray below meth c H locs 0 0 (MQ below (QV G (fun u : Int32 × (Nat → Int32) × (Nat → Int32) × (Nat → Int32) × (Nat → Int32) × (Nat → Int32) × (Nat → Int32) × (Nat → Int32) => (u.1 = 0 ∨ u.1 = 1) ∧ LKP fbstamps pp gp kbstamps u.1 u.2.1 u.2.2.1 u.2.2.2.1 u.2.2.2.2.1 u.2.2.2.2.2.1 u.2.2.2.2.2.2.1 u.2.2.2.2.2.2.2) (fun u : Int32 × (Nat → Int32) × (Nat → Int32) × (Nat → Int32) × (Nat → Int32) × (Nat → Int32) × (Nat → Int32) × (Nat → Int32) => [(h0, .inr (7, [.ref bb, .ref clk, .ref fi, .ref la, .ref ml, .ref mm, .ref sl, .ref sm, .int u.1])), (clk, .inr (1, [.ref clm])), (clm, .inl (G.2.1, 36, .inl u.2.1)), (fi, .inl (G.2.1, 12, .inl u.2.2.1)), (la, .inl (G.2.1, 12, .inl u.2.2.2.1)), (ml, .inl (G.2.1, 12, .inl u.2.2.2.2.1)), (mm, .inl (G.2.1, 12, .inl u.2.2.2.2.2.1)), (sl, .inl (G.2.1, 12, .inl u.2.2.2.2.2.2.1)), (sm, .inl (G.2.1, 12, .inl u.2.2.2.2.2.2.2)), (bb, .inr (0, [.ref bpersons, .ref bpapers, .ref bstamps, .ref bversions, .ref blines, .ref bsteps, .ref bsayings, .ref bfindings, .ref bwarnings, .ref bquestions, .int td, .int vd, .int vl, .int gp])), (bstamps, .inr (8, [.int 24, .int 3, .ref bstampsc, .int (nI kbstamps)])), (bstampsc, .inl (G.2.1, 72, .inl fbstamps))]) A) ([.ref h0, .int pp] : List Value).toArray s 0 0 A) (F0 m 42 ls []) := by
        intro nQ
        induction nQ with
        | zero =>
          intro kQ wcl wfi wla wclm H locs ls hkQ hwcl hcc hfi hla hPD hS hl
          obtain ⟨hP, hD⟩ := hPD
          obtain rfl : kbstamps = kQ := by omega
          have hl : lv_has ls 4 [(2, .int (nI kbstamps)), (0, .ref h0), (1, .int pp)] := hl
          refine lv_iload_n hx hb dX7_look_42 rfl (lv_at hl 0 rfl) ?_
          refine lv_aload_n hx hb dX7_look_43 rfl (lv_at hl 1 rfl) ?_
          refine gf_X7_37 hC rfl hK hP 0 rfl rfl dX7_look_44 ?_
          refine gf_X7_48 hC rfl hK hP 7 rfl rfl dX7_look_47 ?_
          refine pV hC hK hl hP hD (c_T_count l G bstamps 24 3 bstampsc kbstamps) si_X7_54 [8] rfl rfl (by decide) rfl rfl rfl rfl rfl (Nat.le_of_ble_eq_true rfl) ⟨Nat.le_of_ble_eq_true rfl, Nat.le_of_ble_eq_true rfl⟩ ⟨by first | exact Nat.le_of_ble_eq_true rfl | exact Nat.zero_le _, by first | exact Nat.le_of_ble_eq_true rfl | exact Nat.zero_le _⟩ dX7_look_50 (fun r10181 hr10181 => ?_)
          obtain rfl := hr10181
          refine lv_icmp_ge (tgt := 169) hx hb dX7_look_53 (by decide) (fun _ => ?_) (fun c9 => absurd (Int32.le_refl _) c9)
          refine lv_aload_n hx hb dX7_look_169 rfl (lv_at hl 1 rfl) ?_
          refine vV (wr := []) hC hK hl hP hD hS hA (c_boundHoursX l G pp h0 bb clk fi la ml mm sl sm wcl wfi wla fml fmm fsl fsm clm wclm bpersons bpapers bstamps bversions blines bsteps bsayings bfindings bwarnings bquestions td vd vl gp bstampsc kbstamps fbstamps (hkbstamps) (hSV) (hfi) (hla)) si_X7_80 [0, 1, 2, 3, 4, 5, 6, 10, 11, 7, 8, 9] [] rfl rfl (by decide) rfl (by decide) (by decide) rfl rfl rfl rfl rfl (Nat.le_of_ble_eq_true rfl) ⟨Nat.le_of_ble_eq_true rfl, Nat.le_of_ble_eq_true rfl⟩ ⟨Nat.le_of_ble_eq_true rfl, Nat.le_of_ble_eq_true rfl⟩ dX7_look_170 (fun u10184 H locs hr10183 hP hD hS => ?_)
          obtain ⟨gml10185, gmm10186, gsl10187, gsm10188⟩ := u10184
          try dsimp only at hr10183
          have hPD : va_PD G A [(h0, .inr (7, [.ref bb, .ref clk, .ref fi, .ref la, .ref ml, .ref mm, .ref sl, .ref sm, .int wcl])), (fi, .inl (G.2.1, 12, .inl wfi)), (la, .inl (G.2.1, 12, .inl wla)), (ml, .inl (G.2.1, 12, .inl gml10185)), (mm, .inl (G.2.1, 12, .inl gmm10186)), (sl, .inl (G.2.1, 12, .inl gsl10187)), (sm, .inl (G.2.1, 12, .inl gsm10188)), (clk, .inr (1, [.ref clm])), (clm, .inl (G.2.1, 36, .inl wclm)), (bb, .inr (0, [.ref bpersons, .ref bpapers, .ref bstamps, .ref bversions, .ref blines, .ref bsteps, .ref bsayings, .ref bfindings, .ref bwarnings, .ref bquestions, .int td, .int vd, .int vl, .int gp])), (bstamps, .inr (8, [.int 24, .int 3, .ref bstampsc, .int (nI kbstamps)])), (bstampsc, .inl (G.2.1, 72, .inl fbstamps))] H := And.intro hP hD
          obtain ⟨hP, hD⟩ := hPD
          have w10189 := hr10183
          exact RV hC hP hD hS [0, 7, 8, 1, 2, 3, 4, 5, 6, 9, 10, 11] (wcl, wclm, wfi, wla, gml10185, gmm10186, gsl10187, gsm10188) rfl rfl (by decide) (⟨hcc.b, hcc, hfi, hla, w10189⟩) dX7_look_173
        | succ nQ ihQ =>
          intro kQ wcl wfi wla wclm H locs ls hkQ hwcl hcc hfi hla hPD hS hl
          obtain ⟨hP, hD⟩ := hPD
          refine lv_iload_n hx hb dX7_look_42 rfl (lv_at hl 0 rfl) ?_
          refine lv_aload_n hx hb dX7_look_43 rfl (lv_at hl 1 rfl) ?_
          refine gf_X7_37 hC rfl hK hP 0 rfl rfl dX7_look_44 ?_
          refine gf_X7_48 hC rfl hK hP 7 rfl rfl dX7_look_47 ?_
          refine pV hC hK hl hP hD (c_T_count l G bstamps 24 3 bstampsc kbstamps) si_X7_54 [8] rfl rfl (by decide) rfl rfl rfl rfl rfl (Nat.le_of_ble_eq_true rfl) ⟨Nat.le_of_ble_eq_true rfl, Nat.le_of_ble_eq_true rfl⟩ ⟨by first | exact Nat.le_of_ble_eq_true rfl | exact Nat.zero_le _, by first | exact Nat.le_of_ble_eq_true rfl | exact Nat.zero_le _⟩ dX7_look_50 (fun r10190 hr10190 => ?_)
          obtain rfl := hr10190
          refine lv_icmp_ge (tgt := 169) hx hb dX7_look_53 (by decide) (fun c9 => absurd c9 (nI_ge (a := kQ) (b := kbstamps) (by omega) (by omega))) (fun _ => ?_)
          refine lv_aload_n hx hb dX7_look_56 rfl (lv_at hl 1 rfl) ?_
          refine gf_X7_37 hC rfl hK hP 0 rfl rfl dX7_look_57 ?_
          refine gf_X7_48 hC rfl hK hP 7 rfl rfl dX7_look_60 ?_
          refine lv_iload_n hx hb dX7_look_63 rfl (lv_at hl 0 rfl) ?_
          refine lv_iconst (v := 0) hx hb dX7_look_64 (by decide) ?_
          refine pV hC hK hl hP hD (c_T_at l G bstamps (nI kQ) 0 24 3 bstampsc kbstamps fbstamps (hkbstamps) (by omega) (by omega)) si_X7_60 [8, 9] rfl rfl (by decide) rfl rfl rfl rfl rfl (Nat.le_of_ble_eq_true rfl) ⟨Nat.le_of_ble_eq_true rfl, Nat.le_of_ble_eq_true rfl⟩ ⟨by first | exact Nat.le_of_ble_eq_true rfl | exact Nat.zero_le _, by first | exact Nat.le_of_ble_eq_true rfl | exact Nat.zero_le _⟩ dX7_look_65 (fun r10192 hr10192 => ?_)
          obtain ⟨jp, hjp, ejp⟩ := (hSV kQ (by omega)).1
          refine eqi (x1 := nI jp) ((hr10192.trans (tatq (by omega) (by omega) (by decide) (by decide) rfl)).trans ejp) ?_
          have wjp : Wi (nI jp) 0 11 := Wi_j (N := 11) rfl (by decide) (by omega)
          refine lv_istore_n (lv' := [(3, .int (nI jp)), (2, .int (nI kQ)), (0, .ref h0), (1, .int pp)]) hx hb dX7_look_68 rfl hl (by decide) rfl (fun ls hl => ?_)
          refine lv_iload_n hx hb dX7_look_69 rfl (lv_at hl 0 rfl) ?_
          refine lv_iconst (v := 0) hx hb dX7_look_70 (by decide) ?_
          refine lv_bipush (v := 11) hx hb dX7_look_71 (by decide) ?_
          refine pSN hC hK hl (c_within l G (nI jp) 0 11) si_X7_64 rfl rfl (Nat.le_of_ble_eq_true rfl) ⟨Nat.le_of_ble_eq_true rfl, Nat.le_of_ble_eq_true rfl⟩ ⟨by first | exact Nat.le_of_ble_eq_true rfl | exact Nat.zero_le _, by first | exact Nat.le_of_ble_eq_true rfl | exact Nat.zero_le _⟩ dX7_look_73 (fun r10194 hr10194 => ?_)
          rcases hr10194 with ⟨rfl, a10195⟩ | ⟨rfl, a10195⟩
          · refine lv_if_eq (tgt := 163) hx hb dX7_look_76 (by decide) (fun c9 => absurd c9 (by decide)) (fun _ => ?_)
            refine lv_iload_n hx hb dX7_look_79 rfl (lv_at hl 3 rfl) ?_
            refine lv_iload_n hx hb dX7_look_80 rfl (lv_at hl 0 rfl) ?_
            refine pSN hC hK hl (c_hasBit l G pp (nI jp)) si_X7_68 rfl rfl (Nat.le_of_ble_eq_true rfl) ⟨Nat.le_of_ble_eq_true rfl, Nat.le_of_ble_eq_true rfl⟩ ⟨by first | exact Nat.le_of_ble_eq_true rfl | exact Nat.zero_le _, by first | exact Nat.le_of_ble_eq_true rfl | exact Nat.zero_le _⟩ dX7_look_81 (fun r10196 hr10196 => ?_)
            rcases hr10196 with ⟨rfl, a10197⟩ | ⟨rfl, a10197⟩
            · refine lv_if_ne (tgt := 90) hx hb dX7_look_84 (by decide) (fun _ => ?_) (fun c9 => absurd c9 (by decide))
              refine lv_aload_n hx hb dX7_look_90 rfl (lv_at hl 2 rfl) ?_
              refine gf_X7_22 hC rfl hK hP 0 rfl rfl dX7_look_91 ?_
              refine lv_iload_n hx hb dX7_look_94 rfl (lv_at hl 0 rfl) ?_
              refine ald hC hK hP 2 rfl (vp_in_nI (by omega) (by omega)) (k := jp) (nI_clamp (by omega)) (v := wla jp) rfl dX7_look_95 ?_
              refine lv_if_ge (tgt := 109) hx hb dX7_look_96 (by decide) (fun c_96_10198 => ?_) (fun c_96_10198 => ?_)
              · refine lv_aload_n hx hb dX7_look_109 rfl (lv_at hl 2 rfl) ?_
                refine gf_X7_41 hC rfl hK hP 0 rfl rfl dX7_look_110 ?_
                refine lv_if_ne (tgt := 156) hx hb dX7_look_113 (by decide) (fun c_113_10199 => ?_) (fun c_113_10199 => ?_)
                · refine lv_aload_n hx hb dX7_look_156 rfl (lv_at hl 2 rfl) ?_
                  refine gf_X7_22 hC rfl hK hP 0 rfl rfl dX7_look_157 ?_
                  refine lv_iload_n hx hb dX7_look_160 rfl (lv_at hl 0 rfl) ?_
                  refine lv_iload_n hx hb dX7_look_161 rfl (lv_at hl 1 rfl) ?_
                  refine ast hC hK hP hD hS 2 (ws' := [(h0, .inr (7, [.ref bb, .ref clk, .ref fi, .ref la, .ref ml, .ref mm, .ref sl, .ref sm, .int wcl])), (fi, .inl (G.2.1, 12, .inl wfi)), (la, .inl (G.2.1, 12, .inl (upd wla jp (nI kQ)))), (ml, .inl (G.2.1, 12, .inl fml)), (mm, .inl (G.2.1, 12, .inl fmm)), (sl, .inl (G.2.1, 12, .inl fsl)), (sm, .inl (G.2.1, 12, .inl fsm)), (bb, .inr (0, [.ref bpersons, .ref bpapers, .ref bstamps, .ref bversions, .ref blines, .ref bsteps, .ref bsayings, .ref bfindings, .ref bwarnings, .ref bquestions, .int td, .int vd, .int vl, .int gp])), (bstamps, .inr (8, [.int 24, .int 3, .ref bstampsc, .int (nI kbstamps)])), (bstampsc, .inl (G.2.1, 72, .inl fbstamps)), (clk, .inr (1, [.ref clm])), (clm, .inl (G.2.1, 36, .inl wclm))]) rfl (vp_in_nI (by omega) (by omega)) (k := jp) (nI_clamp (by omega)) (rfl) dX7_look_162 (fun H locs hP hD hS => ?_)
                  refine lv_iinc (v := nI (kQ + 1)) (lv' := [(2, .int (nI (kQ + 1))), (3, .int (nI jp)), (0, .ref h0), (1, .int pp)]) hx hb dX7_look_163 hl (k := 1) rfl (nI_1 _) (by decide) rfl (fun ls hl => ?_)
                  refine lv_goto (tgt := 42) hx hb dX7_look_166 (by decide) ?_
                  have hst6 : CCS wcl (KST fbstamps (VPP pp) gp.toInt (kQ + 1)) (MAT wclm) := CCS.stay hcc c_113_10199 ((hla jp hjp).prc (LAS.nneg (Int32.not_lt.mpr c_96_10198)) (by omega) ejp)
                  have hst5 := CCS.b hst6
                  have hst7 : AFI fbstamps (VPP pp) (kQ + 1) wfi := hfi.keep hla (Int32.not_lt.mpr c_96_10198) (by omega) ejp hjp
                  have hst8 : ALA fbstamps (VPP pp) (kQ + 1) (upd wla jp (nI kQ)) := hla.put ejp hjp a10197
                  exact ihQ (kQ + 1) wcl wfi (upd wla jp (nI kQ)) wclm _ _ _ (by omega) (by first | assumption | exact Or.inl rfl | exact Or.inr rfl) (by first | assumption | exact Or.inl rfl | exact Or.inr rfl) (by first | assumption | exact Or.inl rfl | exact Or.inr rfl) (by first | assumption | exact Or.inl rfl | exact Or.inr rfl) (And.intro hP hD) hS (lv_sub hl [0, 2, 3] rfl)
                · obtain ⟨js, hjs, ejs, hpc⟩ := (hla jp hjp).prc (LAS.nneg (Int32.not_lt.mpr c_96_10198)) (by omega) ejp
                  have hCB : CLB (KST fbstamps (VPP pp) gp.toInt kQ) (MAT wclm) := hcc.get c_113_10199
                  refine lv_aload_n hx hb dX7_look_116 rfl (lv_at hl 2 rfl) ?_
                  refine lv_aload_n hx hb dX7_look_117 rfl (lv_at hl 2 rfl) ?_
                  refine gf_X7_12 hC rfl hK hP 0 rfl rfl dX7_look_118 ?_
                  refine lv_aload_n hx hb dX7_look_121 rfl (lv_at hl 2 rfl) ?_
                  refine gf_X7_37 hC rfl hK hP 0 rfl rfl dX7_look_122 ?_
                  refine gf_X7_48 hC rfl hK hP 7 rfl rfl dX7_look_125 ?_
                  refine lv_aload_n hx hb dX7_look_128 rfl (lv_at hl 2 rfl) ?_
                  refine gf_X7_22 hC rfl hK hP 0 rfl rfl dX7_look_129 ?_
                  refine lv_iload_n hx hb dX7_look_132 rfl (lv_at hl 0 rfl) ?_
                  refine ald hC hK hP 2 rfl (vp_in_nI (by omega) (by omega)) (k := jp) (nI_clamp (by omega)) (v := wla jp) rfl dX7_look_133 ?_
                  refine eqi (x1 := nI js) ejs ?_
                  refine lv_iload_n hx hb dX7_look_134 rfl (lv_at hl 1 rfl) ?_
                  refine lv_aload_n hx hb dX7_look_135 rfl (lv_at hl 2 rfl) ?_
                  refine gf_X7_37 hC rfl hK hP 0 rfl rfl dX7_look_136 ?_
                  refine gf_X7_72 hC rfl hK hP 7 rfl rfl dX7_look_139 ?_
                  refine iV (wr := [(h0, .inr (7, [.ref bb, .ref clk, .ref fi, .ref la, .ref ml, .ref mm, .ref sl, .ref sm, .int wcl])), (fi, .inl (G.2.1, 12, .inl wfi)), (la, .inl (G.2.1, 12, .inl wla)), (ml, .inl (G.2.1, 12, .inl fml)), (mm, .inl (G.2.1, 12, .inl fmm)), (sl, .inl (G.2.1, 12, .inl fsl)), (sm, .inl (G.2.1, 12, .inl fsm)), (bb, .inr (0, [.ref bpersons, .ref bpapers, .ref bstamps, .ref bversions, .ref blines, .ref bsteps, .ref bsayings, .ref bfindings, .ref bwarnings, .ref bquestions, .int td, .int vd, .int vl, .int gp]))]) hC hK hl hP hD hS hA (c_followX l G (KST fbstamps (VPP pp) gp.toInt kQ) clk bstamps js kQ gp clm wclm bstampsc kbstamps fbstamps (hCB) (hSV) (hgp) (by omega) (by omega) (hkbstamps)) si_X7_76 [10, 11, 8, 9] [0, 1, 2, 3, 4, 5, 6, 7] rfl rfl (by decide) rfl (by decide) (by decide) rfl rfl rfl rfl rfl (Nat.le_of_ble_eq_true rfl) ⟨Nat.le_of_ble_eq_true rfl, Nat.le_of_ble_eq_true rfl⟩ ⟨Nat.le_of_ble_eq_true rfl, Nat.le_of_ble_eq_true rfl⟩ dX7_look_142 (fun r10200 u10201 H locs hr10200 hP hD hS => ?_)
                  obtain ⟨f110202, rfl⟩ : ∃ z9, z9 = u10201 := ⟨_, rfl⟩
                  try dsimp only at hr10200
                  have hPD : va_PD G A [(h0, .inr (7, [.ref bb, .ref clk, .ref fi, .ref la, .ref ml, .ref mm, .ref sl, .ref sm, .int wcl])), (fi, .inl (G.2.1, 12, .inl wfi)), (la, .inl (G.2.1, 12, .inl wla)), (ml, .inl (G.2.1, 12, .inl fml)), (mm, .inl (G.2.1, 12, .inl fmm)), (sl, .inl (G.2.1, 12, .inl fsl)), (sm, .inl (G.2.1, 12, .inl fsm)), (bb, .inr (0, [.ref bpersons, .ref bpapers, .ref bstamps, .ref bversions, .ref blines, .ref bsteps, .ref bsayings, .ref bfindings, .ref bwarnings, .ref bquestions, .int td, .int vd, .int vl, .int gp])), (clk, .inr (1, [.ref clm])), (clm, .inl (G.2.1, 36, .inl f110202)), (bstamps, .inr (8, [.int 24, .int 3, .ref bstampsc, .int (nI kbstamps)])), (bstampsc, .inl (G.2.1, 72, .inl fbstamps))] H := And.intro hP hD
                  obtain ⟨hP, hD⟩ := hPD
                  rcases hr10200 with ⟨rfl, a10203⟩ | ⟨rfl, a10203⟩
                  · refine lv_if_ne (tgt := 152) hx hb dX7_look_145 (by decide) (fun _ => ?_) (fun c9 => absurd c9 (by decide))
                    refine lv_iconst (v := 0) hx hb dX7_look_152 (by decide) ?_
                    refine pf_X7_41 hC rfl hK hP hD hS 0 (ws' := [(h0, .inr (7, [.ref bb, .ref clk, .ref fi, .ref la, .ref ml, .ref mm, .ref sl, .ref sm, .int 0])), (fi, .inl (G.2.1, 12, .inl wfi)), (la, .inl (G.2.1, 12, .inl wla)), (ml, .inl (G.2.1, 12, .inl fml)), (mm, .inl (G.2.1, 12, .inl fmm)), (sl, .inl (G.2.1, 12, .inl fsl)), (sm, .inl (G.2.1, 12, .inl fsm)), (bb, .inr (0, [.ref bpersons, .ref bpapers, .ref bstamps, .ref bversions, .ref blines, .ref bsteps, .ref bsayings, .ref bfindings, .ref bwarnings, .ref bquestions, .int td, .int vd, .int vl, .int gp])), (clk, .inr (1, [.ref clm])), (clm, .inl (G.2.1, 36, .inl f110202)), (bstamps, .inr (8, [.int 24, .int 3, .ref bstampsc, .int (nI kbstamps)])), (bstampsc, .inl (G.2.1, 72, .inl fbstamps))]) rfl (Nat.le_of_ble_eq_true rfl) rfl (by decide +kernel) (by decide +kernel) dX7_look_153 (fun H locs hP hD hS => ?_)
                    refine lv_aload_n hx hb dX7_look_156 rfl (lv_at hl 2 rfl) ?_
                    refine gf_X7_22 hC rfl hK hP 0 rfl rfl dX7_look_157 ?_
                    refine lv_iload_n hx hb dX7_look_160 rfl (lv_at hl 0 rfl) ?_
                    refine lv_iload_n hx hb dX7_look_161 rfl (lv_at hl 1 rfl) ?_
                    refine ast hC hK hP hD hS 2 (ws' := [(h0, .inr (7, [.ref bb, .ref clk, .ref fi, .ref la, .ref ml, .ref mm, .ref sl, .ref sm, .int 0])), (fi, .inl (G.2.1, 12, .inl wfi)), (la, .inl (G.2.1, 12, .inl (upd wla jp (nI kQ)))), (ml, .inl (G.2.1, 12, .inl fml)), (mm, .inl (G.2.1, 12, .inl fmm)), (sl, .inl (G.2.1, 12, .inl fsl)), (sm, .inl (G.2.1, 12, .inl fsm)), (bb, .inr (0, [.ref bpersons, .ref bpapers, .ref bstamps, .ref bversions, .ref blines, .ref bsteps, .ref bsayings, .ref bfindings, .ref bwarnings, .ref bquestions, .int td, .int vd, .int vl, .int gp])), (clk, .inr (1, [.ref clm])), (clm, .inl (G.2.1, 36, .inl f110202)), (bstamps, .inr (8, [.int 24, .int 3, .ref bstampsc, .int (nI kbstamps)])), (bstampsc, .inl (G.2.1, 72, .inl fbstamps))]) rfl (vp_in_nI (by omega) (by omega)) (k := jp) (nI_clamp (by omega)) (rfl) dX7_look_162 (fun H locs hP hD hS => ?_)
                    refine lv_iinc (v := nI (kQ + 1)) (lv' := [(2, .int (nI (kQ + 1))), (3, .int (nI jp)), (0, .ref h0), (1, .int pp)]) hx hb dX7_look_163 hl (k := 1) rfl (nI_1 _) (by decide) rfl (fun ls hl => ?_)
                    refine lv_goto (tgt := 42) hx hb dX7_look_166 (by decide) ?_
                    obtain ⟨hP, hD⟩ := PD_sub (ws' := [(h0, .inr (7, [.ref bb, .ref clk, .ref fi, .ref la, .ref ml, .ref mm, .ref sl, .ref sm, .int 0])), (fi, .inl (G.2.1, 12, .inl wfi)), (la, .inl (G.2.1, 12, .inl (upd wla jp (nI kQ)))), (ml, .inl (G.2.1, 12, .inl fml)), (mm, .inl (G.2.1, 12, .inl fmm)), (sl, .inl (G.2.1, 12, .inl fsl)), (sm, .inl (G.2.1, 12, .inl fsm)), (bb, .inr (0, [.ref bpersons, .ref bpapers, .ref bstamps, .ref bversions, .ref blines, .ref bsteps, .ref bsayings, .ref bfindings, .ref bwarnings, .ref bquestions, .int td, .int vd, .int vl, .int gp])), (bstamps, .inr (8, [.int 24, .int 3, .ref bstampsc, .int (nI kbstamps)])), (bstampsc, .inl (G.2.1, 72, .inl fbstamps)), (clk, .inr (1, [.ref clm])), (clm, .inl (G.2.1, 36, .inl f110202))]) hP hD [0, 1, 2, 3, 4, 5, 6, 7, 10, 11, 8, 9] rfl (by decide +kernel) rfl
                    have hst6 : CCS 0 (KST fbstamps (VPP pp) gp.toInt (kQ + 1)) (MAT f110202) := CCS.yes1 hpc a10203
                    have hst5 := CCS.b hst6
                    have hst7 : AFI fbstamps (VPP pp) (kQ + 1) wfi := hfi.keep hla (Int32.not_lt.mpr c_96_10198) (by omega) ejp hjp
                    have hst8 : ALA fbstamps (VPP pp) (kQ + 1) (upd wla jp (nI kQ)) := hla.put ejp hjp a10197
                    exact ihQ (kQ + 1) 0 wfi (upd wla jp (nI kQ)) f110202 _ _ _ (by omega) (by first | assumption | exact Or.inl rfl | exact Or.inr rfl) (by first | assumption | exact Or.inl rfl | exact Or.inr rfl) (by first | assumption | exact Or.inl rfl | exact Or.inr rfl) (by first | assumption | exact Or.inl rfl | exact Or.inr rfl) (And.intro hP hD) hS (lv_sub hl [0, 2, 3] rfl)
                  · refine lv_if_ne (tgt := 152) hx hb dX7_look_145 (by decide) (fun c9 => absurd (by decide) c9) (fun _ => ?_)
                    refine lv_iconst (v := 1) hx hb dX7_look_148 (by decide) ?_
                    refine lv_goto (tgt := 153) hx hb dX7_look_149 (by decide) ?_
                    refine pf_X7_41 hC rfl hK hP hD hS 0 (ws' := [(h0, .inr (7, [.ref bb, .ref clk, .ref fi, .ref la, .ref ml, .ref mm, .ref sl, .ref sm, .int 1])), (fi, .inl (G.2.1, 12, .inl wfi)), (la, .inl (G.2.1, 12, .inl wla)), (ml, .inl (G.2.1, 12, .inl fml)), (mm, .inl (G.2.1, 12, .inl fmm)), (sl, .inl (G.2.1, 12, .inl fsl)), (sm, .inl (G.2.1, 12, .inl fsm)), (bb, .inr (0, [.ref bpersons, .ref bpapers, .ref bstamps, .ref bversions, .ref blines, .ref bsteps, .ref bsayings, .ref bfindings, .ref bwarnings, .ref bquestions, .int td, .int vd, .int vl, .int gp])), (clk, .inr (1, [.ref clm])), (clm, .inl (G.2.1, 36, .inl f110202)), (bstamps, .inr (8, [.int 24, .int 3, .ref bstampsc, .int (nI kbstamps)])), (bstampsc, .inl (G.2.1, 72, .inl fbstamps))]) rfl (Nat.le_of_ble_eq_true rfl) rfl (by decide +kernel) (by decide +kernel) dX7_look_153 (fun H locs hP hD hS => ?_)
                    refine lv_aload_n hx hb dX7_look_156 rfl (lv_at hl 2 rfl) ?_
                    refine gf_X7_22 hC rfl hK hP 0 rfl rfl dX7_look_157 ?_
                    refine lv_iload_n hx hb dX7_look_160 rfl (lv_at hl 0 rfl) ?_
                    refine lv_iload_n hx hb dX7_look_161 rfl (lv_at hl 1 rfl) ?_
                    refine ast hC hK hP hD hS 2 (ws' := [(h0, .inr (7, [.ref bb, .ref clk, .ref fi, .ref la, .ref ml, .ref mm, .ref sl, .ref sm, .int 1])), (fi, .inl (G.2.1, 12, .inl wfi)), (la, .inl (G.2.1, 12, .inl (upd wla jp (nI kQ)))), (ml, .inl (G.2.1, 12, .inl fml)), (mm, .inl (G.2.1, 12, .inl fmm)), (sl, .inl (G.2.1, 12, .inl fsl)), (sm, .inl (G.2.1, 12, .inl fsm)), (bb, .inr (0, [.ref bpersons, .ref bpapers, .ref bstamps, .ref bversions, .ref blines, .ref bsteps, .ref bsayings, .ref bfindings, .ref bwarnings, .ref bquestions, .int td, .int vd, .int vl, .int gp])), (clk, .inr (1, [.ref clm])), (clm, .inl (G.2.1, 36, .inl f110202)), (bstamps, .inr (8, [.int 24, .int 3, .ref bstampsc, .int (nI kbstamps)])), (bstampsc, .inl (G.2.1, 72, .inl fbstamps))]) rfl (vp_in_nI (by omega) (by omega)) (k := jp) (nI_clamp (by omega)) (rfl) dX7_look_162 (fun H locs hP hD hS => ?_)
                    refine lv_iinc (v := nI (kQ + 1)) (lv' := [(2, .int (nI (kQ + 1))), (3, .int (nI jp)), (0, .ref h0), (1, .int pp)]) hx hb dX7_look_163 hl (k := 1) rfl (nI_1 _) (by decide) rfl (fun ls hl => ?_)
                    refine lv_goto (tgt := 42) hx hb dX7_look_166 (by decide) ?_
                    obtain ⟨hP, hD⟩ := PD_sub (ws' := [(h0, .inr (7, [.ref bb, .ref clk, .ref fi, .ref la, .ref ml, .ref mm, .ref sl, .ref sm, .int 1])), (fi, .inl (G.2.1, 12, .inl wfi)), (la, .inl (G.2.1, 12, .inl (upd wla jp (nI kQ)))), (ml, .inl (G.2.1, 12, .inl fml)), (mm, .inl (G.2.1, 12, .inl fmm)), (sl, .inl (G.2.1, 12, .inl fsl)), (sm, .inl (G.2.1, 12, .inl fsm)), (bb, .inr (0, [.ref bpersons, .ref bpapers, .ref bstamps, .ref bversions, .ref blines, .ref bsteps, .ref bsayings, .ref bfindings, .ref bwarnings, .ref bquestions, .int td, .int vd, .int vl, .int gp])), (bstamps, .inr (8, [.int 24, .int 3, .ref bstampsc, .int (nI kbstamps)])), (bstampsc, .inl (G.2.1, 72, .inl fbstamps)), (clk, .inr (1, [.ref clm])), (clm, .inl (G.2.1, 36, .inl f110202))]) hP hD [0, 1, 2, 3, 4, 5, 6, 7, 10, 11, 8, 9] rfl (by decide +kernel) rfl
                    have hst6 : CCS 1 (KST fbstamps (VPP pp) gp.toInt (kQ + 1)) (MAT f110202) := CCS.yes0 hpc a10203
                    have hst5 := CCS.b hst6
                    have hst7 : AFI fbstamps (VPP pp) (kQ + 1) wfi := hfi.keep hla (Int32.not_lt.mpr c_96_10198) (by omega) ejp hjp
                    have hst8 : ALA fbstamps (VPP pp) (kQ + 1) (upd wla jp (nI kQ)) := hla.put ejp hjp a10197
                    exact ihQ (kQ + 1) 1 wfi (upd wla jp (nI kQ)) f110202 _ _ _ (by omega) (by first | assumption | exact Or.inl rfl | exact Or.inr rfl) (by first | assumption | exact Or.inl rfl | exact Or.inr rfl) (by first | assumption | exact Or.inl rfl | exact Or.inr rfl) (by first | assumption | exact Or.inl rfl | exact Or.inr rfl) (And.intro hP hD) hS (lv_sub hl [0, 2, 3] rfl)
              · refine lv_aload_n hx hb dX7_look_99 rfl (lv_at hl 2 rfl) ?_
                refine gf_X7_18 hC rfl hK hP 0 rfl rfl dX7_look_100 ?_
                refine lv_iload_n hx hb dX7_look_103 rfl (lv_at hl 0 rfl) ?_
                refine lv_iload_n hx hb dX7_look_104 rfl (lv_at hl 1 rfl) ?_
                refine ast hC hK hP hD hS 1 (ws' := [(h0, .inr (7, [.ref bb, .ref clk, .ref fi, .ref la, .ref ml, .ref mm, .ref sl, .ref sm, .int wcl])), (fi, .inl (G.2.1, 12, .inl (upd wfi jp (nI kQ)))), (la, .inl (G.2.1, 12, .inl wla)), (ml, .inl (G.2.1, 12, .inl fml)), (mm, .inl (G.2.1, 12, .inl fmm)), (sl, .inl (G.2.1, 12, .inl fsl)), (sm, .inl (G.2.1, 12, .inl fsm)), (bb, .inr (0, [.ref bpersons, .ref bpapers, .ref bstamps, .ref bversions, .ref blines, .ref bsteps, .ref bsayings, .ref bfindings, .ref bwarnings, .ref bquestions, .int td, .int vd, .int vl, .int gp])), (bstamps, .inr (8, [.int 24, .int 3, .ref bstampsc, .int (nI kbstamps)])), (bstampsc, .inl (G.2.1, 72, .inl fbstamps)), (clk, .inr (1, [.ref clm])), (clm, .inl (G.2.1, 36, .inl wclm))]) rfl (vp_in_nI (by omega) (by omega)) (k := jp) (nI_clamp (by omega)) (rfl) dX7_look_105 (fun H locs hP hD hS => ?_)
                refine lv_goto (tgt := 156) hx hb dX7_look_106 (by decide) ?_
                refine lv_aload_n hx hb dX7_look_156 rfl (lv_at hl 2 rfl) ?_
                refine gf_X7_22 hC rfl hK hP 0 rfl rfl dX7_look_157 ?_
                refine lv_iload_n hx hb dX7_look_160 rfl (lv_at hl 0 rfl) ?_
                refine lv_iload_n hx hb dX7_look_161 rfl (lv_at hl 1 rfl) ?_
                refine ast hC hK hP hD hS 2 (ws' := [(h0, .inr (7, [.ref bb, .ref clk, .ref fi, .ref la, .ref ml, .ref mm, .ref sl, .ref sm, .int wcl])), (fi, .inl (G.2.1, 12, .inl (upd wfi jp (nI kQ)))), (la, .inl (G.2.1, 12, .inl (upd wla jp (nI kQ)))), (ml, .inl (G.2.1, 12, .inl fml)), (mm, .inl (G.2.1, 12, .inl fmm)), (sl, .inl (G.2.1, 12, .inl fsl)), (sm, .inl (G.2.1, 12, .inl fsm)), (bb, .inr (0, [.ref bpersons, .ref bpapers, .ref bstamps, .ref bversions, .ref blines, .ref bsteps, .ref bsayings, .ref bfindings, .ref bwarnings, .ref bquestions, .int td, .int vd, .int vl, .int gp])), (bstamps, .inr (8, [.int 24, .int 3, .ref bstampsc, .int (nI kbstamps)])), (bstampsc, .inl (G.2.1, 72, .inl fbstamps)), (clk, .inr (1, [.ref clm])), (clm, .inl (G.2.1, 36, .inl wclm))]) rfl (vp_in_nI (by omega) (by omega)) (k := jp) (nI_clamp (by omega)) (rfl) dX7_look_162 (fun H locs hP hD hS => ?_)
                refine lv_iinc (v := nI (kQ + 1)) (lv' := [(2, .int (nI (kQ + 1))), (3, .int (nI jp)), (0, .ref h0), (1, .int pp)]) hx hb dX7_look_163 hl (k := 1) rfl (nI_1 _) (by decide) rfl (fun ls hl => ?_)
                refine lv_goto (tgt := 42) hx hb dX7_look_166 (by decide) ?_
                have hst6 : CCS wcl (KST fbstamps (VPP pp) gp.toInt (kQ + 1)) (MAT wclm) := CCS.no hcc ((hla jp hjp).nop ((hla jp hjp).neg (Int32.not_le.mp c_96_10198) (by omega)) (by omega) (by omega) ejp)
                have hst5 := CCS.b hst6
                have hst7 : AFI fbstamps (VPP pp) (kQ + 1) (upd wfi jp (nI kQ)) := hfi.put hla (Int32.not_le.mp c_96_10198) (by omega) ejp hjp a10197
                have hst8 : ALA fbstamps (VPP pp) (kQ + 1) (upd wla jp (nI kQ)) := hla.put ejp hjp a10197
                exact ihQ (kQ + 1) wcl (upd wfi jp (nI kQ)) (upd wla jp (nI kQ)) wclm _ _ _ (by omega) (by first | assumption | exact Or.inl rfl | exact Or.inr rfl) (by first | assumption | exact Or.inl rfl | exact Or.inr rfl) (by first | assumption | exact Or.inl rfl | exact Or.inr rfl) (by first | assumption | exact Or.inl rfl | exact Or.inr rfl) (And.intro hP hD) hS (lv_sub hl [0, 2, 3] rfl)
            · refine lv_if_ne (tgt := 90) hx hb dX7_look_84 (by decide) (fun c9 => absurd (by decide) c9) (fun _ => ?_)
              refine lv_goto (tgt := 163) hx hb dX7_look_87 (by decide) ?_
              refine lv_iinc (v := nI (kQ + 1)) (lv' := [(2, .int (nI (kQ + 1))), (3, .int (nI jp)), (0, .ref h0), (1, .int pp)]) hx hb dX7_look_163 hl (k := 1) rfl (nI_1 _) (by decide) rfl (fun ls hl => ?_)
              refine lv_goto (tgt := 42) hx hb dX7_look_166 (by decide) ?_
              have hst6 : CCS wcl (KST fbstamps (VPP pp) gp.toInt (kQ + 1)) (MAT wclm) := CCS.no hcc (PRC.unseen (p := jp) (by omega) ejp a10197)
              have hst5 := CCS.b hst6
              have hst7 : AFI fbstamps (VPP pp) (kQ + 1) wfi := hfi.skip ejp hjp a10197
              have hst8 : ALA fbstamps (VPP pp) (kQ + 1) wla := hla.skip ejp hjp a10197
              exact ihQ (kQ + 1) wcl wfi wla wclm _ _ _ (by omega) (by first | assumption | exact Or.inl rfl | exact Or.inr rfl) (by first | assumption | exact Or.inl rfl | exact Or.inr rfl) (by first | assumption | exact Or.inl rfl | exact Or.inr rfl) (by first | assumption | exact Or.inl rfl | exact Or.inr rfl) (And.intro hP hD) hS (lv_sub hl [0, 2, 3] rfl)
          · exact absurd wjp a10195
      exact keyQ kbstamps 0 0 vfi vla f110179 _ _ _ (by omega) (by first | assumption | exact Or.inl rfl | exact Or.inr rfl) (by first | assumption | exact Or.inl rfl | exact Or.inr rfl) (by first | assumption | exact Or.inl rfl | exact Or.inr rfl) (by first | assumption | exact Or.inl rfl | exact Or.inr rfl) (And.intro hP hD) hS (lv_sub hl [0, 1, 2] rfl)
    | succ nP ihP =>
      intro kP vfi vla H locs ls hkP hm1 hPD hS hl
      obtain ⟨hP, hD⟩ := hPD
      refine lv_iload_n hx hb dX7_look_14 rfl (lv_at hl 0 rfl) ?_
      refine lv_bipush (v := 12) hx hb dX7_look_15 (by decide) ?_
      refine lv_icmp_ge (tgt := 40) hx hb dX7_look_17 (by decide) (fun c9 => absurd c9 (nI_ge (a := kP) (b := 12) (by omega) (by omega))) (fun _ => ?_)
      refine lv_aload_n hx hb dX7_look_20 rfl (lv_at hl 1 rfl) ?_
      refine gf_X7_18 hC rfl hK hP 0 rfl rfl dX7_look_21 ?_
      refine lv_iload_n hx hb dX7_look_24 rfl (lv_at hl 0 rfl) ?_
      refine lv_iconst (v := (-1)) hx hb dX7_look_25 (by decide) ?_
      refine ast hC hK hP hD hS 1 (ws' := [(h0, .inr (7, [.ref bb, .ref clk, .ref fi, .ref la, .ref ml, .ref mm, .ref sl, .ref sm, .int 0])), (fi, .inl (G.2.1, 12, .inl (upd vfi kP (-1)))), (la, .inl (G.2.1, 12, .inl vla)), (ml, .inl (G.2.1, 12, .inl fml)), (mm, .inl (G.2.1, 12, .inl fmm)), (sl, .inl (G.2.1, 12, .inl fsl)), (sm, .inl (G.2.1, 12, .inl fsm)), (bb, .inr (0, [.ref bpersons, .ref bpapers, .ref bstamps, .ref bversions, .ref blines, .ref bsteps, .ref bsayings, .ref bfindings, .ref bwarnings, .ref bquestions, .int td, .int vd, .int vl, .int gp])), (bstamps, .inr (8, [.int 24, .int 3, .ref bstampsc, .int (nI kbstamps)])), (bstampsc, .inl (G.2.1, 72, .inl fbstamps)), (clk, .inr (1, [.ref clm])), (clm, .inl (G.2.1, 36, .inl f110179))]) rfl (vp_in_nI (by omega) (by omega)) (k := kP) (nI_clamp (by omega)) (rfl) dX7_look_26 (fun H locs hP hD hS => ?_)
      refine lv_aload_n hx hb dX7_look_27 rfl (lv_at hl 1 rfl) ?_
      refine gf_X7_22 hC rfl hK hP 0 rfl rfl dX7_look_28 ?_
      refine lv_iload_n hx hb dX7_look_31 rfl (lv_at hl 0 rfl) ?_
      refine lv_iconst (v := (-1)) hx hb dX7_look_32 (by decide) ?_
      refine ast hC hK hP hD hS 2 (ws' := [(h0, .inr (7, [.ref bb, .ref clk, .ref fi, .ref la, .ref ml, .ref mm, .ref sl, .ref sm, .int 0])), (fi, .inl (G.2.1, 12, .inl (upd vfi kP (-1)))), (la, .inl (G.2.1, 12, .inl (upd vla kP (-1)))), (ml, .inl (G.2.1, 12, .inl fml)), (mm, .inl (G.2.1, 12, .inl fmm)), (sl, .inl (G.2.1, 12, .inl fsl)), (sm, .inl (G.2.1, 12, .inl fsm)), (bb, .inr (0, [.ref bpersons, .ref bpapers, .ref bstamps, .ref bversions, .ref blines, .ref bsteps, .ref bsayings, .ref bfindings, .ref bwarnings, .ref bquestions, .int td, .int vd, .int vl, .int gp])), (bstamps, .inr (8, [.int 24, .int 3, .ref bstampsc, .int (nI kbstamps)])), (bstampsc, .inl (G.2.1, 72, .inl fbstamps)), (clk, .inr (1, [.ref clm])), (clm, .inl (G.2.1, 36, .inl f110179))]) rfl (vp_in_nI (by omega) (by omega)) (k := kP) (nI_clamp (by omega)) (rfl) dX7_look_33 (fun H locs hP hD hS => ?_)
      refine lv_iinc (v := nI (kP + 1)) (lv' := [(2, .int (nI (kP + 1))), (0, .ref h0), (1, .int pp)]) hx hb dX7_look_34 hl (k := 0) rfl (nI_1 _) (by decide) rfl (fun ls hl => ?_)
      refine lv_goto (tgt := 14) hx hb dX7_look_37 (by decide) ?_
      exact ihP (kP + 1) (upd vfi kP (-1)) (upd vla kP (-1)) _ _ _ (by omega) (by first | assumption | exact Or.inl rfl | exact Or.inr rfl | exact M1P.zero | exact M1P.next hm1) (And.intro hP hD) hS (lv_sub hl [0, 1, 2] rfl)
  exact keyP 12 0 ffi fla _ _ _ (by omega) (by first | assumption | exact Or.inl rfl | exact Or.inr rfl | exact M1P.zero | exact M1P.next hm1) (And.intro hP hD) hS (lv_sub hl [0, 1, 2] rfl)
set_option maxHeartbeats 4000000 in
set_option maxRecDepth 100000 in
theorem c_aheadX (l : Launch) (G : GG) (h0 : Nat) (jc : Nat) (mo : Int32) (bb : Nat) (clk : Nat) (fi : Nat) (la : Nat) (ml : Nat) (mm : Nat) (sl : Nat) (sm : Nat) (cl : Int32) (clm : Nat) (fclm : Nat → Int32) (hjc : jc < 6) : MP l G yX7_ahead cX7_ahead 3 (some .int) 2 [.ref h0, .int (nI jc), .int mo] [(h0, .inr (7, [.ref bb, .ref clk, .ref fi, .ref la, .ref ml, .ref mm, .ref sl, .ref sm, .int cl])), (clk, .inr (1, [.ref clm])), (clm, .inl (G.2.1, 36, .inl fclm))] (fun r : Int32 => (r = (fclm (0 * 6 + jc)) ∧ ¬ mo = 0) ∨ (r = (-(fclm (jc * 6 + 0))) ∧ mo = 0)) := by
  refine MP.start (by decide +kernel) (Nat.le_of_ble_eq_true rfl) ?_
  intro p e s m below meth c ls hC hK hP hD hl
  have hl : lv_has ls 3 [(0, .ref h0), (1, .int (nI jc)), (2, .int mo)] := hl
  obtain ⟨hx, hb, hr, hml, hB, hown, hlocks, hnm⟩ := id hC
  refine lv_iload_n hx hb dX7_ahead_0 rfl (lv_at hl 2 rfl) ?_
  refine lv_if_eq (tgt := 16) hx hb dX7_ahead_1 (by decide) (fun c_1_10204 => ?_) (fun c_1_10204 => ?_)
  · refine lv_aload_n hx hb dX7_ahead_16 rfl (lv_at hl 0 rfl) ?_
    refine gf_X7_12 hC rfl hK hP 0 rfl rfl dX7_ahead_17 ?_
    refine lv_iload_n hx hb dX7_ahead_20 rfl (lv_at hl 1 rfl) ?_
    refine lv_iconst (v := 0) hx hb dX7_ahead_21 (by decide) ?_
    refine pV hC hK hl hP hD (c_mostAheadX l G clk jc 0 clm fclm (hjc) (by omega)) si_X7_87 [1, 2] rfl rfl (by decide) rfl rfl rfl rfl rfl (Nat.le_of_ble_eq_true rfl) ⟨Nat.le_of_ble_eq_true rfl, Nat.le_of_ble_eq_true rfl⟩ ⟨by first | exact Nat.le_of_ble_eq_true rfl | exact Nat.zero_le _, by first | exact Nat.le_of_ble_eq_true rfl | exact Nat.zero_le _⟩ dX7_ahead_22 (fun r10205 hr10205 => ?_)
    obtain rfl := hr10205
    refine lv_ineg hx hb dX7_ahead_25 ?_
    exact RP (v := -(fclm (jc * 6 + 0))) hC (Or.inr ⟨rfl, c_1_10204⟩) rfl dX7_ahead_26
  · refine lv_aload_n hx hb dX7_ahead_4 rfl (lv_at hl 0 rfl) ?_
    refine gf_X7_12 hC rfl hK hP 0 rfl rfl dX7_ahead_5 ?_
    refine lv_iconst (v := 0) hx hb dX7_ahead_8 (by decide) ?_
    refine lv_iload_n hx hb dX7_ahead_9 rfl (lv_at hl 1 rfl) ?_
    refine pV hC hK hl hP hD (c_mostAheadX l G clk 0 jc clm fclm (by omega) (hjc)) si_X7_87 [1, 2] rfl rfl (by decide) rfl rfl rfl rfl rfl (Nat.le_of_ble_eq_true rfl) ⟨Nat.le_of_ble_eq_true rfl, Nat.le_of_ble_eq_true rfl⟩ ⟨by first | exact Nat.le_of_ble_eq_true rfl | exact Nat.zero_le _, by first | exact Nat.le_of_ble_eq_true rfl | exact Nat.zero_le _⟩ dX7_ahead_10 (fun r10207 hr10207 => ?_)
    obtain rfl := hr10207
    refine lv_goto (tgt := 26) hx hb dX7_ahead_13 (by decide) ?_
    exact RP (v := (fclm (0 * 6 + jc))) hC (Or.inl ⟨rfl, c_1_10204⟩) rfl dX7_ahead_26
set_option maxHeartbeats 4000000 in
set_option maxRecDepth 100000 in
theorem c_clashesX (l : Launch) (G : GG) (h0 : Nat) (bb : Nat) (clk : Nat) (fi : Nat) (la : Nat) (ml : Nat) (mm : Nat) (sl : Nat) (sm : Nat) (cl : Int32) (hcl : cl = 0 ∨ cl = 1) : MP l G yX7_clashes cX7_clashes 1 (some .boolean) 1 [.ref h0] [(h0, .inr (7, [.ref bb, .ref clk, .ref fi, .ref la, .ref ml, .ref mm, .ref sl, .ref sm, .int cl]))] (fun r : Int32 => (r = 1 ∧ cl = 1) ∨ (r = 0 ∧ cl = 0)) := by
  refine MP.start (by decide +kernel) (Nat.le_of_ble_eq_true rfl) ?_
  intro p e s m below meth c ls hC hK hP hD hl
  have hl : lv_has ls 1 [(0, .ref h0)] := hl
  obtain ⟨hx, hb, hr, hml, hB, hown, hlocks, hnm⟩ := id hC
  rcases hcl with rfl | rfl
  · refine lv_aload_n hx hb dX7_clashes_0 rfl (lv_at hl 0 rfl) ?_
    refine gf_X7_41 hC rfl hK hP 0 rfl rfl dX7_clashes_1 ?_
    exact RP (v := 0) hC (Or.inr ⟨rfl, rfl⟩) (by decide +kernel) dX7_clashes_4
  · refine lv_aload_n hx hb dX7_clashes_0 rfl (lv_at hl 0 rfl) ?_
    refine gf_X7_41 hC rfl hK hP 0 rfl rfl dX7_clashes_1 ?_
    exact RP (v := 1) hC (Or.inl ⟨rfl, rfl⟩) (by decide +kernel) dX7_clashes_4
set_option maxHeartbeats 4000000 in
set_option maxRecDepth 100000 in
theorem c_isSentX (l : Launch) (G : GG) (h0 : Nat) (jp : Nat) (bb : Nat) (clk : Nat) (fi : Nat) (la : Nat) (ml : Nat) (mm : Nat) (sl : Nat) (sm : Nat) (cl : Int32) (fla : Nat → Int32) (hjp : jp < 12) : MP l G yX7_isSent cX7_isSent 2 (some .boolean) 1 [.ref h0, .int (nI jp)] [(h0, .inr (7, [.ref bb, .ref clk, .ref fi, .ref la, .ref ml, .ref mm, .ref sl, .ref sm, .int cl])), (la, .inl (G.2.1, 12, .inl fla))] (fun r : Int32 => (r = 1 ∧ (cl = 0 ∧ ¬ fla jp < 0)) ∨ (r = 0 ∧ ¬ (cl = 0 ∧ ¬ fla jp < 0))) := by
  refine MP.start (by decide +kernel) (Nat.le_of_ble_eq_true rfl) ?_
  intro p e s m below meth c ls hC hK hP hD hl
  have hl : lv_has ls 2 [(0, .ref h0), (1, .int (nI jp))] := hl
  obtain ⟨hx, hb, hr, hml, hB, hown, hlocks, hnm⟩ := id hC
  refine lv_aload_n hx hb dX7_isSent_0 rfl (lv_at hl 0 rfl) ?_
  refine gf_X7_41 hC rfl hK hP 0 rfl rfl dX7_isSent_1 ?_
  refine lv_if_ne (tgt := 30) hx hb dX7_isSent_4 (by decide) (fun c_4_10209 => ?_) (fun c_4_10209 => ?_)
  · refine lv_iconst (v := 0) hx hb dX7_isSent_30 (by decide) ?_
    exact RP (v := 0) hC (Or.inr ⟨rfl, fun h9 => c_4_10209 h9.1⟩) (by decide +kernel) dX7_isSent_31
  · refine lv_iload_n hx hb dX7_isSent_7 rfl (lv_at hl 1 rfl) ?_
    refine lv_if_lt (tgt := 30) hx hb dX7_isSent_8 (by decide) (fun c9 => absurd c9 (nI_pos (by omega))) (fun _ => ?_)
    refine lv_iload_n hx hb dX7_isSent_11 rfl (lv_at hl 1 rfl) ?_
    refine lv_bipush (v := 12) hx hb dX7_isSent_12 (by decide) ?_
    refine lv_icmp_ge (tgt := 30) hx hb dX7_isSent_14 (by decide) (fun c9 => absurd c9 (nI_ge (a := jp) (b := 12) (by omega) (by omega))) (fun _ => ?_)
    refine lv_aload_n hx hb dX7_isSent_17 rfl (lv_at hl 0 rfl) ?_
    refine gf_X7_22 hC rfl hK hP 0 rfl rfl dX7_isSent_18 ?_
    refine lv_iload_n hx hb dX7_isSent_21 rfl (lv_at hl 1 rfl) ?_
    refine ald hC hK hP 1 rfl (vp_in_nI (by omega) (by omega)) (k := jp) (nI_clamp (by omega)) (v := fla jp) rfl dX7_isSent_22 ?_
    refine lv_if_lt (tgt := 30) hx hb dX7_isSent_23 (by decide) (fun c_23_10210 => ?_) (fun c_23_10210 => ?_)
    · refine lv_iconst (v := 0) hx hb dX7_isSent_30 (by decide) ?_
      exact RP (v := 0) hC (Or.inr ⟨rfl, fun h9 => h9.2 c_23_10210⟩) (by decide +kernel) dX7_isSent_31
    · refine lv_iconst (v := 1) hx hb dX7_isSent_26 (by decide) ?_
      refine lv_goto (tgt := 31) hx hb dX7_isSent_27 (by decide) ?_
      exact RP (v := 1) hC (Or.inl ⟨rfl, c_4_10209, c_23_10210⟩) (by decide +kernel) dX7_isSent_31
set_option maxHeartbeats 4000000 in
set_option maxRecDepth 100000 in
theorem c_sentHourX (l : Launch) (G : GG) (h0 : Nat) (jp : Nat) (mo : Int32) (bb : Nat) (clk : Nat) (fi : Nat) (la : Nat) (ml : Nat) (mm : Nat) (sl : Nat) (sm : Nat) (cl : Int32) (fla : Nat → Int32) (fsl : Nat → Int32) (fsm : Nat → Int32) (hsn : (cl = 0 ∧ ¬ fla jp < 0)) (hjp : jp < 12) : MP l G yX7_sentHour cX7_sentHour 3 (some .int) 2 [.ref h0, .int (nI jp), .int mo] [(h0, .inr (7, [.ref bb, .ref clk, .ref fi, .ref la, .ref ml, .ref mm, .ref sl, .ref sm, .int cl])), (la, .inl (G.2.1, 12, .inl fla)), (sl, .inl (G.2.1, 12, .inl fsl)), (sm, .inl (G.2.1, 12, .inl fsm))] (fun r : Int32 => (r = (fsm jp) ∧ ¬ mo = 0) ∨ (r = (fsl jp) ∧ mo = 0)) := by
  refine MP.start (by decide +kernel) (Nat.le_of_ble_eq_true rfl) ?_
  intro p e s m below meth c ls hC hK hP hD hl
  have hl : lv_has ls 3 [(0, .ref h0), (1, .int (nI jp)), (2, .int mo)] := hl
  obtain ⟨hx, hb, hr, hml, hB, hown, hlocks, hnm⟩ := id hC
  refine lv_aload_n hx hb dX7_sentHour_0 rfl (lv_at hl 0 rfl) ?_
  refine lv_iload_n hx hb dX7_sentHour_1 rfl (lv_at hl 1 rfl) ?_
  refine pV hC hK hl hP hD (c_isSentX l G h0 jp bb clk fi la ml mm sl sm cl fla (hjp)) si_X7_90 [0, 1] rfl rfl (by decide) rfl rfl rfl rfl rfl (Nat.le_of_ble_eq_true rfl) ⟨Nat.le_of_ble_eq_true rfl, Nat.le_of_ble_eq_true rfl⟩ ⟨by first | exact Nat.le_of_ble_eq_true rfl | exact Nat.zero_le _, by first | exact Nat.le_of_ble_eq_true rfl | exact Nat.zero_le _⟩ dX7_sentHour_2 (fun r10211 hr10211 => ?_)
  rcases hr10211 with ⟨rfl, a10212⟩ | ⟨rfl, a10212⟩
  · refine lv_if_ne (tgt := 10) hx hb dX7_sentHour_5 (by decide) (fun _ => ?_) (fun c9 => absurd c9 (by decide))
    refine lv_iload_n hx hb dX7_sentHour_10 rfl (lv_at hl 2 rfl) ?_
    refine lv_if_eq (tgt := 23) hx hb dX7_sentHour_11 (by decide) (fun c_11_10213 => ?_) (fun c_11_10213 => ?_)
    · refine lv_aload_n hx hb dX7_sentHour_23 rfl (lv_at hl 0 rfl) ?_
      refine gf_X7_31 hC rfl hK hP 0 rfl rfl dX7_sentHour_24 ?_
      refine lv_iload_n hx hb dX7_sentHour_27 rfl (lv_at hl 1 rfl) ?_
      refine ald hC hK hP 2 rfl (vp_in_nI (by omega) (by omega)) (k := jp) (nI_clamp (by omega)) (v := fsl jp) rfl dX7_sentHour_28 ?_
      exact RP (v := fsl jp) hC (Or.inr ⟨rfl, c_11_10213⟩) rfl dX7_sentHour_29
    · refine lv_aload_n hx hb dX7_sentHour_14 rfl (lv_at hl 0 rfl) ?_
      refine gf_X7_34 hC rfl hK hP 0 rfl rfl dX7_sentHour_15 ?_
      refine lv_iload_n hx hb dX7_sentHour_18 rfl (lv_at hl 1 rfl) ?_
      refine ald hC hK hP 3 rfl (vp_in_nI (by omega) (by omega)) (k := jp) (nI_clamp (by omega)) (v := fsm jp) rfl dX7_sentHour_19 ?_
      refine lv_goto (tgt := 29) hx hb dX7_sentHour_20 (by decide) ?_
      exact RP (v := fsm jp) hC (Or.inl ⟨rfl, c_11_10213⟩) rfl dX7_sentHour_29
  · exact absurd hsn a10212
set_option maxHeartbeats 4000000 in
set_option maxRecDepth 100000 in
theorem c_isInHandX (l : Launch) (G : GG) (h0 : Nat) (jp : Nat) (je : Nat) (bb : Nat) (clk : Nat) (fi : Nat) (la : Nat) (ml : Nat) (mm : Nat) (sl : Nat) (sm : Nat) (cl : Int32) (fla : Nat → Int32) (bpersons : Nat) (bpapers : Nat) (bstamps : Nat) (bversions : Nat) (blines : Nat) (bsteps : Nat) (bsayings : Nat) (bfindings : Nat) (bwarnings : Nat) (bquestions : Nat) (td : Int32) (vd : Int32) (vl : Int32) (gp : Int32) (bpapersc : Nat) (kbpapers : Nat) (fbpapers : Nat → Int32) (hkbpapers : kbpapers ≤ 12) (hjp : jp < kbpapers) (hje : je < 10) : MP l G yX7_isInHand cX7_isInHand 3 (some .boolean) 3 [.ref h0, .int (nI jp), .int (nI je)] [(h0, .inr (7, [.ref bb, .ref clk, .ref fi, .ref la, .ref ml, .ref mm, .ref sl, .ref sm, .int cl])), (la, .inl (G.2.1, 12, .inl fla)), (bb, .inr (0, [.ref bpersons, .ref bpapers, .ref bstamps, .ref bversions, .ref blines, .ref bsteps, .ref bsayings, .ref bfindings, .ref bwarnings, .ref bquestions, .int td, .int vd, .int vl, .int gp])), (bpapers, .inr (8, [.int 12, .int 6, .ref bpapersc, .int (nI kbpapers)])), (bpapersc, .inl (G.2.1, 72, .inl fbpapers))] (fun r : Int32 => (r = 1 ∧ ((cl = 0 ∧ ¬ fla jp < 0) ∧ (fbpapers (jp * 6 + 0) = nI je ∨ HB (fbpapers (jp * 6 + 1)) (nI je)))) ∨ (r = 0 ∧ ¬ ((cl = 0 ∧ ¬ fla jp < 0) ∧ (fbpapers (jp * 6 + 0) = nI je ∨ HB (fbpapers (jp * 6 + 1)) (nI je))))) := by
  refine MP.start (by decide +kernel) (Nat.le_of_ble_eq_true rfl) ?_
  intro p e s m below meth c ls hC hK hP hD hl
  have hl : lv_has ls 3 [(0, .ref h0), (1, .int (nI jp)), (2, .int (nI je))] := hl
  obtain ⟨hx, hb, hr, hml, hB, hown, hlocks, hnm⟩ := id hC
  refine lv_aload_n hx hb dX7_isInHand_0 rfl (lv_at hl 0 rfl) ?_
  refine lv_iload_n hx hb dX7_isInHand_1 rfl (lv_at hl 1 rfl) ?_
  refine pV hC hK hl hP hD (c_isSentX l G h0 jp bb clk fi la ml mm sl sm cl fla (by omega)) si_X7_90 [0, 1] rfl rfl (by decide) rfl rfl rfl rfl rfl (Nat.le_of_ble_eq_true rfl) ⟨Nat.le_of_ble_eq_true rfl, Nat.le_of_ble_eq_true rfl⟩ ⟨by first | exact Nat.le_of_ble_eq_true rfl | exact Nat.zero_le _, by first | exact Nat.le_of_ble_eq_true rfl | exact Nat.zero_le _⟩ dX7_isInHand_2 (fun r10214 hr10214 => ?_)
  rcases hr10214 with ⟨rfl, a10215⟩ | ⟨rfl, a10215⟩
  · refine lv_if_eq (tgt := 47) hx hb dX7_isInHand_5 (by decide) (fun c9 => absurd c9 (by decide)) (fun _ => ?_)
    refine lv_aload_n hx hb dX7_isInHand_8 rfl (lv_at hl 0 rfl) ?_
    refine gf_X7_37 hC rfl hK hP 0 rfl rfl dX7_isInHand_9 ?_
    refine gf_X7_94 hC rfl hK hP 2 rfl rfl dX7_isInHand_12 ?_
    refine lv_iload_n hx hb dX7_isInHand_15 rfl (lv_at hl 1 rfl) ?_
    refine lv_iconst (v := 0) hx hb dX7_isInHand_16 (by decide) ?_
    refine pV hC hK hl hP hD (c_T_at l G bpapers (nI jp) 0 12 6 bpapersc kbpapers fbpapers (hkbpapers) (by omega) (by omega)) si_X7_60 [3, 4] rfl rfl (by decide) rfl rfl rfl rfl rfl (Nat.le_of_ble_eq_true rfl) ⟨Nat.le_of_ble_eq_true rfl, Nat.le_of_ble_eq_true rfl⟩ ⟨by first | exact Nat.le_of_ble_eq_true rfl | exact Nat.zero_le _, by first | exact Nat.le_of_ble_eq_true rfl | exact Nat.zero_le _⟩ dX7_isInHand_17 (fun r10216 hr10216 => ?_)
    refine eqi (x1 := fbpapers (jp * 6 + 0)) (hr10216.trans (tatq (by omega) (by omega) (by decide) (by decide) rfl)) ?_
    refine lv_iload_n hx hb dX7_isInHand_20 rfl (lv_at hl 2 rfl) ?_
    refine lv_icmp_eq (tgt := 43) hx hb dX7_isInHand_21 (by decide) (fun c_21_10218 => ?_) (fun c_21_10218 => ?_)
    · refine lv_iconst (v := 1) hx hb dX7_isInHand_43 (by decide) ?_
      refine lv_goto (tgt := 48) hx hb dX7_isInHand_44 (by decide) ?_
      exact RP (v := 1) hC (Or.inl ⟨rfl, a10215, Or.inl c_21_10218⟩) (by decide +kernel) dX7_isInHand_48
    · refine lv_aload_n hx hb dX7_isInHand_24 rfl (lv_at hl 0 rfl) ?_
      refine gf_X7_37 hC rfl hK hP 0 rfl rfl dX7_isInHand_25 ?_
      refine gf_X7_94 hC rfl hK hP 2 rfl rfl dX7_isInHand_28 ?_
      refine lv_iload_n hx hb dX7_isInHand_31 rfl (lv_at hl 1 rfl) ?_
      refine lv_iconst (v := 1) hx hb dX7_isInHand_32 (by decide) ?_
      refine pV hC hK hl hP hD (c_T_at l G bpapers (nI jp) 1 12 6 bpapersc kbpapers fbpapers (hkbpapers) (by omega) (by omega)) si_X7_60 [3, 4] rfl rfl (by decide) rfl rfl rfl rfl rfl (Nat.le_of_ble_eq_true rfl) ⟨Nat.le_of_ble_eq_true rfl, Nat.le_of_ble_eq_true rfl⟩ ⟨by first | exact Nat.le_of_ble_eq_true rfl | exact Nat.zero_le _, by first | exact Nat.le_of_ble_eq_true rfl | exact Nat.zero_le _⟩ dX7_isInHand_33 (fun r10219 hr10219 => ?_)
      refine eqi (x1 := fbpapers (jp * 6 + 1)) (hr10219.trans (tatq (by omega) (by omega) (by decide) (by decide) rfl)) ?_
      refine lv_iload_n hx hb dX7_isInHand_36 rfl (lv_at hl 2 rfl) ?_
      refine pSN hC hK hl (c_hasBit l G (fbpapers (jp * 6 + 1)) (nI je)) si_X7_68 rfl rfl (Nat.le_of_ble_eq_true rfl) ⟨Nat.le_of_ble_eq_true rfl, Nat.le_of_ble_eq_true rfl⟩ ⟨by first | exact Nat.le_of_ble_eq_true rfl | exact Nat.zero_le _, by first | exact Nat.le_of_ble_eq_true rfl | exact Nat.zero_le _⟩ dX7_isInHand_37 (fun r10221 hr10221 => ?_)
      rcases hr10221 with ⟨rfl, a10222⟩ | ⟨rfl, a10222⟩
      · refine lv_if_eq (tgt := 47) hx hb dX7_isInHand_40 (by decide) (fun c9 => absurd c9 (by decide)) (fun _ => ?_)
        refine lv_iconst (v := 1) hx hb dX7_isInHand_43 (by decide) ?_
        refine lv_goto (tgt := 48) hx hb dX7_isInHand_44 (by decide) ?_
        exact RP (v := 1) hC (Or.inl ⟨rfl, a10215, Or.inr a10222⟩) (by decide +kernel) dX7_isInHand_48
      · refine lv_if_eq (tgt := 47) hx hb dX7_isInHand_40 (by decide) (fun _ => ?_) (fun c9 => absurd (by decide) c9)
        refine lv_iconst (v := 0) hx hb dX7_isInHand_47 (by decide) ?_
        exact RP (v := 0) hC (Or.inr ⟨rfl, fun h9 => h9.2.elim c_21_10218 a10222⟩) (by decide +kernel) dX7_isInHand_48
  · refine lv_if_eq (tgt := 47) hx hb dX7_isInHand_5 (by decide) (fun _ => ?_) (fun c9 => absurd (by decide) c9)
    refine lv_iconst (v := 0) hx hb dX7_isInHand_47 (by decide) ?_
    exact RP (v := 0) hC (Or.inr ⟨rfl, fun h9 => a10215 h9.1⟩) (by decide +kernel) dX7_isInHand_48
set_option maxHeartbeats 4000000 in
set_option maxRecDepth 100000 in
theorem c_handHourX (l : Launch) (G : GG) (h0 : Nat) (jp : Nat) (je : Nat) (mo : Int32) (bb : Nat) (clk : Nat) (fi : Nat) (la : Nat) (ml : Nat) (mm : Nat) (sl : Nat) (sm : Nat) (cl : Int32) (fla : Nat → Int32) (fml : Nat → Int32) (fmm : Nat → Int32) (fsl : Nat → Int32) (fsm : Nat → Int32) (bpersons : Nat) (bpapers : Nat) (bstamps : Nat) (bversions : Nat) (blines : Nat) (bsteps : Nat) (bsayings : Nat) (bfindings : Nat) (bwarnings : Nat) (bquestions : Nat) (td : Int32) (vd : Int32) (vl : Int32) (gp : Int32) (bpapersc : Nat) (kbpapers : Nat) (fbpapers : Nat → Int32) (bpersonsc : Nat) (kbpersons : Nat) (fbpersons : Nat → Int32) (hkbpapers : kbpapers ≤ 12) (hkbpersons : kbpersons ≤ 10) (hsn : (cl = 0 ∧ ¬ fla jp < 0)) (hjp : jp < kbpapers) (hje : je < kbpersons) : MP l G yX7_handHour cX7_handHour 4 (some .int) 3 [.ref h0, .int (nI jp), .int (nI je), .int mo] [(h0, .inr (7, [.ref bb, .ref clk, .ref fi, .ref la, .ref ml, .ref mm, .ref sl, .ref sm, .int cl])), (la, .inl (G.2.1, 12, .inl fla)), (ml, .inl (G.2.1, 12, .inl fml)), (mm, .inl (G.2.1, 12, .inl fmm)), (sl, .inl (G.2.1, 12, .inl fsl)), (sm, .inl (G.2.1, 12, .inl fsm)), (bb, .inr (0, [.ref bpersons, .ref bpapers, .ref bstamps, .ref bversions, .ref blines, .ref bsteps, .ref bsayings, .ref bfindings, .ref bwarnings, .ref bquestions, .int td, .int vd, .int vl, .int gp])), (bpapers, .inr (8, [.int 12, .int 6, .ref bpapersc, .int (nI kbpapers)])), (bpapersc, .inl (G.2.1, 72, .inl fbpapers)), (bpersons, .inr (8, [.int 10, .int 2, .ref bpersonsc, .int (nI kbpersons)])), (bpersonsc, .inl (G.2.1, 20, .inl fbpersons))] (fun r : Int32 => (r = (fmm jp) ∧ (fbpapers (jp * 6 + 0) = nI je ∧ ¬ mo = 0)) ∨ (r = (fml jp) ∧ (fbpapers (jp * 6 + 0) = nI je ∧ mo = 0)) ∨ (r = (fsm jp + fbpersons (je * 2 + 1)) ∧ (¬ fbpapers (jp * 6 + 0) = nI je ∧ ¬ mo = 0)) ∨ (r = (fsl jp) ∧ (¬ fbpapers (jp * 6 + 0) = nI je ∧ mo = 0))) := by
  refine MP.start (by decide +kernel) (Nat.le_of_ble_eq_true rfl) ?_
  intro p e s m below meth c ls hC hK hP hD hl
  have hl : lv_has ls 4 [(0, .ref h0), (1, .int (nI jp)), (2, .int (nI je)), (3, .int mo)] := hl
  obtain ⟨hx, hb, hr, hml, hB, hown, hlocks, hnm⟩ := id hC
  refine lv_aload_n hx hb dX7_handHour_0 rfl (lv_at hl 0 rfl) ?_
  refine lv_iload_n hx hb dX7_handHour_1 rfl (lv_at hl 1 rfl) ?_
  refine pV hC hK hl hP hD (c_isSentX l G h0 jp bb clk fi la ml mm sl sm cl fla (by omega)) si_X7_90 [0, 1] rfl rfl (by decide) rfl rfl rfl rfl rfl (Nat.le_of_ble_eq_true rfl) ⟨Nat.le_of_ble_eq_true rfl, Nat.le_of_ble_eq_true rfl⟩ ⟨by first | exact Nat.le_of_ble_eq_true rfl | exact Nat.zero_le _, by first | exact Nat.le_of_ble_eq_true rfl | exact Nat.zero_le _⟩ dX7_handHour_2 (fun r10223 hr10223 => ?_)
  rcases hr10223 with ⟨rfl, a10224⟩ | ⟨rfl, a10224⟩
  · refine lv_if_ne (tgt := 10) hx hb dX7_handHour_5 (by decide) (fun _ => ?_) (fun c9 => absurd c9 (by decide))
    refine lv_aload_n hx hb dX7_handHour_10 rfl (lv_at hl 0 rfl) ?_
    refine gf_X7_37 hC rfl hK hP 0 rfl rfl dX7_handHour_11 ?_
    refine gf_X7_94 hC rfl hK hP 6 rfl rfl dX7_handHour_14 ?_
    refine lv_iload_n hx hb dX7_handHour_17 rfl (lv_at hl 1 rfl) ?_
    refine lv_iconst (v := 0) hx hb dX7_handHour_18 (by decide) ?_
    refine pV hC hK hl hP hD (c_T_at l G bpapers (nI jp) 0 12 6 bpapersc kbpapers fbpapers (hkbpapers) (by omega) (by omega)) si_X7_60 [7, 8] rfl rfl (by decide) rfl rfl rfl rfl rfl (Nat.le_of_ble_eq_true rfl) ⟨Nat.le_of_ble_eq_true rfl, Nat.le_of_ble_eq_true rfl⟩ ⟨by first | exact Nat.le_of_ble_eq_true rfl | exact Nat.zero_le _, by first | exact Nat.le_of_ble_eq_true rfl | exact Nat.zero_le _⟩ dX7_handHour_19 (fun r10225 hr10225 => ?_)
    refine eqi (x1 := fbpapers (jp * 6 + 0)) (hr10225.trans (tatq (by omega) (by omega) (by decide) (by decide) rfl)) ?_
    refine lv_iload_n hx hb dX7_handHour_22 rfl (lv_at hl 2 rfl) ?_
    refine lv_icmp_ne (tgt := 46) hx hb dX7_handHour_23 (by decide) (fun c_23_10227 => ?_) (fun c_23_10227 => ?_)
    · refine lv_iload_n hx hb dX7_handHour_46 rfl (lv_at hl 3 rfl) ?_
      refine lv_if_eq (tgt := 72) hx hb dX7_handHour_47 (by decide) (fun c_47_10228 => ?_) (fun c_47_10228 => ?_)
      · refine lv_aload_n hx hb dX7_handHour_72 rfl (lv_at hl 0 rfl) ?_
        refine gf_X7_31 hC rfl hK hP 0 rfl rfl dX7_handHour_73 ?_
        refine lv_iload_n hx hb dX7_handHour_76 rfl (lv_at hl 1 rfl) ?_
        refine ald hC hK hP 4 rfl (vp_in_nI (by omega) (by omega)) (k := jp) (nI_clamp (by omega)) (v := fsl jp) rfl dX7_handHour_77 ?_
        exact RP (v := fsl jp) hC (Or.inr (Or.inr (Or.inr (⟨rfl, c_23_10227, c_47_10228⟩)))) rfl dX7_handHour_78
      · refine lv_aload_n hx hb dX7_handHour_50 rfl (lv_at hl 0 rfl) ?_
        refine gf_X7_34 hC rfl hK hP 0 rfl rfl dX7_handHour_51 ?_
        refine lv_iload_n hx hb dX7_handHour_54 rfl (lv_at hl 1 rfl) ?_
        refine ald hC hK hP 5 rfl (vp_in_nI (by omega) (by omega)) (k := jp) (nI_clamp (by omega)) (v := fsm jp) rfl dX7_handHour_55 ?_
        refine lv_aload_n hx hb dX7_handHour_56 rfl (lv_at hl 0 rfl) ?_
        refine gf_X7_37 hC rfl hK hP 0 rfl rfl dX7_handHour_57 ?_
        refine gf_X7_97 hC rfl hK hP 6 rfl rfl dX7_handHour_60 ?_
        refine lv_iload_n hx hb dX7_handHour_63 rfl (lv_at hl 2 rfl) ?_
        refine lv_iconst (v := 1) hx hb dX7_handHour_64 (by decide) ?_
        refine pV hC hK hl hP hD (c_T_at l G bpersons (nI je) 1 10 2 bpersonsc kbpersons fbpersons (hkbpersons) (by omega) (by omega)) si_X7_60 [9, 10] rfl rfl (by decide) rfl rfl rfl rfl rfl (Nat.le_of_ble_eq_true rfl) ⟨Nat.le_of_ble_eq_true rfl, Nat.le_of_ble_eq_true rfl⟩ ⟨by first | exact Nat.le_of_ble_eq_true rfl | exact Nat.zero_le _, by first | exact Nat.le_of_ble_eq_true rfl | exact Nat.zero_le _⟩ dX7_handHour_65 (fun r10229 hr10229 => ?_)
        refine eqi (x1 := fbpersons (je * 2 + 1)) (hr10229.trans (tatq (by omega) (by omega) (by decide) (by decide) rfl)) ?_
        refine lv_iadd hx hb dX7_handHour_68 ?_
        refine lv_goto (tgt := 78) hx hb dX7_handHour_69 (by decide) ?_
        exact RP (v := (fsm jp) + (fbpersons (je * 2 + 1))) hC (Or.inr (Or.inr (Or.inl ⟨rfl, c_23_10227, c_47_10228⟩))) rfl dX7_handHour_78
    · refine lv_iload_n hx hb dX7_handHour_26 rfl (lv_at hl 3 rfl) ?_
      refine lv_if_eq (tgt := 39) hx hb dX7_handHour_27 (by decide) (fun c_27_10231 => ?_) (fun c_27_10231 => ?_)
      · refine lv_aload_n hx hb dX7_handHour_39 rfl (lv_at hl 0 rfl) ?_
        refine gf_X7_25 hC rfl hK hP 0 rfl rfl dX7_handHour_40 ?_
        refine lv_iload_n hx hb dX7_handHour_43 rfl (lv_at hl 1 rfl) ?_
        refine ald hC hK hP 2 rfl (vp_in_nI (by omega) (by omega)) (k := jp) (nI_clamp (by omega)) (v := fml jp) rfl dX7_handHour_44 ?_
        exact RP (v := fml jp) hC (Or.inr (Or.inl ⟨rfl, c_23_10227, c_27_10231⟩)) rfl dX7_handHour_45
      · refine lv_aload_n hx hb dX7_handHour_30 rfl (lv_at hl 0 rfl) ?_
        refine gf_X7_28 hC rfl hK hP 0 rfl rfl dX7_handHour_31 ?_
        refine lv_iload_n hx hb dX7_handHour_34 rfl (lv_at hl 1 rfl) ?_
        refine ald hC hK hP 3 rfl (vp_in_nI (by omega) (by omega)) (k := jp) (nI_clamp (by omega)) (v := fmm jp) rfl dX7_handHour_35 ?_
        refine lv_goto (tgt := 45) hx hb dX7_handHour_36 (by decide) ?_
        exact RP (v := fmm jp) hC (Or.inl ⟨rfl, c_23_10227, c_27_10231⟩) rfl dX7_handHour_45
  · exact absurd hsn a10224
set_option maxHeartbeats 4000000 in
set_option maxRecDepth 100000 in
theorem p_handT (l : Launch) (G : GG) (h0 : Nat) (x1 : Int32) (x2 : Int32) (x3 : Int32) (bb : Nat) (kk : Nat) (ikp : Int32) (sg : Nat) (do9 : Nat) (ru9 : Nat) (ta9 : Nat) (tp9 : Nat) (ro9 : Nat) (ho9 : Nat) (de9 : Nat) (bpersons : Nat) (bpapers : Nat) (bstamps : Nat) (bversions : Nat) (blines : Nat) (bsteps : Nat) (bsayings : Nat) (bfindings : Nat) (bwarnings : Nat) (bquestions : Nat) (td : Int32) (vd : Int32) (vl : Int32) (gp : Int32) (clk : Nat) (fi : Nat) (la : Nat) (ml : Nat) (mm : Nat) (sl : Nat) (sm : Nat) (cl : Int32) (clm : Nat) (fclm : Nat → Int32) (ffi : Nat → Int32) (fla : Nat → Int32) (fml : Nat → Int32) (fmm : Nat → Int32) (fsl : Nat → Int32) (fsm : Nat → Int32) (bpapersc : Nat) (kbpapers : Nat) (fbpapers : Nat → Int32) (bstampsc : Nat) (kbstamps : Nat) (fbstamps : Nat → Int32) (bpersonsc : Nat) (kbpersons : Nat) (fbpersons : Nat → Int32) (hkbpapers : kbpapers ≤ 12) (hkbstamps : kbstamps ≤ 24) (hkbpersons : kbpersons ≤ 10) (hcl : cl = 0 ∨ cl = 1) (hSV : SVL fbstamps kbstamps) (hgp : GPR gp) : MI l G yX11_hand cX11_hand 4 (some .int) 7 0 0 [.ref h0, .int x1, .int x2, .int x3] [(h0, .inr (11, [.ref bb, .ref kk, .int ikp, .ref sg, .ref do9, .ref ru9, .ref ta9, .ref tp9, .ref ro9, .ref ho9, .ref de9])), (bb, .inr (0, [.ref bpersons, .ref bpapers, .ref bstamps, .ref bversions, .ref blines, .ref bsteps, .ref bsayings, .ref bfindings, .ref bwarnings, .ref bquestions, .int td, .int vd, .int vl, .int gp])), (sg, .inr (7, [.ref bb, .ref clk, .ref fi, .ref la, .ref ml, .ref mm, .ref sl, .ref sm, .int cl])), (clk, .inr (1, [.ref clm])), (clm, .inl (G.2.1, 36, .inl fclm)), (fi, .inl (G.2.1, 12, .inl ffi)), (la, .inl (G.2.1, 12, .inl fla)), (ml, .inl (G.2.1, 12, .inl fml)), (mm, .inl (G.2.1, 12, .inl fmm)), (sl, .inl (G.2.1, 12, .inl fsl)), (sm, .inl (G.2.1, 12, .inl fsm)), (bpapers, .inr (8, [.int 12, .int 6, .ref bpapersc, .int (nI kbpapers)])), (bpapersc, .inl (G.2.1, 72, .inl fbpapers)), (bstamps, .inr (8, [.int 24, .int 3, .ref bstampsc, .int (nI kbstamps)])), (bstampsc, .inl (G.2.1, 72, .inl fbstamps)), (bpersons, .inr (8, [.int 10, .int 2, .ref bpersonsc, .int (nI kbpersons)])), (bpersonsc, .inl (G.2.1, 20, .inl fbpersons))] (fun (r : Int32) (u : Int32 × (Nat → Int32) × (Nat → Int32) × (Nat → Int32) × (Nat → Int32) × (Nat → Int32) × (Nat → Int32) × (Nat → Int32)) => (∃ s9, (HNQ (KST fbstamps (VPP (IVW fbpapers td vd vl kbpapers)) gp.toInt kbstamps) fbstamps (VPP (IVW fbpapers td vd vl kbpapers)) fbpapers fbpersons kbstamps kbpapers kbpersons x1 x2 x3 s9) ∧ r = s9) ∧ (u.1 = 0 ∨ u.1 = 1)) (fun u : Int32 × (Nat → Int32) × (Nat → Int32) × (Nat → Int32) × (Nat → Int32) × (Nat → Int32) × (Nat → Int32) × (Nat → Int32) => [(h0, .inr (11, [.ref bb, .ref kk, .int ikp, .ref sg, .ref do9, .ref ru9, .ref ta9, .ref tp9, .ref ro9, .ref ho9, .ref de9])), (bb, .inr (0, [.ref bpersons, .ref bpapers, .ref bstamps, .ref bversions, .ref blines, .ref bsteps, .ref bsayings, .ref bfindings, .ref bwarnings, .ref bquestions, .int td, .int vd, .int vl, .int gp])), (sg, .inr (7, [.ref bb, .ref clk, .ref fi, .ref la, .ref ml, .ref mm, .ref sl, .ref sm, .int u.1])), (clk, .inr (1, [.ref clm])), (clm, .inl (G.2.1, 36, .inl u.2.1)), (fi, .inl (G.2.1, 12, .inl u.2.2.1)), (la, .inl (G.2.1, 12, .inl u.2.2.2.1)), (ml, .inl (G.2.1, 12, .inl u.2.2.2.2.1)), (mm, .inl (G.2.1, 12, .inl u.2.2.2.2.2.1)), (sl, .inl (G.2.1, 12, .inl u.2.2.2.2.2.2.1)), (sm, .inl (G.2.1, 12, .inl u.2.2.2.2.2.2.2)), (bpapers, .inr (8, [.int 12, .int 6, .ref bpapersc, .int (nI kbpapers)])), (bpapersc, .inl (G.2.1, 72, .inl fbpapers)), (bstamps, .inr (8, [.int 24, .int 3, .ref bstampsc, .int (nI kbstamps)])), (bstampsc, .inl (G.2.1, 72, .inl fbstamps)), (bpersons, .inr (8, [.int 10, .int 2, .ref bpersonsc, .int (nI kbpersons)])), (bpersonsc, .inl (G.2.1, 20, .inl fbpersons))]) := by
  refine MI.start (by decide +kernel) (Nat.le_of_ble_eq_true rfl) ?_
  intro p e s m below meth c A ls hC hK hP hD hS hA hl
  have hl : lv_has ls 4 [(0, .ref h0), (1, .int x1), (2, .int x2), (3, .int x3)] := hl
  obtain ⟨hx, hb, hr, hml, hB, hown, hlocks, hnm⟩ := id hC
  refine lv_aload_n hx hb dX11_hand_0 rfl (lv_at hl 0 rfl) ?_
  refine gf_X11_15 hC rfl hK hP 0 rfl rfl dX11_hand_1 ?_
  refine gf_X11_144 hC rfl hK hP 1 rfl rfl dX11_hand_4 ?_
  refine lv_iload_n hx hb dX11_hand_7 rfl (lv_at hl 1 rfl) ?_
  refine pV hC hK hl hP hD (c_T_has l G bpapers x1 12 6 bpapersc kbpapers) si_X11_124 [11] rfl rfl (by decide) rfl rfl rfl rfl rfl (Nat.le_of_ble_eq_true rfl) ⟨Nat.le_of_ble_eq_true rfl, Nat.le_of_ble_eq_true rfl⟩ ⟨by first | exact Nat.le_of_ble_eq_true rfl | exact Nat.zero_le _, by first | exact Nat.le_of_ble_eq_true rfl | exact Nat.zero_le _⟩ dX11_hand_8 (fun r10232 hr10232 => ?_)
  rcases hr10232 with ⟨rfl, a10233⟩ | ⟨rfl, a10233⟩
  · refine lv_if_eq (tgt := 28) hx hb dX11_hand_11 (by decide) (fun c9 => absurd c9 (by decide)) (fun _ => ?_)
    refine lv_aload_n hx hb dX11_hand_14 rfl (lv_at hl 0 rfl) ?_
    refine gf_X11_15 hC rfl hK hP 0 rfl rfl dX11_hand_15 ?_
    refine gf_X11_107 hC rfl hK hP 1 rfl rfl dX11_hand_18 ?_
    refine lv_iload_n hx hb dX11_hand_21 rfl (lv_at hl 2 rfl) ?_
    refine pV hC hK hl hP hD (c_T_has l G bpersons x2 10 2 bpersonsc kbpersons) si_X11_124 [15] rfl rfl (by decide) rfl rfl rfl rfl rfl (Nat.le_of_ble_eq_true rfl) ⟨Nat.le_of_ble_eq_true rfl, Nat.le_of_ble_eq_true rfl⟩ ⟨by first | exact Nat.le_of_ble_eq_true rfl | exact Nat.zero_le _, by first | exact Nat.le_of_ble_eq_true rfl | exact Nat.zero_le _⟩ dX11_hand_22 (fun r10234 hr10234 => ?_)
    rcases hr10234 with ⟨rfl, a10235⟩ | ⟨rfl, a10235⟩
    · refine lv_if_ne (tgt := 30) hx hb dX11_hand_25 (by decide) (fun _ => ?_) (fun c9 => absurd c9 (by decide))
      obtain ⟨jp, hjp, rfl⟩ := Hs_nat (by omega) a10233
      obtain ⟨je, hje, rfl⟩ := Hs_nat (by omega) a10235
      refine lv_aload_n hx hb dX11_hand_30 rfl (lv_at hl 0 rfl) ?_
      refine gf_X11_28 hC rfl hK hP 0 rfl rfl dX11_hand_31 ?_
      refine lv_aload_n hx hb dX11_hand_34 rfl (lv_at hl 0 rfl) ?_
      refine gf_X11_15 hC rfl hK hP 0 rfl rfl dX11_hand_35 ?_
      refine pV hC hK hl hP hD (c_inViewX l G bb bpersons bpapers bstamps bversions blines bsteps bsayings bfindings bwarnings bquestions td vd vl gp bpapersc kbpapers fbpapers (hkbpapers)) si_X11_97 [1, 11, 12] rfl rfl (by decide) rfl rfl rfl rfl rfl (Nat.le_of_ble_eq_true rfl) ⟨Nat.le_of_ble_eq_true rfl, Nat.le_of_ble_eq_true rfl⟩ ⟨by first | exact Nat.le_of_ble_eq_true rfl | exact Nat.zero_le _, by first | exact Nat.le_of_ble_eq_true rfl | exact Nat.zero_le _⟩ dX11_hand_38 (fun r10236 hr10236 => ?_)
      obtain rfl := hr10236
      refine vV (wr := [(h0, .inr (11, [.ref bb, .ref kk, .int ikp, .ref sg, .ref do9, .ref ru9, .ref ta9, .ref tp9, .ref ro9, .ref ho9, .ref de9])), (bpapers, .inr (8, [.int 12, .int 6, .ref bpapersc, .int (nI kbpapers)])), (bpapersc, .inl (G.2.1, 72, .inl fbpapers)), (bpersons, .inr (8, [.int 10, .int 2, .ref bpersonsc, .int (nI kbpersons)])), (bpersonsc, .inl (G.2.1, 20, .inl fbpersons))]) hC hK hl hP hD hS hA (c_lookX l G sg (IVW fbpapers td vd vl kbpapers) bb clk fi la ml mm sl sm cl clm fclm ffi fla fml fmm fsl fsm bpersons bpapers bstamps bversions blines bsteps bsayings bfindings bwarnings bquestions td vd vl gp bstampsc kbstamps fbstamps (hkbstamps) (hSV) (hgp)) si_X11_183 [2, 3, 4, 5, 6, 7, 8, 9, 10, 1, 13, 14] [0, 11, 12, 15, 16] rfl rfl (by decide) rfl (by decide) (by decide) rfl rfl rfl rfl rfl (Nat.le_of_ble_eq_true rfl) ⟨Nat.le_of_ble_eq_true rfl, Nat.le_of_ble_eq_true rfl⟩ ⟨Nat.le_of_ble_eq_true rfl, Nat.le_of_ble_eq_true rfl⟩ dX11_hand_41 (fun u10239 H locs hr10238 hP hD hS => ?_)
      obtain ⟨cl110240, gclm10241, gfi10242, gla10243, gml10244, gmm10245, gsl10246, gsm10247⟩ := u10239
      try dsimp only at hr10238
      have hPD : va_PD G A [(h0, .inr (11, [.ref bb, .ref kk, .int ikp, .ref sg, .ref do9, .ref ru9, .ref ta9, .ref tp9, .ref ro9, .ref ho9, .ref de9])), (bpapers, .inr (8, [.int 12, .int 6, .ref bpapersc, .int (nI kbpapers)])), (bpapersc, .inl (G.2.1, 72, .inl fbpapers)), (bpersons, .inr (8, [.int 10, .int 2, .ref bpersonsc, .int (nI kbpersons)])), (bpersonsc, .inl (G.2.1, 20, .inl fbpersons)), (sg, .inr (7, [.ref bb, .ref clk, .ref fi, .ref la, .ref ml, .ref mm, .ref sl, .ref sm, .int cl110240])), (clk, .inr (1, [.ref clm])), (clm, .inl (G.2.1, 36, .inl gclm10241)), (fi, .inl (G.2.1, 12, .inl gfi10242)), (la, .inl (G.2.1, 12, .inl gla10243)), (ml, .inl (G.2.1, 12, .inl gml10244)), (mm, .inl (G.2.1, 12, .inl gmm10245)), (sl, .inl (G.2.1, 12, .inl gsl10246)), (sm, .inl (G.2.1, 12, .inl gsm10247)), (bb, .inr (0, [.ref bpersons, .ref bpapers, .ref bstamps, .ref bversions, .ref blines, .ref bsteps, .ref bsayings, .ref bfindings, .ref bwarnings, .ref bquestions, .int td, .int vd, .int vl, .int gp])), (bstamps, .inr (8, [.int 24, .int 3, .ref bstampsc, .int (nI kbstamps)])), (bstampsc, .inl (G.2.1, 72, .inl fbstamps))] H := And.intro hP hD
      obtain ⟨hP, hD⟩ := hPD
      have w10248 := hr10238
      refine lv_aload_n hx hb dX11_hand_44 rfl (lv_at hl 0 rfl) ?_
      refine gf_X11_28 hC rfl hK hP 0 rfl rfl dX11_hand_45 ?_
      refine lv_iload_n hx hb dX11_hand_48 rfl (lv_at hl 1 rfl) ?_
      refine lv_iload_n hx hb dX11_hand_49 rfl (lv_at hl 2 rfl) ?_
      refine pV hC hK hl hP hD (c_isInHandX l G sg jp je bb clk fi la ml mm sl sm cl110240 gla10243 bpersons bpapers bstamps bversions blines bsteps bsayings bfindings bwarnings bquestions td vd vl gp bpapersc kbpapers fbpapers (hkbpapers) (by omega) (by omega)) si_X11_200 [5, 9, 14, 1, 2] rfl rfl (by decide) rfl rfl rfl rfl rfl (Nat.le_of_ble_eq_true rfl) ⟨Nat.le_of_ble_eq_true rfl, Nat.le_of_ble_eq_true rfl⟩ ⟨by first | exact Nat.le_of_ble_eq_true rfl | exact Nat.zero_le _, by first | exact Nat.le_of_ble_eq_true rfl | exact Nat.zero_le _⟩ dX11_hand_50 (fun r10249 hr10249 => ?_)
      rcases hr10249 with ⟨rfl, a10250⟩ | ⟨rfl, a10250⟩
      · refine lv_if_ne (tgt := 59) hx hb dX11_hand_53 (by decide) (fun _ => ?_) (fun c9 => absurd c9 (by decide))
        refine lv_aload_n hx hb dX11_hand_59 rfl (lv_at hl 0 rfl) ?_
        refine gf_X11_28 hC rfl hK hP 0 rfl rfl dX11_hand_60 ?_
        refine lv_iload_n hx hb dX11_hand_63 rfl (lv_at hl 1 rfl) ?_
        refine lv_iload_n hx hb dX11_hand_64 rfl (lv_at hl 2 rfl) ?_
        refine lv_iload_n hx hb dX11_hand_65 rfl (lv_at hl 3 rfl) ?_
        refine pV hC hK hl hP hD (c_handHourX l G sg jp je x3 bb clk fi la ml mm sl sm cl110240 gla10243 gml10244 gmm10245 gsl10246 gsm10247 bpersons bpapers bstamps bversions blines bsteps bsayings bfindings bwarnings bquestions td vd vl gp bpapersc kbpapers fbpapers bpersonsc kbpersons fbpersons (hkbpapers) (hkbpersons) (a10250.1) (by omega) (by omega)) si_X11_203 [5, 9, 10, 11, 12, 13, 14, 1, 2, 3, 4] rfl rfl (by decide) rfl rfl rfl rfl rfl (Nat.le_of_ble_eq_true rfl) ⟨Nat.le_of_ble_eq_true rfl, Nat.le_of_ble_eq_true rfl⟩ ⟨by first | exact Nat.le_of_ble_eq_true rfl | exact Nat.zero_le _, by first | exact Nat.le_of_ble_eq_true rfl | exact Nat.zero_le _⟩ dX11_hand_66 (fun r10251 hr10251 => ?_)
        rcases hr10251 with ⟨rfl, a10252⟩ | ⟨rfl, a10252⟩ | ⟨rfl, a10252⟩ | ⟨rfl, a10252⟩
        · refine lv_sipush (v := 1000) hx hb dX11_hand_69 (by decide) ?_
          refine lv_iadd hx hb dX11_hand_72 ?_
          exact RI (v := (gmm10245 jp) + 1000) hC hP hD hS [0, 14, 5, 6, 7, 8, 9, 10, 11, 12, 13, 1, 2, 15, 16, 3, 4] (cl110240, gclm10241, gfi10242, gla10243, gml10244, gmm10245, gsl10246, gsm10247) rfl rfl (by decide) (⟨⟨(gmm10245 jp) + 1000, Or.inr ⟨jp, je, hjp, hje, rfl, rfl, HAQ.made w10248.2 (by omega) (by omega) a10250.1 a10252.1 (Or.inr ⟨a10252.2, rfl⟩)⟩, rfl⟩, w10248.1⟩) rfl dX11_hand_73
        · refine lv_sipush (v := 1000) hx hb dX11_hand_69 (by decide) ?_
          refine lv_iadd hx hb dX11_hand_72 ?_
          exact RI (v := (gml10244 jp) + 1000) hC hP hD hS [0, 14, 5, 6, 7, 8, 9, 10, 11, 12, 13, 1, 2, 15, 16, 3, 4] (cl110240, gclm10241, gfi10242, gla10243, gml10244, gmm10245, gsl10246, gsm10247) rfl rfl (by decide) (⟨⟨(gml10244 jp) + 1000, Or.inr ⟨jp, je, hjp, hje, rfl, rfl, HAQ.made w10248.2 (by omega) (by omega) a10250.1 a10252.1 (Or.inl ⟨a10252.2, rfl⟩)⟩, rfl⟩, w10248.1⟩) rfl dX11_hand_73
        · refine lv_sipush (v := 1000) hx hb dX11_hand_69 (by decide) ?_
          refine lv_iadd hx hb dX11_hand_72 ?_
          exact RI (v := (gsm10247 jp + fbpersons (je * 2 + 1)) + 1000) hC hP hD hS [0, 14, 5, 6, 7, 8, 9, 10, 11, 12, 13, 1, 2, 15, 16, 3, 4] (cl110240, gclm10241, gfi10242, gla10243, gml10244, gmm10245, gsl10246, gsm10247) rfl rfl (by decide) (⟨⟨(gsm10247 jp + fbpersons (je * 2 + 1)) + 1000, Or.inr ⟨jp, je, hjp, hje, rfl, rfl, HAQ.sent w10248.2 (by omega) (by omega) a10250.1 a10252.1 (a10250.2.resolve_left a10252.1) (Or.inr ⟨a10252.2, rfl⟩)⟩, rfl⟩, w10248.1⟩) rfl dX11_hand_73
        · refine lv_sipush (v := 1000) hx hb dX11_hand_69 (by decide) ?_
          refine lv_iadd hx hb dX11_hand_72 ?_
          exact RI (v := (gsl10246 jp) + 1000) hC hP hD hS [0, 14, 5, 6, 7, 8, 9, 10, 11, 12, 13, 1, 2, 15, 16, 3, 4] (cl110240, gclm10241, gfi10242, gla10243, gml10244, gmm10245, gsl10246, gsm10247) rfl rfl (by decide) (⟨⟨(gsl10246 jp) + 1000, Or.inr ⟨jp, je, hjp, hje, rfl, rfl, HAQ.sent w10248.2 (by omega) (by omega) a10250.1 a10252.1 (a10250.2.resolve_left a10252.1) (Or.inl ⟨a10252.2, rfl⟩)⟩, rfl⟩, w10248.1⟩) rfl dX11_hand_73
      · refine lv_if_ne (tgt := 59) hx hb dX11_hand_53 (by decide) (fun c9 => absurd (by decide) c9) (fun _ => ?_)
        refine lv_bipush (v := (-3)) hx hb dX11_hand_56 (by decide) ?_
        exact RI (v := (-3)) hC hP hD hS [0, 14, 5, 6, 7, 8, 9, 10, 11, 12, 13, 1, 2, 15, 16, 3, 4] (cl110240, gclm10241, gfi10242, gla10243, gml10244, gmm10245, gsl10246, gsm10247) rfl rfl (by decide) (⟨⟨(-3), Or.inr ⟨jp, je, hjp, hje, rfl, rfl, HAQ.no w10248.2 (by omega) (by omega) a10250⟩, rfl⟩, w10248.1⟩) rfl dX11_hand_58
    · refine lv_if_ne (tgt := 30) hx hb dX11_hand_25 (by decide) (fun c9 => absurd (by decide) c9) (fun _ => ?_)
      refine lv_iconst (v := (-1)) hx hb dX11_hand_28 (by decide) ?_
      exact RI (v := (-1)) hC hP hD hS [0, 1, 2, 3, 4, 5, 6, 7, 8, 9, 10, 11, 12, 13, 14, 15, 16] (cl, fclm, ffi, fla, fml, fmm, fsl, fsm) rfl rfl (by decide) (⟨⟨(-1), Or.inl ⟨fun h9 => a10235 h9.2, rfl⟩, rfl⟩, hcl⟩) rfl dX11_hand_29
  · refine lv_if_eq (tgt := 28) hx hb dX11_hand_11 (by decide) (fun _ => ?_) (fun c9 => absurd (by decide) c9)
    refine lv_iconst (v := (-1)) hx hb dX11_hand_28 (by decide) ?_
    exact RI (v := (-1)) hC hP hD hS [0, 1, 2, 3, 4, 5, 6, 7, 8, 9, 10, 11, 12, 13, 14, 15, 16] (cl, fclm, ffi, fla, fml, fmm, fsl, fsm) rfl rfl (by decide) (⟨⟨(-1), Or.inl ⟨fun h9 => a10233 h9.1, rfl⟩, rfl⟩, hcl⟩) rfl dX11_hand_29
set_option maxHeartbeats 4000000 in
set_option maxRecDepth 100000 in
theorem c_clockOfX (l : Launch) (G : GG) (h0 : Nat) (jp : Nat) (js : Nat) (bb : Nat) (clk : Nat) (fi : Nat) (la : Nat) (ml : Nat) (mm : Nat) (sl : Nat) (sm : Nat) (cl : Int32) (fla : Nat → Int32) (bpersons : Nat) (bpapers : Nat) (bstamps : Nat) (bversions : Nat) (blines : Nat) (bsteps : Nat) (bsayings : Nat) (bfindings : Nat) (bwarnings : Nat) (bquestions : Nat) (td : Int32) (vd : Int32) (vl : Int32) (gp : Int32) (bstampsc : Nat) (kbstamps : Nat) (fbstamps : Nat → Int32) (hkbstamps : kbstamps ≤ 24) (hSV : SVL fbstamps kbstamps) (hls : fla jp = nI js) (hjp : jp < 12) (hjs : js < kbstamps) : MP l G yX7_clockOf cX7_clockOf 2 (some .int) 3 [.ref h0, .int (nI jp)] [(h0, .inr (7, [.ref bb, .ref clk, .ref fi, .ref la, .ref ml, .ref mm, .ref sl, .ref sm, .int cl])), (la, .inl (G.2.1, 12, .inl fla)), (bb, .inr (0, [.ref bpersons, .ref bpapers, .ref bstamps, .ref bversions, .ref blines, .ref bsteps, .ref bsayings, .ref bfindings, .ref bwarnings, .ref bquestions, .int td, .int vd, .int vl, .int gp])), (bstamps, .inr (8, [.int 24, .int 3, .ref bstampsc, .int (nI kbstamps)])), (bstampsc, .inl (G.2.1, 72, .inl fbstamps))] (fun r : Int32 => r = nI (CKS fbstamps js)) := by
  refine MP.start (by decide +kernel) (Nat.le_of_ble_eq_true rfl) ?_
  intro p e s m below meth c ls hC hK hP hD hl
  have hl : lv_has ls 2 [(0, .ref h0), (1, .int (nI jp))] := hl
  obtain ⟨hx, hb, hr, hml, hB, hown, hlocks, hnm⟩ := id hC
  have wjp : Wi (nI jp) 0 11 := Wi_j (N := 11) rfl (by decide) (by omega)
  refine lv_iload_n hx hb dX7_clockOf_0 rfl (lv_at hl 1 rfl) ?_
  refine lv_iconst (v := 0) hx hb dX7_clockOf_1 (by decide) ?_
  refine lv_bipush (v := 11) hx hb dX7_clockOf_2 (by decide) ?_
  refine pSN hC hK hl (c_within l G (nI jp) 0 11) si_X7_64 rfl rfl (Nat.le_of_ble_eq_true rfl) ⟨Nat.le_of_ble_eq_true rfl, Nat.le_of_ble_eq_true rfl⟩ ⟨by first | exact Nat.le_of_ble_eq_true rfl | exact Nat.zero_le _, by first | exact Nat.le_of_ble_eq_true rfl | exact Nat.zero_le _⟩ dX7_clockOf_4 (fun r10253 hr10253 => ?_)
  rcases hr10253 with ⟨rfl, a10254⟩ | ⟨rfl, a10254⟩
  · refine lv_if_eq (tgt := 30) hx hb dX7_clockOf_7 (by decide) (fun c9 => absurd c9 (by decide)) (fun _ => ?_)
    refine lv_aload_n hx hb dX7_clockOf_10 rfl (lv_at hl 0 rfl) ?_
    refine gf_X7_37 hC rfl hK hP 0 rfl rfl dX7_clockOf_11 ?_
    refine gf_X7_48 hC rfl hK hP 2 rfl rfl dX7_clockOf_14 ?_
    refine lv_aload_n hx hb dX7_clockOf_17 rfl (lv_at hl 0 rfl) ?_
    refine gf_X7_22 hC rfl hK hP 0 rfl rfl dX7_clockOf_18 ?_
    refine lv_iload_n hx hb dX7_clockOf_21 rfl (lv_at hl 1 rfl) ?_
    refine ald hC hK hP 1 rfl (vp_in_nI (by omega) (by omega)) (k := jp) (nI_clamp (by omega)) (v := fla jp) rfl dX7_clockOf_22 ?_
    refine eqi (x1 := nI js) (hls) ?_
    refine lv_iconst (v := 1) hx hb dX7_clockOf_23 (by decide) ?_
    refine pV hC hK hl hP hD (c_T_at l G bstamps (nI js) 1 24 3 bstampsc kbstamps fbstamps (hkbstamps) (by omega) (by omega)) si_X7_60 [3, 4] rfl rfl (by decide) rfl rfl rfl rfl rfl (Nat.le_of_ble_eq_true rfl) ⟨Nat.le_of_ble_eq_true rfl, Nat.le_of_ble_eq_true rfl⟩ ⟨by first | exact Nat.le_of_ble_eq_true rfl | exact Nat.zero_le _, by first | exact Nat.le_of_ble_eq_true rfl | exact Nat.zero_le _⟩ dX7_clockOf_24 (fun r10255 hr10255 => ?_)
    refine eqi (x1 := nI (CKS fbstamps js)) ((hr10255.trans (tatq (by omega) (by omega) (by decide) (by decide) rfl)).trans (hSV.cke hjs)) ?_
    refine lv_goto (tgt := 31) hx hb dX7_clockOf_27 (by decide) ?_
    exact RP (v := nI (CKS fbstamps js)) hC (rfl) rfl dX7_clockOf_31
  · exact absurd wjp a10254
set_option maxHeartbeats 4000000 in
set_option maxRecDepth 100000 in
theorem c_readBetweenX (l : Launch) (G : GG) (h0 : Nat) (jp : Nat) (jo : Nat) (js : Nat) (jt : Nat) (bb : Nat) (clk : Nat) (fi : Nat) (la : Nat) (ml : Nat) (mm : Nat) (sl : Nat) (sm : Nat) (cl : Int32) (fla : Nat → Int32) (bpersons : Nat) (bpapers : Nat) (bstamps : Nat) (bversions : Nat) (blines : Nat) (bsteps : Nat) (bsayings : Nat) (bfindings : Nat) (bwarnings : Nat) (bquestions : Nat) (td : Int32) (vd : Int32) (vl : Int32) (gp : Int32) (bstampsc : Nat) (kbstamps : Nat) (fbstamps : Nat → Int32) (hkbstamps : kbstamps ≤ 24) (hSV : SVL fbstamps kbstamps) (hs1 : (cl = 0 ∧ ¬ fla jp < 0)) (hs2 : (cl = 0 ∧ ¬ fla jo < 0)) (hls : fla jp = nI js) (hlt : fla jo = nI jt) (hjp : jp < 12) (hjo : jo < 12) (hjs : js < kbstamps) (hjt : jt < kbstamps) : MP l G yX7_readBetween cX7_readBetween 3 (some .int) 3 [.ref h0, .int (nI jp), .int (nI jo)] [(h0, .inr (7, [.ref bb, .ref clk, .ref fi, .ref la, .ref ml, .ref mm, .ref sl, .ref sm, .int cl])), (la, .inl (G.2.1, 12, .inl fla)), (bb, .inr (0, [.ref bpersons, .ref bpapers, .ref bstamps, .ref bversions, .ref blines, .ref bsteps, .ref bsayings, .ref bfindings, .ref bwarnings, .ref bquestions, .int td, .int vd, .int vl, .int gp])), (bstamps, .inr (8, [.int 24, .int 3, .ref bstampsc, .int (nI kbstamps)])), (bstampsc, .inl (G.2.1, 72, .inl fbstamps))] (fun r : Int32 => r = (fbstamps (jt * 3 + 2) - fbstamps (js * 3 + 2))) := by
  refine MP.start (by decide +kernel) (Nat.le_of_ble_eq_true rfl) ?_
  intro p e s m below meth c ls hC hK hP hD hl
  have hl : lv_has ls 3 [(0, .ref h0), (1, .int (nI jp)), (2, .int (nI jo))] := hl
  obtain ⟨hx, hb, hr, hml, hB, hown, hlocks, hnm⟩ := id hC
  refine lv_aload_n hx hb dX7_readBetween_0 rfl (lv_at hl 0 rfl) ?_
  refine lv_iload_n hx hb dX7_readBetween_1 rfl (lv_at hl 1 rfl) ?_
  refine pV hC hK hl hP hD (c_isSentX l G h0 jp bb clk fi la ml mm sl sm cl fla (hjp)) si_X7_90 [0, 1] rfl rfl (by decide) rfl rfl rfl rfl rfl (Nat.le_of_ble_eq_true rfl) ⟨Nat.le_of_ble_eq_true rfl, Nat.le_of_ble_eq_true rfl⟩ ⟨by first | exact Nat.le_of_ble_eq_true rfl | exact Nat.zero_le _, by first | exact Nat.le_of_ble_eq_true rfl | exact Nat.zero_le _⟩ dX7_readBetween_2 (fun r10257 hr10257 => ?_)
  rcases hr10257 with ⟨rfl, a10258⟩ | ⟨rfl, a10258⟩
  · refine lv_if_eq (tgt := 16) hx hb dX7_readBetween_5 (by decide) (fun c9 => absurd c9 (by decide)) (fun _ => ?_)
    refine lv_aload_n hx hb dX7_readBetween_8 rfl (lv_at hl 0 rfl) ?_
    refine lv_iload_n hx hb dX7_readBetween_9 rfl (lv_at hl 2 rfl) ?_
    refine pV hC hK hl hP hD (c_isSentX l G h0 jo bb clk fi la ml mm sl sm cl fla (hjo)) si_X7_90 [0, 1] rfl rfl (by decide) rfl rfl rfl rfl rfl (Nat.le_of_ble_eq_true rfl) ⟨Nat.le_of_ble_eq_true rfl, Nat.le_of_ble_eq_true rfl⟩ ⟨by first | exact Nat.le_of_ble_eq_true rfl | exact Nat.zero_le _, by first | exact Nat.le_of_ble_eq_true rfl | exact Nat.zero_le _⟩ dX7_readBetween_10 (fun r10259 hr10259 => ?_)
    rcases hr10259 with ⟨rfl, a10260⟩ | ⟨rfl, a10260⟩
    · refine lv_if_ne (tgt := 18) hx hb dX7_readBetween_13 (by decide) (fun _ => ?_) (fun c9 => absurd c9 (by decide))
      refine lv_aload_n hx hb dX7_readBetween_18 rfl (lv_at hl 0 rfl) ?_
      refine gf_X7_37 hC rfl hK hP 0 rfl rfl dX7_readBetween_19 ?_
      refine gf_X7_48 hC rfl hK hP 2 rfl rfl dX7_readBetween_22 ?_
      refine lv_aload_n hx hb dX7_readBetween_25 rfl (lv_at hl 0 rfl) ?_
      refine gf_X7_22 hC rfl hK hP 0 rfl rfl dX7_readBetween_26 ?_
      refine lv_iload_n hx hb dX7_readBetween_29 rfl (lv_at hl 2 rfl) ?_
      refine ald hC hK hP 1 rfl (vp_in_nI (by omega) (by omega)) (k := jo) (nI_clamp (by omega)) (v := fla jo) rfl dX7_readBetween_30 ?_
      refine eqi (x1 := nI jt) (hlt) ?_
      refine lv_iconst (v := 2) hx hb dX7_readBetween_31 (by decide) ?_
      refine pV hC hK hl hP hD (c_T_at l G bstamps (nI jt) 2 24 3 bstampsc kbstamps fbstamps (hkbstamps) (by omega) (by omega)) si_X7_60 [3, 4] rfl rfl (by decide) rfl rfl rfl rfl rfl (Nat.le_of_ble_eq_true rfl) ⟨Nat.le_of_ble_eq_true rfl, Nat.le_of_ble_eq_true rfl⟩ ⟨by first | exact Nat.le_of_ble_eq_true rfl | exact Nat.zero_le _, by first | exact Nat.le_of_ble_eq_true rfl | exact Nat.zero_le _⟩ dX7_readBetween_32 (fun r10261 hr10261 => ?_)
      refine eqi (x1 := fbstamps (jt * 3 + 2)) (hr10261.trans (tatq (by omega) (by omega) (by decide) (by decide) rfl)) ?_
      refine lv_aload_n hx hb dX7_readBetween_35 rfl (lv_at hl 0 rfl) ?_
      refine gf_X7_37 hC rfl hK hP 0 rfl rfl dX7_readBetween_36 ?_
      refine gf_X7_48 hC rfl hK hP 2 rfl rfl dX7_readBetween_39 ?_
      refine lv_aload_n hx hb dX7_readBetween_42 rfl (lv_at hl 0 rfl) ?_
      refine gf_X7_22 hC rfl hK hP 0 rfl rfl dX7_readBetween_43 ?_
      refine lv_iload_n hx hb dX7_readBetween_46 rfl (lv_at hl 1 rfl) ?_
      refine ald hC hK hP 1 rfl (vp_in_nI (by omega) (by omega)) (k := jp) (nI_clamp (by omega)) (v := fla jp) rfl dX7_readBetween_47 ?_
      refine eqi (x1 := nI js) (hls) ?_
      refine lv_iconst (v := 2) hx hb dX7_readBetween_48 (by decide) ?_
      refine pV hC hK hl hP hD (c_T_at l G bstamps (nI js) 2 24 3 bstampsc kbstamps fbstamps (hkbstamps) (by omega) (by omega)) si_X7_60 [3, 4] rfl rfl (by decide) rfl rfl rfl rfl rfl (Nat.le_of_ble_eq_true rfl) ⟨Nat.le_of_ble_eq_true rfl, Nat.le_of_ble_eq_true rfl⟩ ⟨by first | exact Nat.le_of_ble_eq_true rfl | exact Nat.zero_le _, by first | exact Nat.le_of_ble_eq_true rfl | exact Nat.zero_le _⟩ dX7_readBetween_49 (fun r10263 hr10263 => ?_)
      refine eqi (x1 := fbstamps (js * 3 + 2)) (hr10263.trans (tatq (by omega) (by omega) (by decide) (by decide) rfl)) ?_
      refine lv_isub hx hb dX7_readBetween_52 ?_
      exact RP (v := (fbstamps (jt * 3 + 2)) - (fbstamps (js * 3 + 2))) hC (rfl) rfl dX7_readBetween_53
    · exact absurd hs2 a10260
  · exact absurd hs1 a10258
set_option maxHeartbeats 4000000 in
set_option maxRecDepth 100000 in
theorem c_leastBetweenX (l : Launch) (G : GG) (h0 : Nat) (jp : Nat) (jo : Nat) (js : Nat) (jt : Nat) (bb : Nat) (clk : Nat) (fi : Nat) (la : Nat) (ml : Nat) (mm : Nat) (sl : Nat) (sm : Nat) (cl : Int32) (fla : Nat → Int32) (clm : Nat) (fclm : Nat → Int32) (bpersons : Nat) (bpapers : Nat) (bstamps : Nat) (bversions : Nat) (blines : Nat) (bsteps : Nat) (bsayings : Nat) (bfindings : Nat) (bwarnings : Nat) (bquestions : Nat) (td : Int32) (vd : Int32) (vl : Int32) (gp : Int32) (bstampsc : Nat) (kbstamps : Nat) (fbstamps : Nat → Int32) (hkbstamps : kbstamps ≤ 24) (hSV : SVL fbstamps kbstamps) (hs1 : (cl = 0 ∧ ¬ fla jp < 0)) (hs2 : (cl = 0 ∧ ¬ fla jo < 0)) (hls : fla jp = nI js) (hlt : fla jo = nI jt) (hjp : jp < 12) (hjo : jo < 12) (hjs : js < kbstamps) (hjt : jt < kbstamps) : MP l G yX7_leastBetween cX7_leastBetween 3 (some .int) 4 [.ref h0, .int (nI jp), .int (nI jo)] [(h0, .inr (7, [.ref bb, .ref clk, .ref fi, .ref la, .ref ml, .ref mm, .ref sl, .ref sm, .int cl])), (la, .inl (G.2.1, 12, .inl fla)), (clk, .inr (1, [.ref clm])), (clm, .inl (G.2.1, 36, .inl fclm)), (bb, .inr (0, [.ref bpersons, .ref bpapers, .ref bstamps, .ref bversions, .ref blines, .ref bsteps, .ref bsayings, .ref bfindings, .ref bwarnings, .ref bquestions, .int td, .int vd, .int vl, .int gp])), (bstamps, .inr (8, [.int 24, .int 3, .ref bstampsc, .int (nI kbstamps)])), (bstampsc, .inl (G.2.1, 72, .inl fbstamps))] (fun r : Int32 => r = (fbstamps (jt * 3 + 2) - fbstamps (js * 3 + 2) - fclm (CKS fbstamps js * 6 + CKS fbstamps jt))) := by
  refine MP.start (by decide +kernel) (Nat.le_of_ble_eq_true rfl) ?_
  intro p e s m below meth c ls hC hK hP hD hl
  have hl : lv_has ls 3 [(0, .ref h0), (1, .int (nI jp)), (2, .int (nI jo))] := hl
  obtain ⟨hx, hb, hr, hml, hB, hown, hlocks, hnm⟩ := id hC
  have hck1 := hSV.ck hjs
  have hck2 := hSV.ck hjt
  refine lv_aload_n hx hb dX7_leastBetween_0 rfl (lv_at hl 0 rfl) ?_
  refine lv_iload_n hx hb dX7_leastBetween_1 rfl (lv_at hl 1 rfl) ?_
  refine lv_iload_n hx hb dX7_leastBetween_2 rfl (lv_at hl 2 rfl) ?_
  refine pV hC hK hl hP hD (c_readBetweenX l G h0 jp jo js jt bb clk fi la ml mm sl sm cl fla bpersons bpapers bstamps bversions blines bsteps bsayings bfindings bwarnings bquestions td vd vl gp bstampsc kbstamps fbstamps (hkbstamps) (hSV) (hs1) (hs2) (hls) (hlt) (hjp) (hjo) (hjs) (hjt)) si_X7_113 [0, 1, 4, 5, 6] rfl rfl (by decide) rfl rfl rfl rfl rfl (Nat.le_of_ble_eq_true rfl) ⟨Nat.le_of_ble_eq_true rfl, Nat.le_of_ble_eq_true rfl⟩ ⟨by first | exact Nat.le_of_ble_eq_true rfl | exact Nat.zero_le _, by first | exact Nat.le_of_ble_eq_true rfl | exact Nat.zero_le _⟩ dX7_leastBetween_3 (fun r10265 hr10265 => ?_)
  obtain rfl := hr10265
  refine lv_aload_n hx hb dX7_leastBetween_6 rfl (lv_at hl 0 rfl) ?_
  refine gf_X7_12 hC rfl hK hP 0 rfl rfl dX7_leastBetween_7 ?_
  refine lv_aload_n hx hb dX7_leastBetween_10 rfl (lv_at hl 0 rfl) ?_
  refine lv_iload_n hx hb dX7_leastBetween_11 rfl (lv_at hl 1 rfl) ?_
  refine pV hC hK hl hP hD (c_clockOfX l G h0 jp js bb clk fi la ml mm sl sm cl fla bpersons bpapers bstamps bversions blines bsteps bsayings bfindings bwarnings bquestions td vd vl gp bstampsc kbstamps fbstamps (hkbstamps) (hSV) (hls) (hjp) (hjs)) si_X7_116 [0, 1, 4, 5, 6] rfl rfl (by decide) rfl rfl rfl rfl rfl (Nat.le_of_ble_eq_true rfl) ⟨Nat.le_of_ble_eq_true rfl, Nat.le_of_ble_eq_true rfl⟩ ⟨by first | exact Nat.le_of_ble_eq_true rfl | exact Nat.zero_le _, by first | exact Nat.le_of_ble_eq_true rfl | exact Nat.zero_le _⟩ dX7_leastBetween_12 (fun r10267 hr10267 => ?_)
  obtain rfl := hr10267
  refine lv_aload_n hx hb dX7_leastBetween_15 rfl (lv_at hl 0 rfl) ?_
  refine lv_iload_n hx hb dX7_leastBetween_16 rfl (lv_at hl 2 rfl) ?_
  refine pV hC hK hl hP hD (c_clockOfX l G h0 jo jt bb clk fi la ml mm sl sm cl fla bpersons bpapers bstamps bversions blines bsteps bsayings bfindings bwarnings bquestions td vd vl gp bstampsc kbstamps fbstamps (hkbstamps) (hSV) (hlt) (hjo) (hjt)) si_X7_116 [0, 1, 4, 5, 6] rfl rfl (by decide) rfl rfl rfl rfl rfl (Nat.le_of_ble_eq_true rfl) ⟨Nat.le_of_ble_eq_true rfl, Nat.le_of_ble_eq_true rfl⟩ ⟨by first | exact Nat.le_of_ble_eq_true rfl | exact Nat.zero_le _, by first | exact Nat.le_of_ble_eq_true rfl | exact Nat.zero_le _⟩ dX7_leastBetween_17 (fun r10269 hr10269 => ?_)
  obtain rfl := hr10269
  refine pV hC hK hl hP hD (c_mostAheadX l G clk (CKS fbstamps js) (CKS fbstamps jt) clm fclm (by omega) (by omega)) si_X7_87 [2, 3] rfl rfl (by decide) rfl rfl rfl rfl rfl (Nat.le_of_ble_eq_true rfl) ⟨Nat.le_of_ble_eq_true rfl, Nat.le_of_ble_eq_true rfl⟩ ⟨by first | exact Nat.le_of_ble_eq_true rfl | exact Nat.zero_le _, by first | exact Nat.le_of_ble_eq_true rfl | exact Nat.zero_le _⟩ dX7_leastBetween_20 (fun r10271 hr10271 => ?_)
  obtain rfl := hr10271
  refine lv_isub hx hb dX7_leastBetween_23 ?_
  exact RP (v := (fbstamps (jt * 3 + 2) - fbstamps (js * 3 + 2)) - (fclm ((CKS fbstamps js) * 6 + (CKS fbstamps jt)))) hC (rfl) rfl dX7_leastBetween_24
set_option maxHeartbeats 4000000 in
set_option maxRecDepth 100000 in
theorem c_mostBetweenX (l : Launch) (G : GG) (h0 : Nat) (jp : Nat) (jo : Nat) (js : Nat) (jt : Nat) (bb : Nat) (clk : Nat) (fi : Nat) (la : Nat) (ml : Nat) (mm : Nat) (sl : Nat) (sm : Nat) (cl : Int32) (fla : Nat → Int32) (clm : Nat) (fclm : Nat → Int32) (bpersons : Nat) (bpapers : Nat) (bstamps : Nat) (bversions : Nat) (blines : Nat) (bsteps : Nat) (bsayings : Nat) (bfindings : Nat) (bwarnings : Nat) (bquestions : Nat) (td : Int32) (vd : Int32) (vl : Int32) (gp : Int32) (bstampsc : Nat) (kbstamps : Nat) (fbstamps : Nat → Int32) (hkbstamps : kbstamps ≤ 24) (hSV : SVL fbstamps kbstamps) (hs1 : (cl = 0 ∧ ¬ fla jp < 0)) (hs2 : (cl = 0 ∧ ¬ fla jo < 0)) (hls : fla jp = nI js) (hlt : fla jo = nI jt) (hjp : jp < 12) (hjo : jo < 12) (hjs : js < kbstamps) (hjt : jt < kbstamps) : MP l G yX7_mostBetween cX7_mostBetween 3 (some .int) 4 [.ref h0, .int (nI jp), .int (nI jo)] [(h0, .inr (7, [.ref bb, .ref clk, .ref fi, .ref la, .ref ml, .ref mm, .ref sl, .ref sm, .int cl])), (la, .inl (G.2.1, 12, .inl fla)), (clk, .inr (1, [.ref clm])), (clm, .inl (G.2.1, 36, .inl fclm)), (bb, .inr (0, [.ref bpersons, .ref bpapers, .ref bstamps, .ref bversions, .ref blines, .ref bsteps, .ref bsayings, .ref bfindings, .ref bwarnings, .ref bquestions, .int td, .int vd, .int vl, .int gp])), (bstamps, .inr (8, [.int 24, .int 3, .ref bstampsc, .int (nI kbstamps)])), (bstampsc, .inl (G.2.1, 72, .inl fbstamps))] (fun r : Int32 => r = (fbstamps (jt * 3 + 2) - fbstamps (js * 3 + 2) + fclm (CKS fbstamps jt * 6 + CKS fbstamps js))) := by
  refine MP.start (by decide +kernel) (Nat.le_of_ble_eq_true rfl) ?_
  intro p e s m below meth c ls hC hK hP hD hl
  have hl : lv_has ls 3 [(0, .ref h0), (1, .int (nI jp)), (2, .int (nI jo))] := hl
  obtain ⟨hx, hb, hr, hml, hB, hown, hlocks, hnm⟩ := id hC
  have hck1 := hSV.ck hjs
  have hck2 := hSV.ck hjt
  refine lv_aload_n hx hb dX7_mostBetween_0 rfl (lv_at hl 0 rfl) ?_
  refine lv_iload_n hx hb dX7_mostBetween_1 rfl (lv_at hl 1 rfl) ?_
  refine lv_iload_n hx hb dX7_mostBetween_2 rfl (lv_at hl 2 rfl) ?_
  refine pV hC hK hl hP hD (c_readBetweenX l G h0 jp jo js jt bb clk fi la ml mm sl sm cl fla bpersons bpapers bstamps bversions blines bsteps bsayings bfindings bwarnings bquestions td vd vl gp bstampsc kbstamps fbstamps (hkbstamps) (hSV) (hs1) (hs2) (hls) (hlt) (hjp) (hjo) (hjs) (hjt)) si_X7_113 [0, 1, 4, 5, 6] rfl rfl (by decide) rfl rfl rfl rfl rfl (Nat.le_of_ble_eq_true rfl) ⟨Nat.le_of_ble_eq_true rfl, Nat.le_of_ble_eq_true rfl⟩ ⟨by first | exact Nat.le_of_ble_eq_true rfl | exact Nat.zero_le _, by first | exact Nat.le_of_ble_eq_true rfl | exact Nat.zero_le _⟩ dX7_mostBetween_3 (fun r10273 hr10273 => ?_)
  obtain rfl := hr10273
  refine lv_aload_n hx hb dX7_mostBetween_6 rfl (lv_at hl 0 rfl) ?_
  refine gf_X7_12 hC rfl hK hP 0 rfl rfl dX7_mostBetween_7 ?_
  refine lv_aload_n hx hb dX7_mostBetween_10 rfl (lv_at hl 0 rfl) ?_
  refine lv_iload_n hx hb dX7_mostBetween_11 rfl (lv_at hl 2 rfl) ?_
  refine pV hC hK hl hP hD (c_clockOfX l G h0 jo jt bb clk fi la ml mm sl sm cl fla bpersons bpapers bstamps bversions blines bsteps bsayings bfindings bwarnings bquestions td vd vl gp bstampsc kbstamps fbstamps (hkbstamps) (hSV) (hlt) (hjo) (hjt)) si_X7_116 [0, 1, 4, 5, 6] rfl rfl (by decide) rfl rfl rfl rfl rfl (Nat.le_of_ble_eq_true rfl) ⟨Nat.le_of_ble_eq_true rfl, Nat.le_of_ble_eq_true rfl⟩ ⟨by first | exact Nat.le_of_ble_eq_true rfl | exact Nat.zero_le _, by first | exact Nat.le_of_ble_eq_true rfl | exact Nat.zero_le _⟩ dX7_mostBetween_12 (fun r10275 hr10275 => ?_)
  obtain rfl := hr10275
  refine lv_aload_n hx hb dX7_mostBetween_15 rfl (lv_at hl 0 rfl) ?_
  refine lv_iload_n hx hb dX7_mostBetween_16 rfl (lv_at hl 1 rfl) ?_
  refine pV hC hK hl hP hD (c_clockOfX l G h0 jp js bb clk fi la ml mm sl sm cl fla bpersons bpapers bstamps bversions blines bsteps bsayings bfindings bwarnings bquestions td vd vl gp bstampsc kbstamps fbstamps (hkbstamps) (hSV) (hls) (hjp) (hjs)) si_X7_116 [0, 1, 4, 5, 6] rfl rfl (by decide) rfl rfl rfl rfl rfl (Nat.le_of_ble_eq_true rfl) ⟨Nat.le_of_ble_eq_true rfl, Nat.le_of_ble_eq_true rfl⟩ ⟨by first | exact Nat.le_of_ble_eq_true rfl | exact Nat.zero_le _, by first | exact Nat.le_of_ble_eq_true rfl | exact Nat.zero_le _⟩ dX7_mostBetween_17 (fun r10277 hr10277 => ?_)
  obtain rfl := hr10277
  refine pV hC hK hl hP hD (c_mostAheadX l G clk (CKS fbstamps jt) (CKS fbstamps js) clm fclm (by omega) (by omega)) si_X7_87 [2, 3] rfl rfl (by decide) rfl rfl rfl rfl rfl (Nat.le_of_ble_eq_true rfl) ⟨Nat.le_of_ble_eq_true rfl, Nat.le_of_ble_eq_true rfl⟩ ⟨by first | exact Nat.le_of_ble_eq_true rfl | exact Nat.zero_le _, by first | exact Nat.le_of_ble_eq_true rfl | exact Nat.zero_le _⟩ dX7_mostBetween_20 (fun r10279 hr10279 => ?_)
  obtain rfl := hr10279
  refine lv_iadd hx hb dX7_mostBetween_23 ?_
  exact RP (v := (fbstamps (jt * 3 + 2) - fbstamps (js * 3 + 2)) + (fclm ((CKS fbstamps jt) * 6 + (CKS fbstamps js)))) hC (rfl) rfl dX7_mostBetween_24
set_option maxHeartbeats 4000000 in
set_option maxRecDepth 100000 in
theorem p_beforeT (l : Launch) (G : GG) (h0 : Nat) (x1 : Int32) (x2 : Int32) (bb : Nat) (kk : Nat) (ikp : Int32) (sg : Nat) (do9 : Nat) (ru9 : Nat) (ta9 : Nat) (tp9 : Nat) (ro9 : Nat) (ho9 : Nat) (de9 : Nat) (bpersons : Nat) (bpapers : Nat) (bstamps : Nat) (bversions : Nat) (blines : Nat) (bsteps : Nat) (bsayings : Nat) (bfindings : Nat) (bwarnings : Nat) (bquestions : Nat) (td : Int32) (vd : Int32) (vl : Int32) (gp : Int32) (clk : Nat) (fi : Nat) (la : Nat) (ml : Nat) (mm : Nat) (sl : Nat) (sm : Nat) (cl : Int32) (clm : Nat) (fclm : Nat → Int32) (ffi : Nat → Int32) (fla : Nat → Int32) (fml : Nat → Int32) (fmm : Nat → Int32) (fsl : Nat → Int32) (fsm : Nat → Int32) (bpapersc : Nat) (kbpapers : Nat) (fbpapers : Nat → Int32) (bstampsc : Nat) (kbstamps : Nat) (fbstamps : Nat → Int32) (hkbpapers : kbpapers ≤ 12) (hkbstamps : kbstamps ≤ 24) (hcl : cl = 0 ∨ cl = 1) (hSV : SVL fbstamps kbstamps) (hgp : GPR gp) : MI l G yX11_before cX11_before 3 (some .int) 7 0 0 [.ref h0, .int x1, .int x2] [(h0, .inr (11, [.ref bb, .ref kk, .int ikp, .ref sg, .ref do9, .ref ru9, .ref ta9, .ref tp9, .ref ro9, .ref ho9, .ref de9])), (bb, .inr (0, [.ref bpersons, .ref bpapers, .ref bstamps, .ref bversions, .ref blines, .ref bsteps, .ref bsayings, .ref bfindings, .ref bwarnings, .ref bquestions, .int td, .int vd, .int vl, .int gp])), (sg, .inr (7, [.ref bb, .ref clk, .ref fi, .ref la, .ref ml, .ref mm, .ref sl, .ref sm, .int cl])), (clk, .inr (1, [.ref clm])), (clm, .inl (G.2.1, 36, .inl fclm)), (fi, .inl (G.2.1, 12, .inl ffi)), (la, .inl (G.2.1, 12, .inl fla)), (ml, .inl (G.2.1, 12, .inl fml)), (mm, .inl (G.2.1, 12, .inl fmm)), (sl, .inl (G.2.1, 12, .inl fsl)), (sm, .inl (G.2.1, 12, .inl fsm)), (bpapers, .inr (8, [.int 12, .int 6, .ref bpapersc, .int (nI kbpapers)])), (bpapersc, .inl (G.2.1, 72, .inl fbpapers)), (bstamps, .inr (8, [.int 24, .int 3, .ref bstampsc, .int (nI kbstamps)])), (bstampsc, .inl (G.2.1, 72, .inl fbstamps))] (fun (r : Int32) (u : Int32 × (Nat → Int32) × (Nat → Int32) × (Nat → Int32) × (Nat → Int32) × (Nat → Int32) × (Nat → Int32) × (Nat → Int32)) => (∃ s9, (BFQ (KST fbstamps (VPP (IVW fbpapers td vd vl kbpapers)) gp.toInt kbstamps) fbstamps (VPP (IVW fbpapers td vd vl kbpapers)) kbstamps kbpapers x1 x2 s9) ∧ r = s9) ∧ (u.1 = 0 ∨ u.1 = 1)) (fun u : Int32 × (Nat → Int32) × (Nat → Int32) × (Nat → Int32) × (Nat → Int32) × (Nat → Int32) × (Nat → Int32) × (Nat → Int32) => [(h0, .inr (11, [.ref bb, .ref kk, .int ikp, .ref sg, .ref do9, .ref ru9, .ref ta9, .ref tp9, .ref ro9, .ref ho9, .ref de9])), (bb, .inr (0, [.ref bpersons, .ref bpapers, .ref bstamps, .ref bversions, .ref blines, .ref bsteps, .ref bsayings, .ref bfindings, .ref bwarnings, .ref bquestions, .int td, .int vd, .int vl, .int gp])), (sg, .inr (7, [.ref bb, .ref clk, .ref fi, .ref la, .ref ml, .ref mm, .ref sl, .ref sm, .int u.1])), (clk, .inr (1, [.ref clm])), (clm, .inl (G.2.1, 36, .inl u.2.1)), (fi, .inl (G.2.1, 12, .inl u.2.2.1)), (la, .inl (G.2.1, 12, .inl u.2.2.2.1)), (ml, .inl (G.2.1, 12, .inl u.2.2.2.2.1)), (mm, .inl (G.2.1, 12, .inl u.2.2.2.2.2.1)), (sl, .inl (G.2.1, 12, .inl u.2.2.2.2.2.2.1)), (sm, .inl (G.2.1, 12, .inl u.2.2.2.2.2.2.2)), (bpapers, .inr (8, [.int 12, .int 6, .ref bpapersc, .int (nI kbpapers)])), (bpapersc, .inl (G.2.1, 72, .inl fbpapers)), (bstamps, .inr (8, [.int 24, .int 3, .ref bstampsc, .int (nI kbstamps)])), (bstampsc, .inl (G.2.1, 72, .inl fbstamps))]) := by
  refine MI.start (by decide +kernel) (Nat.le_of_ble_eq_true rfl) ?_
  intro p e s m below meth c A ls hC hK hP hD hS hA hl
  have hl : lv_has ls 3 [(0, .ref h0), (1, .int x1), (2, .int x2)] := hl
  obtain ⟨hx, hb, hr, hml, hB, hown, hlocks, hnm⟩ := id hC
  refine lv_aload_n hx hb dX11_before_0 rfl (lv_at hl 0 rfl) ?_
  refine gf_X11_15 hC rfl hK hP 0 rfl rfl dX11_before_1 ?_
  refine gf_X11_144 hC rfl hK hP 1 rfl rfl dX11_before_4 ?_
  refine lv_iload_n hx hb dX11_before_7 rfl (lv_at hl 1 rfl) ?_
  refine pV hC hK hl hP hD (c_T_has l G bpapers x1 12 6 bpapersc kbpapers) si_X11_124 [11] rfl rfl (by decide) rfl rfl rfl rfl rfl (Nat.le_of_ble_eq_true rfl) ⟨Nat.le_of_ble_eq_true rfl, Nat.le_of_ble_eq_true rfl⟩ ⟨by first | exact Nat.le_of_ble_eq_true rfl | exact Nat.zero_le _, by first | exact Nat.le_of_ble_eq_true rfl | exact Nat.zero_le _⟩ dX11_before_8 (fun r10281 hr10281 => ?_)
  rcases hr10281 with ⟨rfl, a10282⟩ | ⟨rfl, a10282⟩
  · refine lv_if_eq (tgt := 33) hx hb dX11_before_11 (by decide) (fun c9 => absurd c9 (by decide)) (fun _ => ?_)
    refine lv_aload_n hx hb dX11_before_14 rfl (lv_at hl 0 rfl) ?_
    refine gf_X11_15 hC rfl hK hP 0 rfl rfl dX11_before_15 ?_
    refine gf_X11_144 hC rfl hK hP 1 rfl rfl dX11_before_18 ?_
    refine lv_iload_n hx hb dX11_before_21 rfl (lv_at hl 2 rfl) ?_
    refine pV hC hK hl hP hD (c_T_has l G bpapers x2 12 6 bpapersc kbpapers) si_X11_124 [11] rfl rfl (by decide) rfl rfl rfl rfl rfl (Nat.le_of_ble_eq_true rfl) ⟨Nat.le_of_ble_eq_true rfl, Nat.le_of_ble_eq_true rfl⟩ ⟨by first | exact Nat.le_of_ble_eq_true rfl | exact Nat.zero_le _, by first | exact Nat.le_of_ble_eq_true rfl | exact Nat.zero_le _⟩ dX11_before_22 (fun r10283 hr10283 => ?_)
    rcases hr10283 with ⟨rfl, a10284⟩ | ⟨rfl, a10284⟩
    · refine lv_if_eq (tgt := 33) hx hb dX11_before_25 (by decide) (fun c9 => absurd c9 (by decide)) (fun _ => ?_)
      refine lv_iload_n hx hb dX11_before_28 rfl (lv_at hl 1 rfl) ?_
      refine lv_iload_n hx hb dX11_before_29 rfl (lv_at hl 2 rfl) ?_
      refine lv_icmp_ne (tgt := 35) hx hb dX11_before_30 (by decide) (fun c_30_10285 => ?_) (fun c_30_10285 => ?_)
      · obtain ⟨jp, hjp, rfl⟩ := Hs_nat (by omega) a10282
        obtain ⟨jo, hjo, rfl⟩ := Hs_nat (by omega) a10284
        refine lv_aload_n hx hb dX11_before_35 rfl (lv_at hl 0 rfl) ?_
        refine gf_X11_28 hC rfl hK hP 0 rfl rfl dX11_before_36 ?_
        refine lv_aload_n hx hb dX11_before_39 rfl (lv_at hl 0 rfl) ?_
        refine gf_X11_15 hC rfl hK hP 0 rfl rfl dX11_before_40 ?_
        refine pV hC hK hl hP hD (c_inViewX l G bb bpersons bpapers bstamps bversions blines bsteps bsayings bfindings bwarnings bquestions td vd vl gp bpapersc kbpapers fbpapers (hkbpapers)) si_X11_97 [1, 11, 12] rfl rfl (by decide) rfl rfl rfl rfl rfl (Nat.le_of_ble_eq_true rfl) ⟨Nat.le_of_ble_eq_true rfl, Nat.le_of_ble_eq_true rfl⟩ ⟨by first | exact Nat.le_of_ble_eq_true rfl | exact Nat.zero_le _, by first | exact Nat.le_of_ble_eq_true rfl | exact Nat.zero_le _⟩ dX11_before_43 (fun r10286 hr10286 => ?_)
        obtain rfl := hr10286
        refine vV (wr := [(h0, .inr (11, [.ref bb, .ref kk, .int ikp, .ref sg, .ref do9, .ref ru9, .ref ta9, .ref tp9, .ref ro9, .ref ho9, .ref de9])), (bpapers, .inr (8, [.int 12, .int 6, .ref bpapersc, .int (nI kbpapers)])), (bpapersc, .inl (G.2.1, 72, .inl fbpapers))]) hC hK hl hP hD hS hA (c_lookX l G sg (IVW fbpapers td vd vl kbpapers) bb clk fi la ml mm sl sm cl clm fclm ffi fla fml fmm fsl fsm bpersons bpapers bstamps bversions blines bsteps bsayings bfindings bwarnings bquestions td vd vl gp bstampsc kbstamps fbstamps (hkbstamps) (hSV) (hgp)) si_X11_183 [2, 3, 4, 5, 6, 7, 8, 9, 10, 1, 13, 14] [0, 11, 12] rfl rfl (by decide) rfl (by decide) (by decide) rfl rfl rfl rfl rfl (Nat.le_of_ble_eq_true rfl) ⟨Nat.le_of_ble_eq_true rfl, Nat.le_of_ble_eq_true rfl⟩ ⟨Nat.le_of_ble_eq_true rfl, Nat.le_of_ble_eq_true rfl⟩ dX11_before_46 (fun u10289 H locs hr10288 hP hD hS => ?_)
        obtain ⟨cl110290, gclm10291, gfi10292, gla10293, gml10294, gmm10295, gsl10296, gsm10297⟩ := u10289
        try dsimp only at hr10288
        have hPD : va_PD G A [(h0, .inr (11, [.ref bb, .ref kk, .int ikp, .ref sg, .ref do9, .ref ru9, .ref ta9, .ref tp9, .ref ro9, .ref ho9, .ref de9])), (bpapers, .inr (8, [.int 12, .int 6, .ref bpapersc, .int (nI kbpapers)])), (bpapersc, .inl (G.2.1, 72, .inl fbpapers)), (sg, .inr (7, [.ref bb, .ref clk, .ref fi, .ref la, .ref ml, .ref mm, .ref sl, .ref sm, .int cl110290])), (clk, .inr (1, [.ref clm])), (clm, .inl (G.2.1, 36, .inl gclm10291)), (fi, .inl (G.2.1, 12, .inl gfi10292)), (la, .inl (G.2.1, 12, .inl gla10293)), (ml, .inl (G.2.1, 12, .inl gml10294)), (mm, .inl (G.2.1, 12, .inl gmm10295)), (sl, .inl (G.2.1, 12, .inl gsl10296)), (sm, .inl (G.2.1, 12, .inl gsm10297)), (bb, .inr (0, [.ref bpersons, .ref bpapers, .ref bstamps, .ref bversions, .ref blines, .ref bsteps, .ref bsayings, .ref bfindings, .ref bwarnings, .ref bquestions, .int td, .int vd, .int vl, .int gp])), (bstamps, .inr (8, [.int 24, .int 3, .ref bstampsc, .int (nI kbstamps)])), (bstampsc, .inl (G.2.1, 72, .inl fbstamps))] H := And.intro hP hD
        obtain ⟨hP, hD⟩ := hPD
        have w10298 := hr10288
        refine lv_aload_n hx hb dX11_before_49 rfl (lv_at hl 0 rfl) ?_
        refine gf_X11_28 hC rfl hK hP 0 rfl rfl dX11_before_50 ?_
        refine lv_iload_n hx hb dX11_before_53 rfl (lv_at hl 1 rfl) ?_
        refine pV hC hK hl hP hD (c_isSentX l G sg jp bb clk fi la ml mm sl sm cl110290 gla10293 (by omega)) si_X11_194 [3, 7] rfl rfl (by decide) rfl rfl rfl rfl rfl (Nat.le_of_ble_eq_true rfl) ⟨Nat.le_of_ble_eq_true rfl, Nat.le_of_ble_eq_true rfl⟩ ⟨by first | exact Nat.le_of_ble_eq_true rfl | exact Nat.zero_le _, by first | exact Nat.le_of_ble_eq_true rfl | exact Nat.zero_le _⟩ dX11_before_54 (fun r10299 hr10299 => ?_)
        rcases hr10299 with ⟨rfl, a10300⟩ | ⟨rfl, a10300⟩
        · refine lv_if_eq (tgt := 71) hx hb dX11_before_57 (by decide) (fun c9 => absurd c9 (by decide)) (fun _ => ?_)
          refine lv_aload_n hx hb dX11_before_60 rfl (lv_at hl 0 rfl) ?_
          refine gf_X11_28 hC rfl hK hP 0 rfl rfl dX11_before_61 ?_
          refine lv_iload_n hx hb dX11_before_64 rfl (lv_at hl 2 rfl) ?_
          refine pV hC hK hl hP hD (c_isSentX l G sg jo bb clk fi la ml mm sl sm cl110290 gla10293 (by omega)) si_X11_194 [3, 7] rfl rfl (by decide) rfl rfl rfl rfl rfl (Nat.le_of_ble_eq_true rfl) ⟨Nat.le_of_ble_eq_true rfl, Nat.le_of_ble_eq_true rfl⟩ ⟨by first | exact Nat.le_of_ble_eq_true rfl | exact Nat.zero_le _, by first | exact Nat.le_of_ble_eq_true rfl | exact Nat.zero_le _⟩ dX11_before_65 (fun r10301 hr10301 => ?_)
          rcases hr10301 with ⟨rfl, a10302⟩ | ⟨rfl, a10302⟩
          · refine lv_if_ne (tgt := 74) hx hb dX11_before_68 (by decide) (fun _ => ?_) (fun c9 => absurd c9 (by decide))
            obtain ⟨hcb9, hvjp, js, hljp, eljp⟩ := LKP.lastn w10298.2 (p := jp) (by omega) a10300
            have hjs := hljp.1
            obtain ⟨hcb9, hvjo, jt, hljo, eljo⟩ := LKP.lastn w10298.2 (p := jo) (by omega) a10302
            have hjt := hljo.1
            refine lv_aload_n hx hb dX11_before_74 rfl (lv_at hl 0 rfl) ?_
            refine gf_X11_28 hC rfl hK hP 0 rfl rfl dX11_before_75 ?_
            refine lv_iload_n hx hb dX11_before_78 rfl (lv_at hl 1 rfl) ?_
            refine lv_iload_n hx hb dX11_before_79 rfl (lv_at hl 2 rfl) ?_
            refine pV hC hK hl hP hD (c_leastBetweenX l G sg jp jo js jt bb clk fi la ml mm sl sm cl110290 gla10293 clm gclm10291 bpersons bpapers bstamps bversions blines bsteps bsayings bfindings bwarnings bquestions td vd vl gp bstampsc kbstamps fbstamps (hkbstamps) (hSV) (a10300) (a10302) (eljp) (eljo) (by omega) (by omega) (by omega) (by omega)) si_X11_207 [3, 7, 4, 5, 12, 13, 14] rfl rfl (by decide) rfl rfl rfl rfl rfl (Nat.le_of_ble_eq_true rfl) ⟨Nat.le_of_ble_eq_true rfl, Nat.le_of_ble_eq_true rfl⟩ ⟨by first | exact Nat.le_of_ble_eq_true rfl | exact Nat.zero_le _, by first | exact Nat.le_of_ble_eq_true rfl | exact Nat.zero_le _⟩ dX11_before_80 (fun r10303 hr10303 => ?_)
            obtain rfl := hr10303
            refine lv_if_le (tgt := 88) hx hb dX11_before_83 (by decide) (fun c_83_10305 => ?_) (fun c_83_10305 => ?_)
            · refine lv_aload_n hx hb dX11_before_88 rfl (lv_at hl 0 rfl) ?_
              refine gf_X11_28 hC rfl hK hP 0 rfl rfl dX11_before_89 ?_
              refine lv_iload_n hx hb dX11_before_92 rfl (lv_at hl 1 rfl) ?_
              refine lv_iload_n hx hb dX11_before_93 rfl (lv_at hl 2 rfl) ?_
              refine pV hC hK hl hP hD (c_mostBetweenX l G sg jp jo js jt bb clk fi la ml mm sl sm cl110290 gla10293 clm gclm10291 bpersons bpapers bstamps bversions blines bsteps bsayings bfindings bwarnings bquestions td vd vl gp bstampsc kbstamps fbstamps (hkbstamps) (hSV) (a10300) (a10302) (eljp) (eljo) (by omega) (by omega) (by omega) (by omega)) si_X11_210 [3, 7, 4, 5, 12, 13, 14] rfl rfl (by decide) rfl rfl rfl rfl rfl (Nat.le_of_ble_eq_true rfl) ⟨Nat.le_of_ble_eq_true rfl, Nat.le_of_ble_eq_true rfl⟩ ⟨by first | exact Nat.le_of_ble_eq_true rfl | exact Nat.zero_le _, by first | exact Nat.le_of_ble_eq_true rfl | exact Nat.zero_le _⟩ dX11_before_94 (fun r10306 hr10306 => ?_)
              obtain rfl := hr10306
              refine lv_if_le (tgt := 104) hx hb dX11_before_97 (by decide) (fun c_97_10308 => ?_) (fun c_97_10308 => ?_)
              · refine lv_iconst (v := 0) hx hb dX11_before_104 (by decide) ?_
                exact RI (v := 0) hC hP hD hS [0, 12, 3, 4, 5, 6, 7, 8, 9, 10, 11, 1, 2, 13, 14] (cl110290, gclm10291, gfi10292, gla10293, gml10294, gmm10295, gsl10296, gsm10297) rfl rfl (by decide) (⟨⟨0, Or.inr ⟨jp, jo, hjp, hjo, rfl, rfl, fun h9 => c_30_10285 (congrArg nI h9), Or.inr ⟨_, js, jt, hcb9, hvjp, hvjo, hljp, hljo, BFV.nil ((BFV.least hcb9 hSV hjs hjt).mp c_83_10305) ((BFV.most hcb9 hSV hjs hjt).mp c_97_10308)⟩⟩, rfl⟩, w10298.1⟩) rfl dX11_before_105
              · refine lv_iconst (v := 1) hx hb dX11_before_100 (by decide) ?_
                refine lv_goto (tgt := 105) hx hb dX11_before_101 (by decide) ?_
                exact RI (v := 1) hC hP hD hS [0, 12, 3, 4, 5, 6, 7, 8, 9, 10, 11, 1, 2, 13, 14] (cl110290, gclm10291, gfi10292, gla10293, gml10294, gmm10295, gsl10296, gsm10297) rfl rfl (by decide) (⟨⟨1, Or.inr ⟨jp, jo, hjp, hjo, rfl, rfl, fun h9 => c_30_10285 (congrArg nI h9), Or.inr ⟨_, js, jt, hcb9, hvjp, hvjo, hljp, hljo, BFV.one ((BFV.least hcb9 hSV hjs hjt).mp c_83_10305) (Classical.byContradiction fun h8 => c_97_10308 ((BFV.most hcb9 hSV hjs hjt).mpr h8))⟩⟩, rfl⟩, w10298.1⟩) rfl dX11_before_105
            · refine lv_iconst (v := 2) hx hb dX11_before_86 (by decide) ?_
              exact RI (v := 2) hC hP hD hS [0, 12, 3, 4, 5, 6, 7, 8, 9, 10, 11, 1, 2, 13, 14] (cl110290, gclm10291, gfi10292, gla10293, gml10294, gmm10295, gsl10296, gsm10297) rfl rfl (by decide) (⟨⟨2, Or.inr ⟨jp, jo, hjp, hjo, rfl, rfl, fun h9 => c_30_10285 (congrArg nI h9), Or.inr ⟨_, js, jt, hcb9, hvjp, hvjo, hljp, hljo, BFV.two (Classical.byContradiction fun h8 => c_83_10305 ((BFV.least hcb9 hSV hjs hjt).mpr h8))⟩⟩, rfl⟩, w10298.1⟩) rfl dX11_before_87
          · refine lv_if_ne (tgt := 74) hx hb dX11_before_68 (by decide) (fun c9 => absurd (by decide) c9) (fun _ => ?_)
            refine lv_bipush (v := (-3)) hx hb dX11_before_71 (by decide) ?_
            exact RI (v := (-3)) hC hP hD hS [0, 12, 3, 4, 5, 6, 7, 8, 9, 10, 11, 1, 2, 13, 14] (cl110290, gclm10291, gfi10292, gla10293, gml10294, gmm10295, gsl10296, gsm10297) rfl rfl (by decide) (⟨⟨(-3), Or.inr ⟨jp, jo, hjp, hjo, rfl, rfl, fun h9 => c_30_10285 (congrArg nI h9), Or.inl ⟨(LKP.uns w10298.2 (p := jo) (by omega) (by omega) a10302).elim Or.inl (fun h9 => Or.inr (Or.inr h9)), rfl⟩⟩, rfl⟩, w10298.1⟩) rfl dX11_before_73
        · refine lv_if_eq (tgt := 71) hx hb dX11_before_57 (by decide) (fun _ => ?_) (fun c9 => absurd (by decide) c9)
          refine lv_bipush (v := (-3)) hx hb dX11_before_71 (by decide) ?_
          exact RI (v := (-3)) hC hP hD hS [0, 12, 3, 4, 5, 6, 7, 8, 9, 10, 11, 1, 2, 13, 14] (cl110290, gclm10291, gfi10292, gla10293, gml10294, gmm10295, gsl10296, gsm10297) rfl rfl (by decide) (⟨⟨(-3), Or.inr ⟨jp, jo, hjp, hjo, rfl, rfl, fun h9 => c_30_10285 (congrArg nI h9), Or.inl ⟨(LKP.uns w10298.2 (p := jp) (by omega) (by omega) a10300).elim Or.inl (fun h9 => Or.inr (Or.inl h9)), rfl⟩⟩, rfl⟩, w10298.1⟩) rfl dX11_before_73
      · refine lv_iconst (v := (-1)) hx hb dX11_before_33 (by decide) ?_
        exact RI (v := (-1)) hC hP hD hS [0, 1, 2, 3, 4, 5, 6, 7, 8, 9, 10, 11, 12, 13, 14] (cl, fclm, ffi, fla, fml, fmm, fsl, fsm) rfl rfl (by decide) (⟨⟨(-1), Or.inl ⟨fun h9 => h9.2.2 c_30_10285, rfl⟩, rfl⟩, hcl⟩) rfl dX11_before_34
    · refine lv_if_eq (tgt := 33) hx hb dX11_before_25 (by decide) (fun _ => ?_) (fun c9 => absurd (by decide) c9)
      refine lv_iconst (v := (-1)) hx hb dX11_before_33 (by decide) ?_
      exact RI (v := (-1)) hC hP hD hS [0, 1, 2, 3, 4, 5, 6, 7, 8, 9, 10, 11, 12, 13, 14] (cl, fclm, ffi, fla, fml, fmm, fsl, fsm) rfl rfl (by decide) (⟨⟨(-1), Or.inl ⟨fun h9 => a10284 h9.2.1, rfl⟩, rfl⟩, hcl⟩) rfl dX11_before_34
  · refine lv_if_eq (tgt := 33) hx hb dX11_before_11 (by decide) (fun _ => ?_) (fun c9 => absurd (by decide) c9)
    refine lv_iconst (v := (-1)) hx hb dX11_before_33 (by decide) ?_
    exact RI (v := (-1)) hC hP hD hS [0, 1, 2, 3, 4, 5, 6, 7, 8, 9, 10, 11, 12, 13, 14] (cl, fclm, ffi, fla, fml, fmm, fsl, fsm) rfl rfl (by decide) (⟨⟨(-1), Or.inl ⟨fun h9 => a10282 h9.1, rfl⟩, rfl⟩, hcl⟩) rfl dX11_before_34
set_option maxHeartbeats 4000000 in
set_option maxRecDepth 100000 in
theorem m_stampAtX (l : Launch) (G : GG) (k6 : Nat) (h0 : Nat) (jp : Nat) (ji : Nat) (nw : Nat) (nk : Nat) (mhasKept : Int32) (nt : Nat) (mtaped : Int32) (nr : Nat) (mrowMany : Int32) (mroundOf : Int32) (mroundFrom : Int32) (mouts : Int32) (nm : Nat) (mfromHour : Int32) (mtoHour : Int32) (ns : Nat) (mfrom : Int32) (mto : Int32) (msort : Int32) (misFault : Int32) (mdeep : Int32) (mcoded : Int32) (mlines : Int32) (nl : Nat) (nc : Nat) (nF : Nat) (np : Nat) (ntr : Nat) (nb : Nat) (mbestCost : Int32) (nso : Nat) (nsi : Nat) (nit : Nat) (nsh : Nat) (nsf : Nat) (nss : Nat) (nrc : Nat) (mtraced : Int32) (mdealer : Int32) (mnumber : Int32) (mwhose : Int32) (msize : Int32) (misParted : Int32) (fnw : Nat → Int32) (e6 : fnw 6 = nI k6) (hk6 : k6 ≤ 24) (hji : ji < cntS fnw (nI jp) k6) : MP l G yX12_stampAt cX12_stampAt 5 (some .int) 2 [.ref h0, .int (nI jp), .int (nI ji)] [(h0, .inr (12, [.ref nw, .ref nk, .int mhasKept, .ref nt, .int mtaped, .ref nr, .int mrowMany, .int mroundOf, .int mroundFrom, .int mouts, .ref nm, .int mfromHour, .int mtoHour, .ref ns, .int mfrom, .int mto, .int msort, .int misFault, .int mdeep, .int mcoded, .int mlines, .ref nl, .ref nc, .ref nF, .ref np, .ref ntr, .ref nb, .int mbestCost, .ref nso, .ref nsi, .ref nit, .ref nsh, .ref nsf, .ref nss, .ref nrc, .int mtraced, .int mdealer, .int mnumber, .int mwhose, .int msize, .int misParted])), (nw, .inl (G.2.1, 1662, .inl fnw))] (fun r : Int32 => ∃ s9, (STQ fnw jp k6 ji s9) ∧ r = nI s9) := by
  refine MP.start (by decide +kernel) (Nat.le_of_ble_eq_true rfl) ?_
  intro p e s m below meth c ls hC hK hP hD hl
  have hl : lv_has ls 5 [(0, .ref h0), (1, .int (nI jp)), (2, .int (nI ji))] := hl
  obtain ⟨hx, hb, hr, hml, hB, hown, hlocks, hnm⟩ := id hC
  have hcl9 := cntS_le fnw (nI jp) k6
  refine lv_iload_n hx hb dX12_stampAt_0 rfl (lv_at hl 2 rfl) ?_
  refine lv_istore_n (lv' := [(3, .int (nI ji)), (0, .ref h0), (1, .int (nI jp)), (2, .int (nI ji))]) hx hb dX12_stampAt_1 rfl hl (by decide) rfl (fun ls hl => ?_)
  refine lv_iconst (v := 0) hx hb dX12_stampAt_2 (by decide) ?_
  refine lv_istore (lv' := [(4, .int 0), (3, .int (nI ji)), (0, .ref h0), (1, .int (nI jp)), (2, .int (nI ji))]) hx hb dX12_stampAt_3 hl (by decide) rfl (fun ls hl => ?_)
  have keyP : ∀ (nP kP : Nat) (lf : Nat) (ls : Array Slot), kP + nP = k6 → (lf + cntS fnw (nI jp) kP = ji) → lv_has ls 5 [(4, .int (nI kP)), (3, .int (nI lf)), (0, .ref h0), (1, .int (nI jp)), (2, .int (nI ji))] → W p l e (RM 2 0 0) s m ([.ref h0, .int (nI jp), .int (nI ji)] : List Value).toArray below meth c s.heap [] 0 0 (MQ below (QP (fun r : Int32 => ∃ s9, (STQ fnw jp k6 ji s9) ∧ r = nI s9)) ([.ref h0, .int (nI jp), .int (nI ji)] : List Value).toArray s 0 0 (fun _ => False)) (F0 m 5 ls []) := by
    intro nP
    induction nP with
    | zero =>
      intro kP lf ls hkP hlf hl
      obtain rfl : k6 = kP := by omega
      have hl : lv_has ls 5 [(4, .int (nI k6)), (3, .int (nI lf)), (0, .ref h0), (1, .int (nI jp)), (2, .int (nI ji))] := hl
      refine lv_iload hx hb dX12_stampAt_5 (lv_at hl 0 rfl) ?_
      refine lv_aload_n hx hb dX12_stampAt_7 rfl (lv_at hl 2 rfl) ?_
      refine gf_X12_9 hC rfl hK hP 0 rfl rfl dX12_stampAt_8 ?_
      refine lv_bipush (v := 6) hx hb dX12_stampAt_11 (by decide) ?_
      refine ald hC hK hP 1 rfl (vin (by decide +kernel)) (k := 6) (by decide +kernel) (v := nI k6) (e6) dX12_stampAt_13 ?_
      refine lv_icmp_ge (tgt := 49) hx hb dX12_stampAt_14 (by decide) (fun _ => ?_) (fun c9 => absurd (Int32.le_refl _) c9)
      exact (show False by omega).elim
    | succ nP ihP =>
      intro kP lf ls hkP hlf hl
      refine lv_iload hx hb dX12_stampAt_5 (lv_at hl 0 rfl) ?_
      refine lv_aload_n hx hb dX12_stampAt_7 rfl (lv_at hl 2 rfl) ?_
      refine gf_X12_9 hC rfl hK hP 0 rfl rfl dX12_stampAt_8 ?_
      refine lv_bipush (v := 6) hx hb dX12_stampAt_11 (by decide) ?_
      refine ald hC hK hP 1 rfl (vin (by decide +kernel)) (k := 6) (by decide +kernel) (v := nI k6) (e6) dX12_stampAt_13 ?_
      refine lv_icmp_ge (tgt := 49) hx hb dX12_stampAt_14 (by decide) (fun c9 => absurd c9 (nI_ge (a := kP) (b := k6) (by omega) (by omega))) (fun _ => ?_)
      refine lv_aload_n hx hb dX12_stampAt_17 rfl (lv_at hl 2 rfl) ?_
      refine gf_X12_9 hC rfl hK hP 0 rfl rfl dX12_stampAt_18 ?_
      refine lv_bipush (v := 104) hx hb dX12_stampAt_21 (by decide) ?_
      refine lv_iconst (v := 3) hx hb dX12_stampAt_23 (by decide) ?_
      refine lv_iload hx hb dX12_stampAt_24 (lv_at hl 0 rfl) ?_
      refine lv_imul hx hb dX12_stampAt_26 ?_
      refine eqi (x1 := nI (3 * kP)) (nI_mul 3 kP) ?_
      refine lv_iadd hx hb dX12_stampAt_27 ?_
      refine eqi (x1 := nI (104 + 3 * kP)) (nI_add 104 (3 * kP)) ?_
      refine ald hC hK hP 1 rfl (vp_in_nI (by omega) (by omega)) (k := (104 + 3 * kP)) (nI_clamp (by omega)) (v := fnw (104 + 3 * kP)) rfl dX12_stampAt_28 ?_
      refine lv_iload_n hx hb dX12_stampAt_29 rfl (lv_at hl 3 rfl) ?_
      refine lv_icmp_ne (tgt := 43) hx hb dX12_stampAt_30 (by decide) (fun c_30_10309 => ?_) (fun c_30_10309 => ?_)
      · have hcs9 := cntS_f (f := fnw) (p := nI jp) (n := kP) c_30_10309
        refine lv_iinc (v := nI (kP + 1)) (lv' := [(4, .int (nI (kP + 1))), (3, .int (nI lf)), (0, .ref h0), (1, .int (nI jp)), (2, .int (nI ji))]) hx hb dX12_stampAt_43 hl (k := 0) rfl (nI_1 _) (by decide) rfl (fun ls hl => ?_)
        refine lv_goto (tgt := 5) hx hb dX12_stampAt_46 (by decide) ?_
        exact ihP (kP + 1) lf _ (by omega) (by first | assumption | exact Or.inl rfl | exact Or.inr rfl | omega | exact rfl) (lv_sub hl [0, 1, 2, 3, 4] rfl)
      · have hcs9 := cntS_t (f := fnw) (p := nI jp) (n := kP) c_30_10309
        refine lv_iload_n hx hb dX12_stampAt_33 rfl (lv_at hl 1 rfl) ?_
        refine lv_if_ne (tgt := 40) hx hb dX12_stampAt_34 (by decide) (fun c_34_10310 => ?_) (fun c_34_10310 => ?_)
        · have hlf1 := nI_nz c_34_10310
          refine lv_iinc (v := nI (lf - 1)) (lv' := [(3, .int (nI (lf - 1))), (4, .int (nI kP)), (0, .ref h0), (1, .int (nI jp)), (2, .int (nI ji))]) hx hb dX12_stampAt_40 hl (k := 1) rfl ((nI_dec lf).trans (nI_sb (by omega))) (by decide) rfl (fun ls hl => ?_)
          refine lv_iinc (v := nI (kP + 1)) (lv' := [(4, .int (nI (kP + 1))), (3, .int (nI (lf - 1))), (0, .ref h0), (1, .int (nI jp)), (2, .int (nI ji))]) hx hb dX12_stampAt_43 hl (k := 1) rfl (nI_1 _) (by decide) rfl (fun ls hl => ?_)
          refine lv_goto (tgt := 5) hx hb dX12_stampAt_46 (by decide) ?_
          exact ihP (kP + 1) (lf - 1) _ (by omega) (by first | assumption | exact Or.inl rfl | exact Or.inr rfl | omega | exact rfl) (lv_sub hl [0, 1, 2, 3, 4] rfl)
        · refine lv_iload hx hb dX12_stampAt_37 (lv_at hl 0 rfl) ?_
          exact RP (v := nI kP) hC (⟨kP, ⟨by omega, c_30_10309, by have h9 := nI_z9 (by omega) c_34_10310; omega⟩, rfl⟩) rfl dX12_stampAt_39
  exact keyP k6 0 ji _ (by omega) (by first | assumption | exact Or.inl rfl | exact Or.inr rfl | omega | exact rfl) (lv_sub hl [0, 1, 2, 3, 4] rfl)
set_option maxHeartbeats 4000000 in
set_option maxRecDepth 100000 in
theorem m_atMostX (l : Launch) (G : GG) (h0 : Nat) (jb : Nat) (ja : Nat) (vv : Int32) (nw : Nat) (nk : Nat) (mhasKept : Int32) (nt : Nat) (mtaped : Int32) (nr : Nat) (mrowMany : Int32) (mroundOf : Int32) (mroundFrom : Int32) (mouts : Int32) (nm : Nat) (mfromHour : Int32) (mtoHour : Int32) (ns : Nat) (mfrom : Int32) (mto : Int32) (msort : Int32) (misFault : Int32) (mdeep : Int32) (mcoded : Int32) (mlines : Int32) (nl : Nat) (nc : Nat) (nF : Nat) (np : Nat) (ntr : Nat) (nb : Nat) (mbestCost : Int32) (nso : Nat) (nsi : Nat) (nit : Nat) (nsh : Nat) (nsf : Nat) (nss : Nat) (nrc : Nat) (mtraced : Int32) (mdealer : Int32) (mnumber : Int32) (mwhose : Int32) (msize : Int32) (misParted : Int32) (fnm : Nat → Int32) (hjb : jb < 6) (hja : ja < 6) : MV l G yX12_atMost cX12_atMost 4 2 0 0 [.ref h0, .int (nI jb), .int (nI ja), .int vv] [(h0, .inr (12, [.ref nw, .ref nk, .int mhasKept, .ref nt, .int mtaped, .ref nr, .int mrowMany, .int mroundOf, .int mroundFrom, .int mouts, .ref nm, .int mfromHour, .int mtoHour, .ref ns, .int mfrom, .int mto, .int msort, .int misFault, .int mdeep, .int mcoded, .int mlines, .ref nl, .ref nc, .ref nF, .ref np, .ref ntr, .ref nb, .int mbestCost, .ref nso, .ref nsi, .ref nit, .ref nsh, .ref nsf, .ref nss, .ref nrc, .int mtraced, .int mdealer, .int mnumber, .int mwhose, .int msize, .int misParted])), (nm, .inl (G.2.1, 36, .inl fnm))] (fun u : (Nat → Int32) => ∀ x9 y9, x9 < 6 → y9 < 6 → MAT u x9 y9 = MNI (MAT fnm) jb ja vv.toInt x9 y9) (fun u : (Nat → Int32) => [(h0, .inr (12, [.ref nw, .ref nk, .int mhasKept, .ref nt, .int mtaped, .ref nr, .int mrowMany, .int mroundOf, .int mroundFrom, .int mouts, .ref nm, .int mfromHour, .int mtoHour, .ref ns, .int mfrom, .int mto, .int msort, .int misFault, .int mdeep, .int mcoded, .int mlines, .ref nl, .ref nc, .ref nF, .ref np, .ref ntr, .ref nb, .int mbestCost, .ref nso, .ref nsi, .ref nit, .ref nsh, .ref nsf, .ref nss, .ref nrc, .int mtraced, .int mdealer, .int mnumber, .int mwhose, .int msize, .int misParted])), (nm, .inl (G.2.1, 36, .inl u))]) := by
  refine MV.start (by decide +kernel) (Nat.le_of_ble_eq_true rfl) ?_
  intro p e s m below meth c A ls hC hK hP hD hS hA hl
  have hl : lv_has ls 4 [(0, .ref h0), (1, .int (nI jb)), (2, .int (nI ja)), (3, .int vv)] := hl
  obtain ⟨hx, hb, hr, hml, hB, hown, hlocks, hnm⟩ := id hC
  refine lv_aload_n hx hb dX12_atMost_0 rfl (lv_at hl 0 rfl) ?_
  refine gf_X12_26 hC rfl hK hP 0 rfl rfl dX12_atMost_1 ?_
  refine lv_bipush (v := 6) hx hb dX12_atMost_4 (by decide) ?_
  refine lv_iload_n hx hb dX12_atMost_6 rfl (lv_at hl 1 rfl) ?_
  refine lv_imul hx hb dX12_atMost_7 ?_
  refine eqi (x1 := nI (6 * jb)) (nI_mul 6 jb) ?_
  refine lv_iload_n hx hb dX12_atMost_8 rfl (lv_at hl 2 rfl) ?_
  refine lv_iadd hx hb dX12_atMost_9 ?_
  refine eqi (x1 := nI (6 * jb + ja)) (nI_add (6 * jb) ja) ?_
  refine lv_aload_n hx hb dX12_atMost_10 rfl (lv_at hl 0 rfl) ?_
  refine gf_X12_26 hC rfl hK hP 0 rfl rfl dX12_atMost_11 ?_
  refine lv_bipush (v := 6) hx hb dX12_atMost_14 (by decide) ?_
  refine lv_iload_n hx hb dX12_atMost_16 rfl (lv_at hl 1 rfl) ?_
  refine lv_imul hx hb dX12_atMost_17 ?_
  refine eqi (x1 := nI (6 * jb)) (nI_mul 6 jb) ?_
  refine lv_iload_n hx hb dX12_atMost_18 rfl (lv_at hl 2 rfl) ?_
  refine lv_iadd hx hb dX12_atMost_19 ?_
  refine eqi (x1 := nI (6 * jb + ja)) (nI_add (6 * jb) ja) ?_
  refine ald hC hK hP 1 rfl (vp_in_nI (by omega) (by omega)) (k := 6 * jb + ja) (nI_clamp (by omega)) (v := fnm (6 * jb + ja)) (rfl) dX12_atMost_20 ?_
  refine lv_iload_n hx hb dX12_atMost_21 rfl (lv_at hl 3 rfl) ?_
  refine va_mmin hx hb (hml.trans hl.1.symm) hown (hB _ m_1165) (hB _ m_373) (hB _ m_105) (hB _ m_374) (Nat.le_of_ble_eq_true rfl) (Nat.le_of_ble_eq_true rfl) (by first | exact Nat.le_of_ble_eq_true rfl | exact Nat.zero_le _)  (by first | exact Nat.le_of_ble_eq_true rfl | exact Nat.zero_le _) dX12_atMost_22 ?_
  refine lv_topi (fun x10311 ex10311 => ?_)
  refine ast hC hK hP hD hS 1 (ws' := [(h0, .inr (12, [.ref nw, .ref nk, .int mhasKept, .ref nt, .int mtaped, .ref nr, .int mrowMany, .int mroundOf, .int mroundFrom, .int mouts, .ref nm, .int mfromHour, .int mtoHour, .ref ns, .int mfrom, .int mto, .int msort, .int misFault, .int mdeep, .int mcoded, .int mlines, .ref nl, .ref nc, .ref nF, .ref np, .ref ntr, .ref nb, .int mbestCost, .ref nso, .ref nsi, .ref nit, .ref nsh, .ref nsf, .ref nss, .ref nrc, .int mtraced, .int mdealer, .int mnumber, .int mwhose, .int msize, .int misParted])), (nm, .inl (G.2.1, 36, .inl (upd fnm (6 * jb + ja) x10311)))]) rfl (vp_in_nI (by omega) (by omega)) (k := (6 * jb + ja)) (nI_clamp (by omega)) (rfl) dX12_atMost_25 (fun H locs hP hD hS => ?_)
  exact RV hC hP hD hS [0, 1] (upd fnm (6 * jb + ja) x10311) rfl rfl (by decide) (MNI.of hjb hja ex10311) dX12_atMost_26
set_option maxHeartbeats 4000000 in
set_option maxRecDepth 100000 in
theorem m_findClocksX (l : Launch) (G : GG) (kq : Nat) (k6 : Nat) (h0 : Nat) (nw : Nat) (nk : Nat) (mhasKept : Int32) (nt : Nat) (mtaped : Int32) (nr : Nat) (mrowMany : Int32) (mroundOf : Int32) (mroundFrom : Int32) (nm : Nat) (mfromHour : Int32) (mtoHour : Int32) (ns : Nat) (mfrom : Int32) (mto : Int32) (msort : Int32) (misFault : Int32) (mdeep : Int32) (mcoded : Int32) (mlines : Int32) (nl : Nat) (nc : Nat) (nF : Nat) (np : Nat) (ntr : Nat) (nb : Nat) (mbestCost : Int32) (nso : Nat) (nsi : Nat) (nit : Nat) (nsh : Nat) (nsf : Nat) (nss : Nat) (nrc : Nat) (mtraced : Int32) (mdealer : Int32) (mnumber : Int32) (mwhose : Int32) (msize : Int32) (misParted : Int32) (fnw : Nat → Int32) (fnm : Nat → Int32) (hN : NI fnw) (hgp : GPRm (fnw 3)) (ekq : fnw 5 = nI kq) (hkq : kq ≤ 12) (e6 : fnw 6 = nI k6) (hk6 : k6 ≤ 24) : MI l G yX12_findClocks cX12_findClocks 7 (some .boolean) 4 0 0 [.ref h0] [(h0, .inr (12, [.ref nw, .ref nk, .int mhasKept, .ref nt, .int mtaped, .ref nr, .int mrowMany, .int mroundOf, .int mroundFrom, .int 0, .ref nm, .int mfromHour, .int mtoHour, .ref ns, .int mfrom, .int mto, .int msort, .int misFault, .int mdeep, .int mcoded, .int mlines, .ref nl, .ref nc, .ref nF, .ref np, .ref ntr, .ref nb, .int mbestCost, .ref nso, .ref nsi, .ref nit, .ref nsh, .ref nsf, .ref nss, .ref nrc, .int mtraced, .int mdealer, .int mnumber, .int mwhose, .int msize, .int misParted])), (nw, .inl (G.2.1, 1662, .inl fnw)), (nm, .inl (G.2.1, 36, .inl fnm))] (fun (r : Int32) (u : (Nat → Int32)) => ((r = 1 ∧ NOS (KST (shf fnw 104) (VSE fnw kq) (fnw 3).toInt k6)) ∨ (r = 0 ∧ CLB (KST (shf fnw 104) (VSE fnw kq) (fnw 3).toInt k6) (MAT u))) ∧ (MB u)) (fun u : (Nat → Int32) => [(h0, .inr (12, [.ref nw, .ref nk, .int mhasKept, .ref nt, .int mtaped, .ref nr, .int mrowMany, .int mroundOf, .int mroundFrom, .int 0, .ref nm, .int mfromHour, .int mtoHour, .ref ns, .int mfrom, .int mto, .int msort, .int misFault, .int mdeep, .int mcoded, .int mlines, .ref nl, .ref nc, .ref nF, .ref np, .ref ntr, .ref nb, .int mbestCost, .ref nso, .ref nsi, .ref nit, .ref nsh, .ref nsf, .ref nss, .ref nrc, .int mtraced, .int mdealer, .int mnumber, .int mwhose, .int msize, .int misParted])), (nw, .inl (G.2.1, 1662, .inl fnw)), (nm, .inl (G.2.1, 36, .inl u))]) := by
  refine MI.start (by decide +kernel) (Nat.le_of_ble_eq_true rfl) ?_
  intro p e s m below meth c A ls hC hK hP hD hS hA hl
  have hl : lv_has ls 7 [(0, .ref h0)] := hl
  obtain ⟨hx, hb, hr, hml, hB, hown, hlocks, hnm⟩ := id hC
  refine lv_iconst (v := 0) hx hb dX12_findClocks_0 (by decide) ?_
  refine lv_istore_n (lv' := [(1, .int 0), (0, .ref h0)]) hx hb dX12_findClocks_1 rfl hl (by decide) rfl (fun ls hl => ?_)
  have keyA : ∀ (nA kA : Nat) (vA : Nat → Int32) (H : Heap) (locs : List Loc) (ls : Array Slot), kA + nA = 6 → (FRP kA 0 (MAT vA)) → va_PD G A [(h0, .inr (12, [.ref nw, .ref nk, .int mhasKept, .ref nt, .int mtaped, .ref nr, .int mrowMany, .int mroundOf, .int mroundFrom, .int 0, .ref nm, .int mfromHour, .int mtoHour, .ref ns, .int mfrom, .int mto, .int msort, .int misFault, .int mdeep, .int mcoded, .int mlines, .ref nl, .ref nc, .ref nF, .ref np, .ref ntr, .ref nb, .int mbestCost, .ref nso, .ref nsi, .ref nit, .ref nsh, .ref nsf, .ref nss, .ref nrc, .int mtraced, .int mdealer, .int mnumber, .int mwhose, .int msize, .int misParted])), (nw, .inl (G.2.1, 1662, .inl fnw)), (nm, .inl (G.2.1, 36, .inl vA))] H → va_S A s.heap H locs → lv_has ls 7 [(1, .int (nI kA)), (0, .ref h0)] → W p l e (RM 4 0 0) s m ([.ref h0] : List Value).toArray below meth c H locs 0 0 (MQ below (QI G (fun (r : Int32) (u : (Nat → Int32)) => ((r = 1 ∧ NOS (KST (shf fnw 104) (VSE fnw kq) (fnw 3).toInt k6)) ∨ (r = 0 ∧ CLB (KST (shf fnw 104) (VSE fnw kq) (fnw 3).toInt k6) (MAT u))) ∧ (MB u)) (fun u : (Nat → Int32) => [(h0, .inr (12, [.ref nw, .ref nk, .int mhasKept, .ref nt, .int mtaped, .ref nr, .int mrowMany, .int mroundOf, .int mroundFrom, .int 0, .ref nm, .int mfromHour, .int mtoHour, .ref ns, .int mfrom, .int mto, .int msort, .int misFault, .int mdeep, .int mcoded, .int mlines, .ref nl, .ref nc, .ref nF, .ref np, .ref ntr, .ref nb, .int mbestCost, .ref nso, .ref nsi, .ref nit, .ref nsh, .ref nsf, .ref nss, .ref nrc, .int mtraced, .int mdealer, .int mnumber, .int mwhose, .int msize, .int misParted])), (nw, .inl (G.2.1, 1662, .inl fnw)), (nm, .inl (G.2.1, 36, .inl u))]) A) ([.ref h0] : List Value).toArray s 0 0 A) (F0 m 2 ls []) := by
    intro nA
    induction nA with
    | zero =>
      intro kA vA H locs ls hkA hvA hPD hS hl
      obtain ⟨hP, hD⟩ := hPD
      obtain rfl : 6 = kA := by omega
      have hl : lv_has ls 7 [(1, .int 6), (0, .ref h0)] := hl
      refine lv_iload_n hx hb dX12_findClocks_2 rfl (lv_at hl 0 rfl) ?_
      refine lv_bipush (v := 6) hx hb dX12_findClocks_3 (by decide) ?_
      refine lv_icmp_ge (tgt := 63) hx hb dX12_findClocks_5 (by decide) (fun _ => ?_) (fun c9 => absurd (by decide) c9)
      have hz9 : PHI (KST (shf fnw 104) (VSE fnw kq) (fnw 3).toInt k6) (KCV fnw (VSE fnw kq) (fnw 3).toInt k6 0 1) (MAT vA) := PHI.base hvA KST.bas
      refine lv_iconst (v := 0) hx hb dX12_findClocks_63 (by decide) ?_
      refine lv_istore_n (lv' := [(1, .int 0), (0, .ref h0)]) hx hb dX12_findClocks_64 rfl hl (by decide) rfl (fun ls hl => ?_)
      have keyC : ∀ (nC kC : Nat) (vC : Nat → Int32) (H : Heap) (locs : List Loc) (ls : Array Slot), kC + nC = kq → (PHI (KST (shf fnw 104) (VSE fnw kq) (fnw 3).toInt k6) (KCV fnw (VSE fnw kq) (fnw 3).toInt k6 kC 1) (MAT vC)) → va_PD G A [(h0, .inr (12, [.ref nw, .ref nk, .int mhasKept, .ref nt, .int mtaped, .ref nr, .int mrowMany, .int mroundOf, .int mroundFrom, .int 0, .ref nm, .int mfromHour, .int mtoHour, .ref ns, .int mfrom, .int mto, .int msort, .int misFault, .int mdeep, .int mcoded, .int mlines, .ref nl, .ref nc, .ref nF, .ref np, .ref ntr, .ref nb, .int mbestCost, .ref nso, .ref nsi, .ref nit, .ref nsh, .ref nsf, .ref nss, .ref nrc, .int mtraced, .int mdealer, .int mnumber, .int mwhose, .int msize, .int misParted])), (nw, .inl (G.2.1, 1662, .inl fnw)), (nm, .inl (G.2.1, 36, .inl vC))] H → va_S A s.heap H locs → lv_has ls 7 [(1, .int (nI kC)), (0, .ref h0)] → W p l e (RM 4 0 0) s m ([.ref h0] : List Value).toArray below meth c H locs 0 0 (MQ below (QI G (fun (r : Int32) (u : (Nat → Int32)) => ((r = 1 ∧ NOS (KST (shf fnw 104) (VSE fnw kq) (fnw 3).toInt k6)) ∨ (r = 0 ∧ CLB (KST (shf fnw 104) (VSE fnw kq) (fnw 3).toInt k6) (MAT u))) ∧ (MB u)) (fun u : (Nat → Int32) => [(h0, .inr (12, [.ref nw, .ref nk, .int mhasKept, .ref nt, .int mtaped, .ref nr, .int mrowMany, .int mroundOf, .int mroundFrom, .int 0, .ref nm, .int mfromHour, .int mtoHour, .ref ns, .int mfrom, .int mto, .int msort, .int misFault, .int mdeep, .int mcoded, .int mlines, .ref nl, .ref nc, .ref nF, .ref np, .ref ntr, .ref nb, .int mbestCost, .ref nso, .ref nsi, .ref nit, .ref nsh, .ref nsf, .ref nss, .ref nrc, .int mtraced, .int mdealer, .int mnumber, .int mwhose, .int msize, .int misParted])), (nw, .inl (G.2.1, 1662, .inl fnw)), (nm, .inl (G.2.1, 36, .inl u))]) A) ([.ref h0] : List Value).toArray s 0 0 A) (F0 m 65 ls []) := by
        intro nC
        induction nC with
        | zero =>
          intro kC vC H locs ls hkC hvC hPD hS hl
          obtain ⟨hP, hD⟩ := hPD
          obtain rfl : kq = kC := by omega
          have hl : lv_has ls 7 [(1, .int (nI kq)), (0, .ref h0)] := hl
          refine lv_iload_n hx hb dX12_findClocks_65 rfl (lv_at hl 0 rfl) ?_
          refine lv_aload_n hx hb dX12_findClocks_66 rfl (lv_at hl 1 rfl) ?_
          refine gf_X12_9 hC rfl hK hP 0 rfl rfl dX12_findClocks_67 ?_
          refine lv_iconst (v := 5) hx hb dX12_findClocks_70 (by decide) ?_
          refine ald hC hK hP 1 rfl (vin (by decide +kernel)) (k := 5) (by decide +kernel) (v := nI kq) (ekq) dX12_findClocks_71 ?_
          refine lv_icmp_ge (tgt := 216) hx hb dX12_findClocks_72 (by decide) (fun _ => ?_) (fun c9 => absurd (Int32.le_refl _) c9)
          have hz9 : FWT (KST (shf fnw 104) (VSE fnw kq) (fnw 3).toInt k6) 0 (MAT vC) := FWT.of (hvC.all (fun q9 h9 => h9.1) (fun s9 h9 => NI.pap hN (by omega)))
          refine lv_iconst (v := 0) hx hb dX12_findClocks_216 (by decide) ?_
          refine lv_istore_n (lv' := [(1, .int 0), (0, .ref h0)]) hx hb dX12_findClocks_217 rfl hl (by decide) rfl (fun ls hl => ?_)
          have keyE : ∀ (nE kE : Nat) (vE : Nat → Int32) (H : Heap) (locs : List Loc) (ls : Array Slot), kE + nE = 6 → (FWT (KST (shf fnw 104) (VSE fnw kq) (fnw 3).toInt k6) kE (MAT vE)) → va_PD G A [(h0, .inr (12, [.ref nw, .ref nk, .int mhasKept, .ref nt, .int mtaped, .ref nr, .int mrowMany, .int mroundOf, .int mroundFrom, .int 0, .ref nm, .int mfromHour, .int mtoHour, .ref ns, .int mfrom, .int mto, .int msort, .int misFault, .int mdeep, .int mcoded, .int mlines, .ref nl, .ref nc, .ref nF, .ref np, .ref ntr, .ref nb, .int mbestCost, .ref nso, .ref nsi, .ref nit, .ref nsh, .ref nsf, .ref nss, .ref nrc, .int mtraced, .int mdealer, .int mnumber, .int mwhose, .int msize, .int misParted])), (nw, .inl (G.2.1, 1662, .inl fnw)), (nm, .inl (G.2.1, 36, .inl vE))] H → va_S A s.heap H locs → lv_has ls 7 [(1, .int (nI kE)), (0, .ref h0)] → W p l e (RM 4 0 0) s m ([.ref h0] : List Value).toArray below meth c H locs 0 0 (MQ below (QI G (fun (r : Int32) (u : (Nat → Int32)) => ((r = 1 ∧ NOS (KST (shf fnw 104) (VSE fnw kq) (fnw 3).toInt k6)) ∨ (r = 0 ∧ CLB (KST (shf fnw 104) (VSE fnw kq) (fnw 3).toInt k6) (MAT u))) ∧ (MB u)) (fun u : (Nat → Int32) => [(h0, .inr (12, [.ref nw, .ref nk, .int mhasKept, .ref nt, .int mtaped, .ref nr, .int mrowMany, .int mroundOf, .int mroundFrom, .int 0, .ref nm, .int mfromHour, .int mtoHour, .ref ns, .int mfrom, .int mto, .int msort, .int misFault, .int mdeep, .int mcoded, .int mlines, .ref nl, .ref nc, .ref nF, .ref np, .ref ntr, .ref nb, .int mbestCost, .ref nso, .ref nsi, .ref nit, .ref nsh, .ref nsf, .ref nss, .ref nrc, .int mtraced, .int mdealer, .int mnumber, .int mwhose, .int msize, .int misParted])), (nw, .inl (G.2.1, 1662, .inl fnw)), (nm, .inl (G.2.1, 36, .inl u))]) A) ([.ref h0] : List Value).toArray s 0 0 A) (F0 m 218 ls []) := by
            intro nE
            induction nE with
            | zero =>
              intro kE vE H locs ls hkE hvE hPD hS hl
              obtain ⟨hP, hD⟩ := hPD
              obtain rfl : 6 = kE := by omega
              have hl : lv_has ls 7 [(1, .int 6), (0, .ref h0)] := hl
              refine lv_iload_n hx hb dX12_findClocks_218 rfl (lv_at hl 0 rfl) ?_
              refine lv_bipush (v := 6) hx hb dX12_findClocks_219 (by decide) ?_
              refine lv_icmp_ge (tgt := 287) hx hb dX12_findClocks_221 (by decide) (fun _ => ?_) (fun c9 => absurd (by decide) c9)
              refine lv_iconst (v := 0) hx hb dX12_findClocks_287 (by decide) ?_
              refine lv_istore_n (lv' := [(1, .int 0), (0, .ref h0)]) hx hb dX12_findClocks_288 rfl hl (by decide) rfl (fun ls hl => ?_)
              refine lv_iconst (v := 0) hx hb dX12_findClocks_289 (by decide) ?_
              refine lv_istore_n (lv' := [(2, .int 0), (1, .int 0), (0, .ref h0)]) hx hb dX12_findClocks_290 rfl hl (by decide) rfl (fun ls hl => ?_)
              have keyH : ∀ (nH kH : Nat) (cl : Int32) (H : Heap) (locs : List Loc) (ls : Array Slot), kH + nH = 6 → (CLD cl kH (MAT vE)) → va_PD G A [(h0, .inr (12, [.ref nw, .ref nk, .int mhasKept, .ref nt, .int mtaped, .ref nr, .int mrowMany, .int mroundOf, .int mroundFrom, .int 0, .ref nm, .int mfromHour, .int mtoHour, .ref ns, .int mfrom, .int mto, .int msort, .int misFault, .int mdeep, .int mcoded, .int mlines, .ref nl, .ref nc, .ref nF, .ref np, .ref ntr, .ref nb, .int mbestCost, .ref nso, .ref nsi, .ref nit, .ref nsh, .ref nsf, .ref nss, .ref nrc, .int mtraced, .int mdealer, .int mnumber, .int mwhose, .int msize, .int misParted])), (nw, .inl (G.2.1, 1662, .inl fnw)), (nm, .inl (G.2.1, 36, .inl vE))] H → va_S A s.heap H locs → lv_has ls 7 [(2, .int (nI kH)), (1, .int cl), (0, .ref h0)] → W p l e (RM 4 0 0) s m ([.ref h0] : List Value).toArray below meth c H locs 0 0 (MQ below (QI G (fun (r : Int32) (u : (Nat → Int32)) => ((r = 1 ∧ NOS (KST (shf fnw 104) (VSE fnw kq) (fnw 3).toInt k6)) ∨ (r = 0 ∧ CLB (KST (shf fnw 104) (VSE fnw kq) (fnw 3).toInt k6) (MAT u))) ∧ (MB u)) (fun u : (Nat → Int32) => [(h0, .inr (12, [.ref nw, .ref nk, .int mhasKept, .ref nt, .int mtaped, .ref nr, .int mrowMany, .int mroundOf, .int mroundFrom, .int 0, .ref nm, .int mfromHour, .int mtoHour, .ref ns, .int mfrom, .int mto, .int msort, .int misFault, .int mdeep, .int mcoded, .int mlines, .ref nl, .ref nc, .ref nF, .ref np, .ref ntr, .ref nb, .int mbestCost, .ref nso, .ref nsi, .ref nit, .ref nsh, .ref nsf, .ref nss, .ref nrc, .int mtraced, .int mdealer, .int mnumber, .int mwhose, .int msize, .int misParted])), (nw, .inl (G.2.1, 1662, .inl fnw)), (nm, .inl (G.2.1, 36, .inl u))]) A) ([.ref h0] : List Value).toArray s 0 0 A) (F0 m 291 ls []) := by
                intro nH
                induction nH with
                | zero =>
                  intro kH cl H locs ls hkH hcl hPD hS hl
                  obtain ⟨hP, hD⟩ := hPD
                  obtain rfl : 6 = kH := by omega
                  have hl : lv_has ls 7 [(2, .int 6), (1, .int cl), (0, .ref h0)] := hl
                  refine lv_iload_n hx hb dX12_findClocks_291 rfl (lv_at hl 0 rfl) ?_
                  refine lv_bipush (v := 6) hx hb dX12_findClocks_292 (by decide) ?_
                  refine lv_icmp_ge (tgt := 327) hx hb dX12_findClocks_294 (by decide) (fun _ => ?_) (fun c9 => absurd (by decide) c9)
                  rcases hcl.yes hvE KST.bas with ⟨rfl, hno⟩ | ⟨rfl, hcb⟩
                  · refine lv_iload_n hx hb dX12_findClocks_327 rfl (lv_at hl 1 rfl) ?_
                    exact RI (v := 1) hC hP hD hS [0, 1, 2] vE rfl rfl (by decide) (⟨Or.inl ⟨rfl, hno⟩, hvE.mb⟩) (by decide +kernel) dX12_findClocks_328
                  · refine lv_iload_n hx hb dX12_findClocks_327 rfl (lv_at hl 1 rfl) ?_
                    exact RI (v := 0) hC hP hD hS [0, 1, 2] vE rfl rfl (by decide) (⟨Or.inr ⟨rfl, hcb⟩, hvE.mb⟩) (by decide +kernel) dX12_findClocks_328
                | succ nH ihH =>
                  intro kH cl H locs ls hkH hcl hPD hS hl
                  obtain ⟨hP, hD⟩ := hPD
                  refine lv_iload_n hx hb dX12_findClocks_291 rfl (lv_at hl 0 rfl) ?_
                  refine lv_bipush (v := 6) hx hb dX12_findClocks_292 (by decide) ?_
                  refine lv_icmp_ge (tgt := 327) hx hb dX12_findClocks_294 (by decide) (fun c9 => absurd c9 (nI_ge (a := kH) (b := 6) (by omega) (by omega))) (fun _ => ?_)
                  refine lv_iload_n hx hb dX12_findClocks_297 rfl (lv_at hl 1 rfl) ?_
                  refine lv_if_ne (tgt := 315) hx hb dX12_findClocks_298 (by decide) (fun c_298_10312 => ?_) (fun c_298_10312 => ?_)
                  · refine lv_iconst (v := 1) hx hb dX12_findClocks_315 (by decide) ?_
                    refine lv_goto (tgt := 320) hx hb dX12_findClocks_316 (by decide) ?_
                    refine lv_istore_n (lv' := [(1, .int 1), (2, .int (nI kH)), (0, .ref h0)]) hx hb dX12_findClocks_320 rfl hl (by decide) rfl (fun ls hl => ?_)
                    refine lv_iinc (v := nI (kH + 1)) (lv' := [(2, .int (nI (kH + 1))), (1, .int 1), (0, .ref h0)]) hx hb dX12_findClocks_321 hl (k := 1) rfl (nI_1 _) (by decide) rfl (fun ls hl => ?_)
                    refine lv_goto (tgt := 291) hx hb dX12_findClocks_324 (by decide) ?_
                    have hst9 : CLD 1 (kH + 1) (MAT vE) := CLD.old hcl c_298_10312
                    exact ihH (kH + 1) 1 _ _ _ (by omega) (by first | assumption | exact Or.inl rfl | exact Or.inr rfl | exact CLD.zero) (And.intro hP hD) hS (lv_sub hl [0, 1, 2] rfl)
                  · refine lv_aload_n hx hb dX12_findClocks_301 rfl (lv_at hl 2 rfl) ?_
                    refine gf_X12_26 hC rfl hK hP 0 rfl rfl dX12_findClocks_302 ?_
                    refine lv_bipush (v := 6) hx hb dX12_findClocks_305 (by decide) ?_
                    refine lv_iload_n hx hb dX12_findClocks_307 rfl (lv_at hl 0 rfl) ?_
                    refine lv_imul hx hb dX12_findClocks_308 ?_
                    refine eqi (x1 := nI (6 * kH)) (nI_mul 6 kH) ?_
                    refine lv_iload_n hx hb dX12_findClocks_309 rfl (lv_at hl 0 rfl) ?_
                    refine lv_iadd hx hb dX12_findClocks_310 ?_
                    refine eqi (x1 := nI (6 * kH + kH)) (nI_add (6 * kH) kH) ?_
                    refine ald hC hK hP 2 rfl (vp_in_nI (by omega) (by omega)) (k := (6 * kH + kH)) (nI_clamp (by omega)) (v := vE (6 * kH + kH)) rfl dX12_findClocks_311 ?_
                    refine lv_if_ge (tgt := 319) hx hb dX12_findClocks_312 (by decide) (fun c_312_10313 => ?_) (fun c_312_10313 => ?_)
                    · refine lv_iconst (v := 0) hx hb dX12_findClocks_319 (by decide) ?_
                      refine lv_istore_n (lv' := [(1, .int 0), (2, .int (nI kH)), (0, .ref h0)]) hx hb dX12_findClocks_320 rfl hl (by decide) rfl (fun ls hl => ?_)
                      refine lv_iinc (v := nI (kH + 1)) (lv' := [(2, .int (nI (kH + 1))), (1, .int 0), (0, .ref h0)]) hx hb dX12_findClocks_321 hl (k := 1) rfl (nI_1 _) (by decide) rfl (fun ls hl => ?_)
                      refine lv_goto (tgt := 291) hx hb dX12_findClocks_324 (by decide) ?_
                      have hst9 : CLD 0 (kH + 1) (MAT vE) := hcl.hi c_298_10312 (mat_s.mp c_312_10313)
                      exact ihH (kH + 1) 0 _ _ _ (by omega) (by first | assumption | exact Or.inl rfl | exact Or.inr rfl | exact CLD.zero) (And.intro hP hD) hS (lv_sub hl [0, 1, 2] rfl)
                    · refine lv_iconst (v := 1) hx hb dX12_findClocks_315 (by decide) ?_
                      refine lv_goto (tgt := 320) hx hb dX12_findClocks_316 (by decide) ?_
                      refine lv_istore_n (lv' := [(1, .int 1), (2, .int (nI kH)), (0, .ref h0)]) hx hb dX12_findClocks_320 rfl hl (by decide) rfl (fun ls hl => ?_)
                      refine lv_iinc (v := nI (kH + 1)) (lv' := [(2, .int (nI (kH + 1))), (1, .int 1), (0, .ref h0)]) hx hb dX12_findClocks_321 hl (k := 1) rfl (nI_1 _) (by decide) rfl (fun ls hl => ?_)
                      refine lv_goto (tgt := 291) hx hb dX12_findClocks_324 (by decide) ?_
                      have hst9 : CLD 1 (kH + 1) (MAT vE) := CLD.lo (by omega) (Int.not_le.mp (fun h9 => c_312_10313 (mat_s.mpr h9)))
                      exact ihH (kH + 1) 1 _ _ _ (by omega) (by first | assumption | exact Or.inl rfl | exact Or.inr rfl | exact CLD.zero) (And.intro hP hD) hS (lv_sub hl [0, 1, 2] rfl)
              exact keyH 6 0 0 _ _ _ (by omega) (by first | assumption | exact Or.inl rfl | exact Or.inr rfl | exact CLD.zero) (And.intro hP hD) hS (lv_sub hl [0, 1, 2] rfl)
            | succ nE ihE =>
              intro kE vE H locs ls hkE hvE hPD hS hl
              obtain ⟨hP, hD⟩ := hPD
              refine lv_iload_n hx hb dX12_findClocks_218 rfl (lv_at hl 0 rfl) ?_
              refine lv_bipush (v := 6) hx hb dX12_findClocks_219 (by decide) ?_
              refine lv_icmp_ge (tgt := 287) hx hb dX12_findClocks_221 (by decide) (fun c9 => absurd c9 (nI_ge (a := kE) (b := 6) (by omega) (by omega))) (fun _ => ?_)
              refine lv_iconst (v := 0) hx hb dX12_findClocks_224 (by decide) ?_
              refine lv_istore_n (lv' := [(2, .int 0), (1, .int (nI kE)), (0, .ref h0)]) hx hb dX12_findClocks_225 rfl hl (by decide) rfl (fun ls hl => ?_)
              have keyY : ∀ (nY kY : Nat) (vY : Nat → Int32) (H : Heap) (locs : List Loc) (ls : Array Slot), kY + nY = 6 → (FWS (KST (shf fnw 104) (VSE fnw kq) (fnw 3).toInt k6) kE kY 0 (MAT vE) (MAT vY)) → va_PD G A [(h0, .inr (12, [.ref nw, .ref nk, .int mhasKept, .ref nt, .int mtaped, .ref nr, .int mrowMany, .int mroundOf, .int mroundFrom, .int 0, .ref nm, .int mfromHour, .int mtoHour, .ref ns, .int mfrom, .int mto, .int msort, .int misFault, .int mdeep, .int mcoded, .int mlines, .ref nl, .ref nc, .ref nF, .ref np, .ref ntr, .ref nb, .int mbestCost, .ref nso, .ref nsi, .ref nit, .ref nsh, .ref nsf, .ref nss, .ref nrc, .int mtraced, .int mdealer, .int mnumber, .int mwhose, .int msize, .int misParted])), (nw, .inl (G.2.1, 1662, .inl fnw)), (nm, .inl (G.2.1, 36, .inl vY))] H → va_S A s.heap H locs → lv_has ls 7 [(2, .int (nI kY)), (1, .int (nI kE)), (0, .ref h0)] → W p l e (RM 4 0 0) s m ([.ref h0] : List Value).toArray below meth c H locs 0 0 (MQ below (QI G (fun (r : Int32) (u : (Nat → Int32)) => ((r = 1 ∧ NOS (KST (shf fnw 104) (VSE fnw kq) (fnw 3).toInt k6)) ∨ (r = 0 ∧ CLB (KST (shf fnw 104) (VSE fnw kq) (fnw 3).toInt k6) (MAT u))) ∧ (MB u)) (fun u : (Nat → Int32) => [(h0, .inr (12, [.ref nw, .ref nk, .int mhasKept, .ref nt, .int mtaped, .ref nr, .int mrowMany, .int mroundOf, .int mroundFrom, .int 0, .ref nm, .int mfromHour, .int mtoHour, .ref ns, .int mfrom, .int mto, .int msort, .int misFault, .int mdeep, .int mcoded, .int mlines, .ref nl, .ref nc, .ref nF, .ref np, .ref ntr, .ref nb, .int mbestCost, .ref nso, .ref nsi, .ref nit, .ref nsh, .ref nsf, .ref nss, .ref nrc, .int mtraced, .int mdealer, .int mnumber, .int mwhose, .int msize, .int misParted])), (nw, .inl (G.2.1, 1662, .inl fnw)), (nm, .inl (G.2.1, 36, .inl u))]) A) ([.ref h0] : List Value).toArray s 0 0 A) (F0 m 226 ls []) := by
                intro nY
                induction nY with
                | zero =>
                  intro kY vY H locs ls hkY hvY hPD hS hl
                  obtain ⟨hP, hD⟩ := hPD
                  obtain rfl : 6 = kY := by omega
                  have hl : lv_has ls 7 [(2, .int 6), (1, .int (nI kE)), (0, .ref h0)] := hl
                  refine lv_iload_n hx hb dX12_findClocks_226 rfl (lv_at hl 0 rfl) ?_
                  refine lv_bipush (v := 6) hx hb dX12_findClocks_227 (by decide) ?_
                  refine lv_icmp_ge (tgt := 281) hx hb dX12_findClocks_229 (by decide) (fun _ => ?_) (fun c9 => absurd (by decide) c9)
                  refine lv_iinc (v := nI (kE + 1)) (lv' := [(1, .int (nI (kE + 1))), (2, .int 6), (0, .ref h0)]) hx hb dX12_findClocks_281 hl (k := 1) rfl (nI_1 _) (by decide) rfl (fun ls hl => ?_)
                  refine lv_goto (tgt := 218) hx hb dX12_findClocks_284 (by decide) ?_
                  have hst9 : FWT (KST (shf fnw 104) (VSE fnw kq) (fnw 3).toInt k6) (kE + 1) (MAT vY) := hvY.fin (by omega)
                  exact ihE (kE + 1) vY _ _ _ (by omega) (by first | assumption | exact Or.inl rfl | exact Or.inr rfl) (And.intro hP hD) hS (lv_sub hl [0, 2] rfl)
                | succ nY ihY =>
                  intro kY vY H locs ls hkY hvY hPD hS hl
                  obtain ⟨hP, hD⟩ := hPD
                  refine lv_iload_n hx hb dX12_findClocks_226 rfl (lv_at hl 0 rfl) ?_
                  refine lv_bipush (v := 6) hx hb dX12_findClocks_227 (by decide) ?_
                  refine lv_icmp_ge (tgt := 281) hx hb dX12_findClocks_229 (by decide) (fun c9 => absurd c9 (nI_ge (a := kY) (b := 6) (by omega) (by omega))) (fun _ => ?_)
                  refine lv_iconst (v := 0) hx hb dX12_findClocks_232 (by decide) ?_
                  refine lv_istore_n (lv' := [(3, .int 0), (2, .int (nI kY)), (1, .int (nI kE)), (0, .ref h0)]) hx hb dX12_findClocks_233 rfl hl (by decide) rfl (fun ls hl => ?_)
                  have keyG : ∀ (nG kG : Nat) (vG : Nat → Int32) (H : Heap) (locs : List Loc) (ls : Array Slot), kG + nG = 6 → (FWS (KST (shf fnw 104) (VSE fnw kq) (fnw 3).toInt k6) kE kY kG (MAT vE) (MAT vG)) → va_PD G A [(h0, .inr (12, [.ref nw, .ref nk, .int mhasKept, .ref nt, .int mtaped, .ref nr, .int mrowMany, .int mroundOf, .int mroundFrom, .int 0, .ref nm, .int mfromHour, .int mtoHour, .ref ns, .int mfrom, .int mto, .int msort, .int misFault, .int mdeep, .int mcoded, .int mlines, .ref nl, .ref nc, .ref nF, .ref np, .ref ntr, .ref nb, .int mbestCost, .ref nso, .ref nsi, .ref nit, .ref nsh, .ref nsf, .ref nss, .ref nrc, .int mtraced, .int mdealer, .int mnumber, .int mwhose, .int msize, .int misParted])), (nw, .inl (G.2.1, 1662, .inl fnw)), (nm, .inl (G.2.1, 36, .inl vG))] H → va_S A s.heap H locs → lv_has ls 7 [(3, .int (nI kG)), (2, .int (nI kY)), (1, .int (nI kE)), (0, .ref h0)] → W p l e (RM 4 0 0) s m ([.ref h0] : List Value).toArray below meth c H locs 0 0 (MQ below (QI G (fun (r : Int32) (u : (Nat → Int32)) => ((r = 1 ∧ NOS (KST (shf fnw 104) (VSE fnw kq) (fnw 3).toInt k6)) ∨ (r = 0 ∧ CLB (KST (shf fnw 104) (VSE fnw kq) (fnw 3).toInt k6) (MAT u))) ∧ (MB u)) (fun u : (Nat → Int32) => [(h0, .inr (12, [.ref nw, .ref nk, .int mhasKept, .ref nt, .int mtaped, .ref nr, .int mrowMany, .int mroundOf, .int mroundFrom, .int 0, .ref nm, .int mfromHour, .int mtoHour, .ref ns, .int mfrom, .int mto, .int msort, .int misFault, .int mdeep, .int mcoded, .int mlines, .ref nl, .ref nc, .ref nF, .ref np, .ref ntr, .ref nb, .int mbestCost, .ref nso, .ref nsi, .ref nit, .ref nsh, .ref nsf, .ref nss, .ref nrc, .int mtraced, .int mdealer, .int mnumber, .int mwhose, .int msize, .int misParted])), (nw, .inl (G.2.1, 1662, .inl fnw)), (nm, .inl (G.2.1, 36, .inl u))]) A) ([.ref h0] : List Value).toArray s 0 0 A) (F0 m 234 ls []) := by
                    intro nG
                    induction nG with
                    | zero =>
                      intro kG vG H locs ls hkG hvG hPD hS hl
                      obtain ⟨hP, hD⟩ := hPD
                      obtain rfl : 6 = kG := by omega
                      have hl : lv_has ls 7 [(3, .int 6), (2, .int (nI kY)), (1, .int (nI kE)), (0, .ref h0)] := hl
                      refine lv_iload_n hx hb dX12_findClocks_234 rfl (lv_at hl 0 rfl) ?_
                      refine lv_bipush (v := 6) hx hb dX12_findClocks_235 (by decide) ?_
                      refine lv_icmp_ge (tgt := 275) hx hb dX12_findClocks_237 (by decide) (fun _ => ?_) (fun c9 => absurd (by decide) c9)
                      refine lv_iinc (v := nI (kY + 1)) (lv' := [(2, .int (nI (kY + 1))), (3, .int 6), (1, .int (nI kE)), (0, .ref h0)]) hx hb dX12_findClocks_275 hl (k := 1) rfl (nI_1 _) (by decide) rfl (fun ls hl => ?_)
                      refine lv_goto (tgt := 226) hx hb dX12_findClocks_278 (by decide) ?_
                      have hst9 : FWS (KST (shf fnw 104) (VSE fnw kq) (fnw 3).toInt k6) kE (kY + 1) 0 (MAT vE) (MAT vG) := hvG.row
                      exact ihY (kY + 1) vG _ _ _ (by omega) (by first | assumption | exact Or.inl rfl | exact Or.inr rfl | exact hvE.to) (And.intro hP hD) hS (lv_sub hl [0, 2, 3] rfl)
                    | succ nG ihG =>
                      intro kG vG H locs ls hkG hvG hPD hS hl
                      obtain ⟨hP, hD⟩ := hPD
                      refine lv_iload_n hx hb dX12_findClocks_234 rfl (lv_at hl 0 rfl) ?_
                      refine lv_bipush (v := 6) hx hb dX12_findClocks_235 (by decide) ?_
                      refine lv_icmp_ge (tgt := 275) hx hb dX12_findClocks_237 (by decide) (fun c9 => absurd c9 (nI_ge (a := kG) (b := 6) (by omega) (by omega))) (fun _ => ?_)
                      refine lv_aload_n hx hb dX12_findClocks_240 rfl (lv_at hl 3 rfl) ?_
                      refine lv_iload_n hx hb dX12_findClocks_241 rfl (lv_at hl 1 rfl) ?_
                      refine lv_iload_n hx hb dX12_findClocks_242 rfl (lv_at hl 0 rfl) ?_
                      refine lv_aload_n hx hb dX12_findClocks_243 rfl (lv_at hl 3 rfl) ?_
                      refine gf_X12_26 hC rfl hK hP 0 rfl rfl dX12_findClocks_244 ?_
                      refine lv_bipush (v := 6) hx hb dX12_findClocks_247 (by decide) ?_
                      refine lv_iload_n hx hb dX12_findClocks_249 rfl (lv_at hl 1 rfl) ?_
                      refine lv_imul hx hb dX12_findClocks_250 ?_
                      refine eqi (x1 := nI (6 * kY)) (nI_mul 6 kY) ?_
                      refine lv_iload_n hx hb dX12_findClocks_251 rfl (lv_at hl 2 rfl) ?_
                      refine lv_iadd hx hb dX12_findClocks_252 ?_
                      refine eqi (x1 := nI (6 * kY + kE)) (nI_add (6 * kY) kE) ?_
                      refine ald hC hK hP 2 rfl (vp_in_nI (by omega) (by omega)) (k := (6 * kY + kE)) (nI_clamp (by omega)) (v := vG (6 * kY + kE)) rfl dX12_findClocks_253 ?_
                      refine lv_aload_n hx hb dX12_findClocks_254 rfl (lv_at hl 3 rfl) ?_
                      refine gf_X12_26 hC rfl hK hP 0 rfl rfl dX12_findClocks_255 ?_
                      refine lv_bipush (v := 6) hx hb dX12_findClocks_258 (by decide) ?_
                      refine lv_iload_n hx hb dX12_findClocks_260 rfl (lv_at hl 2 rfl) ?_
                      refine lv_imul hx hb dX12_findClocks_261 ?_
                      refine eqi (x1 := nI (6 * kE)) (nI_mul 6 kE) ?_
                      refine lv_iload_n hx hb dX12_findClocks_262 rfl (lv_at hl 0 rfl) ?_
                      refine lv_iadd hx hb dX12_findClocks_263 ?_
                      refine eqi (x1 := nI (6 * kE + kG)) (nI_add (6 * kE) kG) ?_
                      refine ald hC hK hP 2 rfl (vp_in_nI (by omega) (by omega)) (k := (6 * kE + kG)) (nI_clamp (by omega)) (v := vG (6 * kE + kG)) rfl dX12_findClocks_264 ?_
                      refine lv_iadd hx hb dX12_findClocks_265 ?_
                      refine vV (wr := [(nw, .inl (G.2.1, 1662, .inl fnw))]) hC hK hl hP hD hS hA (m_atMostX l G h0 kY kG ((vG (6 * kY + kE)) + (vG (6 * kE + kG))) nw nk mhasKept nt mtaped nr mrowMany mroundOf mroundFrom 0 nm mfromHour mtoHour ns mfrom mto msort misFault mdeep mcoded mlines nl nc nF np ntr nb mbestCost nso nsi nit nsh nsf nss nrc mtraced mdealer mnumber mwhose msize misParted vG (by omega) (by omega)) si_X12_145 [0, 2] [1] rfl rfl (by decide) rfl (by decide) (by decide) rfl rfl rfl rfl rfl (Nat.le_of_ble_eq_true rfl) ⟨Nat.le_of_ble_eq_true rfl, Nat.le_of_ble_eq_true rfl⟩ ⟨Nat.le_of_ble_eq_true rfl, Nat.le_of_ble_eq_true rfl⟩ dX12_findClocks_266 (fun u10315 H locs hr10314 hP hD hS => ?_)
                      obtain ⟨gnm10316, rfl⟩ : ∃ z9, z9 = u10315 := ⟨_, rfl⟩
                      try dsimp only at hr10314
                      have hPD : va_PD G A [(nw, .inl (G.2.1, 1662, .inl fnw)), (h0, .inr (12, [.ref nw, .ref nk, .int mhasKept, .ref nt, .int mtaped, .ref nr, .int mrowMany, .int mroundOf, .int mroundFrom, .int 0, .ref nm, .int mfromHour, .int mtoHour, .ref ns, .int mfrom, .int mto, .int msort, .int misFault, .int mdeep, .int mcoded, .int mlines, .ref nl, .ref nc, .ref nF, .ref np, .ref ntr, .ref nb, .int mbestCost, .ref nso, .ref nsi, .ref nit, .ref nsh, .ref nsf, .ref nss, .ref nrc, .int mtraced, .int mdealer, .int mnumber, .int mwhose, .int msize, .int misParted])), (nm, .inl (G.2.1, 36, .inl gnm10316))] H := And.intro hP hD
                      obtain ⟨hP, hD⟩ := hPD
                      have w10317 := hr10314
                      refine lv_iinc (v := nI (kG + 1)) (lv' := [(3, .int (nI (kG + 1))), (2, .int (nI kY)), (1, .int (nI kE)), (0, .ref h0)]) hx hb dX12_findClocks_269 hl (k := 0) rfl (nI_1 _) (by decide) rfl (fun ls hl => ?_)
                      refine lv_goto (tgt := 234) hx hb dX12_findClocks_272 (by decide) ?_
                      obtain ⟨hP, hD⟩ := PD_sub (ws' := [(h0, .inr (12, [.ref nw, .ref nk, .int mhasKept, .ref nt, .int mtaped, .ref nr, .int mrowMany, .int mroundOf, .int mroundFrom, .int 0, .ref nm, .int mfromHour, .int mtoHour, .ref ns, .int mfrom, .int mto, .int msort, .int misFault, .int mdeep, .int mcoded, .int mlines, .ref nl, .ref nc, .ref nF, .ref np, .ref ntr, .ref nb, .int mbestCost, .ref nso, .ref nsi, .ref nit, .ref nsh, .ref nsf, .ref nss, .ref nrc, .int mtraced, .int mdealer, .int mnumber, .int mwhose, .int msize, .int misParted])), (nw, .inl (G.2.1, 1662, .inl fnw)), (nm, .inl (G.2.1, 36, .inl gnm10316))]) hP hD [1, 0, 2] rfl (by decide) rfl
                      have hst9 : FWS (KST (shf fnw 104) (VSE fnw kq) (fnw 3).toInt k6) kE kY (kG + 1) (MAT vE) (MAT gnm10316) := hvG.put (by omega) (by omega) (by omega) (fun x9 y9 hx9 hy9 => by rw [← hvG.sum (by omega) (by omega) (by omega)]; exact w10317 x9 y9 hx9 hy9)
                      exact ihG (kG + 1) gnm10316 _ _ _ (by omega) (by first | assumption | exact Or.inl rfl | exact Or.inr rfl) (And.intro hP hD) hS (lv_sub hl [0, 1, 2, 3] rfl)
                  exact keyG 6 0 vY _ _ _ (by omega) (by first | assumption | exact Or.inl rfl | exact Or.inr rfl) (And.intro hP hD) hS (lv_sub hl [0, 1, 2, 3] rfl)
              exact keyY 6 0 vE _ _ _ (by omega) (by first | assumption | exact Or.inl rfl | exact Or.inr rfl | exact hvE.to) (And.intro hP hD) hS (lv_sub hl [0, 1, 2] rfl)
          exact keyE 6 0 vC _ _ _ (by omega) (by first | assumption | exact Or.inl rfl | exact Or.inr rfl) (And.intro hP hD) hS (lv_sub hl [0, 1] rfl)
        | succ nC ihC =>
          intro kC vC H locs ls hkC hvC hPD hS hl
          obtain ⟨hP, hD⟩ := hPD
          refine lv_iload_n hx hb dX12_findClocks_65 rfl (lv_at hl 0 rfl) ?_
          refine lv_aload_n hx hb dX12_findClocks_66 rfl (lv_at hl 1 rfl) ?_
          refine gf_X12_9 hC rfl hK hP 0 rfl rfl dX12_findClocks_67 ?_
          refine lv_iconst (v := 5) hx hb dX12_findClocks_70 (by decide) ?_
          refine ald hC hK hP 1 rfl (vin (by decide +kernel)) (k := 5) (by decide +kernel) (v := nI kq) (ekq) dX12_findClocks_71 ?_
          refine lv_icmp_ge (tgt := 216) hx hb dX12_findClocks_72 (by decide) (fun c9 => absurd c9 (nI_ge (a := kC) (b := kq) (by omega) (by omega))) (fun _ => ?_)
          refine lv_aload_n hx hb dX12_findClocks_75 rfl (lv_at hl 1 rfl) ?_
          refine lv_iload_n hx hb dX12_findClocks_76 rfl (lv_at hl 0 rfl) ?_
          refine pV hC hK hl hP hD (m_isInX l G h0 kC nw nk mhasKept nt mtaped nr mrowMany mroundOf mroundFrom nm mfromHour mtoHour ns mfrom mto msort misFault mdeep mcoded mlines nl nc nF np ntr nb mbestCost nso nsi nit nsh nsf nss nrc mtraced mdealer mnumber mwhose msize misParted fnw (by omega)) si_X12_103 [0, 1] rfl rfl (by decide) rfl rfl rfl rfl rfl (Nat.le_of_ble_eq_true rfl) ⟨Nat.le_of_ble_eq_true rfl, Nat.le_of_ble_eq_true rfl⟩ ⟨by first | exact Nat.le_of_ble_eq_true rfl | exact Nat.zero_le _, by first | exact Nat.le_of_ble_eq_true rfl | exact Nat.zero_le _⟩ dX12_findClocks_77 (fun r10318 hr10318 => ?_)
          rcases hr10318 with ⟨rfl, a10319⟩ | ⟨rfl, a10319⟩
          · refine lv_if_eq (tgt := 91) hx hb dX12_findClocks_80 (by decide) (fun c9 => absurd c9 (by decide)) (fun _ => ?_)
            refine lv_aload_n hx hb dX12_findClocks_83 rfl (lv_at hl 1 rfl) ?_
            refine lv_iload_n hx hb dX12_findClocks_84 rfl (lv_at hl 0 rfl) ?_
            refine pV hC hK hl hP hD (m_stampsOf l G k6 h0 (nI kC) nw nk mhasKept nt mtaped nr mrowMany mroundOf mroundFrom 0 nm mfromHour mtoHour ns mfrom mto msort misFault mdeep mcoded mlines nl nc nF np ntr nb mbestCost nso nsi nit nsh nsf nss nrc mtraced mdealer mnumber mwhose msize misParted fnw (e6) (hk6)) si_X12_130 [0, 1] rfl rfl (by decide) rfl rfl rfl rfl rfl (Nat.le_of_ble_eq_true rfl) ⟨Nat.le_of_ble_eq_true rfl, Nat.le_of_ble_eq_true rfl⟩ ⟨by first | exact Nat.le_of_ble_eq_true rfl | exact Nat.zero_le _, by first | exact Nat.le_of_ble_eq_true rfl | exact Nat.zero_le _⟩ dX12_findClocks_85 (fun r10320 hr10320 => ?_)
            obtain rfl := hr10320
            refine lv_goto (tgt := 92) hx hb dX12_findClocks_88 (by decide) ?_
            refine lv_istore_n (lv' := [(2, .int (nI (cntS fnw (nI kC) k6))), (1, .int (nI kC)), (0, .ref h0)]) hx hb dX12_findClocks_92 rfl hl (by decide) rfl (fun ls hl => ?_)
            refine lv_iconst (v := 1) hx hb dX12_findClocks_93 (by decide) ?_
            refine lv_istore_n (lv' := [(3, .int 1), (2, .int (nI (cntS fnw (nI kC) k6))), (1, .int (nI kC)), (0, .ref h0)]) hx hb dX12_findClocks_94 rfl hl (by decide) rfl (fun ls hl => ?_)
            have hcl9 := cntS_le fnw (nI kC) k6
            rcases Nat.eq_zero_or_pos (cntS fnw (nI kC) k6) with hz9 | hz9
            · refine lv_iload_n hx hb dX12_findClocks_95 rfl (lv_at hl 0 rfl) ?_
              refine lv_iload_n hx hb dX12_findClocks_96 rfl (lv_at hl 1 rfl) ?_
              refine lv_icmp_ge (tgt := 210) hx hb dX12_findClocks_97 (by decide) (fun _ => ?_) (fun c9 => absurd ((by rw [hz9]; decide)) c9)
              refine lv_iinc (v := nI (kC + 1)) (lv' := [(1, .int (nI (kC + 1))), (3, .int 1), (2, .int (nI (cntS fnw (nI kC) k6))), (0, .ref h0)]) hx hb dX12_findClocks_210 hl (k := 2) rfl (nI_1 _) (by decide) rfl (fun ls hl => ?_)
              refine lv_goto (tgt := 65) hx hb dX12_findClocks_213 (by decide) ?_
              have hst9 : PHI (KST (shf fnw 104) (VSE fnw kq) (fnw 3).toInt k6) (KCV fnw (VSE fnw kq) (fnw 3).toInt k6 (kC + 1) 1) (MAT vC) := hvC.paper (fun _ => by omega)
              exact ihC (kC + 1) vC _ _ _ (by omega) (by first | assumption | exact Or.inl rfl | exact Or.inr rfl) (And.intro hP hD) hS (lv_sub hl [0, 3] rfl)
            · have keyD : ∀ (nD kD : Nat) (vD : Nat → Int32) (H : Heap) (locs : List Loc) (ls : Array Slot), kD + nD = (cntS fnw (nI kC) k6) → (1 ≤ kD) → (PHI (KST (shf fnw 104) (VSE fnw kq) (fnw 3).toInt k6) (KCV fnw (VSE fnw kq) (fnw 3).toInt k6 kC kD) (MAT vD)) → va_PD G A [(h0, .inr (12, [.ref nw, .ref nk, .int mhasKept, .ref nt, .int mtaped, .ref nr, .int mrowMany, .int mroundOf, .int mroundFrom, .int 0, .ref nm, .int mfromHour, .int mtoHour, .ref ns, .int mfrom, .int mto, .int msort, .int misFault, .int mdeep, .int mcoded, .int mlines, .ref nl, .ref nc, .ref nF, .ref np, .ref ntr, .ref nb, .int mbestCost, .ref nso, .ref nsi, .ref nit, .ref nsh, .ref nsf, .ref nss, .ref nrc, .int mtraced, .int mdealer, .int mnumber, .int mwhose, .int msize, .int misParted])), (nw, .inl (G.2.1, 1662, .inl fnw)), (nm, .inl (G.2.1, 36, .inl vD))] H → va_S A s.heap H locs → lv_has ls 7 [(3, .int (nI kD)), (2, .int (nI (cntS fnw (nI kC) k6))), (1, .int (nI kC)), (0, .ref h0)] → W p l e (RM 4 0 0) s m ([.ref h0] : List Value).toArray below meth c H locs 0 0 (MQ below (QI G (fun (r : Int32) (u : (Nat → Int32)) => ((r = 1 ∧ NOS (KST (shf fnw 104) (VSE fnw kq) (fnw 3).toInt k6)) ∨ (r = 0 ∧ CLB (KST (shf fnw 104) (VSE fnw kq) (fnw 3).toInt k6) (MAT u))) ∧ (MB u)) (fun u : (Nat → Int32) => [(h0, .inr (12, [.ref nw, .ref nk, .int mhasKept, .ref nt, .int mtaped, .ref nr, .int mrowMany, .int mroundOf, .int mroundFrom, .int 0, .ref nm, .int mfromHour, .int mtoHour, .ref ns, .int mfrom, .int mto, .int msort, .int misFault, .int mdeep, .int mcoded, .int mlines, .ref nl, .ref nc, .ref nF, .ref np, .ref ntr, .ref nb, .int mbestCost, .ref nso, .ref nsi, .ref nit, .ref nsh, .ref nsf, .ref nss, .ref nrc, .int mtraced, .int mdealer, .int mnumber, .int mwhose, .int msize, .int misParted])), (nw, .inl (G.2.1, 1662, .inl fnw)), (nm, .inl (G.2.1, 36, .inl u))]) A) ([.ref h0] : List Value).toArray s 0 0 A) (F0 m 95 ls []) := by
                intro nD
                induction nD with
                | zero =>
                  intro kD vD H locs ls hkD hk1 hvD hPD hS hl
                  obtain ⟨hP, hD⟩ := hPD
                  obtain rfl : (cntS fnw (nI kC) k6) = kD := by omega
                  have hl : lv_has ls 7 [(3, .int (nI (cntS fnw (nI kC) k6))), (2, .int (nI (cntS fnw (nI kC) k6))), (1, .int (nI kC)), (0, .ref h0)] := hl
                  refine lv_iload_n hx hb dX12_findClocks_95 rfl (lv_at hl 0 rfl) ?_
                  refine lv_iload_n hx hb dX12_findClocks_96 rfl (lv_at hl 1 rfl) ?_
                  refine lv_icmp_ge (tgt := 210) hx hb dX12_findClocks_97 (by decide) (fun _ => ?_) (fun c9 => absurd (Int32.le_refl _) c9)
                  refine lv_iinc (v := nI (kC + 1)) (lv' := [(1, .int (nI (kC + 1))), (3, .int (nI (cntS fnw (nI kC) k6))), (2, .int (nI (cntS fnw (nI kC) k6))), (0, .ref h0)]) hx hb dX12_findClocks_210 hl (k := 2) rfl (nI_1 _) (by decide) rfl (fun ls hl => ?_)
                  refine lv_goto (tgt := 65) hx hb dX12_findClocks_213 (by decide) ?_
                  have hst9 : PHI (KST (shf fnw 104) (VSE fnw kq) (fnw 3).toInt k6) (KCV fnw (VSE fnw kq) (fnw 3).toInt k6 (kC + 1) 1) (MAT vD) := hvD.paper (fun _ => Nat.le_refl _)
                  exact ihC (kC + 1) vD _ _ _ (by omega) (by first | assumption | exact Or.inl rfl | exact Or.inr rfl) (And.intro hP hD) hS (lv_sub hl [0, 3] rfl)
                | succ nD ihD =>
                  intro kD vD H locs ls hkD hk1 hvD hPD hS hl
                  obtain ⟨hP, hD⟩ := hPD
                  refine lv_iload_n hx hb dX12_findClocks_95 rfl (lv_at hl 0 rfl) ?_
                  refine lv_iload_n hx hb dX12_findClocks_96 rfl (lv_at hl 1 rfl) ?_
                  refine lv_icmp_ge (tgt := 210) hx hb dX12_findClocks_97 (by decide) (fun c9 => absurd c9 (nI_ge (a := kD) (b := (cntS fnw (nI kC) k6)) (by omega) (by omega))) (fun _ => ?_)
                  refine lv_bipush (v := 104) hx hb dX12_findClocks_100 (by decide) ?_
                  refine lv_iconst (v := 3) hx hb dX12_findClocks_102 (by decide) ?_
                  refine lv_aload_n hx hb dX12_findClocks_103 rfl (lv_at hl 3 rfl) ?_
                  refine lv_iload_n hx hb dX12_findClocks_104 rfl (lv_at hl 2 rfl) ?_
                  refine lv_iload_n hx hb dX12_findClocks_105 rfl (lv_at hl 0 rfl) ?_
                  refine lv_iconst (v := 1) hx hb dX12_findClocks_106 (by decide) ?_
                  refine lv_isub hx hb dX12_findClocks_107 ?_
                  refine eqi (x1 := nI (kD - 1)) (nI_sb (by omega)) ?_
                  refine pV hC hK hl hP hD (m_stampAtX l G k6 h0 kC (kD - 1) nw nk mhasKept nt mtaped nr mrowMany mroundOf mroundFrom 0 nm mfromHour mtoHour ns mfrom mto msort misFault mdeep mcoded mlines nl nc nF np ntr nb mbestCost nso nsi nit nsh nsf nss nrc mtraced mdealer mnumber mwhose msize misParted fnw (e6) (hk6) (by omega)) si_X12_142 [0, 1] rfl rfl (by decide) rfl rfl rfl rfl rfl (Nat.le_of_ble_eq_true rfl) ⟨Nat.le_of_ble_eq_true rfl, Nat.le_of_ble_eq_true rfl⟩ ⟨by first | exact Nat.le_of_ble_eq_true rfl | exact Nat.zero_le _, by first | exact Nat.le_of_ble_eq_true rfl | exact Nat.zero_le _⟩ dX12_findClocks_108 (fun r10322 hr10322 => ?_)
                  obtain ⟨s9_10323, hpx10323, rfl⟩ := hr10322
                  try dsimp only at hpx10323
                  refine lv_imul hx hb dX12_findClocks_111 ?_
                  refine eqi (x1 := nI (3 * s9_10323)) (nI_mul 3 s9_10323) ?_
                  refine lv_iadd hx hb dX12_findClocks_112 ?_
                  refine eqi (x1 := nI (104 + 3 * s9_10323)) (nI_add 104 (3 * s9_10323)) ?_
                  refine lv_istore (lv' := [(4, .int (nI (104 + 3 * s9_10323))), (3, .int (nI kD)), (2, .int (nI (cntS fnw (nI kC) k6))), (1, .int (nI kC)), (0, .ref h0)]) hx hb dX12_findClocks_113 hl (by decide) rfl (fun ls hl => ?_)
                  refine lv_bipush (v := 104) hx hb dX12_findClocks_115 (by decide) ?_
                  refine lv_iconst (v := 3) hx hb dX12_findClocks_117 (by decide) ?_
                  refine lv_aload_n hx hb dX12_findClocks_118 rfl (lv_at hl 4 rfl) ?_
                  refine lv_iload_n hx hb dX12_findClocks_119 rfl (lv_at hl 3 rfl) ?_
                  refine lv_iload_n hx hb dX12_findClocks_120 rfl (lv_at hl 1 rfl) ?_
                  refine pV hC hK hl hP hD (m_stampAtX l G k6 h0 kC kD nw nk mhasKept nt mtaped nr mrowMany mroundOf mroundFrom 0 nm mfromHour mtoHour ns mfrom mto msort misFault mdeep mcoded mlines nl nc nF np ntr nb mbestCost nso nsi nit nsh nsf nss nrc mtraced mdealer mnumber mwhose msize misParted fnw (e6) (hk6) (by omega)) si_X12_142 [0, 1] rfl rfl (by decide) rfl rfl rfl rfl rfl (Nat.le_of_ble_eq_true rfl) ⟨Nat.le_of_ble_eq_true rfl, Nat.le_of_ble_eq_true rfl⟩ ⟨by first | exact Nat.le_of_ble_eq_true rfl | exact Nat.zero_le _, by first | exact Nat.le_of_ble_eq_true rfl | exact Nat.zero_le _⟩ dX12_findClocks_121 (fun r10324 hr10324 => ?_)
                  obtain ⟨s9_10325, hpx10325, rfl⟩ := hr10324
                  try dsimp only at hpx10325
                  refine lv_imul hx hb dX12_findClocks_124 ?_
                  refine eqi (x1 := nI (3 * s9_10325)) (nI_mul 3 s9_10325) ?_
                  refine lv_iadd hx hb dX12_findClocks_125 ?_
                  refine eqi (x1 := nI (104 + 3 * s9_10325)) (nI_add 104 (3 * s9_10325)) ?_
                  refine lv_istore (lv' := [(5, .int (nI (104 + 3 * s9_10325))), (4, .int (nI (104 + 3 * s9_10323))), (3, .int (nI kD)), (2, .int (nI (cntS fnw (nI kC) k6))), (1, .int (nI kC)), (0, .ref h0)]) hx hb dX12_findClocks_126 hl (by decide) rfl (fun ls hl => ?_)
                  obtain ⟨cc10326, hcc10326, ecc10326⟩ := NI.nat hN (i := 104 + 3 * s9_10323 + 1) (B := 5) (bnd_st1 (s := s9_10323) rfl (by have h9 := hpx10323.1; omega)) (by decide)
                  have hh1 : 0 ≤ (fnw (104 + 3 * s9_10323 + 2)).toInt ∧ (fnw (104 + 3 * s9_10323 + 2)).toInt ≤ 999 := NI.hour hN (by have h9 := hpx10323.1; omega)
                  have hs1b := hpx10323.1
                  obtain ⟨cc10327, hcc10327, ecc10327⟩ := NI.nat hN (i := 104 + 3 * s9_10325 + 1) (B := 5) (bnd_st1 (s := s9_10325) rfl (by have h9 := hpx10325.1; omega)) (by decide)
                  have hh2 : 0 ≤ (fnw (104 + 3 * s9_10325 + 2)).toInt ∧ (fnw (104 + 3 * s9_10325 + 2)).toInt ≤ 999 := NI.hour hN (by have h9 := hpx10325.1; omega)
                  have hs2b := hpx10325.1
                  refine lv_aload_n hx hb dX12_findClocks_128 rfl (lv_at hl 5 rfl) ?_
                  refine gf_X12_9 hC rfl hK hP 0 rfl rfl dX12_findClocks_129 ?_
                  refine lv_iload hx hb dX12_findClocks_132 (lv_at hl 0 rfl) ?_
                  refine lv_iconst (v := 2) hx hb dX12_findClocks_134 (by decide) ?_
                  refine lv_iadd hx hb dX12_findClocks_135 ?_
                  refine eqi (x1 := nI (104 + 3 * s9_10325 + 2)) (nI_add (104 + 3 * s9_10325) 2) ?_
                  refine ald hC hK hP 1 rfl (vp_in_nI (by omega) (by omega)) (k := (104 + 3 * s9_10325 + 2)) (nI_clamp (by omega)) (v := fnw (104 + 3 * s9_10325 + 2)) rfl dX12_findClocks_136 ?_
                  refine lv_aload_n hx hb dX12_findClocks_137 rfl (lv_at hl 5 rfl) ?_
                  refine gf_X12_9 hC rfl hK hP 0 rfl rfl dX12_findClocks_138 ?_
                  refine lv_iload hx hb dX12_findClocks_141 (lv_at hl 1 rfl) ?_
                  refine lv_iconst (v := 2) hx hb dX12_findClocks_143 (by decide) ?_
                  refine lv_iadd hx hb dX12_findClocks_144 ?_
                  refine eqi (x1 := nI (104 + 3 * s9_10323 + 2)) (nI_add (104 + 3 * s9_10323) 2) ?_
                  refine ald hC hK hP 1 rfl (vp_in_nI (by omega) (by omega)) (k := (104 + 3 * s9_10323 + 2)) (nI_clamp (by omega)) (v := fnw (104 + 3 * s9_10323 + 2)) rfl dX12_findClocks_145 ?_
                  refine lv_isub hx hb dX12_findClocks_146 ?_
                  refine lv_istore (lv' := [(6, .int ((fnw (104 + 3 * s9_10325 + 2)) - (fnw (104 + 3 * s9_10323 + 2)))), (5, .int (nI (104 + 3 * s9_10325))), (4, .int (nI (104 + 3 * s9_10323))), (3, .int (nI kD)), (2, .int (nI (cntS fnw (nI kC) k6))), (1, .int (nI kC)), (0, .ref h0)]) hx hb dX12_findClocks_147 hl (by decide) rfl (fun ls hl => ?_)
                  refine lv_aload_n hx hb dX12_findClocks_149 rfl (lv_at hl 6 rfl) ?_
                  refine lv_aload_n hx hb dX12_findClocks_150 rfl (lv_at hl 6 rfl) ?_
                  refine gf_X12_9 hC rfl hK hP 0 rfl rfl dX12_findClocks_151 ?_
                  refine lv_iload hx hb dX12_findClocks_154 (lv_at hl 2 rfl) ?_
                  refine lv_iconst (v := 1) hx hb dX12_findClocks_156 (by decide) ?_
                  refine lv_iadd hx hb dX12_findClocks_157 ?_
                  refine eqi (x1 := nI (104 + 3 * s9_10323 + 1)) (nI_add (104 + 3 * s9_10323) 1) ?_
                  refine ald hC hK hP 1 rfl (vp_in_nI (by omega) (by omega)) (k := 104 + 3 * s9_10323 + 1) (nI_clamp (by omega)) (v := nI cc10326) (ecc10326) dX12_findClocks_158 ?_
                  refine lv_aload_n hx hb dX12_findClocks_159 rfl (lv_at hl 6 rfl) ?_
                  refine gf_X12_9 hC rfl hK hP 0 rfl rfl dX12_findClocks_160 ?_
                  refine lv_iload hx hb dX12_findClocks_163 (lv_at hl 1 rfl) ?_
                  refine lv_iconst (v := 1) hx hb dX12_findClocks_165 (by decide) ?_
                  refine lv_iadd hx hb dX12_findClocks_166 ?_
                  refine eqi (x1 := nI (104 + 3 * s9_10325 + 1)) (nI_add (104 + 3 * s9_10325) 1) ?_
                  refine ald hC hK hP 1 rfl (vp_in_nI (by omega) (by omega)) (k := 104 + 3 * s9_10325 + 1) (nI_clamp (by omega)) (v := nI cc10327) (ecc10327) dX12_findClocks_167 ?_
                  refine lv_iload hx hb dX12_findClocks_168 (lv_at hl 0 rfl) ?_
                  refine vV (wr := [(nw, .inl (G.2.1, 1662, .inl fnw))]) hC hK hl hP hD hS hA (m_atMostX l G h0 cc10326 cc10327 ((fnw (104 + 3 * s9_10325 + 2)) - (fnw (104 + 3 * s9_10323 + 2))) nw nk mhasKept nt mtaped nr mrowMany mroundOf mroundFrom 0 nm mfromHour mtoHour ns mfrom mto msort misFault mdeep mcoded mlines nl nc nF np ntr nb mbestCost nso nsi nit nsh nsf nss nrc mtraced mdealer mnumber mwhose msize misParted vD (by omega) (by omega)) si_X12_145 [0, 2] [1] rfl rfl (by decide) rfl (by decide) (by decide) rfl rfl rfl rfl rfl (Nat.le_of_ble_eq_true rfl) ⟨Nat.le_of_ble_eq_true rfl, Nat.le_of_ble_eq_true rfl⟩ ⟨Nat.le_of_ble_eq_true rfl, Nat.le_of_ble_eq_true rfl⟩ dX12_findClocks_170 (fun u10329 H locs hr10328 hP hD hS => ?_)
                  obtain ⟨gnm10330, rfl⟩ : ∃ z9, z9 = u10329 := ⟨_, rfl⟩
                  try dsimp only at hr10328
                  have hPD : va_PD G A [(nw, .inl (G.2.1, 1662, .inl fnw)), (h0, .inr (12, [.ref nw, .ref nk, .int mhasKept, .ref nt, .int mtaped, .ref nr, .int mrowMany, .int mroundOf, .int mroundFrom, .int 0, .ref nm, .int mfromHour, .int mtoHour, .ref ns, .int mfrom, .int mto, .int msort, .int misFault, .int mdeep, .int mcoded, .int mlines, .ref nl, .ref nc, .ref nF, .ref np, .ref ntr, .ref nb, .int mbestCost, .ref nso, .ref nsi, .ref nit, .ref nsh, .ref nsf, .ref nss, .ref nrc, .int mtraced, .int mdealer, .int mnumber, .int mwhose, .int msize, .int misParted])), (nm, .inl (G.2.1, 36, .inl gnm10330))] H := And.intro hP hD
                  obtain ⟨hP, hD⟩ := hPD
                  have w10331 := hr10328
                  refine lv_aload_n hx hb dX12_findClocks_173 rfl (lv_at hl 6 rfl) ?_
                  refine lv_aload_n hx hb dX12_findClocks_174 rfl (lv_at hl 6 rfl) ?_
                  refine gf_X12_9 hC rfl hK hP 1 rfl rfl dX12_findClocks_175 ?_
                  refine lv_iload hx hb dX12_findClocks_178 (lv_at hl 1 rfl) ?_
                  refine lv_iconst (v := 1) hx hb dX12_findClocks_180 (by decide) ?_
                  refine lv_iadd hx hb dX12_findClocks_181 ?_
                  refine eqi (x1 := nI (104 + 3 * s9_10325 + 1)) (nI_add (104 + 3 * s9_10325) 1) ?_
                  refine ald hC hK hP 0 rfl (vp_in_nI (by omega) (by omega)) (k := 104 + 3 * s9_10325 + 1) (nI_clamp (by omega)) (v := nI cc10327) (ecc10327) dX12_findClocks_182 ?_
                  refine lv_aload_n hx hb dX12_findClocks_183 rfl (lv_at hl 6 rfl) ?_
                  refine gf_X12_9 hC rfl hK hP 1 rfl rfl dX12_findClocks_184 ?_
                  refine lv_iload hx hb dX12_findClocks_187 (lv_at hl 2 rfl) ?_
                  refine lv_iconst (v := 1) hx hb dX12_findClocks_189 (by decide) ?_
                  refine lv_iadd hx hb dX12_findClocks_190 ?_
                  refine eqi (x1 := nI (104 + 3 * s9_10323 + 1)) (nI_add (104 + 3 * s9_10323) 1) ?_
                  refine ald hC hK hP 0 rfl (vp_in_nI (by omega) (by omega)) (k := 104 + 3 * s9_10323 + 1) (nI_clamp (by omega)) (v := nI cc10326) (ecc10326) dX12_findClocks_191 ?_
                  refine lv_aload_n hx hb dX12_findClocks_192 rfl (lv_at hl 6 rfl) ?_
                  refine gf_X12_9 hC rfl hK hP 1 rfl rfl dX12_findClocks_193 ?_
                  refine lv_iconst (v := 3) hx hb dX12_findClocks_196 (by decide) ?_
                  refine ald hC hK hP 0 rfl (vin (by decide +kernel)) (k := 3) (by decide +kernel) (v := fnw 3) (rfl) dX12_findClocks_197 ?_
                  refine lv_iload hx hb dX12_findClocks_198 (lv_at hl 0 rfl) ?_
                  refine lv_isub hx hb dX12_findClocks_200 ?_
                  refine vV (wr := [(nw, .inl (G.2.1, 1662, .inl fnw))]) hC hK hl hP hD hS hA (m_atMostX l G h0 cc10327 cc10326 ((fnw 3) - ((fnw (104 + 3 * s9_10325 + 2)) - (fnw (104 + 3 * s9_10323 + 2)))) nw nk mhasKept nt mtaped nr mrowMany mroundOf mroundFrom 0 nm mfromHour mtoHour ns mfrom mto msort misFault mdeep mcoded mlines nl nc nF np ntr nb mbestCost nso nsi nit nsh nsf nss nrc mtraced mdealer mnumber mwhose msize misParted gnm10330 (by omega) (by omega)) si_X12_145 [1, 2] [0] rfl rfl (by decide) rfl (by decide) (by decide) rfl rfl rfl rfl rfl (Nat.le_of_ble_eq_true rfl) ⟨Nat.le_of_ble_eq_true rfl, Nat.le_of_ble_eq_true rfl⟩ ⟨Nat.le_of_ble_eq_true rfl, Nat.le_of_ble_eq_true rfl⟩ dX12_findClocks_201 (fun u10333 H locs hr10332 hP hD hS => ?_)
                  obtain ⟨gnm10334, rfl⟩ : ∃ z9, z9 = u10333 := ⟨_, rfl⟩
                  try dsimp only at hr10332
                  have hPD : va_PD G A [(nw, .inl (G.2.1, 1662, .inl fnw)), (h0, .inr (12, [.ref nw, .ref nk, .int mhasKept, .ref nt, .int mtaped, .ref nr, .int mrowMany, .int mroundOf, .int mroundFrom, .int 0, .ref nm, .int mfromHour, .int mtoHour, .ref ns, .int mfrom, .int mto, .int msort, .int misFault, .int mdeep, .int mcoded, .int mlines, .ref nl, .ref nc, .ref nF, .ref np, .ref ntr, .ref nb, .int mbestCost, .ref nso, .ref nsi, .ref nit, .ref nsh, .ref nsf, .ref nss, .ref nrc, .int mtraced, .int mdealer, .int mnumber, .int mwhose, .int msize, .int misParted])), (nm, .inl (G.2.1, 36, .inl gnm10334))] H := And.intro hP hD
                  obtain ⟨hP, hD⟩ := hPD
                  have w10335 := hr10332
                  refine lv_iinc (v := nI (kD + 1)) (lv' := [(3, .int (nI (kD + 1))), (6, .int ((fnw (104 + 3 * s9_10325 + 2)) - (fnw (104 + 3 * s9_10323 + 2)))), (5, .int (nI (104 + 3 * s9_10325))), (4, .int (nI (104 + 3 * s9_10323))), (2, .int (nI (cntS fnw (nI kC) k6))), (1, .int (nI kC)), (0, .ref h0)]) hx hb dX12_findClocks_204 hl (k := 3) rfl (nI_1 _) (by decide) rfl (fun ls hl => ?_)
                  refine lv_goto (tgt := 95) hx hb dX12_findClocks_207 (by decide) ?_
                  obtain ⟨hP, hD⟩ := PD_sub (ws' := [(h0, .inr (12, [.ref nw, .ref nk, .int mhasKept, .ref nt, .int mtaped, .ref nr, .int mrowMany, .int mroundOf, .int mroundFrom, .int 0, .ref nm, .int mfromHour, .int mtoHour, .ref ns, .int mfrom, .int mto, .int msort, .int misFault, .int mdeep, .int mcoded, .int mlines, .ref nl, .ref nc, .ref nF, .ref np, .ref ntr, .ref nb, .int mbestCost, .ref nso, .ref nsi, .ref nit, .ref nsh, .ref nsf, .ref nss, .ref nrc, .int mtraced, .int mdealer, .int mnumber, .int mwhose, .int msize, .int misParted])), (nw, .inl (G.2.1, 1662, .inl fnw)), (nm, .inl (G.2.1, 36, .inl gnm10334))]) hP hD [1, 0, 2] rfl (by decide) rfl
                  have hst9 : PHI (KST (shf fnw 104) (VSE fnw kq) (fnw 3).toInt k6) (KCV fnw (VSE fnw kq) (fnw 3).toInt k6 kC (kD + 1)) (MAT gnm10334) := hvD.stepR hpx10323 hpx10325 hk1 (by omega) ⟨by omega, a10319⟩ ecc10326 ecc10327 (by omega) (by omega) hh1.1 hh1.2 hh2.1 hh2.2 hgp w10331 w10335
                  exact ihD (kD + 1) gnm10334 _ _ _ (by omega) (by first | assumption | exact Or.inl rfl | exact Or.inr rfl | omega) (by first | assumption | exact Or.inl rfl | exact Or.inr rfl | omega) (And.intro hP hD) hS (lv_sub hl [0, 4, 5, 6] rfl)
              exact keyD ((cntS fnw (nI kC) k6) - 1) 1 vC _ _ _ (by omega) (by first | assumption | exact Or.inl rfl | exact Or.inr rfl | omega) (by first | assumption | exact Or.inl rfl | exact Or.inr rfl | omega) (And.intro hP hD) hS (lv_sub hl [0, 1, 2, 3] rfl)
          · refine lv_if_eq (tgt := 91) hx hb dX12_findClocks_80 (by decide) (fun _ => ?_) (fun c9 => absurd (by decide) c9)
            refine lv_iconst (v := 0) hx hb dX12_findClocks_91 (by decide) ?_
            refine lv_istore_n (lv' := [(2, .int 0), (1, .int (nI kC)), (0, .ref h0)]) hx hb dX12_findClocks_92 rfl hl (by decide) rfl (fun ls hl => ?_)
            refine lv_iconst (v := 1) hx hb dX12_findClocks_93 (by decide) ?_
            refine lv_istore_n (lv' := [(3, .int 1), (2, .int 0), (1, .int (nI kC)), (0, .ref h0)]) hx hb dX12_findClocks_94 rfl hl (by decide) rfl (fun ls hl => ?_)
            refine lv_iload_n hx hb dX12_findClocks_95 rfl (lv_at hl 0 rfl) ?_
            refine lv_iload_n hx hb dX12_findClocks_96 rfl (lv_at hl 1 rfl) ?_
            refine lv_icmp_ge (tgt := 210) hx hb dX12_findClocks_97 (by decide) (fun _ => ?_) (fun c9 => absurd (by decide) c9)
            refine lv_iinc (v := nI (kC + 1)) (lv' := [(1, .int (nI (kC + 1))), (3, .int 1), (2, .int 0), (0, .ref h0)]) hx hb dX12_findClocks_210 hl (k := 2) rfl (nI_1 _) (by decide) rfl (fun ls hl => ?_)
            refine lv_goto (tgt := 65) hx hb dX12_findClocks_213 (by decide) ?_
            have hst9 : PHI (KST (shf fnw 104) (VSE fnw kq) (fnw 3).toInt k6) (KCV fnw (VSE fnw kq) (fnw 3).toInt k6 (kC + 1) 1) (MAT vC) := hvC.paper (fun h9 => absurd h9.2 a10319)
            exact ihC (kC + 1) vC _ _ _ (by omega) (by first | assumption | exact Or.inl rfl | exact Or.inr rfl) (And.intro hP hD) hS (lv_sub hl [0, 3] rfl)
      exact keyC kq 0 vA _ _ _ (by omega) (by first | assumption | exact Or.inl rfl | exact Or.inr rfl) (And.intro hP hD) hS (lv_sub hl [0, 1] rfl)
    | succ nA ihA =>
      intro kA vA H locs ls hkA hvA hPD hS hl
      obtain ⟨hP, hD⟩ := hPD
      refine lv_iload_n hx hb dX12_findClocks_2 rfl (lv_at hl 0 rfl) ?_
      refine lv_bipush (v := 6) hx hb dX12_findClocks_3 (by decide) ?_
      refine lv_icmp_ge (tgt := 63) hx hb dX12_findClocks_5 (by decide) (fun c9 => absurd c9 (nI_ge (a := kA) (b := 6) (by omega) (by omega))) (fun _ => ?_)
      refine lv_iconst (v := 0) hx hb dX12_findClocks_8 (by decide) ?_
      refine lv_istore_n (lv' := [(2, .int 0), (1, .int (nI kA)), (0, .ref h0)]) hx hb dX12_findClocks_9 rfl hl (by decide) rfl (fun ls hl => ?_)
      have keyB : ∀ (nB kB : Nat) (vB : Nat → Int32) (H : Heap) (locs : List Loc) (ls : Array Slot), kB + nB = 6 → (FRP kA kB (MAT vB)) → va_PD G A [(h0, .inr (12, [.ref nw, .ref nk, .int mhasKept, .ref nt, .int mtaped, .ref nr, .int mrowMany, .int mroundOf, .int mroundFrom, .int 0, .ref nm, .int mfromHour, .int mtoHour, .ref ns, .int mfrom, .int mto, .int msort, .int misFault, .int mdeep, .int mcoded, .int mlines, .ref nl, .ref nc, .ref nF, .ref np, .ref ntr, .ref nb, .int mbestCost, .ref nso, .ref nsi, .ref nit, .ref nsh, .ref nsf, .ref nss, .ref nrc, .int mtraced, .int mdealer, .int mnumber, .int mwhose, .int msize, .int misParted])), (nw, .inl (G.2.1, 1662, .inl fnw)), (nm, .inl (G.2.1, 36, .inl vB))] H → va_S A s.heap H locs → lv_has ls 7 [(2, .int (nI kB)), (1, .int (nI kA)), (0, .ref h0)] → W p l e (RM 4 0 0) s m ([.ref h0] : List Value).toArray below meth c H locs 0 0 (MQ below (QI G (fun (r : Int32) (u : (Nat → Int32)) => ((r = 1 ∧ NOS (KST (shf fnw 104) (VSE fnw kq) (fnw 3).toInt k6)) ∨ (r = 0 ∧ CLB (KST (shf fnw 104) (VSE fnw kq) (fnw 3).toInt k6) (MAT u))) ∧ (MB u)) (fun u : (Nat → Int32) => [(h0, .inr (12, [.ref nw, .ref nk, .int mhasKept, .ref nt, .int mtaped, .ref nr, .int mrowMany, .int mroundOf, .int mroundFrom, .int 0, .ref nm, .int mfromHour, .int mtoHour, .ref ns, .int mfrom, .int mto, .int msort, .int misFault, .int mdeep, .int mcoded, .int mlines, .ref nl, .ref nc, .ref nF, .ref np, .ref ntr, .ref nb, .int mbestCost, .ref nso, .ref nsi, .ref nit, .ref nsh, .ref nsf, .ref nss, .ref nrc, .int mtraced, .int mdealer, .int mnumber, .int mwhose, .int msize, .int misParted])), (nw, .inl (G.2.1, 1662, .inl fnw)), (nm, .inl (G.2.1, 36, .inl u))]) A) ([.ref h0] : List Value).toArray s 0 0 A) (F0 m 10 ls []) := by
        intro nB
        induction nB with
        | zero =>
          intro kB vB H locs ls hkB hvB hPD hS hl
          obtain ⟨hP, hD⟩ := hPD
          obtain rfl : 6 = kB := by omega
          have hl : lv_has ls 7 [(2, .int 6), (1, .int (nI kA)), (0, .ref h0)] := hl
          refine lv_iload_n hx hb dX12_findClocks_10 rfl (lv_at hl 0 rfl) ?_
          refine lv_bipush (v := 6) hx hb dX12_findClocks_11 (by decide) ?_
          refine lv_icmp_ge (tgt := 57) hx hb dX12_findClocks_13 (by decide) (fun _ => ?_) (fun c9 => absurd (by decide) c9)
          refine lv_iinc (v := nI (kA + 1)) (lv' := [(1, .int (nI (kA + 1))), (2, .int 6), (0, .ref h0)]) hx hb dX12_findClocks_57 hl (k := 1) rfl (nI_1 _) (by decide) rfl (fun ls hl => ?_)
          refine lv_goto (tgt := 2) hx hb dX12_findClocks_60 (by decide) ?_
          have hst8 : FRP (kA + 1) 0 (MAT vB) := FRP.row hvB
          exact ihA (kA + 1) vB _ _ _ (by omega) (by first | assumption | exact Or.inl rfl | exact Or.inr rfl | exact FRP.zero) (And.intro hP hD) hS (lv_sub hl [0, 2] rfl)
        | succ nB ihB =>
          intro kB vB H locs ls hkB hvB hPD hS hl
          obtain ⟨hP, hD⟩ := hPD
          refine lv_iload_n hx hb dX12_findClocks_10 rfl (lv_at hl 0 rfl) ?_
          refine lv_bipush (v := 6) hx hb dX12_findClocks_11 (by decide) ?_
          refine lv_icmp_ge (tgt := 57) hx hb dX12_findClocks_13 (by decide) (fun c9 => absurd c9 (nI_ge (a := kB) (b := 6) (by omega) (by omega))) (fun _ => ?_)
          refine lv_aload_n hx hb dX12_findClocks_16 rfl (lv_at hl 2 rfl) ?_
          refine gf_X12_26 hC rfl hK hP 0 rfl rfl dX12_findClocks_17 ?_
          refine lv_bipush (v := 6) hx hb dX12_findClocks_20 (by decide) ?_
          refine lv_iload_n hx hb dX12_findClocks_22 rfl (lv_at hl 1 rfl) ?_
          refine lv_imul hx hb dX12_findClocks_23 ?_
          refine eqi (x1 := nI (6 * kA)) (nI_mul 6 kA) ?_
          refine lv_iload_n hx hb dX12_findClocks_24 rfl (lv_at hl 0 rfl) ?_
          refine lv_iadd hx hb dX12_findClocks_25 ?_
          refine eqi (x1 := nI (6 * kA + kB)) (nI_add (6 * kA) kB) ?_
          refine lv_iload_n hx hb dX12_findClocks_26 rfl (lv_at hl 1 rfl) ?_
          refine lv_iload_n hx hb dX12_findClocks_27 rfl (lv_at hl 0 rfl) ?_
          refine lv_icmp_ne (tgt := 35) hx hb dX12_findClocks_28 (by decide) (fun c_28_10336 => ?_) (fun c_28_10336 => ?_)
          · refine lv_iload_n hx hb dX12_findClocks_35 rfl (lv_at hl 1 rfl) ?_
            refine lv_if_eq (tgt := 43) hx hb dX12_findClocks_36 (by decide) (fun c_36_10337 => ?_) (fun c_36_10337 => ?_)
            · refine lv_bipush (v := 60) hx hb dX12_findClocks_43 (by decide) ?_
              refine lv_goto (tgt := 50) hx hb dX12_findClocks_45 (by decide) ?_
              refine ast hC hK hP hD hS 2 (ws' := [(h0, .inr (12, [.ref nw, .ref nk, .int mhasKept, .ref nt, .int mtaped, .ref nr, .int mrowMany, .int mroundOf, .int mroundFrom, .int 0, .ref nm, .int mfromHour, .int mtoHour, .ref ns, .int mfrom, .int mto, .int msort, .int misFault, .int mdeep, .int mcoded, .int mlines, .ref nl, .ref nc, .ref nF, .ref np, .ref ntr, .ref nb, .int mbestCost, .ref nso, .ref nsi, .ref nit, .ref nsh, .ref nsf, .ref nss, .ref nrc, .int mtraced, .int mdealer, .int mnumber, .int mwhose, .int msize, .int misParted])), (nw, .inl (G.2.1, 1662, .inl fnw)), (nm, .inl (G.2.1, 36, .inl (upd vB (6 * kA + kB) 60)))]) rfl (vp_in_nI (by omega) (by omega)) (k := (6 * kA + kB)) (nI_clamp (by omega)) (rfl) dX12_findClocks_50 (fun H locs hP hD hS => ?_)
              refine lv_iinc (v := nI (kB + 1)) (lv' := [(2, .int (nI (kB + 1))), (1, .int (nI kA)), (0, .ref h0)]) hx hb dX12_findClocks_51 hl (k := 0) rfl (nI_1 _) (by decide) rfl (fun ls hl => ?_)
              refine lv_goto (tgt := 10) hx hb dX12_findClocks_54 (by decide) ?_
              have n1 : kA = 0 := nI_z9 (by omega) c_36_10337
              have n3 : ¬ kA = kB := fun h9 => c_28_10336 (congrArg nI h9)
              have hst9 : FRP kA (kB + 1) (MAT (upd vB (6 * kA + kB) 60)) := FRP.set6 hvB (by omega) (by have e0 : (0 : Int32).toInt = 0 := (by decide); have e60 : (60 : Int32).toInt = 60 := (by decide); have e120 : (120 : Int32).toInt = 120 := (by decide); unfold BASW; split <;> (first | omega | (split <;> omega)))
              exact ihB (kB + 1) (upd vB (6 * kA + kB) 60) _ _ _ (by omega) (by first | assumption | exact Or.inl rfl | exact Or.inr rfl) (And.intro hP hD) hS (lv_sub hl [0, 1, 2] rfl)
            · refine lv_iload_n hx hb dX12_findClocks_39 rfl (lv_at hl 0 rfl) ?_
              refine lv_if_ne (tgt := 48) hx hb dX12_findClocks_40 (by decide) (fun c_40_10338 => ?_) (fun c_40_10338 => ?_)
              · refine lv_bipush (v := 120) hx hb dX12_findClocks_48 (by decide) ?_
                refine ast hC hK hP hD hS 2 (ws' := [(h0, .inr (12, [.ref nw, .ref nk, .int mhasKept, .ref nt, .int mtaped, .ref nr, .int mrowMany, .int mroundOf, .int mroundFrom, .int 0, .ref nm, .int mfromHour, .int mtoHour, .ref ns, .int mfrom, .int mto, .int msort, .int misFault, .int mdeep, .int mcoded, .int mlines, .ref nl, .ref nc, .ref nF, .ref np, .ref ntr, .ref nb, .int mbestCost, .ref nso, .ref nsi, .ref nit, .ref nsh, .ref nsf, .ref nss, .ref nrc, .int mtraced, .int mdealer, .int mnumber, .int mwhose, .int msize, .int misParted])), (nw, .inl (G.2.1, 1662, .inl fnw)), (nm, .inl (G.2.1, 36, .inl (upd vB (6 * kA + kB) 120)))]) rfl (vp_in_nI (by omega) (by omega)) (k := (6 * kA + kB)) (nI_clamp (by omega)) (rfl) dX12_findClocks_50 (fun H locs hP hD hS => ?_)
                refine lv_iinc (v := nI (kB + 1)) (lv' := [(2, .int (nI (kB + 1))), (1, .int (nI kA)), (0, .ref h0)]) hx hb dX12_findClocks_51 hl (k := 0) rfl (nI_1 _) (by decide) rfl (fun ls hl => ?_)
                refine lv_goto (tgt := 10) hx hb dX12_findClocks_54 (by decide) ?_
                have n1 : ¬ kA = 0 := fun h9 => c_36_10337 (congrArg nI h9)
                have n2 : ¬ kB = 0 := fun h9 => c_40_10338 (congrArg nI h9)
                have n3 : ¬ kA = kB := fun h9 => c_28_10336 (congrArg nI h9)
                have hst9 : FRP kA (kB + 1) (MAT (upd vB (6 * kA + kB) 120)) := FRP.set6 hvB (by omega) (by have e0 : (0 : Int32).toInt = 0 := (by decide); have e60 : (60 : Int32).toInt = 60 := (by decide); have e120 : (120 : Int32).toInt = 120 := (by decide); unfold BASW; split <;> (first | omega | (split <;> omega)))
                exact ihB (kB + 1) (upd vB (6 * kA + kB) 120) _ _ _ (by omega) (by first | assumption | exact Or.inl rfl | exact Or.inr rfl) (And.intro hP hD) hS (lv_sub hl [0, 1, 2] rfl)
              · refine lv_bipush (v := 60) hx hb dX12_findClocks_43 (by decide) ?_
                refine lv_goto (tgt := 50) hx hb dX12_findClocks_45 (by decide) ?_
                refine ast hC hK hP hD hS 2 (ws' := [(h0, .inr (12, [.ref nw, .ref nk, .int mhasKept, .ref nt, .int mtaped, .ref nr, .int mrowMany, .int mroundOf, .int mroundFrom, .int 0, .ref nm, .int mfromHour, .int mtoHour, .ref ns, .int mfrom, .int mto, .int msort, .int misFault, .int mdeep, .int mcoded, .int mlines, .ref nl, .ref nc, .ref nF, .ref np, .ref ntr, .ref nb, .int mbestCost, .ref nso, .ref nsi, .ref nit, .ref nsh, .ref nsf, .ref nss, .ref nrc, .int mtraced, .int mdealer, .int mnumber, .int mwhose, .int msize, .int misParted])), (nw, .inl (G.2.1, 1662, .inl fnw)), (nm, .inl (G.2.1, 36, .inl (upd vB (6 * kA + kB) 60)))]) rfl (vp_in_nI (by omega) (by omega)) (k := (6 * kA + kB)) (nI_clamp (by omega)) (rfl) dX12_findClocks_50 (fun H locs hP hD hS => ?_)
                refine lv_iinc (v := nI (kB + 1)) (lv' := [(2, .int (nI (kB + 1))), (1, .int (nI kA)), (0, .ref h0)]) hx hb dX12_findClocks_51 hl (k := 0) rfl (nI_1 _) (by decide) rfl (fun ls hl => ?_)
                refine lv_goto (tgt := 10) hx hb dX12_findClocks_54 (by decide) ?_
                have n1 : ¬ kA = 0 := fun h9 => c_36_10337 (congrArg nI h9)
                have n2 : kB = 0 := nI_z9 (by omega) c_40_10338
                have n3 : ¬ kA = kB := fun h9 => c_28_10336 (congrArg nI h9)
                have hst9 : FRP kA (kB + 1) (MAT (upd vB (6 * kA + kB) 60)) := FRP.set6 hvB (by omega) (by have e0 : (0 : Int32).toInt = 0 := (by decide); have e60 : (60 : Int32).toInt = 60 := (by decide); have e120 : (120 : Int32).toInt = 120 := (by decide); unfold BASW; split <;> (first | omega | (split <;> omega)))
                exact ihB (kB + 1) (upd vB (6 * kA + kB) 60) _ _ _ (by omega) (by first | assumption | exact Or.inl rfl | exact Or.inr rfl) (And.intro hP hD) hS (lv_sub hl [0, 1, 2] rfl)
          · refine lv_iconst (v := 0) hx hb dX12_findClocks_31 (by decide) ?_
            refine lv_goto (tgt := 50) hx hb dX12_findClocks_32 (by decide) ?_
            refine ast hC hK hP hD hS 2 (ws' := [(h0, .inr (12, [.ref nw, .ref nk, .int mhasKept, .ref nt, .int mtaped, .ref nr, .int mrowMany, .int mroundOf, .int mroundFrom, .int 0, .ref nm, .int mfromHour, .int mtoHour, .ref ns, .int mfrom, .int mto, .int msort, .int misFault, .int mdeep, .int mcoded, .int mlines, .ref nl, .ref nc, .ref nF, .ref np, .ref ntr, .ref nb, .int mbestCost, .ref nso, .ref nsi, .ref nit, .ref nsh, .ref nsf, .ref nss, .ref nrc, .int mtraced, .int mdealer, .int mnumber, .int mwhose, .int msize, .int misParted])), (nw, .inl (G.2.1, 1662, .inl fnw)), (nm, .inl (G.2.1, 36, .inl (upd vB (6 * kA + kB) 0)))]) rfl (vp_in_nI (by omega) (by omega)) (k := (6 * kA + kB)) (nI_clamp (by omega)) (rfl) dX12_findClocks_50 (fun H locs hP hD hS => ?_)
            refine lv_iinc (v := nI (kB + 1)) (lv' := [(2, .int (nI (kB + 1))), (1, .int (nI kA)), (0, .ref h0)]) hx hb dX12_findClocks_51 hl (k := 0) rfl (nI_1 _) (by decide) rfl (fun ls hl => ?_)
            refine lv_goto (tgt := 10) hx hb dX12_findClocks_54 (by decide) ?_
            have n3 : kA = kB := (nI_eq (by omega) (by omega)).mp c_28_10336
            have hst9 : FRP kA (kB + 1) (MAT (upd vB (6 * kA + kB) 0)) := FRP.set6 hvB (by omega) (by have e0 : (0 : Int32).toInt = 0 := (by decide); have e60 : (60 : Int32).toInt = 60 := (by decide); have e120 : (120 : Int32).toInt = 120 := (by decide); unfold BASW; split <;> (first | omega | (split <;> omega)))
            exact ihB (kB + 1) (upd vB (6 * kA + kB) 0) _ _ _ (by omega) (by first | assumption | exact Or.inl rfl | exact Or.inr rfl) (And.intro hP hD) hS (lv_sub hl [0, 1, 2] rfl)
      exact keyB 6 0 vA _ _ _ (by omega) (by first | assumption | exact Or.inl rfl | exact Or.inr rfl) (And.intro hP hD) hS (lv_sub hl [0, 1, 2] rfl)
  exact keyA 6 0 fnm _ _ _ (by omega) (by first | assumption | exact Or.inl rfl | exact Or.inr rfl | exact FRP.zero) (And.intro hP hD) hS (lv_sub hl [0, 1] rfl)
set_option maxHeartbeats 4000000 in
set_option maxRecDepth 100000 in
theorem m_hoursC (l : Launch) (G : GG) (k6 : Nat) (h0 : Nat) (jp : Nat) (la : Int32) (nw : Nat) (nk : Nat) (mhasKept : Int32) (nt : Nat) (mtaped : Int32) (nr : Nat) (mrowMany : Int32) (mroundOf : Int32) (mroundFrom : Int32) (mouts : Int32) (nm : Nat) (mfromHour : Int32) (mtoHour : Int32) (ns : Nat) (mfrom : Int32) (mto : Int32) (msort : Int32) (misFault : Int32) (mdeep : Int32) (mcoded : Int32) (mlines : Int32) (nl : Nat) (nc : Nat) (nF : Nat) (np : Nat) (ntr : Nat) (nb : Nat) (mbestCost : Int32) (nso : Nat) (nsi : Nat) (nit : Nat) (nsh : Nat) (nsf : Nat) (nss : Nat) (nrc : Nat) (mtraced : Int32) (mdealer : Int32) (mnumber : Int32) (mwhose : Int32) (msize : Int32) (misParted : Int32) (fnw : Nat → Int32) (e6 : fnw 6 = nI k6) (hk6 : k6 ≤ 24) (hjp : jp < 12) : MP l G yX12_hours cX12_hours 6 (some .boolean) 3 [.ref h0, .int (nI jp), .int 1, .int la] [(h0, .inr (12, [.ref nw, .ref nk, .int mhasKept, .ref nt, .int mtaped, .ref nr, .int mrowMany, .int mroundOf, .int mroundFrom, .int mouts, .ref nm, .int mfromHour, .int mtoHour, .ref ns, .int mfrom, .int mto, .int msort, .int misFault, .int mdeep, .int mcoded, .int mlines, .ref nl, .ref nc, .ref nF, .ref np, .ref ntr, .ref nb, .int mbestCost, .ref nso, .ref nsi, .ref nit, .ref nsh, .ref nsf, .ref nss, .ref nrc, .int mtraced, .int mdealer, .int mnumber, .int mwhose, .int msize, .int misParted])), (nw, .inl (G.2.1, 1662, .inl fnw))] (fun r : Int32 => r = 0) := by
  refine MP.start (by decide +kernel) (Nat.le_of_ble_eq_true rfl) ?_
  intro p e s m below meth c ls hC hK hP hD hl
  have hl : lv_has ls 6 [(0, .ref h0), (1, .int (nI jp)), (2, .int 1), (3, .int la)] := hl
  obtain ⟨hx, hb, hr, hml, hB, hown, hlocks, hnm⟩ := id hC
  refine lv_aload_n hx hb dX12_hours_0 rfl (lv_at hl 0 rfl) ?_
  refine lv_iload_n hx hb dX12_hours_1 rfl (lv_at hl 1 rfl) ?_
  refine pV hC hK hl hP hD (m_stampsOf l G k6 h0 (nI jp) nw nk mhasKept nt mtaped nr mrowMany mroundOf mroundFrom mouts nm mfromHour mtoHour ns mfrom mto msort misFault mdeep mcoded mlines nl nc nF np ntr nb mbestCost nso nsi nit nsh nsf nss nrc mtraced mdealer mnumber mwhose msize misParted fnw (e6) (hk6)) si_X12_130 [0, 1] rfl rfl (by decide) rfl rfl rfl rfl rfl (Nat.le_of_ble_eq_true rfl) ⟨Nat.le_of_ble_eq_true rfl, Nat.le_of_ble_eq_true rfl⟩ ⟨by first | exact Nat.le_of_ble_eq_true rfl | exact Nat.zero_le _, by first | exact Nat.le_of_ble_eq_true rfl | exact Nat.zero_le _⟩ dX12_hours_2 (fun r10339 hr10339 => ?_)
  obtain rfl := hr10339
  refine lv_istore (lv' := [(4, .int (nI (cntS fnw (nI jp) k6))), (0, .ref h0), (1, .int (nI jp)), (2, .int 1), (3, .int la)]) hx hb dX12_hours_5 hl (by decide) rfl (fun ls hl => ?_)
  refine lv_iload_n hx hb dX12_hours_7 rfl (lv_at hl 3 rfl) ?_
  refine lv_if_ne (tgt := 24) hx hb dX12_hours_8 (by decide) (fun _ => ?_) (fun c9 => absurd c9 (by decide))
  refine lv_iconst (v := 0) hx hb dX12_hours_24 (by decide) ?_
  exact RP (v := 0) hC (rfl) (by decide +kernel) dX12_hours_25
set_option maxHeartbeats 4000000 in
set_option maxRecDepth 100000 in
theorem m_hoursL (l : Launch) (G : GG) (kq : Nat) (k6 : Nat) (h0 : Nat) (jp : Nat) (nw : Nat) (nk : Nat) (mhasKept : Int32) (nt : Nat) (mtaped : Int32) (nr : Nat) (mrowMany : Int32) (mroundOf : Int32) (mroundFrom : Int32) (nm : Nat) (mfromHour : Int32) (mtoHour : Int32) (ns : Nat) (mfrom : Int32) (mto : Int32) (msort : Int32) (misFault : Int32) (mdeep : Int32) (mcoded : Int32) (mlines : Int32) (nl : Nat) (nc : Nat) (nF : Nat) (np : Nat) (ntr : Nat) (nb : Nat) (mbestCost : Int32) (nso : Nat) (nsi : Nat) (nit : Nat) (nsh : Nat) (nsf : Nat) (nss : Nat) (nrc : Nat) (mtraced : Int32) (mdealer : Int32) (mnumber : Int32) (mwhose : Int32) (msize : Int32) (misParted : Int32) (fnw : Nat → Int32) (fnm : Nat → Int32) (hN : NI fnw) (e6 : fnw 6 = nI k6) (hk6 : k6 ≤ 24) (ekq : fnw 5 = nI kq) (hjp : jp < kq) (hkq : kq ≤ 12) : MI l G yX12_hours cX12_hours 6 (some .boolean) 3 0 0 [.ref h0, .int (nI jp), .int 0, .int 1] [(h0, .inr (12, [.ref nw, .ref nk, .int mhasKept, .ref nt, .int mtaped, .ref nr, .int mrowMany, .int mroundOf, .int mroundFrom, .int 0, .ref nm, .int mfromHour, .int mtoHour, .ref ns, .int mfrom, .int mto, .int msort, .int misFault, .int mdeep, .int mcoded, .int mlines, .ref nl, .ref nc, .ref nF, .ref np, .ref ntr, .ref nb, .int mbestCost, .ref nso, .ref nsi, .ref nit, .ref nsh, .ref nsf, .ref nss, .ref nrc, .int mtraced, .int mdealer, .int mnumber, .int mwhose, .int msize, .int misParted])), (nw, .inl (G.2.1, 1662, .inl fnw)), (nm, .inl (G.2.1, 36, .inl fnm))] (fun (r : Int32) (u : Int32 × Int32) => ((r = 1 ∧ ∃ s9, LST (shf fnw 104) k6 jp s9 ∧ VSE fnw kq jp ∧ u.1 = TR0 (shf fnw 104) fnm s9 ∧ u.2 = TR1 (shf fnw 104) fnm s9) ∨ (r = 0 ∧ (¬ VSE fnw kq jp ∨ ∀ s9, s9 < k6 → ¬ shf fnw 104 (s9 * 3 + 0) = nI jp)))) (fun u : Int32 × Int32 => [(h0, .inr (12, [.ref nw, .ref nk, .int mhasKept, .ref nt, .int mtaped, .ref nr, .int mrowMany, .int mroundOf, .int mroundFrom, .int 0, .ref nm, .int u.1, .int u.2, .ref ns, .int mfrom, .int mto, .int msort, .int misFault, .int mdeep, .int mcoded, .int mlines, .ref nl, .ref nc, .ref nF, .ref np, .ref ntr, .ref nb, .int mbestCost, .ref nso, .ref nsi, .ref nit, .ref nsh, .ref nsf, .ref nss, .ref nrc, .int mtraced, .int mdealer, .int mnumber, .int mwhose, .int msize, .int misParted])), (nw, .inl (G.2.1, 1662, .inl fnw)), (nm, .inl (G.2.1, 36, .inl fnm))]) := by
  refine MI.start (by decide +kernel) (Nat.le_of_ble_eq_true rfl) ?_
  intro p e s m below meth c A ls hC hK hP hD hS hA hl
  have hl : lv_has ls 6 [(0, .ref h0), (1, .int (nI jp)), (2, .int 0), (3, .int 1)] := hl
  obtain ⟨hx, hb, hr, hml, hB, hown, hlocks, hnm⟩ := id hC
  refine lv_aload_n hx hb dX12_hours_0 rfl (lv_at hl 0 rfl) ?_
  refine lv_iload_n hx hb dX12_hours_1 rfl (lv_at hl 1 rfl) ?_
  refine pV hC hK hl hP hD (m_stampsOf l G k6 h0 (nI jp) nw nk mhasKept nt mtaped nr mrowMany mroundOf mroundFrom 0 nm mfromHour mtoHour ns mfrom mto msort misFault mdeep mcoded mlines nl nc nF np ntr nb mbestCost nso nsi nit nsh nsf nss nrc mtraced mdealer mnumber mwhose msize misParted fnw (e6) (hk6)) si_X12_130 [0, 1] rfl rfl (by decide) rfl rfl rfl rfl rfl (Nat.le_of_ble_eq_true rfl) ⟨Nat.le_of_ble_eq_true rfl, Nat.le_of_ble_eq_true rfl⟩ ⟨by first | exact Nat.le_of_ble_eq_true rfl | exact Nat.zero_le _, by first | exact Nat.le_of_ble_eq_true rfl | exact Nat.zero_le _⟩ dX12_hours_2 (fun r10341 hr10341 => ?_)
  obtain rfl := hr10341
  refine lv_istore (lv' := [(4, .int (nI (cntS fnw (nI jp) k6))), (0, .ref h0), (1, .int (nI jp)), (2, .int 0), (3, .int 1)]) hx hb dX12_hours_5 hl (by decide) rfl (fun ls hl => ?_)
  refine lv_iload_n hx hb dX12_hours_7 rfl (lv_at hl 3 rfl) ?_
  refine lv_if_ne (tgt := 24) hx hb dX12_hours_8 (by decide) (fun c9 => absurd (by decide) c9) (fun _ => ?_)
  refine lv_iload hx hb dX12_hours_11 (lv_at hl 0 rfl) ?_
  refine lv_if_eq (tgt := 24) hx hb dX12_hours_13 (by decide) (fun c_13_10343 => ?_) (fun c_13_10343 => ?_)
  · refine lv_iconst (v := 0) hx hb dX12_hours_24 (by decide) ?_
    exact RI (v := 0) hC hP hD hS [0, 1, 2] (mfromHour, mtoHour) rfl rfl (by decide) (Or.inr ⟨rfl, Or.inr (cntS_no (nI_z9 (by have h9 := cntS_le fnw (nI jp) k6; omega) c_13_10343))⟩) (by decide +kernel) dX12_hours_25
  · have hcp9 := nI_nz c_13_10343
    have hcl9 := cntS_le fnw (nI jp) k6
    refine lv_aload_n hx hb dX12_hours_16 rfl (lv_at hl 1 rfl) ?_
    refine lv_iload_n hx hb dX12_hours_17 rfl (lv_at hl 2 rfl) ?_
    refine pV hC hK hl hP hD (m_isInX l G h0 jp nw nk mhasKept nt mtaped nr mrowMany mroundOf mroundFrom nm mfromHour mtoHour ns mfrom mto msort misFault mdeep mcoded mlines nl nc nF np ntr nb mbestCost nso nsi nit nsh nsf nss nrc mtraced mdealer mnumber mwhose msize misParted fnw (by omega)) si_X12_103 [0, 1] rfl rfl (by decide) rfl rfl rfl rfl rfl (Nat.le_of_ble_eq_true rfl) ⟨Nat.le_of_ble_eq_true rfl, Nat.le_of_ble_eq_true rfl⟩ ⟨by first | exact Nat.le_of_ble_eq_true rfl | exact Nat.zero_le _, by first | exact Nat.le_of_ble_eq_true rfl | exact Nat.zero_le _⟩ dX12_hours_18 (fun r10344 hr10344 => ?_)
    rcases hr10344 with ⟨rfl, a10345⟩ | ⟨rfl, a10345⟩
    · refine lv_if_ne (tgt := 26) hx hb dX12_hours_21 (by decide) (fun _ => ?_) (fun c9 => absurd c9 (by decide))
      refine lv_bipush (v := 104) hx hb dX12_hours_26 (by decide) ?_
      refine lv_iconst (v := 3) hx hb dX12_hours_28 (by decide) ?_
      refine lv_aload_n hx hb dX12_hours_29 rfl (lv_at hl 1 rfl) ?_
      refine lv_iload_n hx hb dX12_hours_30 rfl (lv_at hl 2 rfl) ?_
      refine lv_iload_n hx hb dX12_hours_31 rfl (lv_at hl 4 rfl) ?_
      refine lv_if_eq (tgt := 42) hx hb dX12_hours_32 (by decide) (fun c9 => absurd c9 (by decide)) (fun _ => ?_)
      refine lv_iload hx hb dX12_hours_35 (lv_at hl 0 rfl) ?_
      refine lv_iconst (v := 1) hx hb dX12_hours_37 (by decide) ?_
      refine lv_isub hx hb dX12_hours_38 ?_
      refine eqi (x1 := nI ((cntS fnw (nI jp) k6) - 1)) (nI_sb (by omega)) ?_
      refine lv_goto (tgt := 43) hx hb dX12_hours_39 (by decide) ?_
      refine pV hC hK hl hP hD (m_stampAtX l G k6 h0 jp ((cntS fnw (nI jp) k6) - 1) nw nk mhasKept nt mtaped nr mrowMany mroundOf mroundFrom 0 nm mfromHour mtoHour ns mfrom mto msort misFault mdeep mcoded mlines nl nc nF np ntr nb mbestCost nso nsi nit nsh nsf nss nrc mtraced mdealer mnumber mwhose msize misParted fnw (e6) (hk6) (by omega)) si_X12_142 [0, 1] rfl rfl (by decide) rfl rfl rfl rfl rfl (Nat.le_of_ble_eq_true rfl) ⟨Nat.le_of_ble_eq_true rfl, Nat.le_of_ble_eq_true rfl⟩ ⟨by first | exact Nat.le_of_ble_eq_true rfl | exact Nat.zero_le _, by first | exact Nat.le_of_ble_eq_true rfl | exact Nat.zero_le _⟩ dX12_hours_43 (fun r10346 hr10346 => ?_)
      obtain ⟨s9_10347, hpx10347, rfl⟩ := hr10346
      try dsimp only at hpx10347
      refine lv_imul hx hb dX12_hours_46 ?_
      refine eqi (x1 := nI (3 * s9_10347)) (nI_mul 3 s9_10347) ?_
      refine lv_iadd hx hb dX12_hours_47 ?_
      refine eqi (x1 := nI (104 + 3 * s9_10347)) (nI_add 104 (3 * s9_10347)) ?_
      refine lv_istore (lv' := [(5, .int (nI (104 + 3 * s9_10347))), (4, .int (nI (cntS fnw (nI jp) k6))), (0, .ref h0), (1, .int (nI jp)), (2, .int 0), (3, .int 1)]) hx hb dX12_hours_48 hl (by decide) rfl (fun ls hl => ?_)
      have hs9b := hpx10347.1
      obtain ⟨cc10348, hcc10348, ecc10348⟩ := NI.nat hN (i := 104 + 3 * s9_10347 + 1) (B := 5) (bnd_st1 (s := s9_10347) rfl (by omega)) (by decide)
      refine lv_aload_n hx hb dX12_hours_50 rfl (lv_at hl 2 rfl) ?_
      refine lv_aload_n hx hb dX12_hours_51 rfl (lv_at hl 2 rfl) ?_
      refine gf_X12_9 hC rfl hK hP 0 rfl rfl dX12_hours_52 ?_
      refine lv_iload hx hb dX12_hours_55 (lv_at hl 0 rfl) ?_
      refine lv_iconst (v := 2) hx hb dX12_hours_57 (by decide) ?_
      refine lv_iadd hx hb dX12_hours_58 ?_
      refine eqi (x1 := nI (104 + 3 * s9_10347 + 2)) (nI_add (104 + 3 * s9_10347) 2) ?_
      refine ald hC hK hP 1 rfl (vp_in_nI (by omega) (by omega)) (k := (104 + 3 * s9_10347 + 2)) (nI_clamp (by omega)) (v := fnw (104 + 3 * s9_10347 + 2)) rfl dX12_hours_59 ?_
      refine lv_aload_n hx hb dX12_hours_60 rfl (lv_at hl 2 rfl) ?_
      refine lv_aload_n hx hb dX12_hours_61 rfl (lv_at hl 2 rfl) ?_
      refine gf_X12_9 hC rfl hK hP 0 rfl rfl dX12_hours_62 ?_
      refine lv_iload hx hb dX12_hours_65 (lv_at hl 0 rfl) ?_
      refine lv_iconst (v := 1) hx hb dX12_hours_67 (by decide) ?_
      refine lv_iadd hx hb dX12_hours_68 ?_
      refine eqi (x1 := nI (104 + 3 * s9_10347 + 1)) (nI_add (104 + 3 * s9_10347) 1) ?_
      refine ald hC hK hP 1 rfl (vp_in_nI (by omega) (by omega)) (k := 104 + 3 * s9_10347 + 1) (nI_clamp (by omega)) (v := nI cc10348) (ecc10348) dX12_hours_69 ?_
      refine pV hC hK hl hP hD (m_greatest l G h0 cc10348 nw nk mhasKept nt mtaped nr mrowMany mroundOf mroundFrom 0 nm mfromHour mtoHour ns mfrom mto msort misFault mdeep mcoded mlines nl nc nF np ntr nb mbestCost nso nsi nit nsh nsf nss nrc mtraced mdealer mnumber mwhose msize misParted fnm (by omega)) si_X12_155 [0, 2] rfl rfl (by decide) rfl rfl rfl rfl rfl (Nat.le_of_ble_eq_true rfl) ⟨Nat.le_of_ble_eq_true rfl, Nat.le_of_ble_eq_true rfl⟩ ⟨by first | exact Nat.le_of_ble_eq_true rfl | exact Nat.zero_le _, by first | exact Nat.le_of_ble_eq_true rfl | exact Nat.zero_le _⟩ dX12_hours_70 (fun r10349 hr10349 => ?_)
      obtain rfl := hr10349
      refine lv_isub hx hb dX12_hours_73 ?_
      refine pf_X12_161 hC rfl hK hP hD hS 0 (ws' := [(h0, .inr (12, [.ref nw, .ref nk, .int mhasKept, .ref nt, .int mtaped, .ref nr, .int mrowMany, .int mroundOf, .int mroundFrom, .int 0, .ref nm, .int ((fnw (104 + 3 * s9_10347 + 2)) - (fnm cc10348)), .int mtoHour, .ref ns, .int mfrom, .int mto, .int msort, .int misFault, .int mdeep, .int mcoded, .int mlines, .ref nl, .ref nc, .ref nF, .ref np, .ref ntr, .ref nb, .int mbestCost, .ref nso, .ref nsi, .ref nit, .ref nsh, .ref nsf, .ref nss, .ref nrc, .int mtraced, .int mdealer, .int mnumber, .int mwhose, .int msize, .int misParted])), (nw, .inl (G.2.1, 1662, .inl fnw)), (nm, .inl (G.2.1, 36, .inl fnm))]) rfl (Nat.le_of_ble_eq_true rfl) rfl rfl rfl dX12_hours_74 (fun H locs hP hD hS => ?_)
      refine lv_aload_n hx hb dX12_hours_77 rfl (lv_at hl 2 rfl) ?_
      refine lv_aload_n hx hb dX12_hours_78 rfl (lv_at hl 2 rfl) ?_
      refine gf_X12_9 hC rfl hK hP 0 rfl rfl dX12_hours_79 ?_
      refine lv_iload hx hb dX12_hours_82 (lv_at hl 0 rfl) ?_
      refine lv_iconst (v := 2) hx hb dX12_hours_84 (by decide) ?_
      refine lv_iadd hx hb dX12_hours_85 ?_
      refine eqi (x1 := nI (104 + 3 * s9_10347 + 2)) (nI_add (104 + 3 * s9_10347) 2) ?_
      refine ald hC hK hP 1 rfl (vp_in_nI (by omega) (by omega)) (k := (104 + 3 * s9_10347 + 2)) (nI_clamp (by omega)) (v := fnw (104 + 3 * s9_10347 + 2)) rfl dX12_hours_86 ?_
      refine lv_aload_n hx hb dX12_hours_87 rfl (lv_at hl 2 rfl) ?_
      refine lv_aload_n hx hb dX12_hours_88 rfl (lv_at hl 2 rfl) ?_
      refine gf_X12_9 hC rfl hK hP 0 rfl rfl dX12_hours_89 ?_
      refine lv_iload hx hb dX12_hours_92 (lv_at hl 0 rfl) ?_
      refine lv_iconst (v := 1) hx hb dX12_hours_94 (by decide) ?_
      refine lv_iadd hx hb dX12_hours_95 ?_
      refine eqi (x1 := nI (104 + 3 * s9_10347 + 1)) (nI_add (104 + 3 * s9_10347) 1) ?_
      refine ald hC hK hP 1 rfl (vp_in_nI (by omega) (by omega)) (k := 104 + 3 * s9_10347 + 1) (nI_clamp (by omega)) (v := nI cc10348) (ecc10348) dX12_hours_96 ?_
      refine pV hC hK hl hP hD (m_least l G h0 cc10348 nw nk mhasKept nt mtaped nr mrowMany mroundOf mroundFrom 0 nm ((fnw (104 + 3 * s9_10347 + 2)) - (fnm cc10348)) mtoHour ns mfrom mto msort misFault mdeep mcoded mlines nl nc nF np ntr nb mbestCost nso nsi nit nsh nsf nss nrc mtraced mdealer mnumber mwhose msize misParted fnm (by omega)) si_X12_158 [0, 2] rfl rfl (by decide) rfl rfl rfl rfl rfl (Nat.le_of_ble_eq_true rfl) ⟨Nat.le_of_ble_eq_true rfl, Nat.le_of_ble_eq_true rfl⟩ ⟨by first | exact Nat.le_of_ble_eq_true rfl | exact Nat.zero_le _, by first | exact Nat.le_of_ble_eq_true rfl | exact Nat.zero_le _⟩ dX12_hours_97 (fun r10351 hr10351 => ?_)
      obtain rfl := hr10351
      refine lv_isub hx hb dX12_hours_100 ?_
      refine pf_X12_164 hC rfl hK hP hD hS 0 (ws' := [(h0, .inr (12, [.ref nw, .ref nk, .int mhasKept, .ref nt, .int mtaped, .ref nr, .int mrowMany, .int mroundOf, .int mroundFrom, .int 0, .ref nm, .int ((fnw (104 + 3 * s9_10347 + 2)) - (fnm cc10348)), .int ((fnw (104 + 3 * s9_10347 + 2)) - (-(fnm (6 * cc10348)))), .ref ns, .int mfrom, .int mto, .int msort, .int misFault, .int mdeep, .int mcoded, .int mlines, .ref nl, .ref nc, .ref nF, .ref np, .ref ntr, .ref nb, .int mbestCost, .ref nso, .ref nsi, .ref nit, .ref nsh, .ref nsf, .ref nss, .ref nrc, .int mtraced, .int mdealer, .int mnumber, .int mwhose, .int msize, .int misParted])), (nw, .inl (G.2.1, 1662, .inl fnw)), (nm, .inl (G.2.1, 36, .inl fnm))]) rfl (Nat.le_of_ble_eq_true rfl) rfl rfl rfl dX12_hours_101 (fun H locs hP hD hS => ?_)
      refine lv_iconst (v := 1) hx hb dX12_hours_104 (by decide) ?_
      exact RI (v := 1) hC hP hD hS [0, 1, 2] ((fnw (104 + 3 * s9_10347 + 2)) - (fnm cc10348), (fnw (104 + 3 * s9_10347 + 2)) - (-(fnm (6 * cc10348)))) rfl rfl (by decide) (Or.inl ⟨rfl, _, hpx10347.lst (by omega), ⟨by omega, a10345⟩, TR0.mk ecc10348 (by omega), TR1.mk ecc10348 (by omega)⟩) (by decide +kernel) dX12_hours_105
    · refine lv_if_ne (tgt := 26) hx hb dX12_hours_21 (by decide) (fun c9 => absurd (by decide) c9) (fun _ => ?_)
      refine lv_iconst (v := 0) hx hb dX12_hours_24 (by decide) ?_
      exact RI (v := 0) hC hP hD hS [0, 1, 2] (mfromHour, mtoHour) rfl rfl (by decide) (Or.inr ⟨rfl, Or.inl (fun h9 => a10345 h9.2)⟩) (by decide +kernel) dX12_hours_25
set_option maxHeartbeats 4000000 in
set_option maxRecDepth 100000 in
theorem m_hoursF (l : Launch) (G : GG) (kq : Nat) (k6 : Nat) (h0 : Nat) (jp : Nat) (nw : Nat) (nk : Nat) (mhasKept : Int32) (nt : Nat) (mtaped : Int32) (nr : Nat) (mrowMany : Int32) (mroundOf : Int32) (mroundFrom : Int32) (nm : Nat) (mfromHour : Int32) (mtoHour : Int32) (ns : Nat) (mfrom : Int32) (mto : Int32) (msort : Int32) (misFault : Int32) (mdeep : Int32) (mcoded : Int32) (mlines : Int32) (nl : Nat) (nc : Nat) (nF : Nat) (np : Nat) (ntr : Nat) (nb : Nat) (mbestCost : Int32) (nso : Nat) (nsi : Nat) (nit : Nat) (nsh : Nat) (nsf : Nat) (nss : Nat) (nrc : Nat) (mtraced : Int32) (mdealer : Int32) (mnumber : Int32) (mwhose : Int32) (msize : Int32) (misParted : Int32) (fnw : Nat → Int32) (fnm : Nat → Int32) (hN : NI fnw) (e6 : fnw 6 = nI k6) (hk6 : k6 ≤ 24) (ekq : fnw 5 = nI kq) (hjp : jp < kq) (hkq : kq ≤ 12) : MI l G yX12_hours cX12_hours 6 (some .boolean) 3 0 0 [.ref h0, .int (nI jp), .int 0, .int 0] [(h0, .inr (12, [.ref nw, .ref nk, .int mhasKept, .ref nt, .int mtaped, .ref nr, .int mrowMany, .int mroundOf, .int mroundFrom, .int 0, .ref nm, .int mfromHour, .int mtoHour, .ref ns, .int mfrom, .int mto, .int msort, .int misFault, .int mdeep, .int mcoded, .int mlines, .ref nl, .ref nc, .ref nF, .ref np, .ref ntr, .ref nb, .int mbestCost, .ref nso, .ref nsi, .ref nit, .ref nsh, .ref nsf, .ref nss, .ref nrc, .int mtraced, .int mdealer, .int mnumber, .int mwhose, .int msize, .int misParted])), (nw, .inl (G.2.1, 1662, .inl fnw)), (nm, .inl (G.2.1, 36, .inl fnm))] (fun (r : Int32) (u : Int32 × Int32) => ((r = 1 ∧ ∃ s9, FST (shf fnw 104) k6 jp s9 ∧ VSE fnw kq jp ∧ u.1 = TR0 (shf fnw 104) fnm s9 ∧ u.2 = TR1 (shf fnw 104) fnm s9) ∨ (r = 0 ∧ (¬ VSE fnw kq jp ∨ ∀ s9, s9 < k6 → ¬ shf fnw 104 (s9 * 3 + 0) = nI jp)))) (fun u : Int32 × Int32 => [(h0, .inr (12, [.ref nw, .ref nk, .int mhasKept, .ref nt, .int mtaped, .ref nr, .int mrowMany, .int mroundOf, .int mroundFrom, .int 0, .ref nm, .int u.1, .int u.2, .ref ns, .int mfrom, .int mto, .int msort, .int misFault, .int mdeep, .int mcoded, .int mlines, .ref nl, .ref nc, .ref nF, .ref np, .ref ntr, .ref nb, .int mbestCost, .ref nso, .ref nsi, .ref nit, .ref nsh, .ref nsf, .ref nss, .ref nrc, .int mtraced, .int mdealer, .int mnumber, .int mwhose, .int msize, .int misParted])), (nw, .inl (G.2.1, 1662, .inl fnw)), (nm, .inl (G.2.1, 36, .inl fnm))]) := by
  refine MI.start (by decide +kernel) (Nat.le_of_ble_eq_true rfl) ?_
  intro p e s m below meth c A ls hC hK hP hD hS hA hl
  have hl : lv_has ls 6 [(0, .ref h0), (1, .int (nI jp)), (2, .int 0), (3, .int 0)] := hl
  obtain ⟨hx, hb, hr, hml, hB, hown, hlocks, hnm⟩ := id hC
  refine lv_aload_n hx hb dX12_hours_0 rfl (lv_at hl 0 rfl) ?_
  refine lv_iload_n hx hb dX12_hours_1 rfl (lv_at hl 1 rfl) ?_
  refine pV hC hK hl hP hD (m_stampsOf l G k6 h0 (nI jp) nw nk mhasKept nt mtaped nr mrowMany mroundOf mroundFrom 0 nm mfromHour mtoHour ns mfrom mto msort misFault mdeep mcoded mlines nl nc nF np ntr nb mbestCost nso nsi nit nsh nsf nss nrc mtraced mdealer mnumber mwhose msize misParted fnw (e6) (hk6)) si_X12_130 [0, 1] rfl rfl (by decide) rfl rfl rfl rfl rfl (Nat.le_of_ble_eq_true rfl) ⟨Nat.le_of_ble_eq_true rfl, Nat.le_of_ble_eq_true rfl⟩ ⟨by first | exact Nat.le_of_ble_eq_true rfl | exact Nat.zero_le _, by first | exact Nat.le_of_ble_eq_true rfl | exact Nat.zero_le _⟩ dX12_hours_2 (fun r10353 hr10353 => ?_)
  obtain rfl := hr10353
  refine lv_istore (lv' := [(4, .int (nI (cntS fnw (nI jp) k6))), (0, .ref h0), (1, .int (nI jp)), (2, .int 0), (3, .int 0)]) hx hb dX12_hours_5 hl (by decide) rfl (fun ls hl => ?_)
  refine lv_iload_n hx hb dX12_hours_7 rfl (lv_at hl 3 rfl) ?_
  refine lv_if_ne (tgt := 24) hx hb dX12_hours_8 (by decide) (fun c9 => absurd (by decide) c9) (fun _ => ?_)
  refine lv_iload hx hb dX12_hours_11 (lv_at hl 0 rfl) ?_
  refine lv_if_eq (tgt := 24) hx hb dX12_hours_13 (by decide) (fun c_13_10355 => ?_) (fun c_13_10355 => ?_)
  · refine lv_iconst (v := 0) hx hb dX12_hours_24 (by decide) ?_
    exact RI (v := 0) hC hP hD hS [0, 1, 2] (mfromHour, mtoHour) rfl rfl (by decide) (Or.inr ⟨rfl, Or.inr (cntS_no (nI_z9 (by have h9 := cntS_le fnw (nI jp) k6; omega) c_13_10355))⟩) (by decide +kernel) dX12_hours_25
  · have hcp9 := nI_nz c_13_10355
    have hcl9 := cntS_le fnw (nI jp) k6
    refine lv_aload_n hx hb dX12_hours_16 rfl (lv_at hl 1 rfl) ?_
    refine lv_iload_n hx hb dX12_hours_17 rfl (lv_at hl 2 rfl) ?_
    refine pV hC hK hl hP hD (m_isInX l G h0 jp nw nk mhasKept nt mtaped nr mrowMany mroundOf mroundFrom nm mfromHour mtoHour ns mfrom mto msort misFault mdeep mcoded mlines nl nc nF np ntr nb mbestCost nso nsi nit nsh nsf nss nrc mtraced mdealer mnumber mwhose msize misParted fnw (by omega)) si_X12_103 [0, 1] rfl rfl (by decide) rfl rfl rfl rfl rfl (Nat.le_of_ble_eq_true rfl) ⟨Nat.le_of_ble_eq_true rfl, Nat.le_of_ble_eq_true rfl⟩ ⟨by first | exact Nat.le_of_ble_eq_true rfl | exact Nat.zero_le _, by first | exact Nat.le_of_ble_eq_true rfl | exact Nat.zero_le _⟩ dX12_hours_18 (fun r10356 hr10356 => ?_)
    rcases hr10356 with ⟨rfl, a10357⟩ | ⟨rfl, a10357⟩
    · refine lv_if_ne (tgt := 26) hx hb dX12_hours_21 (by decide) (fun _ => ?_) (fun c9 => absurd c9 (by decide))
      refine lv_bipush (v := 104) hx hb dX12_hours_26 (by decide) ?_
      refine lv_iconst (v := 3) hx hb dX12_hours_28 (by decide) ?_
      refine lv_aload_n hx hb dX12_hours_29 rfl (lv_at hl 1 rfl) ?_
      refine lv_iload_n hx hb dX12_hours_30 rfl (lv_at hl 2 rfl) ?_
      refine lv_iload_n hx hb dX12_hours_31 rfl (lv_at hl 4 rfl) ?_
      refine lv_if_eq (tgt := 42) hx hb dX12_hours_32 (by decide) (fun _ => ?_) (fun c9 => absurd (by decide) c9)
      refine lv_iconst (v := 0) hx hb dX12_hours_42 (by decide) ?_
      refine pV hC hK hl hP hD (m_stampAtX l G k6 h0 jp 0 nw nk mhasKept nt mtaped nr mrowMany mroundOf mroundFrom 0 nm mfromHour mtoHour ns mfrom mto msort misFault mdeep mcoded mlines nl nc nF np ntr nb mbestCost nso nsi nit nsh nsf nss nrc mtraced mdealer mnumber mwhose msize misParted fnw (e6) (hk6) (by omega)) si_X12_142 [0, 1] rfl rfl (by decide) rfl rfl rfl rfl rfl (Nat.le_of_ble_eq_true rfl) ⟨Nat.le_of_ble_eq_true rfl, Nat.le_of_ble_eq_true rfl⟩ ⟨by first | exact Nat.le_of_ble_eq_true rfl | exact Nat.zero_le _, by first | exact Nat.le_of_ble_eq_true rfl | exact Nat.zero_le _⟩ dX12_hours_43 (fun r10358 hr10358 => ?_)
      obtain ⟨s9_10359, hpx10359, rfl⟩ := hr10358
      try dsimp only at hpx10359
      refine lv_imul hx hb dX12_hours_46 ?_
      refine eqi (x1 := nI (3 * s9_10359)) (nI_mul 3 s9_10359) ?_
      refine lv_iadd hx hb dX12_hours_47 ?_
      refine eqi (x1 := nI (104 + 3 * s9_10359)) (nI_add 104 (3 * s9_10359)) ?_
      refine lv_istore (lv' := [(5, .int (nI (104 + 3 * s9_10359))), (4, .int (nI (cntS fnw (nI jp) k6))), (0, .ref h0), (1, .int (nI jp)), (2, .int 0), (3, .int 0)]) hx hb dX12_hours_48 hl (by decide) rfl (fun ls hl => ?_)
      have hs9b := hpx10359.1
      obtain ⟨cc10360, hcc10360, ecc10360⟩ := NI.nat hN (i := 104 + 3 * s9_10359 + 1) (B := 5) (bnd_st1 (s := s9_10359) rfl (by omega)) (by decide)
      refine lv_aload_n hx hb dX12_hours_50 rfl (lv_at hl 2 rfl) ?_
      refine lv_aload_n hx hb dX12_hours_51 rfl (lv_at hl 2 rfl) ?_
      refine gf_X12_9 hC rfl hK hP 0 rfl rfl dX12_hours_52 ?_
      refine lv_iload hx hb dX12_hours_55 (lv_at hl 0 rfl) ?_
      refine lv_iconst (v := 2) hx hb dX12_hours_57 (by decide) ?_
      refine lv_iadd hx hb dX12_hours_58 ?_
      refine eqi (x1 := nI (104 + 3 * s9_10359 + 2)) (nI_add (104 + 3 * s9_10359) 2) ?_
      refine ald hC hK hP 1 rfl (vp_in_nI (by omega) (by omega)) (k := (104 + 3 * s9_10359 + 2)) (nI_clamp (by omega)) (v := fnw (104 + 3 * s9_10359 + 2)) rfl dX12_hours_59 ?_
      refine lv_aload_n hx hb dX12_hours_60 rfl (lv_at hl 2 rfl) ?_
      refine lv_aload_n hx hb dX12_hours_61 rfl (lv_at hl 2 rfl) ?_
      refine gf_X12_9 hC rfl hK hP 0 rfl rfl dX12_hours_62 ?_
      refine lv_iload hx hb dX12_hours_65 (lv_at hl 0 rfl) ?_
      refine lv_iconst (v := 1) hx hb dX12_hours_67 (by decide) ?_
      refine lv_iadd hx hb dX12_hours_68 ?_
      refine eqi (x1 := nI (104 + 3 * s9_10359 + 1)) (nI_add (104 + 3 * s9_10359) 1) ?_
      refine ald hC hK hP 1 rfl (vp_in_nI (by omega) (by omega)) (k := 104 + 3 * s9_10359 + 1) (nI_clamp (by omega)) (v := nI cc10360) (ecc10360) dX12_hours_69 ?_
      refine pV hC hK hl hP hD (m_greatest l G h0 cc10360 nw nk mhasKept nt mtaped nr mrowMany mroundOf mroundFrom 0 nm mfromHour mtoHour ns mfrom mto msort misFault mdeep mcoded mlines nl nc nF np ntr nb mbestCost nso nsi nit nsh nsf nss nrc mtraced mdealer mnumber mwhose msize misParted fnm (by omega)) si_X12_155 [0, 2] rfl rfl (by decide) rfl rfl rfl rfl rfl (Nat.le_of_ble_eq_true rfl) ⟨Nat.le_of_ble_eq_true rfl, Nat.le_of_ble_eq_true rfl⟩ ⟨by first | exact Nat.le_of_ble_eq_true rfl | exact Nat.zero_le _, by first | exact Nat.le_of_ble_eq_true rfl | exact Nat.zero_le _⟩ dX12_hours_70 (fun r10361 hr10361 => ?_)
      obtain rfl := hr10361
      refine lv_isub hx hb dX12_hours_73 ?_
      refine pf_X12_161 hC rfl hK hP hD hS 0 (ws' := [(h0, .inr (12, [.ref nw, .ref nk, .int mhasKept, .ref nt, .int mtaped, .ref nr, .int mrowMany, .int mroundOf, .int mroundFrom, .int 0, .ref nm, .int ((fnw (104 + 3 * s9_10359 + 2)) - (fnm cc10360)), .int mtoHour, .ref ns, .int mfrom, .int mto, .int msort, .int misFault, .int mdeep, .int mcoded, .int mlines, .ref nl, .ref nc, .ref nF, .ref np, .ref ntr, .ref nb, .int mbestCost, .ref nso, .ref nsi, .ref nit, .ref nsh, .ref nsf, .ref nss, .ref nrc, .int mtraced, .int mdealer, .int mnumber, .int mwhose, .int msize, .int misParted])), (nw, .inl (G.2.1, 1662, .inl fnw)), (nm, .inl (G.2.1, 36, .inl fnm))]) rfl (Nat.le_of_ble_eq_true rfl) rfl rfl rfl dX12_hours_74 (fun H locs hP hD hS => ?_)
      refine lv_aload_n hx hb dX12_hours_77 rfl (lv_at hl 2 rfl) ?_
      refine lv_aload_n hx hb dX12_hours_78 rfl (lv_at hl 2 rfl) ?_
      refine gf_X12_9 hC rfl hK hP 0 rfl rfl dX12_hours_79 ?_
      refine lv_iload hx hb dX12_hours_82 (lv_at hl 0 rfl) ?_
      refine lv_iconst (v := 2) hx hb dX12_hours_84 (by decide) ?_
      refine lv_iadd hx hb dX12_hours_85 ?_
      refine eqi (x1 := nI (104 + 3 * s9_10359 + 2)) (nI_add (104 + 3 * s9_10359) 2) ?_
      refine ald hC hK hP 1 rfl (vp_in_nI (by omega) (by omega)) (k := (104 + 3 * s9_10359 + 2)) (nI_clamp (by omega)) (v := fnw (104 + 3 * s9_10359 + 2)) rfl dX12_hours_86 ?_
      refine lv_aload_n hx hb dX12_hours_87 rfl (lv_at hl 2 rfl) ?_
      refine lv_aload_n hx hb dX12_hours_88 rfl (lv_at hl 2 rfl) ?_
      refine gf_X12_9 hC rfl hK hP 0 rfl rfl dX12_hours_89 ?_
      refine lv_iload hx hb dX12_hours_92 (lv_at hl 0 rfl) ?_
      refine lv_iconst (v := 1) hx hb dX12_hours_94 (by decide) ?_
      refine lv_iadd hx hb dX12_hours_95 ?_
      refine eqi (x1 := nI (104 + 3 * s9_10359 + 1)) (nI_add (104 + 3 * s9_10359) 1) ?_
      refine ald hC hK hP 1 rfl (vp_in_nI (by omega) (by omega)) (k := 104 + 3 * s9_10359 + 1) (nI_clamp (by omega)) (v := nI cc10360) (ecc10360) dX12_hours_96 ?_
      refine pV hC hK hl hP hD (m_least l G h0 cc10360 nw nk mhasKept nt mtaped nr mrowMany mroundOf mroundFrom 0 nm ((fnw (104 + 3 * s9_10359 + 2)) - (fnm cc10360)) mtoHour ns mfrom mto msort misFault mdeep mcoded mlines nl nc nF np ntr nb mbestCost nso nsi nit nsh nsf nss nrc mtraced mdealer mnumber mwhose msize misParted fnm (by omega)) si_X12_158 [0, 2] rfl rfl (by decide) rfl rfl rfl rfl rfl (Nat.le_of_ble_eq_true rfl) ⟨Nat.le_of_ble_eq_true rfl, Nat.le_of_ble_eq_true rfl⟩ ⟨by first | exact Nat.le_of_ble_eq_true rfl | exact Nat.zero_le _, by first | exact Nat.le_of_ble_eq_true rfl | exact Nat.zero_le _⟩ dX12_hours_97 (fun r10363 hr10363 => ?_)
      obtain rfl := hr10363
      refine lv_isub hx hb dX12_hours_100 ?_
      refine pf_X12_164 hC rfl hK hP hD hS 0 (ws' := [(h0, .inr (12, [.ref nw, .ref nk, .int mhasKept, .ref nt, .int mtaped, .ref nr, .int mrowMany, .int mroundOf, .int mroundFrom, .int 0, .ref nm, .int ((fnw (104 + 3 * s9_10359 + 2)) - (fnm cc10360)), .int ((fnw (104 + 3 * s9_10359 + 2)) - (-(fnm (6 * cc10360)))), .ref ns, .int mfrom, .int mto, .int msort, .int misFault, .int mdeep, .int mcoded, .int mlines, .ref nl, .ref nc, .ref nF, .ref np, .ref ntr, .ref nb, .int mbestCost, .ref nso, .ref nsi, .ref nit, .ref nsh, .ref nsf, .ref nss, .ref nrc, .int mtraced, .int mdealer, .int mnumber, .int mwhose, .int msize, .int misParted])), (nw, .inl (G.2.1, 1662, .inl fnw)), (nm, .inl (G.2.1, 36, .inl fnm))]) rfl (Nat.le_of_ble_eq_true rfl) rfl rfl rfl dX12_hours_101 (fun H locs hP hD hS => ?_)
      refine lv_iconst (v := 1) hx hb dX12_hours_104 (by decide) ?_
      exact RI (v := 1) hC hP hD hS [0, 1, 2] ((fnw (104 + 3 * s9_10359 + 2)) - (fnm cc10360), (fnw (104 + 3 * s9_10359 + 2)) - (-(fnm (6 * cc10360)))) rfl rfl (by decide) (Or.inl ⟨rfl, _, hpx10359.fst, ⟨by omega, a10357⟩, TR0.mk ecc10360 (by omega), TR1.mk ecc10360 (by omega)⟩) (by decide +kernel) dX12_hours_105
    · refine lv_if_ne (tgt := 26) hx hb dX12_hours_21 (by decide) (fun c9 => absurd (by decide) c9) (fun _ => ?_)
      refine lv_iconst (v := 0) hx hb dX12_hours_24 (by decide) ?_
      exact RI (v := 0) hC hP hD hS [0, 1, 2] (mfromHour, mtoHour) rfl rfl (by decide) (Or.inr ⟨rfl, Or.inl (fun h9 => a10357 h9.2)⟩) (by decide +kernel) dX12_hours_25
set_option maxHeartbeats 4000000 in
set_option maxRecDepth 100000 in
theorem m_inHandC (l : Launch) (G : GG) (k6 : Nat) (h0 : Nat) (jp : Nat) (je : Nat) (nw : Nat) (nk : Nat) (mhasKept : Int32) (nt : Nat) (mtaped : Int32) (nr : Nat) (mrowMany : Int32) (mroundOf : Int32) (mroundFrom : Int32) (mouts : Int32) (nm : Nat) (mfromHour : Int32) (mtoHour : Int32) (ns : Nat) (mfrom : Int32) (mto : Int32) (msort : Int32) (misFault : Int32) (mdeep : Int32) (mcoded : Int32) (mlines : Int32) (nl : Nat) (nc : Nat) (nF : Nat) (np : Nat) (ntr : Nat) (nb : Nat) (mbestCost : Int32) (nso : Nat) (nsi : Nat) (nit : Nat) (nsh : Nat) (nsf : Nat) (nss : Nat) (nrc : Nat) (mtraced : Int32) (mdealer : Int32) (mnumber : Int32) (mwhose : Int32) (msize : Int32) (misParted : Int32) (fnw : Nat → Int32) (e6 : fnw 6 = nI k6) (hk6 : k6 ≤ 24) (hjp : jp < 12) : MP l G yX12_inHand cX12_inHand 4 (some .boolean) 4 [.ref h0, .int (nI jp), .int (nI je), .int 1] [(h0, .inr (12, [.ref nw, .ref nk, .int mhasKept, .ref nt, .int mtaped, .ref nr, .int mrowMany, .int mroundOf, .int mroundFrom, .int mouts, .ref nm, .int mfromHour, .int mtoHour, .ref ns, .int mfrom, .int mto, .int msort, .int misFault, .int mdeep, .int mcoded, .int mlines, .ref nl, .ref nc, .ref nF, .ref np, .ref ntr, .ref nb, .int mbestCost, .ref nso, .ref nsi, .ref nit, .ref nsh, .ref nsf, .ref nss, .ref nrc, .int mtraced, .int mdealer, .int mnumber, .int mwhose, .int msize, .int misParted])), (nw, .inl (G.2.1, 1662, .inl fnw))] (fun r : Int32 => r = 0) := by
  refine MP.start (by decide +kernel) (Nat.le_of_ble_eq_true rfl) ?_
  intro p e s m below meth c ls hC hK hP hD hl
  have hl : lv_has ls 4 [(0, .ref h0), (1, .int (nI jp)), (2, .int (nI je)), (3, .int 1)] := hl
  obtain ⟨hx, hb, hr, hml, hB, hown, hlocks, hnm⟩ := id hC
  refine lv_aload_n hx hb dX12_inHand_0 rfl (lv_at hl 0 rfl) ?_
  refine lv_iload_n hx hb dX12_inHand_1 rfl (lv_at hl 1 rfl) ?_
  refine lv_iconst (v := 0) hx hb dX12_inHand_2 (by decide) ?_
  refine pV hC hK hl hP hD (m_paper l G h0 jp 0 nw nk mhasKept nt mtaped nr mrowMany mroundOf mroundFrom mouts nm mfromHour mtoHour ns mfrom mto msort misFault mdeep mcoded mlines nl nc nF np ntr nb mbestCost nso nsi nit nsh nsf nss nrc mtraced mdealer mnumber mwhose msize misParted fnw (hjp) (by omega)) si_X12_88 [0, 1] rfl rfl (by decide) rfl rfl rfl rfl rfl (Nat.le_of_ble_eq_true rfl) ⟨Nat.le_of_ble_eq_true rfl, Nat.le_of_ble_eq_true rfl⟩ ⟨by first | exact Nat.le_of_ble_eq_true rfl | exact Nat.zero_le _, by first | exact Nat.le_of_ble_eq_true rfl | exact Nat.zero_le _⟩ dX12_inHand_3 (fun r10365 hr10365 => ?_)
  obtain rfl := hr10365
  refine lv_iload_n hx hb dX12_inHand_6 rfl (lv_at hl 2 rfl) ?_
  refine lv_icmp_ne (tgt := 18) hx hb dX12_inHand_7 (by decide) (fun c_7_10367 => ?_) (fun c_7_10367 => ?_)
  · refine lv_aload_n hx hb dX12_inHand_18 rfl (lv_at hl 0 rfl) ?_
    refine lv_iload_n hx hb dX12_inHand_19 rfl (lv_at hl 1 rfl) ?_
    refine lv_iconst (v := 1) hx hb dX12_inHand_20 (by decide) ?_
    refine pV hC hK hl hP hD (m_paper l G h0 jp 1 nw nk mhasKept nt mtaped nr mrowMany mroundOf mroundFrom mouts nm mfromHour mtoHour ns mfrom mto msort misFault mdeep mcoded mlines nl nc nF np ntr nb mbestCost nso nsi nit nsh nsf nss nrc mtraced mdealer mnumber mwhose msize misParted fnw (hjp) (by omega)) si_X12_88 [0, 1] rfl rfl (by decide) rfl rfl rfl rfl rfl (Nat.le_of_ble_eq_true rfl) ⟨Nat.le_of_ble_eq_true rfl, Nat.le_of_ble_eq_true rfl⟩ ⟨by first | exact Nat.le_of_ble_eq_true rfl | exact Nat.zero_le _, by first | exact Nat.le_of_ble_eq_true rfl | exact Nat.zero_le _⟩ dX12_inHand_21 (fun r10368 hr10368 => ?_)
    obtain rfl := hr10368
    refine lv_iload_n hx hb dX12_inHand_24 rfl (lv_at hl 2 rfl) ?_
    refine pS hC hK hl (m_has l G (fnw (32 + 6 * jp + 1)) (nI je)) si_X12_99 rfl rfl (Nat.le_of_ble_eq_true rfl) ⟨Nat.le_of_ble_eq_true rfl, Nat.le_of_ble_eq_true rfl⟩ ⟨by first | exact Nat.le_of_ble_eq_true rfl | exact Nat.zero_le _, by first | exact Nat.le_of_ble_eq_true rfl | exact Nat.zero_le _⟩ dX12_inHand_25 (fun r10370 hr10370 => ?_)
    rcases hr10370 with ⟨rfl, a10371⟩ | ⟨rfl, a10371⟩
    · refine lv_if_eq (tgt := 41) hx hb dX12_inHand_28 (by decide) (fun c9 => absurd c9 (by decide)) (fun _ => ?_)
      refine lv_aload_n hx hb dX12_inHand_31 rfl (lv_at hl 0 rfl) ?_
      refine lv_iload_n hx hb dX12_inHand_32 rfl (lv_at hl 1 rfl) ?_
      refine lv_iload_n hx hb dX12_inHand_33 rfl (lv_at hl 3 rfl) ?_
      refine lv_iconst (v := 1) hx hb dX12_inHand_34 (by decide) ?_
      refine pV hC hK hl hP hD (m_hoursC l G k6 h0 jp 1 nw nk mhasKept nt mtaped nr mrowMany mroundOf mroundFrom mouts nm mfromHour mtoHour ns mfrom mto msort misFault mdeep mcoded mlines nl nc nF np ntr nb mbestCost nso nsi nit nsh nsf nss nrc mtraced mdealer mnumber mwhose msize misParted fnw (e6) (hk6) (hjp)) si_X12_167 [0, 1] rfl rfl (by decide) rfl rfl rfl rfl rfl (Nat.le_of_ble_eq_true rfl) ⟨Nat.le_of_ble_eq_true rfl, Nat.le_of_ble_eq_true rfl⟩ ⟨by first | exact Nat.le_of_ble_eq_true rfl | exact Nat.zero_le _, by first | exact Nat.le_of_ble_eq_true rfl | exact Nat.zero_le _⟩ dX12_inHand_35 (fun r10372 hr10372 => ?_)
      obtain rfl := hr10372
      refine lv_if_ne (tgt := 43) hx hb dX12_inHand_38 (by decide) (fun c9 => absurd (by decide) c9) (fun _ => ?_)
      refine lv_iconst (v := 0) hx hb dX12_inHand_41 (by decide) ?_
      exact RP (v := 0) hC (rfl) (by decide +kernel) dX12_inHand_42
    · refine lv_if_eq (tgt := 41) hx hb dX12_inHand_28 (by decide) (fun _ => ?_) (fun c9 => absurd (by decide) c9)
      refine lv_iconst (v := 0) hx hb dX12_inHand_41 (by decide) ?_
      exact RP (v := 0) hC (rfl) (by decide +kernel) dX12_inHand_42
  · refine lv_aload_n hx hb dX12_inHand_10 rfl (lv_at hl 0 rfl) ?_
    refine lv_iload_n hx hb dX12_inHand_11 rfl (lv_at hl 1 rfl) ?_
    refine lv_iload_n hx hb dX12_inHand_12 rfl (lv_at hl 3 rfl) ?_
    refine lv_iconst (v := 0) hx hb dX12_inHand_13 (by decide) ?_
    refine pV hC hK hl hP hD (m_hoursC l G k6 h0 jp 0 nw nk mhasKept nt mtaped nr mrowMany mroundOf mroundFrom mouts nm mfromHour mtoHour ns mfrom mto msort misFault mdeep mcoded mlines nl nc nF np ntr nb mbestCost nso nsi nit nsh nsf nss nrc mtraced mdealer mnumber mwhose msize misParted fnw (e6) (hk6) (hjp)) si_X12_167 [0, 1] rfl rfl (by decide) rfl rfl rfl rfl rfl (Nat.le_of_ble_eq_true rfl) ⟨Nat.le_of_ble_eq_true rfl, Nat.le_of_ble_eq_true rfl⟩ ⟨by first | exact Nat.le_of_ble_eq_true rfl | exact Nat.zero_le _, by first | exact Nat.le_of_ble_eq_true rfl | exact Nat.zero_le _⟩ dX12_inHand_14 (fun r10374 hr10374 => ?_)
    obtain rfl := hr10374
    exact RP (v := 0) hC (rfl) (by decide +kernel) dX12_inHand_17
set_option maxHeartbeats 4000000 in
set_option maxRecDepth 100000 in
theorem m_inHandL (l : Launch) (G : GG) (kq : Nat) (k6 : Nat) (h0 : Nat) (jp : Nat) (je : Nat) (nw : Nat) (nk : Nat) (mhasKept : Int32) (nt : Nat) (mtaped : Int32) (nr : Nat) (mrowMany : Int32) (mroundOf : Int32) (mroundFrom : Int32) (nm : Nat) (mfromHour : Int32) (mtoHour : Int32) (ns : Nat) (mfrom : Int32) (mto : Int32) (msort : Int32) (misFault : Int32) (mdeep : Int32) (mcoded : Int32) (mlines : Int32) (nl : Nat) (nc : Nat) (nF : Nat) (np : Nat) (ntr : Nat) (nb : Nat) (mbestCost : Int32) (nso : Nat) (nsi : Nat) (nit : Nat) (nsh : Nat) (nsf : Nat) (nss : Nat) (nrc : Nat) (mtraced : Int32) (mdealer : Int32) (mnumber : Int32) (mwhose : Int32) (msize : Int32) (misParted : Int32) (fnw : Nat → Int32) (fnm : Nat → Int32) (hN : NI fnw) (e6 : fnw 6 = nI k6) (hk6 : k6 ≤ 24) (ekq : fnw 5 = nI kq) (hjp : jp < kq) (hkq : kq ≤ 12) (hje : je < 10) : MI l G yX12_inHand cX12_inHand 4 (some .boolean) 4 0 0 [.ref h0, .int (nI jp), .int (nI je), .int 0] [(h0, .inr (12, [.ref nw, .ref nk, .int mhasKept, .ref nt, .int mtaped, .ref nr, .int mrowMany, .int mroundOf, .int mroundFrom, .int 0, .ref nm, .int mfromHour, .int mtoHour, .ref ns, .int mfrom, .int mto, .int msort, .int misFault, .int mdeep, .int mcoded, .int mlines, .ref nl, .ref nc, .ref nF, .ref np, .ref ntr, .ref nb, .int mbestCost, .ref nso, .ref nsi, .ref nit, .ref nsh, .ref nsf, .ref nss, .ref nrc, .int mtraced, .int mdealer, .int mnumber, .int mwhose, .int msize, .int misParted])), (nw, .inl (G.2.1, 1662, .inl fnw)), (nm, .inl (G.2.1, 36, .inl fnm))] (fun (r : Int32) (u : Int32 × Int32) => ((r = 1 ∧ (fnw (32 + 6 * jp + 0) = nI je ∧ ∃ s9, FST (shf fnw 104) k6 jp s9 ∧ VSE fnw kq jp ∧ u.1 = TR0 (shf fnw 104) fnm s9 ∧ u.2 = TR1 (shf fnw 104) fnm s9) ∨ (¬ fnw (32 + 6 * jp + 0) = nI je ∧ ((fnw (32 + 6 * jp + 1)) >>> ((nI je) &&& 31)) &&& 1 = 1 ∧ ∃ s9, LST (shf fnw 104) k6 jp s9 ∧ VSE fnw kq jp ∧ u.1 = TR0 (shf fnw 104) fnm s9 ∧ u.2 = TR1 (shf fnw 104) fnm s9 + fnw (12 + 2 * je + 1))) ∨ (r = 0 ∧ (¬ VSE fnw kq jp ∨ ∀ s9, s9 < k6 → ¬ shf fnw 104 (s9 * 3 + 0) = nI jp) ∨ (¬ fnw (32 + 6 * jp + 0) = nI je ∧ ¬ ((fnw (32 + 6 * jp + 1)) >>> ((nI je) &&& 31)) &&& 1 = 1)))) (fun u : Int32 × Int32 => [(h0, .inr (12, [.ref nw, .ref nk, .int mhasKept, .ref nt, .int mtaped, .ref nr, .int mrowMany, .int mroundOf, .int mroundFrom, .int 0, .ref nm, .int u.1, .int u.2, .ref ns, .int mfrom, .int mto, .int msort, .int misFault, .int mdeep, .int mcoded, .int mlines, .ref nl, .ref nc, .ref nF, .ref np, .ref ntr, .ref nb, .int mbestCost, .ref nso, .ref nsi, .ref nit, .ref nsh, .ref nsf, .ref nss, .ref nrc, .int mtraced, .int mdealer, .int mnumber, .int mwhose, .int msize, .int misParted])), (nw, .inl (G.2.1, 1662, .inl fnw)), (nm, .inl (G.2.1, 36, .inl fnm))]) := by
  refine MI.start (by decide +kernel) (Nat.le_of_ble_eq_true rfl) ?_
  intro p e s m below meth c A ls hC hK hP hD hS hA hl
  have hl : lv_has ls 4 [(0, .ref h0), (1, .int (nI jp)), (2, .int (nI je)), (3, .int 0)] := hl
  obtain ⟨hx, hb, hr, hml, hB, hown, hlocks, hnm⟩ := id hC
  refine lv_aload_n hx hb dX12_inHand_0 rfl (lv_at hl 0 rfl) ?_
  refine lv_iload_n hx hb dX12_inHand_1 rfl (lv_at hl 1 rfl) ?_
  refine lv_iconst (v := 0) hx hb dX12_inHand_2 (by decide) ?_
  refine pV hC hK hl hP hD (m_paper l G h0 jp 0 nw nk mhasKept nt mtaped nr mrowMany mroundOf mroundFrom 0 nm mfromHour mtoHour ns mfrom mto msort misFault mdeep mcoded mlines nl nc nF np ntr nb mbestCost nso nsi nit nsh nsf nss nrc mtraced mdealer mnumber mwhose msize misParted fnw (by omega) (by omega)) si_X12_88 [0, 1] rfl rfl (by decide) rfl rfl rfl rfl rfl (Nat.le_of_ble_eq_true rfl) ⟨Nat.le_of_ble_eq_true rfl, Nat.le_of_ble_eq_true rfl⟩ ⟨by first | exact Nat.le_of_ble_eq_true rfl | exact Nat.zero_le _, by first | exact Nat.le_of_ble_eq_true rfl | exact Nat.zero_le _⟩ dX12_inHand_3 (fun r10376 hr10376 => ?_)
  obtain rfl := hr10376
  refine lv_iload_n hx hb dX12_inHand_6 rfl (lv_at hl 2 rfl) ?_
  refine lv_icmp_ne (tgt := 18) hx hb dX12_inHand_7 (by decide) (fun c_7_10378 => ?_) (fun c_7_10378 => ?_)
  · refine lv_aload_n hx hb dX12_inHand_18 rfl (lv_at hl 0 rfl) ?_
    refine lv_iload_n hx hb dX12_inHand_19 rfl (lv_at hl 1 rfl) ?_
    refine lv_iconst (v := 1) hx hb dX12_inHand_20 (by decide) ?_
    refine pV hC hK hl hP hD (m_paper l G h0 jp 1 nw nk mhasKept nt mtaped nr mrowMany mroundOf mroundFrom 0 nm mfromHour mtoHour ns mfrom mto msort misFault mdeep mcoded mlines nl nc nF np ntr nb mbestCost nso nsi nit nsh nsf nss nrc mtraced mdealer mnumber mwhose msize misParted fnw (by omega) (by omega)) si_X12_88 [0, 1] rfl rfl (by decide) rfl rfl rfl rfl rfl (Nat.le_of_ble_eq_true rfl) ⟨Nat.le_of_ble_eq_true rfl, Nat.le_of_ble_eq_true rfl⟩ ⟨by first | exact Nat.le_of_ble_eq_true rfl | exact Nat.zero_le _, by first | exact Nat.le_of_ble_eq_true rfl | exact Nat.zero_le _⟩ dX12_inHand_21 (fun r10379 hr10379 => ?_)
    obtain rfl := hr10379
    refine lv_iload_n hx hb dX12_inHand_24 rfl (lv_at hl 2 rfl) ?_
    refine pS hC hK hl (m_has l G (fnw (32 + 6 * jp + 1)) (nI je)) si_X12_99 rfl rfl (Nat.le_of_ble_eq_true rfl) ⟨Nat.le_of_ble_eq_true rfl, Nat.le_of_ble_eq_true rfl⟩ ⟨by first | exact Nat.le_of_ble_eq_true rfl | exact Nat.zero_le _, by first | exact Nat.le_of_ble_eq_true rfl | exact Nat.zero_le _⟩ dX12_inHand_25 (fun r10381 hr10381 => ?_)
    rcases hr10381 with ⟨rfl, a10382⟩ | ⟨rfl, a10382⟩
    · refine lv_if_eq (tgt := 41) hx hb dX12_inHand_28 (by decide) (fun c9 => absurd c9 (by decide)) (fun _ => ?_)
      refine lv_aload_n hx hb dX12_inHand_31 rfl (lv_at hl 0 rfl) ?_
      refine lv_iload_n hx hb dX12_inHand_32 rfl (lv_at hl 1 rfl) ?_
      refine lv_iload_n hx hb dX12_inHand_33 rfl (lv_at hl 3 rfl) ?_
      refine lv_iconst (v := 1) hx hb dX12_inHand_34 (by decide) ?_
      refine iV (wr := []) hC hK hl hP hD hS hA (m_hoursL l G kq k6 h0 jp nw nk mhasKept nt mtaped nr mrowMany mroundOf mroundFrom nm mfromHour mtoHour ns mfrom mto msort misFault mdeep mcoded mlines nl nc nF np ntr nb mbestCost nso nsi nit nsh nsf nss nrc mtraced mdealer mnumber mwhose msize misParted fnw fnm (hN) (e6) (hk6) (ekq) (hjp) (hkq)) si_X12_167 [0, 1, 2] [] rfl rfl (by decide) rfl (by decide) (by decide) rfl rfl rfl rfl rfl (Nat.le_of_ble_eq_true rfl) ⟨Nat.le_of_ble_eq_true rfl, Nat.le_of_ble_eq_true rfl⟩ ⟨Nat.le_of_ble_eq_true rfl, Nat.le_of_ble_eq_true rfl⟩ dX12_inHand_35 (fun r10383 u10384 H locs hr10383 hP hD hS => ?_)
      obtain ⟨fh110385, th110386⟩ := u10384
      try dsimp only at hr10383
      have hPD : va_PD G A [(h0, .inr (12, [.ref nw, .ref nk, .int mhasKept, .ref nt, .int mtaped, .ref nr, .int mrowMany, .int mroundOf, .int mroundFrom, .int 0, .ref nm, .int fh110385, .int th110386, .ref ns, .int mfrom, .int mto, .int msort, .int misFault, .int mdeep, .int mcoded, .int mlines, .ref nl, .ref nc, .ref nF, .ref np, .ref ntr, .ref nb, .int mbestCost, .ref nso, .ref nsi, .ref nit, .ref nsh, .ref nsf, .ref nss, .ref nrc, .int mtraced, .int mdealer, .int mnumber, .int mwhose, .int msize, .int misParted])), (nw, .inl (G.2.1, 1662, .inl fnw)), (nm, .inl (G.2.1, 36, .inl fnm))] H := And.intro hP hD
      obtain ⟨hP, hD⟩ := hPD
      rcases hr10383 with ⟨rfl, a10387⟩ | ⟨rfl, a10387⟩
      · refine lv_if_ne (tgt := 43) hx hb dX12_inHand_38 (by decide) (fun _ => ?_) (fun c9 => absurd c9 (by decide))
        refine lv_aload_n hx hb dX12_inHand_43 rfl (lv_at hl 0 rfl) ?_
        refine lv_dup hx hb dX12_inHand_44 rfl ?_
        refine gf_X12_164 hC rfl hK hP 0 rfl rfl dX12_inHand_45 ?_
        refine lv_aload_n hx hb dX12_inHand_48 rfl (lv_at hl 0 rfl) ?_
        refine gf_X12_9 hC rfl hK hP 0 rfl rfl dX12_inHand_49 ?_
        refine lv_bipush (v := 12) hx hb dX12_inHand_52 (by decide) ?_
        refine lv_iconst (v := 2) hx hb dX12_inHand_54 (by decide) ?_
        refine lv_iload_n hx hb dX12_inHand_55 rfl (lv_at hl 2 rfl) ?_
        refine lv_imul hx hb dX12_inHand_56 ?_
        refine eqi (x1 := nI (2 * je)) (nI_mul 2 je) ?_
        refine lv_iadd hx hb dX12_inHand_57 ?_
        refine eqi (x1 := nI (12 + 2 * je)) (nI_add 12 (2 * je)) ?_
        refine lv_iconst (v := 1) hx hb dX12_inHand_58 (by decide) ?_
        refine lv_iadd hx hb dX12_inHand_59 ?_
        refine eqi (x1 := nI (12 + 2 * je + 1)) (nI_add (12 + 2 * je) 1) ?_
        refine ald hC hK hP 1 rfl (vp_in_nI (by omega) (by omega)) (k := (12 + 2 * je + 1)) (nI_clamp (by omega)) (v := fnw (12 + 2 * je + 1)) rfl dX12_inHand_60 ?_
        refine lv_iadd hx hb dX12_inHand_61 ?_
        refine pf_X12_164 hC rfl hK hP hD hS 0 (ws' := [(h0, .inr (12, [.ref nw, .ref nk, .int mhasKept, .ref nt, .int mtaped, .ref nr, .int mrowMany, .int mroundOf, .int mroundFrom, .int 0, .ref nm, .int fh110385, .int (th110386 + (fnw (12 + 2 * je + 1))), .ref ns, .int mfrom, .int mto, .int msort, .int misFault, .int mdeep, .int mcoded, .int mlines, .ref nl, .ref nc, .ref nF, .ref np, .ref ntr, .ref nb, .int mbestCost, .ref nso, .ref nsi, .ref nit, .ref nsh, .ref nsf, .ref nss, .ref nrc, .int mtraced, .int mdealer, .int mnumber, .int mwhose, .int msize, .int misParted])), (nw, .inl (G.2.1, 1662, .inl fnw)), (nm, .inl (G.2.1, 36, .inl fnm))]) rfl (Nat.le_of_ble_eq_true rfl) rfl rfl rfl dX12_inHand_62 (fun H locs hP hD hS => ?_)
        refine lv_iconst (v := 1) hx hb dX12_inHand_65 (by decide) ?_
        exact RI (v := 1) hC hP hD hS [0, 1, 2] (fh110385, th110386 + (fnw (12 + 2 * je + 1))) rfl rfl (by decide) (Or.inl ⟨rfl, Or.inr ⟨c_7_10378, a10382, Exists.imp (fun s9 h9 => ⟨h9.1, h9.2.1, h9.2.2.1, congrArg (fun z9 => z9 + fnw (12 + 2 * je + 1)) h9.2.2.2⟩) a10387⟩⟩) (by decide +kernel) dX12_inHand_66
      · refine lv_if_ne (tgt := 43) hx hb dX12_inHand_38 (by decide) (fun c9 => absurd (by decide) c9) (fun _ => ?_)
        refine lv_iconst (v := 0) hx hb dX12_inHand_41 (by decide) ?_
        exact RI (v := 0) hC hP hD hS [0, 1, 2] (fh110385, th110386) rfl rfl (by decide) (Or.inr ⟨rfl, Or.inl a10387⟩) (by decide +kernel) dX12_inHand_42
    · refine lv_if_eq (tgt := 41) hx hb dX12_inHand_28 (by decide) (fun _ => ?_) (fun c9 => absurd (by decide) c9)
      refine lv_iconst (v := 0) hx hb dX12_inHand_41 (by decide) ?_
      exact RI (v := 0) hC hP hD hS [0, 1, 2] (mfromHour, mtoHour) rfl rfl (by decide) (Or.inr ⟨rfl, Or.inr ⟨c_7_10378, a10382⟩⟩) (by decide +kernel) dX12_inHand_42
  · refine lv_aload_n hx hb dX12_inHand_10 rfl (lv_at hl 0 rfl) ?_
    refine lv_iload_n hx hb dX12_inHand_11 rfl (lv_at hl 1 rfl) ?_
    refine lv_iload_n hx hb dX12_inHand_12 rfl (lv_at hl 3 rfl) ?_
    refine lv_iconst (v := 0) hx hb dX12_inHand_13 (by decide) ?_
    refine iV (wr := []) hC hK hl hP hD hS hA (m_hoursF l G kq k6 h0 jp nw nk mhasKept nt mtaped nr mrowMany mroundOf mroundFrom nm mfromHour mtoHour ns mfrom mto msort misFault mdeep mcoded mlines nl nc nF np ntr nb mbestCost nso nsi nit nsh nsf nss nrc mtraced mdealer mnumber mwhose msize misParted fnw fnm (hN) (e6) (hk6) (ekq) (hjp) (hkq)) si_X12_167 [0, 1, 2] [] rfl rfl (by decide) rfl (by decide) (by decide) rfl rfl rfl rfl rfl (Nat.le_of_ble_eq_true rfl) ⟨Nat.le_of_ble_eq_true rfl, Nat.le_of_ble_eq_true rfl⟩ ⟨Nat.le_of_ble_eq_true rfl, Nat.le_of_ble_eq_true rfl⟩ dX12_inHand_14 (fun r10388 u10389 H locs hr10388 hP hD hS => ?_)
    obtain ⟨fh110390, th110391⟩ := u10389
    try dsimp only at hr10388
    have hPD : va_PD G A [(h0, .inr (12, [.ref nw, .ref nk, .int mhasKept, .ref nt, .int mtaped, .ref nr, .int mrowMany, .int mroundOf, .int mroundFrom, .int 0, .ref nm, .int fh110390, .int th110391, .ref ns, .int mfrom, .int mto, .int msort, .int misFault, .int mdeep, .int mcoded, .int mlines, .ref nl, .ref nc, .ref nF, .ref np, .ref ntr, .ref nb, .int mbestCost, .ref nso, .ref nsi, .ref nit, .ref nsh, .ref nsf, .ref nss, .ref nrc, .int mtraced, .int mdealer, .int mnumber, .int mwhose, .int msize, .int misParted])), (nw, .inl (G.2.1, 1662, .inl fnw)), (nm, .inl (G.2.1, 36, .inl fnm))] H := And.intro hP hD
    obtain ⟨hP, hD⟩ := hPD
    rcases hr10388 with ⟨rfl, a10392⟩ | ⟨rfl, a10392⟩
    · exact RI (v := 1) hC hP hD hS [0, 1, 2] (fh110390, th110391) rfl rfl (by decide) (Or.inl ⟨rfl, Or.inl ⟨c_7_10378, a10392⟩⟩) (by decide +kernel) dX12_inHand_17
    · exact RI (v := 0) hC hP hD hS [0, 1, 2] (fh110390, th110391) rfl rfl (by decide) (Or.inr ⟨rfl, Or.inl a10392⟩) (by decide +kernel) dX12_inHand_17
set_option maxHeartbeats 4000000 in
set_option maxRecDepth 100000 in
theorem r_handT (l : Launch) (G : GG) (kq : Nat) (k6 : Nat) (kp : Nat) (h0 : Nat) (x1 : Int32) (x2 : Int32) (x3 : Int32) (nw : Nat) (nk : Nat) (mhasKept : Int32) (nt : Nat) (mtaped : Int32) (nr : Nat) (mrowMany : Int32) (mroundOf : Int32) (mroundFrom : Int32) (nm : Nat) (mfromHour : Int32) (mtoHour : Int32) (ns : Nat) (mfrom : Int32) (mto : Int32) (msort : Int32) (misFault : Int32) (mdeep : Int32) (mcoded : Int32) (mlines : Int32) (nl : Nat) (nc : Nat) (nF : Nat) (np : Nat) (ntr : Nat) (nb : Nat) (mbestCost : Int32) (nso : Nat) (nsi : Nat) (nit : Nat) (nsh : Nat) (nsf : Nat) (nss : Nat) (nrc : Nat) (mtraced : Int32) (mdealer : Int32) (mnumber : Int32) (mwhose : Int32) (msize : Int32) (misParted : Int32) (fnw : Nat → Int32) (fnm : Nat → Int32) (hM : MB fnm) (hN : NI fnw) (hgp : GPRm (fnw 3)) (ekq : fnw 5 = nI kq) (hkq : kq ≤ 12) (e6 : fnw 6 = nI k6) (hk6 : k6 ≤ 24) (ekp : fnw 4 = nI kp) (hkp : kp ≤ 10) : MI l G yX12_hand cX12_hand 4 (some .int) 6 0 0 [.ref h0, .int x1, .int x2, .int x3] [(h0, .inr (12, [.ref nw, .ref nk, .int mhasKept, .ref nt, .int mtaped, .ref nr, .int mrowMany, .int mroundOf, .int mroundFrom, .int 0, .ref nm, .int mfromHour, .int mtoHour, .ref ns, .int mfrom, .int mto, .int msort, .int misFault, .int mdeep, .int mcoded, .int mlines, .ref nl, .ref nc, .ref nF, .ref np, .ref ntr, .ref nb, .int mbestCost, .ref nso, .ref nsi, .ref nit, .ref nsh, .ref nsf, .ref nss, .ref nrc, .int mtraced, .int mdealer, .int mnumber, .int mwhose, .int msize, .int misParted])), (nw, .inl (G.2.1, 1662, .inl fnw)), (nm, .inl (G.2.1, 36, .inl fnm))] (fun (r : Int32) (u : Int32 × Int32 × (Nat → Int32)) => (∃ s9, (HNQ (KST (shf fnw 104) (VSE fnw kq) (fnw 3).toInt k6) (shf fnw 104) (VSE fnw kq) (shf fnw 32) (shf fnw 12) k6 kq kp x1 x2 x3 s9) ∧ r = s9) ∧ (MB u.2.2)) (fun u : Int32 × Int32 × (Nat → Int32) => [(h0, .inr (12, [.ref nw, .ref nk, .int mhasKept, .ref nt, .int mtaped, .ref nr, .int mrowMany, .int mroundOf, .int mroundFrom, .int 0, .ref nm, .int u.1, .int u.2.1, .ref ns, .int mfrom, .int mto, .int msort, .int misFault, .int mdeep, .int mcoded, .int mlines, .ref nl, .ref nc, .ref nF, .ref np, .ref ntr, .ref nb, .int mbestCost, .ref nso, .ref nsi, .ref nit, .ref nsh, .ref nsf, .ref nss, .ref nrc, .int mtraced, .int mdealer, .int mnumber, .int mwhose, .int msize, .int misParted])), (nw, .inl (G.2.1, 1662, .inl fnw)), (nm, .inl (G.2.1, 36, .inl u.2.2))]) := by
  refine MI.start (by decide +kernel) (Nat.le_of_ble_eq_true rfl) ?_
  intro p e s m below meth c A ls hC hK hP hD hS hA hl
  have hl : lv_has ls 4 [(0, .ref h0), (1, .int x1), (2, .int x2), (3, .int x3)] := hl
  obtain ⟨hx, hb, hr, hml, hB, hown, hlocks, hnm⟩ := id hC
  refine lv_aload_n hx hb dX12_hand_0 rfl (lv_at hl 0 rfl) ?_
  refine lv_iload_n hx hb dX12_hand_1 rfl (lv_at hl 1 rfl) ?_
  refine lv_iconst (v := 5) hx hb dX12_hand_2 (by decide) ?_
  refine pV hC hK hl hP hD (m_is l G kq h0 x1 5 nw nk mhasKept nt mtaped nr mrowMany mroundOf mroundFrom 0 nm mfromHour mtoHour ns mfrom mto msort misFault mdeep mcoded mlines nl nc nF np ntr nb mbestCost nso nsi nit nsh nsf nss nrc mtraced mdealer mnumber mwhose msize misParted fnw (by omega) (ekq) (by omega)) si_X12_120 [0, 1] rfl rfl (by decide) rfl rfl rfl rfl rfl (Nat.le_of_ble_eq_true rfl) ⟨Nat.le_of_ble_eq_true rfl, Nat.le_of_ble_eq_true rfl⟩ ⟨by first | exact Nat.le_of_ble_eq_true rfl | exact Nat.zero_le _, by first | exact Nat.le_of_ble_eq_true rfl | exact Nat.zero_le _⟩ dX12_hand_3 (fun r10393 hr10393 => ?_)
  rcases hr10393 with ⟨rfl, a10394⟩ | ⟨rfl, a10394⟩
  · refine lv_if_eq (tgt := 18) hx hb dX12_hand_6 (by decide) (fun c9 => absurd c9 (by decide)) (fun _ => ?_)
    refine lv_aload_n hx hb dX12_hand_9 rfl (lv_at hl 0 rfl) ?_
    refine lv_iload_n hx hb dX12_hand_10 rfl (lv_at hl 2 rfl) ?_
    refine lv_iconst (v := 4) hx hb dX12_hand_11 (by decide) ?_
    refine pV hC hK hl hP hD (m_is l G kp h0 x2 4 nw nk mhasKept nt mtaped nr mrowMany mroundOf mroundFrom 0 nm mfromHour mtoHour ns mfrom mto msort misFault mdeep mcoded mlines nl nc nF np ntr nb mbestCost nso nsi nit nsh nsf nss nrc mtraced mdealer mnumber mwhose msize misParted fnw (by omega) (ekp) (by omega)) si_X12_120 [0, 1] rfl rfl (by decide) rfl rfl rfl rfl rfl (Nat.le_of_ble_eq_true rfl) ⟨Nat.le_of_ble_eq_true rfl, Nat.le_of_ble_eq_true rfl⟩ ⟨by first | exact Nat.le_of_ble_eq_true rfl | exact Nat.zero_le _, by first | exact Nat.le_of_ble_eq_true rfl | exact Nat.zero_le _⟩ dX12_hand_12 (fun r10395 hr10395 => ?_)
    rcases hr10395 with ⟨rfl, a10396⟩ | ⟨rfl, a10396⟩
    · refine lv_if_ne (tgt := 20) hx hb dX12_hand_15 (by decide) (fun _ => ?_) (fun c9 => absurd c9 (by decide))
      obtain ⟨jp, hjp, rfl⟩ := Hs_nat (by omega) a10394
      obtain ⟨je, hje, rfl⟩ := Hs_nat (by omega) a10396
      refine lv_aload_n hx hb dX12_hand_20 rfl (lv_at hl 0 rfl) ?_
      refine lv_iload_n hx hb dX12_hand_21 rfl (lv_at hl 1 rfl) ?_
      refine lv_iload_n hx hb dX12_hand_22 rfl (lv_at hl 2 rfl) ?_
      refine lv_aload_n hx hb dX12_hand_23 rfl (lv_at hl 0 rfl) ?_
      refine iV (wr := []) hC hK hl hP hD hS hA (m_findClocksX l G kq k6 h0 nw nk mhasKept nt mtaped nr mrowMany mroundOf mroundFrom nm mfromHour mtoHour ns mfrom mto msort misFault mdeep mcoded mlines nl nc nF np ntr nb mbestCost nso nsi nit nsh nsf nss nrc mtraced mdealer mnumber mwhose msize misParted fnw fnm (hN) (hgp) (ekq) (hkq) (e6) (hk6)) si_X12_148 [0, 1, 2] [] rfl rfl (by decide) rfl (by decide) (by decide) rfl rfl rfl rfl rfl (Nat.le_of_ble_eq_true rfl) ⟨Nat.le_of_ble_eq_true rfl, Nat.le_of_ble_eq_true rfl⟩ ⟨Nat.le_of_ble_eq_true rfl, Nat.le_of_ble_eq_true rfl⟩ dX12_hand_24 (fun r10397 u10398 H locs hr10397 hP hD hS => ?_)
      obtain ⟨gnm10399, rfl⟩ : ∃ z9, z9 = u10398 := ⟨_, rfl⟩
      try dsimp only at hr10397
      have hPD : va_PD G A [(h0, .inr (12, [.ref nw, .ref nk, .int mhasKept, .ref nt, .int mtaped, .ref nr, .int mrowMany, .int mroundOf, .int mroundFrom, .int 0, .ref nm, .int mfromHour, .int mtoHour, .ref ns, .int mfrom, .int mto, .int msort, .int misFault, .int mdeep, .int mcoded, .int mlines, .ref nl, .ref nc, .ref nF, .ref np, .ref ntr, .ref nb, .int mbestCost, .ref nso, .ref nsi, .ref nit, .ref nsh, .ref nsf, .ref nss, .ref nrc, .int mtraced, .int mdealer, .int mnumber, .int mwhose, .int msize, .int misParted])), (nw, .inl (G.2.1, 1662, .inl fnw)), (nm, .inl (G.2.1, 36, .inl gnm10399))] H := And.intro hP hD
      obtain ⟨hP, hD⟩ := hPD
      obtain ⟨hr10397, w10400⟩ := hr10397
      rcases hr10397 with ⟨rfl, a10401⟩ | ⟨rfl, a10401⟩
      · refine pV hC hK hl hP hD (m_inHandC l G k6 h0 jp je nw nk mhasKept nt mtaped nr mrowMany mroundOf mroundFrom 0 nm mfromHour mtoHour ns mfrom mto msort misFault mdeep mcoded mlines nl nc nF np ntr nb mbestCost nso nsi nit nsh nsf nss nrc mtraced mdealer mnumber mwhose msize misParted fnw (e6) (hk6) (by omega)) si_X12_171 [0, 1] rfl rfl (by decide) rfl rfl rfl rfl rfl (Nat.le_of_ble_eq_true rfl) ⟨Nat.le_of_ble_eq_true rfl, Nat.le_of_ble_eq_true rfl⟩ ⟨by first | exact Nat.le_of_ble_eq_true rfl | exact Nat.zero_le _, by first | exact Nat.le_of_ble_eq_true rfl | exact Nat.zero_le _⟩ dX12_hand_27 (fun r10402 hr10402 => ?_)
        obtain rfl := hr10402
        refine lv_if_ne (tgt := 38) hx hb dX12_hand_30 (by decide) (fun c9 => absurd (by decide) c9) (fun _ => ?_)
        refine lv_bipush (v := (-3)) hx hb dX12_hand_33 (by decide) ?_
        refine lv_goto (tgt := 57) hx hb dX12_hand_35 (by decide) ?_
        exact RI (v := (-3)) hC hP hD hS [0, 1, 2] (mfromHour, mtoHour, gnm10399) rfl rfl (by decide) (⟨⟨(-3), Or.inr ⟨jp, je, hjp, hje, rfl, rfl, HAQ.re (HAQ.nn (Or.inl a10401))⟩, rfl⟩, by first | assumption | exact hM⟩) rfl dX12_hand_57
      · refine iV (wr := []) hC hK hl hP hD hS hA (m_inHandL l G kq k6 h0 jp je nw nk mhasKept nt mtaped nr mrowMany mroundOf mroundFrom nm mfromHour mtoHour ns mfrom mto msort misFault mdeep mcoded mlines nl nc nF np ntr nb mbestCost nso nsi nit nsh nsf nss nrc mtraced mdealer mnumber mwhose msize misParted fnw gnm10399 (hN) (e6) (hk6) (ekq) (by omega) (hkq) (by omega)) si_X12_171 [0, 1, 2] [] rfl rfl (by decide) rfl (by decide) (by decide) rfl rfl rfl rfl rfl (Nat.le_of_ble_eq_true rfl) ⟨Nat.le_of_ble_eq_true rfl, Nat.le_of_ble_eq_true rfl⟩ ⟨Nat.le_of_ble_eq_true rfl, Nat.le_of_ble_eq_true rfl⟩ dX12_hand_27 (fun r10404 u10405 H locs hr10404 hP hD hS => ?_)
        obtain ⟨fh110406, th110407⟩ := u10405
        try dsimp only at hr10404
        have hPD : va_PD G A [(h0, .inr (12, [.ref nw, .ref nk, .int mhasKept, .ref nt, .int mtaped, .ref nr, .int mrowMany, .int mroundOf, .int mroundFrom, .int 0, .ref nm, .int fh110406, .int th110407, .ref ns, .int mfrom, .int mto, .int msort, .int misFault, .int mdeep, .int mcoded, .int mlines, .ref nl, .ref nc, .ref nF, .ref np, .ref ntr, .ref nb, .int mbestCost, .ref nso, .ref nsi, .ref nit, .ref nsh, .ref nsf, .ref nss, .ref nrc, .int mtraced, .int mdealer, .int mnumber, .int mwhose, .int msize, .int misParted])), (nw, .inl (G.2.1, 1662, .inl fnw)), (nm, .inl (G.2.1, 36, .inl gnm10399))] H := And.intro hP hD
        obtain ⟨hP, hD⟩ := hPD
        rcases hr10404 with ⟨rfl, a10408⟩ | ⟨rfl, a10408⟩
        · refine lv_if_ne (tgt := 38) hx hb dX12_hand_30 (by decide) (fun _ => ?_) (fun c9 => absurd c9 (by decide))
          refine lv_sipush (v := 1000) hx hb dX12_hand_38 (by decide) ?_
          refine lv_iload_n hx hb dX12_hand_41 rfl (lv_at hl 3 rfl) ?_
          refine lv_if_eq (tgt := 52) hx hb dX12_hand_42 (by decide) (fun c_42_10409 => ?_) (fun c_42_10409 => ?_)
          · refine lv_aload_n hx hb dX12_hand_52 rfl (lv_at hl 0 rfl) ?_
            refine gf_X12_161 hC rfl hK hP 0 rfl rfl dX12_hand_53 ?_
            refine lv_iadd hx hb dX12_hand_56 ?_
            exact RI (v := 1000 + fh110406) hC hP hD hS [0, 1, 2] (fh110406, th110407, gnm10399) rfl rfl (by decide) (⟨⟨1000 + fh110406, Or.inr ⟨jp, je, hjp, hje, rfl, rfl, HAQ.re (a10408.elim (fun h9 => HAQ.ra a10401 h9 (Or.inl ⟨c_42_10409, rfl⟩)) (fun h9 => HAQ.rb (by omega) a10401 h9 (Or.inl ⟨c_42_10409, rfl⟩)))⟩, rfl⟩, by first | assumption | exact hM⟩) rfl dX12_hand_57
          · refine lv_aload_n hx hb dX12_hand_45 rfl (lv_at hl 0 rfl) ?_
            refine gf_X12_164 hC rfl hK hP 0 rfl rfl dX12_hand_46 ?_
            refine lv_goto (tgt := 56) hx hb dX12_hand_49 (by decide) ?_
            refine lv_iadd hx hb dX12_hand_56 ?_
            exact RI (v := 1000 + th110407) hC hP hD hS [0, 1, 2] (fh110406, th110407, gnm10399) rfl rfl (by decide) (⟨⟨1000 + th110407, Or.inr ⟨jp, je, hjp, hje, rfl, rfl, HAQ.re (a10408.elim (fun h9 => HAQ.ra a10401 h9 (Or.inr ⟨c_42_10409, rfl⟩)) (fun h9 => HAQ.rb (by omega) a10401 h9 (Or.inr ⟨c_42_10409, rfl⟩)))⟩, rfl⟩, by first | assumption | exact hM⟩) rfl dX12_hand_57
        · refine lv_if_ne (tgt := 38) hx hb dX12_hand_30 (by decide) (fun c9 => absurd (by decide) c9) (fun _ => ?_)
          refine lv_bipush (v := (-3)) hx hb dX12_hand_33 (by decide) ?_
          refine lv_goto (tgt := 57) hx hb dX12_hand_35 (by decide) ?_
          exact RI (v := (-3)) hC hP hD hS [0, 1, 2] (fh110406, th110407, gnm10399) rfl rfl (by decide) (⟨⟨(-3), Or.inr ⟨jp, je, hjp, hje, rfl, rfl, HAQ.re (HAQ.rn (by omega) a10408)⟩, rfl⟩, by first | assumption | exact hM⟩) rfl dX12_hand_57
    · refine lv_if_ne (tgt := 20) hx hb dX12_hand_15 (by decide) (fun c9 => absurd (by decide) c9) (fun _ => ?_)
      refine lv_iconst (v := (-1)) hx hb dX12_hand_18 (by decide) ?_
      exact RI (v := (-1)) hC hP hD hS [0, 1, 2] (mfromHour, mtoHour, fnm) rfl rfl (by decide) (⟨⟨(-1), Or.inl ⟨fun h9 => a10396 h9.2, rfl⟩, rfl⟩, by first | assumption | exact hM⟩) rfl dX12_hand_19
  · refine lv_if_eq (tgt := 18) hx hb dX12_hand_6 (by decide) (fun _ => ?_) (fun c9 => absurd (by decide) c9)
    refine lv_iconst (v := (-1)) hx hb dX12_hand_18 (by decide) ?_
    exact RI (v := (-1)) hC hP hD hS [0, 1, 2] (mfromHour, mtoHour, fnm) rfl rfl (by decide) (⟨⟨(-1), Or.inl ⟨fun h9 => a10394 h9.1, rfl⟩, rfl⟩, by first | assumption | exact hM⟩) rfl dX12_hand_19
set_option maxHeartbeats 4000000 in
set_option maxRecDepth 100000 in
theorem r_beforeT (l : Launch) (G : GG) (kq : Nat) (k6 : Nat) (h0 : Nat) (x1 : Int32) (x2 : Int32) (nw : Nat) (nk : Nat) (mhasKept : Int32) (nt : Nat) (mtaped : Int32) (nr : Nat) (mrowMany : Int32) (mroundOf : Int32) (mroundFrom : Int32) (nm : Nat) (mfromHour : Int32) (mtoHour : Int32) (ns : Nat) (mfrom : Int32) (mto : Int32) (msort : Int32) (misFault : Int32) (mdeep : Int32) (mcoded : Int32) (mlines : Int32) (nl : Nat) (nc : Nat) (nF : Nat) (np : Nat) (ntr : Nat) (nb : Nat) (mbestCost : Int32) (nso : Nat) (nsi : Nat) (nit : Nat) (nsh : Nat) (nsf : Nat) (nss : Nat) (nrc : Nat) (mtraced : Int32) (mdealer : Int32) (mnumber : Int32) (mwhose : Int32) (msize : Int32) (misParted : Int32) (fnw : Nat → Int32) (fnm : Nat → Int32) (hM : MB fnm) (hN : NI fnw) (hgp : GPRm (fnw 3)) (ekq : fnw 5 = nI kq) (hkq : kq ≤ 12) (e6 : fnw 6 = nI k6) (hk6 : k6 ≤ 24) : MI l G yX12_before cX12_before 9 (some .int) 6 0 0 [.ref h0, .int x1, .int x2] [(h0, .inr (12, [.ref nw, .ref nk, .int mhasKept, .ref nt, .int mtaped, .ref nr, .int mrowMany, .int mroundOf, .int mroundFrom, .int 0, .ref nm, .int mfromHour, .int mtoHour, .ref ns, .int mfrom, .int mto, .int msort, .int misFault, .int mdeep, .int mcoded, .int mlines, .ref nl, .ref nc, .ref nF, .ref np, .ref ntr, .ref nb, .int mbestCost, .ref nso, .ref nsi, .ref nit, .ref nsh, .ref nsf, .ref nss, .ref nrc, .int mtraced, .int mdealer, .int mnumber, .int mwhose, .int msize, .int misParted])), (nw, .inl (G.2.1, 1662, .inl fnw)), (nm, .inl (G.2.1, 36, .inl fnm))] (fun (r : Int32) (u : Int32 × Int32 × (Nat → Int32)) => (∃ s9, (BFQ (KST (shf fnw 104) (VSE fnw kq) (fnw 3).toInt k6) (shf fnw 104) (VSE fnw kq) k6 kq x1 x2 s9) ∧ r = s9) ∧ (MB u.2.2)) (fun u : Int32 × Int32 × (Nat → Int32) => [(h0, .inr (12, [.ref nw, .ref nk, .int mhasKept, .ref nt, .int mtaped, .ref nr, .int mrowMany, .int mroundOf, .int mroundFrom, .int 0, .ref nm, .int u.1, .int u.2.1, .ref ns, .int mfrom, .int mto, .int msort, .int misFault, .int mdeep, .int mcoded, .int mlines, .ref nl, .ref nc, .ref nF, .ref np, .ref ntr, .ref nb, .int mbestCost, .ref nso, .ref nsi, .ref nit, .ref nsh, .ref nsf, .ref nss, .ref nrc, .int mtraced, .int mdealer, .int mnumber, .int mwhose, .int msize, .int misParted])), (nw, .inl (G.2.1, 1662, .inl fnw)), (nm, .inl (G.2.1, 36, .inl u.2.2))]) := by
  refine MI.start (by decide +kernel) (Nat.le_of_ble_eq_true rfl) ?_
  intro p e s m below meth c A ls hC hK hP hD hS hA hl
  have hl : lv_has ls 9 [(0, .ref h0), (1, .int x1), (2, .int x2)] := hl
  obtain ⟨hx, hb, hr, hml, hB, hown, hlocks, hnm⟩ := id hC
  refine lv_aload_n hx hb dX12_before_0 rfl (lv_at hl 0 rfl) ?_
  refine lv_iload_n hx hb dX12_before_1 rfl (lv_at hl 1 rfl) ?_
  refine lv_iconst (v := 5) hx hb dX12_before_2 (by decide) ?_
  refine pV hC hK hl hP hD (m_is l G kq h0 x1 5 nw nk mhasKept nt mtaped nr mrowMany mroundOf mroundFrom 0 nm mfromHour mtoHour ns mfrom mto msort misFault mdeep mcoded mlines nl nc nF np ntr nb mbestCost nso nsi nit nsh nsf nss nrc mtraced mdealer mnumber mwhose msize misParted fnw (by omega) (ekq) (by omega)) si_X12_120 [0, 1] rfl rfl (by decide) rfl rfl rfl rfl rfl (Nat.le_of_ble_eq_true rfl) ⟨Nat.le_of_ble_eq_true rfl, Nat.le_of_ble_eq_true rfl⟩ ⟨by first | exact Nat.le_of_ble_eq_true rfl | exact Nat.zero_le _, by first | exact Nat.le_of_ble_eq_true rfl | exact Nat.zero_le _⟩ dX12_before_3 (fun r10410 hr10410 => ?_)
  rcases hr10410 with ⟨rfl, a10411⟩ | ⟨rfl, a10411⟩
  · refine lv_if_eq (tgt := 23) hx hb dX12_before_6 (by decide) (fun c9 => absurd c9 (by decide)) (fun _ => ?_)
    refine lv_aload_n hx hb dX12_before_9 rfl (lv_at hl 0 rfl) ?_
    refine lv_iload_n hx hb dX12_before_10 rfl (lv_at hl 2 rfl) ?_
    refine lv_iconst (v := 5) hx hb dX12_before_11 (by decide) ?_
    refine pV hC hK hl hP hD (m_is l G kq h0 x2 5 nw nk mhasKept nt mtaped nr mrowMany mroundOf mroundFrom 0 nm mfromHour mtoHour ns mfrom mto msort misFault mdeep mcoded mlines nl nc nF np ntr nb mbestCost nso nsi nit nsh nsf nss nrc mtraced mdealer mnumber mwhose msize misParted fnw (by omega) (ekq) (by omega)) si_X12_120 [0, 1] rfl rfl (by decide) rfl rfl rfl rfl rfl (Nat.le_of_ble_eq_true rfl) ⟨Nat.le_of_ble_eq_true rfl, Nat.le_of_ble_eq_true rfl⟩ ⟨by first | exact Nat.le_of_ble_eq_true rfl | exact Nat.zero_le _, by first | exact Nat.le_of_ble_eq_true rfl | exact Nat.zero_le _⟩ dX12_before_12 (fun r10412 hr10412 => ?_)
    rcases hr10412 with ⟨rfl, a10413⟩ | ⟨rfl, a10413⟩
    · refine lv_if_eq (tgt := 23) hx hb dX12_before_15 (by decide) (fun c9 => absurd c9 (by decide)) (fun _ => ?_)
      refine lv_iload_n hx hb dX12_before_18 rfl (lv_at hl 1 rfl) ?_
      refine lv_iload_n hx hb dX12_before_19 rfl (lv_at hl 2 rfl) ?_
      refine lv_icmp_ne (tgt := 25) hx hb dX12_before_20 (by decide) (fun c_20_10414 => ?_) (fun c_20_10414 => ?_)
      · obtain ⟨jp, hjp, rfl⟩ := Hs_nat (by omega) a10411
        obtain ⟨jo, hjo, rfl⟩ := Hs_nat (by omega) a10413
        refine lv_aload_n hx hb dX12_before_25 rfl (lv_at hl 0 rfl) ?_
        refine iV (wr := []) hC hK hl hP hD hS hA (m_findClocksX l G kq k6 h0 nw nk mhasKept nt mtaped nr mrowMany mroundOf mroundFrom nm mfromHour mtoHour ns mfrom mto msort misFault mdeep mcoded mlines nl nc nF np ntr nb mbestCost nso nsi nit nsh nsf nss nrc mtraced mdealer mnumber mwhose msize misParted fnw fnm (hN) (hgp) (ekq) (hkq) (e6) (hk6)) si_X12_148 [0, 1, 2] [] rfl rfl (by decide) rfl (by decide) (by decide) rfl rfl rfl rfl rfl (Nat.le_of_ble_eq_true rfl) ⟨Nat.le_of_ble_eq_true rfl, Nat.le_of_ble_eq_true rfl⟩ ⟨Nat.le_of_ble_eq_true rfl, Nat.le_of_ble_eq_true rfl⟩ dX12_before_26 (fun r10415 u10416 H locs hr10415 hP hD hS => ?_)
        obtain ⟨gnm10417, rfl⟩ : ∃ z9, z9 = u10416 := ⟨_, rfl⟩
        try dsimp only at hr10415
        have hPD : va_PD G A [(h0, .inr (12, [.ref nw, .ref nk, .int mhasKept, .ref nt, .int mtaped, .ref nr, .int mrowMany, .int mroundOf, .int mroundFrom, .int 0, .ref nm, .int mfromHour, .int mtoHour, .ref ns, .int mfrom, .int mto, .int msort, .int misFault, .int mdeep, .int mcoded, .int mlines, .ref nl, .ref nc, .ref nF, .ref np, .ref ntr, .ref nb, .int mbestCost, .ref nso, .ref nsi, .ref nit, .ref nsh, .ref nsf, .ref nss, .ref nrc, .int mtraced, .int mdealer, .int mnumber, .int mwhose, .int msize, .int misParted])), (nw, .inl (G.2.1, 1662, .inl fnw)), (nm, .inl (G.2.1, 36, .inl gnm10417))] H := And.intro hP hD
        obtain ⟨hP, hD⟩ := hPD
        obtain ⟨hr10415, w10418⟩ := hr10415
        rcases hr10415 with ⟨rfl, a10419⟩ | ⟨rfl, a10419⟩
        · refine lv_istore_n (lv' := [(3, .int 1), (0, .ref h0), (1, .int (nI jp)), (2, .int (nI jo))]) hx hb dX12_before_29 rfl hl (by decide) rfl (fun ls hl => ?_)
          refine lv_aload_n hx hb dX12_before_30 rfl (lv_at hl 1 rfl) ?_
          refine lv_iload_n hx hb dX12_before_31 rfl (lv_at hl 2 rfl) ?_
          refine lv_iload_n hx hb dX12_before_32 rfl (lv_at hl 0 rfl) ?_
          refine lv_iconst (v := 1) hx hb dX12_before_33 (by decide) ?_
          refine pV hC hK hl hP hD (m_hoursC l G k6 h0 jp 1 nw nk mhasKept nt mtaped nr mrowMany mroundOf mroundFrom 0 nm mfromHour mtoHour ns mfrom mto msort misFault mdeep mcoded mlines nl nc nF np ntr nb mbestCost nso nsi nit nsh nsf nss nrc mtraced mdealer mnumber mwhose msize misParted fnw (e6) (hk6) (by omega)) si_X12_167 [0, 1] rfl rfl (by decide) rfl rfl rfl rfl rfl (Nat.le_of_ble_eq_true rfl) ⟨Nat.le_of_ble_eq_true rfl, Nat.le_of_ble_eq_true rfl⟩ ⟨by first | exact Nat.le_of_ble_eq_true rfl | exact Nat.zero_le _, by first | exact Nat.le_of_ble_eq_true rfl | exact Nat.zero_le _⟩ dX12_before_34 (fun r10420 hr10420 => ?_)
          obtain rfl := hr10420
          refine lv_if_eq (tgt := 50) hx hb dX12_before_37 (by decide) (fun _ => ?_) (fun c9 => absurd (by decide) c9)
          refine lv_bipush (v := (-3)) hx hb dX12_before_50 (by decide) ?_
          exact RI (v := (-3)) hC hP hD hS [0, 1, 2] (mfromHour, mtoHour, gnm10417) rfl rfl (by decide) (⟨⟨(-3), Or.inr ⟨jp, jo, hjp, hjo, rfl, rfl, fun h9 => c_20_10414 (congrArg nI h9), Or.inl ⟨Or.inl a10419, rfl⟩⟩, rfl⟩, by first | assumption | exact hM⟩) rfl dX12_before_52
        · refine lv_istore_n (lv' := [(3, .int 0), (0, .ref h0), (1, .int (nI jp)), (2, .int (nI jo))]) hx hb dX12_before_29 rfl hl (by decide) rfl (fun ls hl => ?_)
          refine lv_aload_n hx hb dX12_before_30 rfl (lv_at hl 1 rfl) ?_
          refine lv_iload_n hx hb dX12_before_31 rfl (lv_at hl 2 rfl) ?_
          refine lv_iload_n hx hb dX12_before_32 rfl (lv_at hl 0 rfl) ?_
          refine lv_iconst (v := 1) hx hb dX12_before_33 (by decide) ?_
          refine iV (wr := []) hC hK hl hP hD hS hA (m_hoursL l G kq k6 h0 jp nw nk mhasKept nt mtaped nr mrowMany mroundOf mroundFrom nm mfromHour mtoHour ns mfrom mto msort misFault mdeep mcoded mlines nl nc nF np ntr nb mbestCost nso nsi nit nsh nsf nss nrc mtraced mdealer mnumber mwhose msize misParted fnw gnm10417 (hN) (e6) (hk6) (ekq) (by omega) (hkq)) si_X12_167 [0, 1, 2] [] rfl rfl (by decide) rfl (by decide) (by decide) rfl rfl rfl rfl rfl (Nat.le_of_ble_eq_true rfl) ⟨Nat.le_of_ble_eq_true rfl, Nat.le_of_ble_eq_true rfl⟩ ⟨Nat.le_of_ble_eq_true rfl, Nat.le_of_ble_eq_true rfl⟩ dX12_before_34 (fun r10422 u10423 H locs hr10422 hP hD hS => ?_)
          obtain ⟨fh110424, th110425⟩ := u10423
          try dsimp only at hr10422
          have hPD : va_PD G A [(h0, .inr (12, [.ref nw, .ref nk, .int mhasKept, .ref nt, .int mtaped, .ref nr, .int mrowMany, .int mroundOf, .int mroundFrom, .int 0, .ref nm, .int fh110424, .int th110425, .ref ns, .int mfrom, .int mto, .int msort, .int misFault, .int mdeep, .int mcoded, .int mlines, .ref nl, .ref nc, .ref nF, .ref np, .ref ntr, .ref nb, .int mbestCost, .ref nso, .ref nsi, .ref nit, .ref nsh, .ref nsf, .ref nss, .ref nrc, .int mtraced, .int mdealer, .int mnumber, .int mwhose, .int msize, .int misParted])), (nw, .inl (G.2.1, 1662, .inl fnw)), (nm, .inl (G.2.1, 36, .inl gnm10417))] H := And.intro hP hD
          obtain ⟨hP, hD⟩ := hPD
          rcases hr10422 with ⟨rfl, a10426⟩ | ⟨rfl, a10426⟩
          · refine lv_if_eq (tgt := 50) hx hb dX12_before_37 (by decide) (fun c9 => absurd c9 (by decide)) (fun _ => ?_)
            refine lv_aload_n hx hb dX12_before_40 rfl (lv_at hl 1 rfl) ?_
            refine lv_iload_n hx hb dX12_before_41 rfl (lv_at hl 3 rfl) ?_
            refine lv_iload_n hx hb dX12_before_42 rfl (lv_at hl 0 rfl) ?_
            refine lv_iconst (v := 1) hx hb dX12_before_43 (by decide) ?_
            refine iV (wr := []) hC hK hl hP hD hS hA (m_hoursL l G kq k6 h0 jo nw nk mhasKept nt mtaped nr mrowMany mroundOf mroundFrom nm fh110424 th110425 ns mfrom mto msort misFault mdeep mcoded mlines nl nc nF np ntr nb mbestCost nso nsi nit nsh nsf nss nrc mtraced mdealer mnumber mwhose msize misParted fnw gnm10417 (hN) (e6) (hk6) (ekq) (by omega) (hkq)) si_X12_167 [0, 1, 2] [] rfl rfl (by decide) rfl (by decide) (by decide) rfl rfl rfl rfl rfl (Nat.le_of_ble_eq_true rfl) ⟨Nat.le_of_ble_eq_true rfl, Nat.le_of_ble_eq_true rfl⟩ ⟨Nat.le_of_ble_eq_true rfl, Nat.le_of_ble_eq_true rfl⟩ dX12_before_44 (fun r10427 u10428 H locs hr10427 hP hD hS => ?_)
            obtain ⟨fh110429, th110430⟩ := u10428
            try dsimp only at hr10427
            have hPD : va_PD G A [(h0, .inr (12, [.ref nw, .ref nk, .int mhasKept, .ref nt, .int mtaped, .ref nr, .int mrowMany, .int mroundOf, .int mroundFrom, .int 0, .ref nm, .int fh110429, .int th110430, .ref ns, .int mfrom, .int mto, .int msort, .int misFault, .int mdeep, .int mcoded, .int mlines, .ref nl, .ref nc, .ref nF, .ref np, .ref ntr, .ref nb, .int mbestCost, .ref nso, .ref nsi, .ref nit, .ref nsh, .ref nsf, .ref nss, .ref nrc, .int mtraced, .int mdealer, .int mnumber, .int mwhose, .int msize, .int misParted])), (nw, .inl (G.2.1, 1662, .inl fnw)), (nm, .inl (G.2.1, 36, .inl gnm10417))] H := And.intro hP hD
            obtain ⟨hP, hD⟩ := hPD
            rcases hr10427 with ⟨rfl, a10431⟩ | ⟨rfl, a10431⟩
            · refine lv_if_ne (tgt := 53) hx hb dX12_before_47 (by decide) (fun _ => ?_) (fun c9 => absurd c9 (by decide))
              obtain ⟨sa, hljp, hvjp, -, -⟩ := a10426
              have hcjp := hljp.cnt
              have hcljp := cntS_le fnw (nI jp) k6
              obtain ⟨sb, hljo, hvjo, -, -⟩ := a10431
              have hcjo := hljo.cnt
              have hcljo := cntS_le fnw (nI jo) k6
              refine lv_bipush (v := 104) hx hb dX12_before_53 (by decide) ?_
              refine lv_iconst (v := 3) hx hb dX12_before_55 (by decide) ?_
              refine lv_aload_n hx hb dX12_before_56 rfl (lv_at hl 1 rfl) ?_
              refine lv_iload_n hx hb dX12_before_57 rfl (lv_at hl 2 rfl) ?_
              refine lv_aload_n hx hb dX12_before_58 rfl (lv_at hl 1 rfl) ?_
              refine lv_iload_n hx hb dX12_before_59 rfl (lv_at hl 2 rfl) ?_
              refine pV hC hK hl hP hD (m_stampsOf l G k6 h0 (nI jp) nw nk mhasKept nt mtaped nr mrowMany mroundOf mroundFrom 0 nm fh110429 th110430 ns mfrom mto msort misFault mdeep mcoded mlines nl nc nF np ntr nb mbestCost nso nsi nit nsh nsf nss nrc mtraced mdealer mnumber mwhose msize misParted fnw (e6) (hk6)) si_X12_130 [0, 1] rfl rfl (by decide) rfl rfl rfl rfl rfl (Nat.le_of_ble_eq_true rfl) ⟨Nat.le_of_ble_eq_true rfl, Nat.le_of_ble_eq_true rfl⟩ ⟨by first | exact Nat.le_of_ble_eq_true rfl | exact Nat.zero_le _, by first | exact Nat.le_of_ble_eq_true rfl | exact Nat.zero_le _⟩ dX12_before_60 (fun r10432 hr10432 => ?_)
              obtain rfl := hr10432
              refine lv_iconst (v := 1) hx hb dX12_before_63 (by decide) ?_
              refine lv_isub hx hb dX12_before_64 ?_
              refine eqi (x1 := nI ((cntS fnw (nI jp) k6) - 1)) (nI_sb (by omega)) ?_
              refine pV hC hK hl hP hD (m_stampAtX l G k6 h0 jp ((cntS fnw (nI jp) k6) - 1) nw nk mhasKept nt mtaped nr mrowMany mroundOf mroundFrom 0 nm fh110429 th110430 ns mfrom mto msort misFault mdeep mcoded mlines nl nc nF np ntr nb mbestCost nso nsi nit nsh nsf nss nrc mtraced mdealer mnumber mwhose msize misParted fnw (e6) (hk6) (by omega)) si_X12_142 [0, 1] rfl rfl (by decide) rfl rfl rfl rfl rfl (Nat.le_of_ble_eq_true rfl) ⟨Nat.le_of_ble_eq_true rfl, Nat.le_of_ble_eq_true rfl⟩ ⟨by first | exact Nat.le_of_ble_eq_true rfl | exact Nat.zero_le _, by first | exact Nat.le_of_ble_eq_true rfl | exact Nat.zero_le _⟩ dX12_before_65 (fun r10434 hr10434 => ?_)
              obtain ⟨s9_10435, hpx10435, rfl⟩ := hr10434
              try dsimp only at hpx10435
              refine lv_imul hx hb dX12_before_68 ?_
              refine eqi (x1 := nI (3 * s9_10435)) (nI_mul 3 s9_10435) ?_
              refine lv_iadd hx hb dX12_before_69 ?_
              refine eqi (x1 := nI (104 + 3 * s9_10435)) (nI_add 104 (3 * s9_10435)) ?_
              refine lv_istore (lv' := [(4, .int (nI (104 + 3 * s9_10435))), (3, .int 0), (0, .ref h0), (1, .int (nI jp)), (2, .int (nI jo))]) hx hb dX12_before_70 hl (by decide) rfl (fun ls hl => ?_)
              refine lv_bipush (v := 104) hx hb dX12_before_72 (by decide) ?_
              refine lv_iconst (v := 3) hx hb dX12_before_74 (by decide) ?_
              refine lv_aload_n hx hb dX12_before_75 rfl (lv_at hl 2 rfl) ?_
              refine lv_iload_n hx hb dX12_before_76 rfl (lv_at hl 4 rfl) ?_
              refine lv_aload_n hx hb dX12_before_77 rfl (lv_at hl 2 rfl) ?_
              refine lv_iload_n hx hb dX12_before_78 rfl (lv_at hl 4 rfl) ?_
              refine pV hC hK hl hP hD (m_stampsOf l G k6 h0 (nI jo) nw nk mhasKept nt mtaped nr mrowMany mroundOf mroundFrom 0 nm fh110429 th110430 ns mfrom mto msort misFault mdeep mcoded mlines nl nc nF np ntr nb mbestCost nso nsi nit nsh nsf nss nrc mtraced mdealer mnumber mwhose msize misParted fnw (e6) (hk6)) si_X12_130 [0, 1] rfl rfl (by decide) rfl rfl rfl rfl rfl (Nat.le_of_ble_eq_true rfl) ⟨Nat.le_of_ble_eq_true rfl, Nat.le_of_ble_eq_true rfl⟩ ⟨by first | exact Nat.le_of_ble_eq_true rfl | exact Nat.zero_le _, by first | exact Nat.le_of_ble_eq_true rfl | exact Nat.zero_le _⟩ dX12_before_79 (fun r10436 hr10436 => ?_)
              obtain rfl := hr10436
              refine lv_iconst (v := 1) hx hb dX12_before_82 (by decide) ?_
              refine lv_isub hx hb dX12_before_83 ?_
              refine eqi (x1 := nI ((cntS fnw (nI jo) k6) - 1)) (nI_sb (by omega)) ?_
              refine pV hC hK hl hP hD (m_stampAtX l G k6 h0 jo ((cntS fnw (nI jo) k6) - 1) nw nk mhasKept nt mtaped nr mrowMany mroundOf mroundFrom 0 nm fh110429 th110430 ns mfrom mto msort misFault mdeep mcoded mlines nl nc nF np ntr nb mbestCost nso nsi nit nsh nsf nss nrc mtraced mdealer mnumber mwhose msize misParted fnw (e6) (hk6) (by omega)) si_X12_142 [0, 1] rfl rfl (by decide) rfl rfl rfl rfl rfl (Nat.le_of_ble_eq_true rfl) ⟨Nat.le_of_ble_eq_true rfl, Nat.le_of_ble_eq_true rfl⟩ ⟨by first | exact Nat.le_of_ble_eq_true rfl | exact Nat.zero_le _, by first | exact Nat.le_of_ble_eq_true rfl | exact Nat.zero_le _⟩ dX12_before_84 (fun r10438 hr10438 => ?_)
              obtain ⟨s9_10439, hpx10439, rfl⟩ := hr10438
              try dsimp only at hpx10439
              refine lv_imul hx hb dX12_before_87 ?_
              refine eqi (x1 := nI (3 * s9_10439)) (nI_mul 3 s9_10439) ?_
              refine lv_iadd hx hb dX12_before_88 ?_
              refine eqi (x1 := nI (104 + 3 * s9_10439)) (nI_add 104 (3 * s9_10439)) ?_
              refine lv_istore (lv' := [(5, .int (nI (104 + 3 * s9_10439))), (4, .int (nI (104 + 3 * s9_10435))), (3, .int 0), (0, .ref h0), (1, .int (nI jp)), (2, .int (nI jo))]) hx hb dX12_before_89 hl (by decide) rfl (fun ls hl => ?_)
              have hq1 := hpx10435.1
              obtain ⟨cc10440, hcc10440, ecc10440⟩ := NI.nat hN (i := 104 + 3 * s9_10435 + 1) (B := 5) (bnd_st1 (s := s9_10435) rfl (by omega)) (by decide)
              have hh1 := NI.hour hN (s := s9_10435) (by omega)
              have hL1 := hpx10435.lst (by omega)
              have hq2 := hpx10439.1
              obtain ⟨cc10441, hcc10441, ecc10441⟩ := NI.nat hN (i := 104 + 3 * s9_10439 + 1) (B := 5) (bnd_st1 (s := s9_10439) rfl (by omega)) (by decide)
              have hh2 := NI.hour hN (s := s9_10439) (by omega)
              have hL2 := hpx10439.lst (by omega)
              refine lv_aload_n hx hb dX12_before_91 rfl (lv_at hl 3 rfl) ?_
              refine gf_X12_9 hC rfl hK hP 0 rfl rfl dX12_before_92 ?_
              refine lv_iload hx hb dX12_before_95 (lv_at hl 0 rfl) ?_
              refine lv_iconst (v := 2) hx hb dX12_before_97 (by decide) ?_
              refine lv_iadd hx hb dX12_before_98 ?_
              refine eqi (x1 := nI (104 + 3 * s9_10439 + 2)) (nI_add (104 + 3 * s9_10439) 2) ?_
              refine ald hC hK hP 1 rfl (vp_in_nI (by omega) (by omega)) (k := (104 + 3 * s9_10439 + 2)) (nI_clamp (by omega)) (v := fnw (104 + 3 * s9_10439 + 2)) rfl dX12_before_99 ?_
              refine lv_aload_n hx hb dX12_before_100 rfl (lv_at hl 3 rfl) ?_
              refine gf_X12_9 hC rfl hK hP 0 rfl rfl dX12_before_101 ?_
              refine lv_iload hx hb dX12_before_104 (lv_at hl 1 rfl) ?_
              refine lv_iconst (v := 2) hx hb dX12_before_106 (by decide) ?_
              refine lv_iadd hx hb dX12_before_107 ?_
              refine eqi (x1 := nI (104 + 3 * s9_10435 + 2)) (nI_add (104 + 3 * s9_10435) 2) ?_
              refine ald hC hK hP 1 rfl (vp_in_nI (by omega) (by omega)) (k := (104 + 3 * s9_10435 + 2)) (nI_clamp (by omega)) (v := fnw (104 + 3 * s9_10435 + 2)) rfl dX12_before_108 ?_
              refine lv_isub hx hb dX12_before_109 ?_
              refine lv_istore (lv' := [(6, .int ((fnw (104 + 3 * s9_10439 + 2)) - (fnw (104 + 3 * s9_10435 + 2)))), (5, .int (nI (104 + 3 * s9_10439))), (4, .int (nI (104 + 3 * s9_10435))), (3, .int 0), (0, .ref h0), (1, .int (nI jp)), (2, .int (nI jo))]) hx hb dX12_before_110 hl (by decide) rfl (fun ls hl => ?_)
              refine lv_aload_n hx hb dX12_before_112 rfl (lv_at hl 4 rfl) ?_
              refine gf_X12_26 hC rfl hK hP 0 rfl rfl dX12_before_113 ?_
              refine lv_bipush (v := 6) hx hb dX12_before_116 (by decide) ?_
              refine lv_aload_n hx hb dX12_before_118 rfl (lv_at hl 4 rfl) ?_
              refine gf_X12_9 hC rfl hK hP 0 rfl rfl dX12_before_119 ?_
              refine lv_iload hx hb dX12_before_122 (lv_at hl 2 rfl) ?_
              refine lv_iconst (v := 1) hx hb dX12_before_124 (by decide) ?_
              refine lv_iadd hx hb dX12_before_125 ?_
              refine eqi (x1 := nI (104 + 3 * s9_10435 + 1)) (nI_add (104 + 3 * s9_10435) 1) ?_
              refine ald hC hK hP 1 rfl (vp_in_nI (by omega) (by omega)) (k := 104 + 3 * s9_10435 + 1) (nI_clamp (by omega)) (v := nI cc10440) (ecc10440) dX12_before_126 ?_
              refine lv_imul hx hb dX12_before_127 ?_
              refine eqi (x1 := nI (6 * cc10440)) (nI_mul 6 cc10440) ?_
              refine lv_aload_n hx hb dX12_before_128 rfl (lv_at hl 4 rfl) ?_
              refine gf_X12_9 hC rfl hK hP 0 rfl rfl dX12_before_129 ?_
              refine lv_iload hx hb dX12_before_132 (lv_at hl 1 rfl) ?_
              refine lv_iconst (v := 1) hx hb dX12_before_134 (by decide) ?_
              refine lv_iadd hx hb dX12_before_135 ?_
              refine eqi (x1 := nI (104 + 3 * s9_10439 + 1)) (nI_add (104 + 3 * s9_10439) 1) ?_
              refine ald hC hK hP 1 rfl (vp_in_nI (by omega) (by omega)) (k := 104 + 3 * s9_10439 + 1) (nI_clamp (by omega)) (v := nI cc10441) (ecc10441) dX12_before_136 ?_
              refine lv_iadd hx hb dX12_before_137 ?_
              refine eqi (x1 := nI (6 * cc10440 + cc10441)) (nI_add (6 * cc10440) cc10441) ?_
              refine ald hC hK hP 2 rfl (vp_in_nI (by omega) (by omega)) (k := (6 * cc10440 + cc10441)) (nI_clamp (by omega)) (v := gnm10417 (6 * cc10440 + cc10441)) rfl dX12_before_138 ?_
              refine lv_istore (lv' := [(7, .int (gnm10417 (6 * cc10440 + cc10441))), (6, .int ((fnw (104 + 3 * s9_10439 + 2)) - (fnw (104 + 3 * s9_10435 + 2)))), (5, .int (nI (104 + 3 * s9_10439))), (4, .int (nI (104 + 3 * s9_10435))), (3, .int 0), (0, .ref h0), (1, .int (nI jp)), (2, .int (nI jo))]) hx hb dX12_before_139 hl (by decide) rfl (fun ls hl => ?_)
              refine lv_aload_n hx hb dX12_before_141 rfl (lv_at hl 5 rfl) ?_
              refine gf_X12_26 hC rfl hK hP 0 rfl rfl dX12_before_142 ?_
              refine lv_bipush (v := 6) hx hb dX12_before_145 (by decide) ?_
              refine lv_aload_n hx hb dX12_before_147 rfl (lv_at hl 5 rfl) ?_
              refine gf_X12_9 hC rfl hK hP 0 rfl rfl dX12_before_148 ?_
              refine lv_iload hx hb dX12_before_151 (lv_at hl 2 rfl) ?_
              refine lv_iconst (v := 1) hx hb dX12_before_153 (by decide) ?_
              refine lv_iadd hx hb dX12_before_154 ?_
              refine eqi (x1 := nI (104 + 3 * s9_10439 + 1)) (nI_add (104 + 3 * s9_10439) 1) ?_
              refine ald hC hK hP 1 rfl (vp_in_nI (by omega) (by omega)) (k := 104 + 3 * s9_10439 + 1) (nI_clamp (by omega)) (v := nI cc10441) (ecc10441) dX12_before_155 ?_
              refine lv_imul hx hb dX12_before_156 ?_
              refine eqi (x1 := nI (6 * cc10441)) (nI_mul 6 cc10441) ?_
              refine lv_aload_n hx hb dX12_before_157 rfl (lv_at hl 5 rfl) ?_
              refine gf_X12_9 hC rfl hK hP 0 rfl rfl dX12_before_158 ?_
              refine lv_iload hx hb dX12_before_161 (lv_at hl 3 rfl) ?_
              refine lv_iconst (v := 1) hx hb dX12_before_163 (by decide) ?_
              refine lv_iadd hx hb dX12_before_164 ?_
              refine eqi (x1 := nI (104 + 3 * s9_10435 + 1)) (nI_add (104 + 3 * s9_10435) 1) ?_
              refine ald hC hK hP 1 rfl (vp_in_nI (by omega) (by omega)) (k := 104 + 3 * s9_10435 + 1) (nI_clamp (by omega)) (v := nI cc10440) (ecc10440) dX12_before_165 ?_
              refine lv_iadd hx hb dX12_before_166 ?_
              refine eqi (x1 := nI (6 * cc10441 + cc10440)) (nI_add (6 * cc10441) cc10440) ?_
              refine ald hC hK hP 2 rfl (vp_in_nI (by omega) (by omega)) (k := (6 * cc10441 + cc10440)) (nI_clamp (by omega)) (v := gnm10417 (6 * cc10441 + cc10440)) rfl dX12_before_167 ?_
              refine lv_ineg hx hb dX12_before_168 ?_
              refine lv_istore (lv' := [(8, .int (-(gnm10417 (6 * cc10441 + cc10440)))), (7, .int (gnm10417 (6 * cc10440 + cc10441))), (6, .int ((fnw (104 + 3 * s9_10439 + 2)) - (fnw (104 + 3 * s9_10435 + 2)))), (5, .int (nI (104 + 3 * s9_10439))), (4, .int (nI (104 + 3 * s9_10435))), (3, .int 0), (0, .ref h0), (1, .int (nI jp)), (2, .int (nI jo))]) hx hb dX12_before_169 hl (by decide) rfl (fun ls hl => ?_)
              refine lv_iload hx hb dX12_before_171 (lv_at hl 1 rfl) ?_
              refine lv_iload hx hb dX12_before_173 (lv_at hl 2 rfl) ?_
              refine lv_icmp_ge (tgt := 182) hx hb dX12_before_175 (by decide) (fun c_175_10442 => ?_) (fun c_175_10442 => ?_)
              · refine lv_iload hx hb dX12_before_182 (lv_at hl 0 rfl) ?_
                refine lv_iload hx hb dX12_before_184 (lv_at hl 2 rfl) ?_
                refine lv_icmp_ge (tgt := 193) hx hb dX12_before_186 (by decide) (fun c_186_10443 => ?_) (fun c_186_10443 => ?_)
                · refine lv_iconst (v := 0) hx hb dX12_before_193 (by decide) ?_
                  exact RI (v := 0) hC hP hD hS [0, 1, 2] (fh110429, th110430, gnm10417) rfl rfl (by decide) (⟨⟨0, Or.inr ⟨jp, jo, hjp, hjo, rfl, rfl, fun h9 => c_20_10414 (congrArg nI h9), Or.inr ⟨_, s9_10435, s9_10439, a10419, hvjp, hvjo, hL1, hL2, BFV.nil ((BFV.rleast a10419 hh1 hh2 ecc10440 ecc10441 (by omega) (by omega)).mp c_175_10442) ((BFV.rmost a10419 hh1 hh2 ecc10440 ecc10441 (by omega) (by omega)).mp c_186_10443)⟩⟩, rfl⟩, by first | assumption | exact hM⟩) rfl dX12_before_194
                · refine lv_iconst (v := 1) hx hb dX12_before_189 (by decide) ?_
                  refine lv_goto (tgt := 194) hx hb dX12_before_190 (by decide) ?_
                  exact RI (v := 1) hC hP hD hS [0, 1, 2] (fh110429, th110430, gnm10417) rfl rfl (by decide) (⟨⟨1, Or.inr ⟨jp, jo, hjp, hjo, rfl, rfl, fun h9 => c_20_10414 (congrArg nI h9), Or.inr ⟨_, s9_10435, s9_10439, a10419, hvjp, hvjo, hL1, hL2, BFV.one ((BFV.rleast a10419 hh1 hh2 ecc10440 ecc10441 (by omega) (by omega)).mp c_175_10442) (Classical.byContradiction fun h8 => c_186_10443 ((BFV.rmost a10419 hh1 hh2 ecc10440 ecc10441 (by omega) (by omega)).mpr h8))⟩⟩, rfl⟩, by first | assumption | exact hM⟩) rfl dX12_before_194
              · refine lv_iconst (v := 2) hx hb dX12_before_178 (by decide) ?_
                refine lv_goto (tgt := 194) hx hb dX12_before_179 (by decide) ?_
                exact RI (v := 2) hC hP hD hS [0, 1, 2] (fh110429, th110430, gnm10417) rfl rfl (by decide) (⟨⟨2, Or.inr ⟨jp, jo, hjp, hjo, rfl, rfl, fun h9 => c_20_10414 (congrArg nI h9), Or.inr ⟨_, s9_10435, s9_10439, a10419, hvjp, hvjo, hL1, hL2, BFV.two (Classical.byContradiction fun h8 => c_175_10442 ((BFV.rleast a10419 hh1 hh2 ecc10440 ecc10441 (by omega) (by omega)).mpr h8))⟩⟩, rfl⟩, by first | assumption | exact hM⟩) rfl dX12_before_194
            · refine lv_if_ne (tgt := 53) hx hb dX12_before_47 (by decide) (fun c9 => absurd (by decide) c9) (fun _ => ?_)
              refine lv_bipush (v := (-3)) hx hb dX12_before_50 (by decide) ?_
              exact RI (v := (-3)) hC hP hD hS [0, 1, 2] (fh110429, th110430, gnm10417) rfl rfl (by decide) (⟨⟨(-3), Or.inr ⟨jp, jo, hjp, hjo, rfl, rfl, fun h9 => c_20_10414 (congrArg nI h9), Or.inl ⟨Or.inr (Or.inr a10431), rfl⟩⟩, rfl⟩, by first | assumption | exact hM⟩) rfl dX12_before_52
          · refine lv_if_eq (tgt := 50) hx hb dX12_before_37 (by decide) (fun _ => ?_) (fun c9 => absurd (by decide) c9)
            refine lv_bipush (v := (-3)) hx hb dX12_before_50 (by decide) ?_
            exact RI (v := (-3)) hC hP hD hS [0, 1, 2] (fh110424, th110425, gnm10417) rfl rfl (by decide) (⟨⟨(-3), Or.inr ⟨jp, jo, hjp, hjo, rfl, rfl, fun h9 => c_20_10414 (congrArg nI h9), Or.inl ⟨Or.inr (Or.inl a10426), rfl⟩⟩, rfl⟩, by first | assumption | exact hM⟩) rfl dX12_before_52
      · refine lv_iconst (v := (-1)) hx hb dX12_before_23 (by decide) ?_
        exact RI (v := (-1)) hC hP hD hS [0, 1, 2] (mfromHour, mtoHour, fnm) rfl rfl (by decide) (⟨⟨(-1), Or.inl ⟨fun h9 => h9.2.2 c_20_10414, rfl⟩, rfl⟩, by first | assumption | exact hM⟩) rfl dX12_before_24
    · refine lv_if_eq (tgt := 23) hx hb dX12_before_15 (by decide) (fun _ => ?_) (fun c9 => absurd (by decide) c9)
      refine lv_iconst (v := (-1)) hx hb dX12_before_23 (by decide) ?_
      exact RI (v := (-1)) hC hP hD hS [0, 1, 2] (mfromHour, mtoHour, fnm) rfl rfl (by decide) (⟨⟨(-1), Or.inl ⟨fun h9 => a10413 h9.2.1, rfl⟩, rfl⟩, by first | assumption | exact hM⟩) rfl dX12_before_24
  · refine lv_if_eq (tgt := 23) hx hb dX12_before_6 (by decide) (fun _ => ?_) (fun c9 => absurd (by decide) c9)
    refine lv_iconst (v := (-1)) hx hb dX12_before_23 (by decide) ?_
    exact RI (v := (-1)) hC hP hD hS [0, 1, 2] (mfromHour, mtoHour, fnm) rfl rfl (by decide) (⟨⟨(-1), Or.inl ⟨fun h9 => a10411 h9.1, rfl⟩, rfl⟩, by first | assumption | exact hM⟩) rfl dX12_before_24
