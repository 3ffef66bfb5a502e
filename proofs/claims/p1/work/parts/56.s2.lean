theorem hde_law_301_S_0 : yL_block.cls ≠ "java/lang/invoke/MethodHandle" ∧ yL_block.cls ≠ "java/lang/invoke/VarHandle" ∧ (parseMethodDescriptor yL_block.desc).map (fun d => d.parameters.length) = some 8 := by decide +kernel
theorem hde_law_301_V_1 : yX13_block.cls = RX13 ∧ yX13_block.cls ≠ "java/lang/invoke/MethodHandle" ∧ yX13_block.cls ≠ "java/lang/invoke/VarHandle" ∧ (parseMethodDescriptor yX13_block.desc).map (fun d => d.parameters.length) = some 6 := by decide +kernel
theorem hde_law_301_V_2 : yX13_thrown.cls = RX13 ∧ yX13_thrown.cls ≠ "java/lang/invoke/MethodHandle" ∧ yX13_thrown.cls ≠ "java/lang/invoke/VarHandle" ∧ (parseMethodDescriptor yX13_thrown.desc).map (fun d => d.parameters.length) = some 0 := by decide +kernel
set_option maxHeartbeats 8000000 in
set_option maxRecDepth 100000 in
theorem e_law_301 {p : Program} {e : Env} {s : State} {m : MethodId} {below : List Frame} {meth : Method} {c : Code} (l : Launch) (hflags : l.stackTraces = false) (D : va_G) (cy : Nat → ClassId) (ed : Nat) {b : Nat} {xs : Nat → Int32} {Q : State → Prop} {S0 : pS} {cw : Cond} (C : pC p s m #[Value.ref b] c code 10 RL (cw :: lwU) D cy) (hE : eK (pA S0 s.heap.size) ed s s.heap) (hA : ∀ q, s.heap.size ≤ q → pA S0 s.heap.size q) (hXs : va_X b 7 xs s s.heap) (hbl : b < s.heap.size) (hbA : ¬ pA S0 s.heap.size b) (S : pS) (H : Heap) (locs : List Loc) (ls : Array Slot) (x : Nat) (mm : Nat) (jo : Nat) (dd : Nat) (ch : Nat) (ln : Nat) (sl : Nat) (mk : Nat) (co : Nat) (ca : Nat) (su : Nat) (lt : Nat) (lk : Nat) (mb : Nat) (col : Nat) (con : Nat) (cor0 : Nat) (cor1 : Nat) (cor2 : Nat) (cor3 : Nat) (cor4 : Nat) (cob0 : Nat) (cob1 : Nat) (cal : Nat) (can : Nat) (car0 : Nat) (car1 : Nat) (car2 : Nat) (car3 : Nat) (car4 : Nat) (cab0 : Nat) (cab1 : Nat) (me : Nat) (sg : Nat) (cn : Nat) (im : Nat) (hL_x : x ∈ S.1) (hf_x : S.2 x = .inr (11, [.ref ch, .ref ln, .ref sl, .ref mk, .ref co, .ref ca, .ref su, .ref lt])) (hL_ch : ch ∈ S.1) (hf_ch : S.2 ch = .inr (2, [.ref lk, .int (nI 0)])) (hL_lk : lk ∈ S.1) (hf_lk : S.2 lk = aQ (cy 3) 4 (fun _ => none)) (hL_ln : ln ∈ S.1) (hf_ln : S.2 ln = .inr (6, [.int (nI 0), .int (nI 0), .int (nI 0), .int (nI 0)])) (hL_mk : mk ∈ S.1) (hf_mk : S.2 mk = .inr (8, [.ref mb, .int (nI 320)])) (hL_mb : mb ∈ S.1) (hf_mb : S.2 mb = aN (cy 0) 320 (fun _ => 0)) (hL_co : co ∈ S.1) (hf_co : S.2 co = .inr (5, [.ref col, .ref con])) (hL_col : col ∈ S.1) (hf_col : S.2 col = aQ (cy 2) 5 (va_up (va_up (va_up (va_up (va_up (fun _ => none) 0 (some cor0)) 1 (some cor1)) 2 (some cor2)) 3 (some cor3)) 4 (some cor4))) (hL_cor0 : cor0 ∈ S.1) (hf_cor0 : S.2 cor0 = .inr (8, [.ref cob0, .int (nI 0)])) (hL_cor1 : cor1 ∈ S.1) (hf_cor1 : S.2 cor1 = .inr (8, [.ref cob1, .int (nI 0)])) (hL_cob1 : cob1 ∈ S.1) (hf_cob1 : S.2 cob1 = aN (cy 0) 320 (fun _ => 0)) (hL_ca : ca ∈ S.1) (hf_ca : S.2 ca = .inr (5, [.ref cal, .ref can])) (hL_cal : cal ∈ S.1) (hf_cal : S.2 cal = aQ (cy 2) 5 (va_up (va_up (va_up (va_up (va_up (fun _ => none) 0 (some car0)) 1 (some car1)) 2 (some car2)) 3 (some car3)) 4 (some car4))) (hL_car0 : car0 ∈ S.1) (hf_car0 : S.2 car0 = .inr (8, [.ref cab0, .int (nI 0)])) (hL_cab0 : cab0 ∈ S.1) (hf_cab0 : S.2 cab0 = aN (cy 0) 32 (fun _ => 0)) (hL_car1 : car1 ∈ S.1) (hf_car1 : S.2 car1 = .inr (8, [.ref cab1, .int (nI 0)])) (hL_cab1 : cab1 ∈ S.1) (hf_cab1 : S.2 cab1 = aN (cy 0) 320 (fun _ => 0)) (hL_mm : mm ∈ S.1) (hf_mm : S.2 mm = .inr (13, [.int (nI 0), .ref me, .ref sg, .ref cn, .ref im])) (hL_me : me ∈ S.1) (hf_me : S.2 me = .inl (cy 0, 0, .inl (fun _ => 0))) (hL_sg : sg ∈ S.1) (hf_sg : S.2 sg = .inr (0, [.int (nI 0), .ref ed, .int (nI 0)])) (hL_jo : jo ∈ S.1) (hf_jo : S.2 jo = .inl (cy 6, 1, .inr (.inl (fun _ => 0)))) (hne_col_lk : col ≠ lk) (hne_cal_lk : cal ≠ lk) (hne_cor0_cor1 : cor0 ≠ cor1) (hne_mk_cor1 : mk ≠ cor1) (hne_car1_cor1 : car1 ≠ cor1) (hne_cob1_cab1 : cob1 ≠ cab1) (hne_mk_car1 : mk ≠ car1) (hne_mb_cab1 : mb ≠ cab1) (hne_cor0_car1 : cor0 ≠ car1) (hne_car0_cor1 : car0 ≠ cor1) (hne_car0_car1 : car0 ≠ car1) (hne_cab0_cab1 : cab0 ≠ cab1) (hne_jo_lk : jo ≠ lk) (hne_jo_cab1 : jo ≠ cab1) (hne_me_lk : me ≠ lk) (hne_me_cab1 : me ≠ cab1) (hne_me_jo : me ≠ jo) (hw : pW D (pA S0 s.heap.size) s.heap S H locs) (hl : lv_has ls 10 [(5, .int (nI 0)), (4, .ref dd), (3, .ref jo), (2, .ref mm), (1, .ref x), (0, .ref b)]) (kk : ∀ (S' : pS) (H' : Heap) (locs' : List Loc) (ls' : Array Slot), pW D (pA S0 s.heap.size) s.heap S' H' locs' → lv_has ls' 10 [(5, .int (nI 0)), (0, .ref b)] → W p l e room_1 s m #[Value.ref b] below meth c H' locs' 600002 7302232 Q (F0 m 1501 ls' [])) : W p l e room_1 s m #[Value.ref b] below meth c H locs 60 5026 Q (F0 m 301 ls []) := by
  have hx := C.1
  have hb := C.2.1
  refine lv_aload_n hx hb dL_law_301 rfl (lv_at hl 4 rfl) ?_
  refine lv_aload_n hx hb dL_law_302 rfl (lv_at hl 5 rfl) ?_
  refine lv_iload hx hb dL_law_303 (lv_at hl 0 rfl) ?_
  refine lv_iconst (v := nI 1) hx hb dL_law_305 (by decide) ?_
  refine n_iadd hx hb dL_law_306 ?_
  refine n_ren (b := 1) (by first | rfl | omega | simp) ?_
  refine va_sld hx hb hXs hbl hbA hw.2.2 (i := nI 1) (show vp_in (nI 1) 7 from by unfold vp_in; decide) dL_law_307 ?_
  refine lv_aload_n hx hb dL_law_308 rfl (lv_at hl 5 rfl) ?_
  refine lv_iload hx hb dL_law_309 (lv_at hl 0 rfl) ?_
  refine lv_iconst (v := nI 2) hx hb dL_law_311 (by decide) ?_
  refine n_iadd hx hb dL_law_312 ?_
  refine n_ren (b := 2) (by first | rfl | omega | simp) ?_
  refine va_sld hx hb hXs hbl hbA hw.2.2 (i := nI 2) (show vp_in (nI 2) 7 from by unfold vp_in; decide) dL_law_313 ?_
  refine lv_aload_n hx hb dL_law_314 rfl (lv_at hl 5 rfl) ?_
  refine lv_iload hx hb dL_law_315 (lv_at hl 0 rfl) ?_
  refine lv_iconst (v := nI 3) hx hb dL_law_317 (by decide) ?_
  refine n_iadd hx hb dL_law_318 ?_
  refine n_ren (b := 3) (by first | rfl | omega | simp) ?_
  refine va_sld hx hb hXs hbl hbA hw.2.2 (i := nI 3) (show vp_in (nI 3) 7 from by unfold vp_in; decide) dL_law_319 ?_
  refine lv_aload_n hx hb dL_law_320 rfl (lv_at hl 5 rfl) ?_
  refine lv_iload hx hb dL_law_321 (lv_at hl 0 rfl) ?_
  refine lv_iconst (v := nI 4) hx hb dL_law_323 (by decide) ?_
  refine n_iadd hx hb dL_law_324 ?_
  refine n_ren (b := 4) (by first | rfl | omega | simp) ?_
  refine va_sld hx hb hXs hbl hbA hw.2.2 (i := nI 4) (show vp_in (nI 4) 7 from by unfold vp_in; decide) dL_law_325 ?_
  refine lv_aload_n hx hb dL_law_326 rfl (lv_at hl 5 rfl) ?_
  refine lv_iload hx hb dL_law_327 (lv_at hl 0 rfl) ?_
  refine lv_iconst (v := nI 5) hx hb dL_law_329 (by decide) ?_
  refine n_iadd hx hb dL_law_330 ?_
  refine n_ren (b := 5) (by first | rfl | omega | simp) ?_
  refine va_sld hx hb hXs hbl hbA hw.2.2 (i := nI 5) (show vp_in (nI 5) 7 from by unfold vp_in; decide) dL_law_331 ?_
  refine lv_aload_n hx hb dL_law_332 rfl (lv_at hl 5 rfl) ?_
  refine lv_iload hx hb dL_law_333 (lv_at hl 0 rfl) ?_
  refine lv_bipush (v := nI 6) hx hb dL_law_335 (by decide) ?_
  refine n_iadd hx hb dL_law_337 ?_
  refine n_ren (b := 6) (by first | rfl | omega | simp) ?_
  refine va_sld hx hb hXs hbl hbA hw.2.2 (i := nI 6) (show vp_in (nI 6) 7 from by unfold vp_in; decide) dL_law_338 ?_
  refine lv_aload_n hx hb dL_law_339 rfl (lv_at hl 2 rfl) ?_
  refine x_calli (vx_runSX (As := [.ref x, .int (xs (nI 1).toNatClampNeg), .int (xs (nI 2).toNatClampNeg), .int (xs (nI 3).toNatClampNeg), .int (xs (nI 4).toNatClampNeg), .int (xs (nI 5).toNatClampNeg), .int (xs (nI 6).toNatClampNeg), .ref jo]) (rest := []) C.fix (e_L_block l hflags D cy ed S H.size x jo ch ln sl mk co ca su lt lk mb col con cor0 cor1 cor2 cor3 cor4 cob0 cob1 cal can car0 car1 car2 car3 car4 cab0 cab1 (xs (nI 1).toNatClampNeg) (xs (nI 2).toNatClampNeg) (xs (nI 3).toNatClampNeg) (xs (nI 4).toNatClampNeg) (xs (nI 5).toNatClampNeg) (xs (nI 6).toNatClampNeg) (fun _ => 0) hL_x hf_x hL_ch hf_ch hL_lk hf_lk hL_ln hf_ln hL_mk hf_mk hL_mb hf_mb hL_co hf_co hL_col hf_col hL_cor0 hf_cor0 hL_cor1 hf_cor1 hL_cob1 hf_cob1 hL_ca hf_ca hL_cal hf_cal hL_car0 hf_car0 hL_cab0 hf_cab0 hL_car1 hf_car1 hL_cab1 hf_cab1 hL_jo hf_jo hne_col_lk hne_cal_lk hne_cor0_cor1 hne_mk_cor1 hne_car1_cor1 hne_cob1_cab1 hne_mk_car1 hne_mb_cab1 hne_cor0_car1 hne_car0_cor1 hne_car0_car1 hne_cab0_cab1 hne_jo_lk hne_jo_cab1) (vx_cwSW 8 C.2.2.2.2.1 (gU_S mw_612 mw_613 mw_111 (subU mw_614)) rfl rfl rfl hde_law_301_S_0 ⟨Nat.le_of_ble_eq_true rfl, Nat.le_of_ble_eq_true rfl⟩) (e_preS C hw hA hE) rfl rfl hl.1 rfl (lv_room (Nat.le_of_ble_eq_true rfl)) dL_law_340 ⟨(Nat.le_of_ble_eq_true rfl), (Nat.le_of_ble_eq_true rfl)⟩) hw hA (fun E9 ce9 q9 S1 H locs hpost hw hce9 hcv9 hcl9 => ?_) (fun r2 S1 H locs hpost hw => ?_)
  · skip
    exact hpost.elim
  rcases hpost with hpost | hpost
  · skip
    obtain ⟨st3, sw4, hc5, hr_, hS6, hfr7, hf8⟩ := hpost
    subst hr_
    have hnd9 := p_apart hw hS6
    have hq10 : st3 ∉ S.1 := p_fresh hw hS6 0 rfl
    have hq11 : sw4 ∉ S.1 := p_fresh hw hS6 1 rfl
    have hL12 : jo ∈ S1.1 := by rw [hS6]; exact List.mem_append_left _ hL_jo
    refine lv_istore (lv' := [(6, .int (nI 0)), (5, .int (nI 0)), (4, .ref dd), (3, .ref jo), (2, .ref mm), (1, .ref x), (0, .ref b)]) hx hb dL_law_343 hl (by decide) rfl (fun ls hl => ?_)
    refine lv_aload_n hx hb dL_law_345 rfl (lv_at hl 4 rfl) ?_
    refine lv_aload_n hx hb dL_law_346 rfl (lv_at hl 6 rfl) ?_
    refine lv_iload hx hb dL_law_347 (lv_at hl 1 rfl) ?_
    refine lv_iconst (v := nI 1) hx hb dL_law_349 (by decide) ?_
    refine n_iadd hx hb dL_law_350 ?_
    refine n_ren (b := 1) (by first | rfl | omega | simp) ?_
    refine va_sld hx hb hXs hbl hbA hw.2.2 (i := nI 1) (show vp_in (nI 1) 7 from by unfold vp_in; decide) dL_law_351 ?_
    refine lv_aload_n hx hb dL_law_352 rfl (lv_at hl 6 rfl) ?_
    refine lv_iload hx hb dL_law_353 (lv_at hl 1 rfl) ?_
    refine lv_iconst (v := nI 2) hx hb dL_law_355 (by decide) ?_
    refine n_iadd hx hb dL_law_356 ?_
    refine n_ren (b := 2) (by first | rfl | omega | simp) ?_
    refine va_sld hx hb hXs hbl hbA hw.2.2 (i := nI 2) (show vp_in (nI 2) 7 from by unfold vp_in; decide) dL_law_357 ?_
    refine lv_aload_n hx hb dL_law_358 rfl (lv_at hl 6 rfl) ?_
    refine lv_iload hx hb dL_law_359 (lv_at hl 1 rfl) ?_
    refine lv_iconst (v := nI 3) hx hb dL_law_361 (by decide) ?_
    refine n_iadd hx hb dL_law_362 ?_
    refine n_ren (b := 3) (by first | rfl | omega | simp) ?_
    refine va_sld hx hb hXs hbl hbA hw.2.2 (i := nI 3) (show vp_in (nI 3) 7 from by unfold vp_in; decide) dL_law_363 ?_
    refine lv_aload_n hx hb dL_law_364 rfl (lv_at hl 6 rfl) ?_
    refine lv_iload hx hb dL_law_365 (lv_at hl 1 rfl) ?_
    refine lv_iconst (v := nI 4) hx hb dL_law_367 (by decide) ?_
    refine n_iadd hx hb dL_law_368 ?_
    refine n_ren (b := 4) (by first | rfl | omega | simp) ?_
    refine va_sld hx hb hXs hbl hbA hw.2.2 (i := nI 4) (show vp_in (nI 4) 7 from by unfold vp_in; decide) dL_law_369 ?_
    refine lv_aload_n hx hb dL_law_370 rfl (lv_at hl 6 rfl) ?_
    refine lv_iload hx hb dL_law_371 (lv_at hl 1 rfl) ?_
    refine lv_iconst (v := nI 5) hx hb dL_law_373 (by decide) ?_
    refine n_iadd hx hb dL_law_374 ?_
    refine n_ren (b := 5) (by first | rfl | omega | simp) ?_
    refine va_sld hx hb hXs hbl hbA hw.2.2 (i := nI 5) (show vp_in (nI 5) 7 from by unfold vp_in; decide) dL_law_375 ?_
    refine lv_aload_n hx hb dL_law_376 rfl (lv_at hl 6 rfl) ?_
    refine lv_iload hx hb dL_law_377 (lv_at hl 1 rfl) ?_
    refine lv_bipush (v := nI 6) hx hb dL_law_379 (by decide) ?_
    refine n_iadd hx hb dL_law_381 ?_
    refine n_ren (b := 6) (by first | rfl | omega | simp) ?_
    refine va_sld hx hb hXs hbl hbA hw.2.2 (i := nI 6) (show vp_in (nI 6) 7 from by unfold vp_in; decide) dL_law_382 ?_
    have hL13 : mm ∈ S1.1 := by rw [hS6]; exact List.mem_append_left _ hL_mm
    have hf14 : S1.2 mm = .inr (13, [.int (nI 0), .ref me, .ref sg, .ref cn, .ref im]) := (hfr7 mm hL_mm (ne_cells hf_mm hf_lk (by nofun)) (ne_cells hf_mm hf_ch (by nofun)) (ne_cells hf_mm hf_cor1 (by nofun)) (ne_cells hf_mm hf_car1 (by nofun)) (ne_cells hf_mm hf_cab1 (by nofun)) (ne_cells hf_mm hf_car0 (by nofun)) (ne_cells hf_mm hf_jo (by nofun))).trans hf_mm
    have hL15 : me ∈ S1.1 := by rw [hS6]; exact List.mem_append_left _ hL_me
    have hf16 : S1.2 me = .inl (cy 0, 0, .inl (fun _ => 0)) := (hfr7 me hL_me hne_me_lk (ne_cells hf_me hf_ch (by nofun)) (ne_cells hf_me hf_cor1 (by nofun)) (ne_cells hf_me hf_car1 (by nofun)) hne_me_cab1 (ne_cells hf_me hf_car0 (by nofun)) hne_me_jo).trans hf_me
    have hL17 : sg ∈ S1.1 := by rw [hS6]; exact List.mem_append_left _ hL_sg
    have hf18 : S1.2 sg = .inr (0, [.int (nI 0), .ref ed, .int (nI 0)]) := (hfr7 sg hL_sg (ne_cells hf_sg hf_lk (by nofun)) (ne_cells hf_sg hf_ch (by nofun)) (ne_cells hf_sg hf_cor1 (by nofun)) (ne_cells hf_sg hf_car1 (by nofun)) (ne_cells hf_sg hf_cab1 (by nofun)) (ne_cells hf_sg hf_car0 (by nofun)) (ne_cells hf_sg hf_jo (by nofun))).trans hf_sg
    refine p_calli (va_runV (As := [.int (xs (nI 1).toNatClampNeg), .int (xs (nI 2).toNatClampNeg), .int (xs (nI 3).toNatClampNeg), .int (xs (nI 4).toNatClampNeg), .int (xs (nI 5).toNatClampNeg), .int (xs (nI 6).toNatClampNeg)]) (rest := []) C.fix (e_X13_block l D cy ed S1 H.size mm me sg cn im (xs (nI 1).toNatClampNeg) (xs (nI 2).toNatClampNeg) (xs (nI 3).toNatClampNeg) (xs (nI 4).toNatClampNeg) (xs (nI 5).toNatClampNeg) (xs (nI 6).toNatClampNeg) hL13 hf14 hL15 hf16 hL17 hf18 ) (cwV 6 C.2.2.2.2.1 (gU_V mw_627 mw_628 mw_629 mw_5 (subU mw_630)) rfl rfl rfl hde_law_301_V_1 ⟨Nat.le_of_ble_eq_true rfl, Nat.le_of_ble_eq_true rfl⟩) (e_preV C hw hA hE hL13 hf14 rfl) rfl rfl hl.1 rfl (lv_room (Nat.le_of_ble_eq_true rfl)) dL_law_383 ⟨(Nat.le_of_ble_eq_true rfl), (Nat.le_of_ble_eq_true rfl)⟩) hw hA (fun r20 S19 H locs hpost hw => ?_)
    rcases hpost with hpost | hpost
    · skip
      obtain ⟨nl21, hc22, hr_, hS23, hfr24, hf25⟩ := hpost
      subst hr_
      have hL26 : mm ∈ S19.1 := by rw [hS23]; exact List.mem_append_left _ hL13
      refine lv_istore (lv' := [(7, .int (nI 0)), (6, .int (nI 0)), (5, .int (nI 0)), (4, .ref dd), (3, .ref jo), (2, .ref mm), (1, .ref x), (0, .ref b)]) hx hb dL_law_386 hl (by decide) rfl (fun ls hl => ?_)
      refine lv_aload_n hx hb dL_law_388 rfl (lv_at hl 5 rfl) ?_
      refine p_calli (va_runV (As := []) (rest := []) C.fix (e_X13_thrown l D cy S19 H.size mm me sg cn im 0 hL26 hf25 ) (cwV 0 C.2.2.2.2.1 (gU_V mw_544 mw_545 mw_546 mw_5 (subU mw_547)) rfl rfl rfl hde_law_301_V_2 ⟨Nat.le_of_ble_eq_true rfl, Nat.le_of_ble_eq_true rfl⟩) (p_preV C hw hL26 hf25 rfl) rfl rfl hl.1 rfl (lv_room (Nat.le_of_ble_eq_true rfl)) dL_law_389 ⟨(Nat.le_of_ble_eq_true rfl), (Nat.le_of_ble_eq_true rfl)⟩) hw hA (fun r28 S27 H locs hpost hw => ?_)
      obtain ⟨hr_, hS_⟩ := hpost
      subst hr_
      subst hS_
      refine lv_iload hx hb dL_law_392 (lv_at hl 1 rfl) ?_
      refine n_icmp_eq (tgt := 399) hx hb (by first | decide | omega) (by first | decide | omega) dL_law_394 (by decide) (fun h_394 => ?_) (fun h_394 => ?_)
      · skip
        refine lv_iload hx hb dL_law_399 (lv_at hl 1 rfl) ?_
        refine n_if_ne (tgt := 416) hx hb (by first | decide | omega) dL_law_401 (by decide) (fun h_401 => ?_) (fun h_401 => ?_)
        · exact absurd h_401 (by first | decide | omega)
        · skip
          refine lv_aload_n hx hb dL_law_404 rfl (lv_at hl 4 rfl) ?_
          refine lv_iconst (v := nI 0) hx hb dL_law_405 (by decide) ?_
          have hL29 : jo ∈ S19.1 := by rw [hS23]; exact List.mem_append_left _ hL12
          have hf30 : S19.2 jo = .inl (cy 6, 1, .inr (.inl (vp_updL (fun _ => 0) 0 ((nI 0)).toInt64))) := (hfr24 jo hL12 (ne_cells hf8 hf14 (by nofun)) (ne_cells hf8 hf18 (by nofun))).trans hf8
          refine p_lald C hw 6 rfl hL29 hf30 (by decide) (by decide) dL_law_406 ?_
          refine lv_iload hx hb dL_law_407 (lv_at hl 0 rfl) ?_
          refine lv_i2l hx hb dL_law_409 rfl ?_
          refine W.lcmp hx hb dL_law_410 ?_
          refine x_ren (b := 0) (by first | exact lc_self _ | exact lc_upd _ _) ?_
          refine z_if_eq (tgt := 416) hx hb (show (0 : Int32).toInt = 0 from by decide) dL_law_411 (by decide) (fun h_411 => ?_) (fun h_411 => ?_)
          · skip
            refine lv_goto (tgt := 1501) hx hb dL_law_416 (by decide) ?_
            exact W.widen (k := 600002) (n := 7302232) (Nat.le_of_ble_eq_true rfl) (Nat.le_of_ble_eq_true rfl) (kk S19 H locs ls hw (lv_sub hl [2, 7] rfl))
          · exact absurd h_411 (by first | decide | omega)
      · exact absurd h_394 (by first | decide | omega)
    · skip
      obtain ⟨nl31, hc32, hr_, hS33, hfr34, hf35⟩ := hpost
      subst hr_
      have hL36 : mm ∈ S19.1 := by rw [hS33]; exact List.mem_append_left _ hL13
      refine lv_istore (lv' := [(7, .int (nI 0)), (6, .int (nI 0)), (5, .int (nI 0)), (4, .ref dd), (3, .ref jo), (2, .ref mm), (1, .ref x), (0, .ref b)]) hx hb dL_law_386 hl (by decide) rfl (fun ls hl => ?_)
      refine lv_aload_n hx hb dL_law_388 rfl (lv_at hl 5 rfl) ?_
      refine p_calli (va_runV (As := []) (rest := []) C.fix (e_X13_thrown l D cy S19 H.size mm me sg cn im 1 hL36 hf35 ) (cwV 0 C.2.2.2.2.1 (gU_V mw_544 mw_545 mw_546 mw_5 (subU mw_547)) rfl rfl rfl hde_law_301_V_2 ⟨Nat.le_of_ble_eq_true rfl, Nat.le_of_ble_eq_true rfl⟩) (p_preV C hw hL36 hf35 rfl) rfl rfl hl.1 rfl (lv_room (Nat.le_of_ble_eq_true rfl)) dL_law_389 ⟨(Nat.le_of_ble_eq_true rfl), (Nat.le_of_ble_eq_true rfl)⟩) hw hA (fun r38 S37 H locs hpost hw => ?_)
      obtain ⟨hr_, hS_⟩ := hpost
      subst hr_
      subst hS_
      refine lv_iload hx hb dL_law_392 (lv_at hl 1 rfl) ?_
      refine n_icmp_eq (tgt := 399) hx hb (by first | decide | omega) (by first | decide | omega) dL_law_394 (by decide) (fun h_394 => ?_) (fun h_394 => ?_)
      · exact absurd h_394 (by first | decide | omega)
      · skip
        refine lv_iconst (v := nI 0) hx hb dL_law_397 (by decide) ?_
        contradiction
  · skip
    obtain ⟨hc39, hr_, hS_⟩ := hpost
    subst hr_
    subst hS_
    refine lv_istore (lv' := [(6, .int (nI 1)), (5, .int (nI 0)), (4, .ref dd), (3, .ref jo), (2, .ref mm), (1, .ref x), (0, .ref b)]) hx hb dL_law_343 hl (by decide) rfl (fun ls hl => ?_)
    refine lv_aload_n hx hb dL_law_345 rfl (lv_at hl 4 rfl) ?_
    refine lv_aload_n hx hb dL_law_346 rfl (lv_at hl 6 rfl) ?_
    refine lv_iload hx hb dL_law_347 (lv_at hl 1 rfl) ?_
    refine lv_iconst (v := nI 1) hx hb dL_law_349 (by decide) ?_
    refine n_iadd hx hb dL_law_350 ?_
    refine n_ren (b := 1) (by first | rfl | omega | simp) ?_
    refine va_sld hx hb hXs hbl hbA hw.2.2 (i := nI 1) (show vp_in (nI 1) 7 from by unfold vp_in; decide) dL_law_351 ?_
    refine lv_aload_n hx hb dL_law_352 rfl (lv_at hl 6 rfl) ?_
    refine lv_iload hx hb dL_law_353 (lv_at hl 1 rfl) ?_
    refine lv_iconst (v := nI 2) hx hb dL_law_355 (by decide) ?_
    refine n_iadd hx hb dL_law_356 ?_
    refine n_ren (b := 2) (by first | rfl | omega | simp) ?_
    refine va_sld hx hb hXs hbl hbA hw.2.2 (i := nI 2) (show vp_in (nI 2) 7 from by unfold vp_in; decide) dL_law_357 ?_
    refine lv_aload_n hx hb dL_law_358 rfl (lv_at hl 6 rfl) ?_
    refine lv_iload hx hb dL_law_359 (lv_at hl 1 rfl) ?_
    refine lv_iconst (v := nI 3) hx hb dL_law_361 (by decide) ?_
    refine n_iadd hx hb dL_law_362 ?_
    refine n_ren (b := 3) (by first | rfl | omega | simp) ?_
    refine va_sld hx hb hXs hbl hbA hw.2.2 (i := nI 3) (show vp_in (nI 3) 7 from by unfold vp_in; decide) dL_law_363 ?_
    refine lv_aload_n hx hb dL_law_364 rfl (lv_at hl 6 rfl) ?_
    refine lv_iload hx hb dL_law_365 (lv_at hl 1 rfl) ?_
    refine lv_iconst (v := nI 4) hx hb dL_law_367 (by decide) ?_
    refine n_iadd hx hb dL_law_368 ?_
    refine n_ren (b := 4) (by first | rfl | omega | simp) ?_
    refine va_sld hx hb hXs hbl hbA hw.2.2 (i := nI 4) (show vp_in (nI 4) 7 from by unfold vp_in; decide) dL_law_369 ?_
    refine lv_aload_n hx hb dL_law_370 rfl (lv_at hl 6 rfl) ?_
    refine lv_iload hx hb dL_law_371 (lv_at hl 1 rfl) ?_
    refine lv_iconst (v := nI 5) hx hb dL_law_373 (by decide) ?_
    refine n_iadd hx hb dL_law_374 ?_
    refine n_ren (b := 5) (by first | rfl | omega | simp) ?_
    refine va_sld hx hb hXs hbl hbA hw.2.2 (i := nI 5) (show vp_in (nI 5) 7 from by unfold vp_in; decide) dL_law_375 ?_
    refine lv_aload_n hx hb dL_law_376 rfl (lv_at hl 6 rfl) ?_
    refine lv_iload hx hb dL_law_377 (lv_at hl 1 rfl) ?_
    refine lv_bipush (v := nI 6) hx hb dL_law_379 (by decide) ?_
    refine n_iadd hx hb dL_law_381 ?_
    refine n_ren (b := 6) (by first | rfl | omega | simp) ?_
    refine va_sld hx hb hXs hbl hbA hw.2.2 (i := nI 6) (show vp_in (nI 6) 7 from by unfold vp_in; decide) dL_law_382 ?_
    refine p_calli (va_runV (As := [.int (xs (nI 1).toNatClampNeg), .int (xs (nI 2).toNatClampNeg), .int (xs (nI 3).toNatClampNeg), .int (xs (nI 4).toNatClampNeg), .int (xs (nI 5).toNatClampNeg), .int (xs (nI 6).toNatClampNeg)]) (rest := []) C.fix (e_X13_block l D cy ed S H.size mm me sg cn im (xs (nI 1).toNatClampNeg) (xs (nI 2).toNatClampNeg) (xs (nI 3).toNatClampNeg) (xs (nI 4).toNatClampNeg) (xs (nI 5).toNatClampNeg) (xs (nI 6).toNatClampNeg) hL_mm hf_mm hL_me hf_me hL_sg hf_sg ) (cwV 6 C.2.2.2.2.1 (gU_V mw_627 mw_628 mw_629 mw_5 (subU mw_630)) rfl rfl rfl hde_law_301_V_1 ⟨Nat.le_of_ble_eq_true rfl, Nat.le_of_ble_eq_true rfl⟩) (e_preV C hw hA hE hL_mm hf_mm rfl) rfl rfl hl.1 rfl (lv_room (Nat.le_of_ble_eq_true rfl)) dL_law_383 ⟨(Nat.le_of_ble_eq_true rfl), (Nat.le_of_ble_eq_true rfl)⟩) hw hA (fun r41 S40 H locs hpost hw => ?_)
    rcases hpost with hpost | hpost
    · skip
      obtain ⟨nl42, hc43, hr_, hS44, hfr45, hf46⟩ := hpost
      subst hr_
      have hL47 : mm ∈ S40.1 := by rw [hS44]; exact List.mem_append_left _ hL_mm
      refine lv_istore (lv' := [(7, .int (nI 0)), (6, .int (nI 1)), (5, .int (nI 0)), (4, .ref dd), (3, .ref jo), (2, .ref mm), (1, .ref x), (0, .ref b)]) hx hb dL_law_386 hl (by decide) rfl (fun ls hl => ?_)
      refine lv_aload_n hx hb dL_law_388 rfl (lv_at hl 5 rfl) ?_
      refine p_calli (va_runV (As := []) (rest := []) C.fix (e_X13_thrown l D cy S40 H.size mm me sg cn im 0 hL47 hf46 ) (cwV 0 C.2.2.2.2.1 (gU_V mw_544 mw_545 mw_546 mw_5 (subU mw_547)) rfl rfl rfl hde_law_301_V_2 ⟨Nat.le_of_ble_eq_true rfl, Nat.le_of_ble_eq_true rfl⟩) (p_preV C hw hL47 hf46 rfl) rfl rfl hl.1 rfl (lv_room (Nat.le_of_ble_eq_true rfl)) dL_law_389 ⟨(Nat.le_of_ble_eq_true rfl), (Nat.le_of_ble_eq_true rfl)⟩) hw hA (fun r49 S48 H locs hpost hw => ?_)
      obtain ⟨hr_, hS_⟩ := hpost
      subst hr_
      subst hS_
      refine lv_iload hx hb dL_law_392 (lv_at hl 1 rfl) ?_
      refine n_icmp_eq (tgt := 399) hx hb (by first | decide | omega) (by first | decide | omega) dL_law_394 (by decide) (fun h_394 => ?_) (fun h_394 => ?_)
      · exact absurd h_394 (by first | decide | omega)
      · skip
        refine lv_iconst (v := nI 0) hx hb dL_law_397 (by decide) ?_
        contradiction
    · skip
      obtain ⟨nl50, hc51, hr_, hS52, hfr53, hf54⟩ := hpost
      subst hr_
      have hL55 : mm ∈ S40.1 := by rw [hS52]; exact List.mem_append_left _ hL_mm
      refine lv_istore (lv' := [(7, .int (nI 0)), (6, .int (nI 1)), (5, .int (nI 0)), (4, .ref dd), (3, .ref jo), (2, .ref mm), (1, .ref x), (0, .ref b)]) hx hb dL_law_386 hl (by decide) rfl (fun ls hl => ?_)
      refine lv_aload_n hx hb dL_law_388 rfl (lv_at hl 5 rfl) ?_
      refine p_calli (va_runV (As := []) (rest := []) C.fix (e_X13_thrown l D cy S40 H.size mm me sg cn im 1 hL55 hf54 ) (cwV 0 C.2.2.2.2.1 (gU_V mw_544 mw_545 mw_546 mw_5 (subU mw_547)) rfl rfl rfl hde_law_301_V_2 ⟨Nat.le_of_ble_eq_true rfl, Nat.le_of_ble_eq_true rfl⟩) (p_preV C hw hL55 hf54 rfl) rfl rfl hl.1 rfl (lv_room (Nat.le_of_ble_eq_true rfl)) dL_law_389 ⟨(Nat.le_of_ble_eq_true rfl), (Nat.le_of_ble_eq_true rfl)⟩) hw hA (fun r57 S56 H locs hpost hw => ?_)
      obtain ⟨hr_, hS_⟩ := hpost
      subst hr_
      subst hS_
      refine lv_iload hx hb dL_law_392 (lv_at hl 1 rfl) ?_
      refine n_icmp_eq (tgt := 399) hx hb (by first | decide | omega) (by first | decide | omega) dL_law_394 (by decide) (fun h_394 => ?_) (fun h_394 => ?_)
      · skip
        refine lv_iload hx hb dL_law_399 (lv_at hl 1 rfl) ?_
        refine n_if_ne (tgt := 416) hx hb (by first | decide | omega) dL_law_401 (by decide) (fun h_401 => ?_) (fun h_401 => ?_)
        · skip
          refine lv_goto (tgt := 1501) hx hb dL_law_416 (by decide) ?_
          exact W.widen (k := 600002) (n := 7302232) (Nat.le_of_ble_eq_true rfl) (Nat.le_of_ble_eq_true rfl) (kk S40 H locs ls hw (lv_sub hl [2, 7] rfl))
        · exact absurd h_401 (by first | decide | omega)
      · exact absurd h_394 (by first | decide | omega)

theorem hde_law_419_S_0 : yL_check.cls ≠ "java/lang/invoke/MethodHandle" ∧ yL_check.cls ≠ "java/lang/invoke/VarHandle" ∧ (parseMethodDescriptor yL_check.desc).map (fun d => d.parameters.length) = some 4 := by decide +kernel
theorem hde_law_419_V_1 : yX13_check.cls = RX13 ∧ yX13_check.cls ≠ "java/lang/invoke/MethodHandle" ∧ yX13_check.cls ≠ "java/lang/invoke/VarHandle" ∧ (parseMethodDescriptor yX13_check.desc).map (fun d => d.parameters.length) = some 2 := by decide +kernel
theorem hde_law_419_V_2 : yX13_thrown.cls = RX13 ∧ yX13_thrown.cls ≠ "java/lang/invoke/MethodHandle" ∧ yX13_thrown.cls ≠ "java/lang/invoke/VarHandle" ∧ (parseMethodDescriptor yX13_thrown.desc).map (fun d => d.parameters.length) = some 0 := by decide +kernel
set_option maxHeartbeats 8000000 in
set_option maxRecDepth 100000 in
theorem e_law_419 {p : Program} {e : Env} {s : State} {m : MethodId} {below : List Frame} {meth : Method} {c : Code} (l : Launch) (hflags : l.stackTraces = false) (D : va_G) (cy : Nat → ClassId) (ed : Nat) {b : Nat} {xs : Nat → Int32} {Q : State → Prop} {S0 : pS} {cw : Cond} (C : pC p s m #[Value.ref b] c code 10 RL (cw :: lwU) D cy) (hE : eK (pA S0 s.heap.size) ed s s.heap) (hA : ∀ q, s.heap.size ≤ q → pA S0 s.heap.size q) (hXs : va_X b 7 xs s s.heap) (hbl : b < s.heap.size) (hbA : ¬ pA S0 s.heap.size b) (S : pS) (H : Heap) (locs : List Loc) (ls : Array Slot) (x : Nat) (mm : Nat) (jo : Nat) (dd : Nat) (ch : Nat) (ln : Nat) (sl : Nat) (mk : Nat) (co : Nat) (ca : Nat) (su : Nat) (lt : Nat) (lk : Nat) (mb : Nat) (col : Nat) (con : Nat) (cor0 : Nat) (cor1 : Nat) (cor2 : Nat) (cor3 : Nat) (cor4 : Nat) (cob0 : Nat) (cob1 : Nat) (cal : Nat) (can : Nat) (car0 : Nat) (car1 : Nat) (car2 : Nat) (car3 : Nat) (car4 : Nat) (cab0 : Nat) (cab1 : Nat) (me : Nat) (sg : Nat) (cn : Nat) (im : Nat) (hL_x : x ∈ S.1) (hf_x : S.2 x = .inr (11, [.ref ch, .ref ln, .ref sl, .ref mk, .ref co, .ref ca, .ref su, .ref lt])) (hL_ch : ch ∈ S.1) (hf_ch : S.2 ch = .inr (2, [.ref lk, .int (nI 0)])) (hL_lk : lk ∈ S.1) (hf_lk : S.2 lk = aQ (cy 3) 4 (fun _ => none)) (hL_ln : ln ∈ S.1) (hf_ln : S.2 ln = .inr (6, [.int (nI 0), .int (nI 0), .int (nI 0), .int (nI 0)])) (hL_mk : mk ∈ S.1) (hf_mk : S.2 mk = .inr (8, [.ref mb, .int (nI 320)])) (hL_mb : mb ∈ S.1) (hf_mb : S.2 mb = aN (cy 0) 320 (fun _ => 0)) (hL_co : co ∈ S.1) (hf_co : S.2 co = .inr (5, [.ref col, .ref con])) (hL_col : col ∈ S.1) (hf_col : S.2 col = aQ (cy 2) 5 (va_up (va_up (va_up (va_up (va_up (fun _ => none) 0 (some cor0)) 1 (some cor1)) 2 (some cor2)) 3 (some cor3)) 4 (some cor4))) (hL_cor0 : cor0 ∈ S.1) (hf_cor0 : S.2 cor0 = .inr (8, [.ref cob0, .int (nI 0)])) (hL_cor1 : cor1 ∈ S.1) (hf_cor1 : S.2 cor1 = .inr (8, [.ref cob1, .int (nI 0)])) (hL_cob1 : cob1 ∈ S.1) (hf_cob1 : S.2 cob1 = aN (cy 0) 320 (fun _ => 0)) (hL_ca : ca ∈ S.1) (hf_ca : S.2 ca = .inr (5, [.ref cal, .ref can])) (hL_cal : cal ∈ S.1) (hf_cal : S.2 cal = aQ (cy 2) 5 (va_up (va_up (va_up (va_up (va_up (fun _ => none) 0 (some car0)) 1 (some car1)) 2 (some car2)) 3 (some car3)) 4 (some car4))) (hL_car0 : car0 ∈ S.1) (hf_car0 : S.2 car0 = .inr (8, [.ref cab0, .int (nI 0)])) (hL_cab0 : cab0 ∈ S.1) (hf_cab0 : S.2 cab0 = aN (cy 0) 32 (fun _ => 0)) (hL_car1 : car1 ∈ S.1) (hf_car1 : S.2 car1 = .inr (8, [.ref cab1, .int (nI 0)])) (hL_cab1 : cab1 ∈ S.1) (hf_cab1 : S.2 cab1 = aN (cy 0) 320 (fun _ => 0)) (hL_mm : mm ∈ S.1) (hf_mm : S.2 mm = .inr (13, [.int (nI 0), .ref me, .ref sg, .ref cn, .ref im])) (hL_me : me ∈ S.1) (hf_me : S.2 me = .inl (cy 0, 0, .inl (fun _ => 0))) (hL_sg : sg ∈ S.1) (hf_sg : S.2 sg = .inr (0, [.int (nI 0), .ref ed, .int (nI 0)])) (hL_jo : jo ∈ S.1) (hf_jo : S.2 jo = .inl (cy 6, 1, .inr (.inl (fun _ => 0)))) (hne_col_lk : col ≠ lk) (hne_cal_lk : cal ≠ lk) (hne_cor0_cor1 : cor0 ≠ cor1) (hne_mk_cor1 : mk ≠ cor1) (hne_car1_cor1 : car1 ≠ cor1) (hne_cob1_cab1 : cob1 ≠ cab1) (hne_mk_car1 : mk ≠ car1) (hne_mb_cab1 : mb ≠ cab1) (hne_cor0_car1 : cor0 ≠ car1) (hne_car0_cor1 : car0 ≠ cor1) (hne_car0_car1 : car0 ≠ car1) (hne_cab0_cab1 : cab0 ≠ cab1) (hne_jo_lk : jo ≠ lk) (hne_jo_cab1 : jo ≠ cab1) (hne_me_lk : me ≠ lk) (hne_me_cab1 : me ≠ cab1) (hne_me_jo : me ≠ jo) (hw : pW D (pA S0 s.heap.size) s.heap S H locs) (hl : lv_has ls 10 [(5, .int (nI 0)), (4, .ref dd), (3, .ref jo), (2, .ref mm), (1, .ref x), (0, .ref b)]) (kk : ∀ (S' : pS) (H' : Heap) (locs' : List Loc) (ls' : Array Slot), pW D (pA S0 s.heap.size) s.heap S' H' locs' → lv_has ls' 10 [(5, .int (nI 0)), (0, .ref b)] → W p l e room_1 s m #[Value.ref b] below meth c H' locs' 600002 7302232 Q (F0 m 1501 ls' [])) : W p l e room_1 s m #[Value.ref b] below meth c H locs 60 5026 Q (F0 m 419 ls []) := by
  have hx := C.1
  have hb := C.2.1
  refine lv_aload_n hx hb dL_law_419 rfl (lv_at hl 4 rfl) ?_
  refine lv_aload_n hx hb dL_law_420 rfl (lv_at hl 5 rfl) ?_
  refine lv_iload hx hb dL_law_421 (lv_at hl 0 rfl) ?_
  refine lv_iconst (v := nI 1) hx hb dL_law_423 (by decide) ?_
  refine n_iadd hx hb dL_law_424 ?_
  refine n_ren (b := 1) (by first | rfl | omega | simp) ?_
  refine va_sld hx hb hXs hbl hbA hw.2.2 (i := nI 1) (show vp_in (nI 1) 7 from by unfold vp_in; decide) dL_law_425 ?_
  refine lv_aload_n hx hb dL_law_426 rfl (lv_at hl 5 rfl) ?_
  refine lv_iload hx hb dL_law_427 (lv_at hl 0 rfl) ?_
  refine lv_iconst (v := nI 2) hx hb dL_law_429 (by decide) ?_
  refine n_iadd hx hb dL_law_430 ?_
  refine n_ren (b := 2) (by first | rfl | omega | simp) ?_
  refine va_sld hx hb hXs hbl hbA hw.2.2 (i := nI 2) (show vp_in (nI 2) 7 from by unfold vp_in; decide) dL_law_431 ?_
  refine lv_aload_n hx hb dL_law_432 rfl (lv_at hl 2 rfl) ?_
  refine x_calli (vx_runSX (As := [.ref x, .int (xs (nI 1).toNatClampNeg), .int (xs (nI 2).toNatClampNeg), .ref jo]) (rest := []) C.fix (e_L_check l hflags D cy ed S H.size x jo ch ln sl mk co ca su lt lk mb col con cor0 cor1 cor2 cor3 cor4 cob0 cob1 cal can car0 car1 car2 car3 car4 cab0 cab1 (xs (nI 1).toNatClampNeg) (xs (nI 2).toNatClampNeg) (fun _ => 0) hL_x hf_x hL_ch hf_ch hL_lk hf_lk hL_ln hf_ln hL_mk hf_mk hL_mb hf_mb hL_co hf_co hL_col hf_col hL_cor0 hf_cor0 hL_cor1 hf_cor1 hL_cob1 hf_cob1 hL_ca hf_ca hL_cal hf_cal hL_car0 hf_car0 hL_cab0 hf_cab0 hL_car1 hf_car1 hL_cab1 hf_cab1 hL_jo hf_jo hne_col_lk hne_cal_lk hne_cor0_cor1 hne_mk_cor1 hne_car1_cor1 hne_cob1_cab1 hne_mk_car1 hne_mb_cab1 hne_cor0_car1 hne_car0_cor1 hne_car0_car1 hne_cab0_cab1 hne_jo_lk hne_jo_cab1) (vx_cwSW 4 C.2.2.2.2.1 (gU_S mw_631 mw_632 mw_111 (subU mw_633)) rfl rfl rfl hde_law_419_S_0 ⟨Nat.le_of_ble_eq_true rfl, Nat.le_of_ble_eq_true rfl⟩) (e_preS C hw hA hE) rfl rfl hl.1 rfl (lv_room (Nat.le_of_ble_eq_true rfl)) dL_law_433 ⟨(Nat.le_of_ble_eq_true rfl), (Nat.le_of_ble_eq_true rfl)⟩) hw hA (fun E9 ce9 q9 S1 H locs hpost hw hce9 hcv9 hcl9 => ?_) (fun r2 S1 H locs hpost hw => ?_)
  · skip
    exact hpost.elim
  rcases hpost with hpost | hpost
  · skip
    obtain ⟨st3, hc4, hr_, hS5, hfr6, hf7⟩ := hpost
    subst hr_
    have hq8 : st3 ∉ S.1 := p_fresh hw hS5 0 rfl
    have hL9 : jo ∈ S1.1 := by rw [hS5]; exact List.mem_append_left _ hL_jo
    refine lv_istore (lv' := [(6, .int (nI 0)), (5, .int (nI 0)), (4, .ref dd), (3, .ref jo), (2, .ref mm), (1, .ref x), (0, .ref b)]) hx hb dL_law_436 hl (by decide) rfl (fun ls hl => ?_)
    refine lv_aload_n hx hb dL_law_438 rfl (lv_at hl 4 rfl) ?_
    refine lv_aload_n hx hb dL_law_439 rfl (lv_at hl 6 rfl) ?_
    refine lv_iload hx hb dL_law_440 (lv_at hl 1 rfl) ?_
    refine lv_iconst (v := nI 1) hx hb dL_law_442 (by decide) ?_
    refine n_iadd hx hb dL_law_443 ?_
    refine n_ren (b := 1) (by first | rfl | omega | simp) ?_
    refine va_sld hx hb hXs hbl hbA hw.2.2 (i := nI 1) (show vp_in (nI 1) 7 from by unfold vp_in; decide) dL_law_444 ?_
    refine lv_aload_n hx hb dL_law_445 rfl (lv_at hl 6 rfl) ?_
    refine lv_iload hx hb dL_law_446 (lv_at hl 1 rfl) ?_
    refine lv_iconst (v := nI 2) hx hb dL_law_448 (by decide) ?_
    refine n_iadd hx hb dL_law_449 ?_
    refine n_ren (b := 2) (by first | rfl | omega | simp) ?_
    refine va_sld hx hb hXs hbl hbA hw.2.2 (i := nI 2) (show vp_in (nI 2) 7 from by unfold vp_in; decide) dL_law_450 ?_
    have hL10 : mm ∈ S1.1 := by rw [hS5]; exact List.mem_append_left _ hL_mm
    have hf11 : S1.2 mm = .inr (13, [.int (nI 0), .ref me, .ref sg, .ref cn, .ref im]) := (hfr6 mm hL_mm (ne_cells hf_mm hf_lk (by nofun)) (ne_cells hf_mm hf_ch (by nofun)) (ne_cells hf_mm hf_cor1 (by nofun)) (ne_cells hf_mm hf_car1 (by nofun)) (ne_cells hf_mm hf_cab1 (by nofun)) (ne_cells hf_mm hf_car0 (by nofun)) (ne_cells hf_mm hf_jo (by nofun))).trans hf_mm
    have hL12 : me ∈ S1.1 := by rw [hS5]; exact List.mem_append_left _ hL_me
    have hf13 : S1.2 me = .inl (cy 0, 0, .inl (fun _ => 0)) := (hfr6 me hL_me hne_me_lk (ne_cells hf_me hf_ch (by nofun)) (ne_cells hf_me hf_cor1 (by nofun)) (ne_cells hf_me hf_car1 (by nofun)) hne_me_cab1 (ne_cells hf_me hf_car0 (by nofun)) hne_me_jo).trans hf_me
    have hL14 : sg ∈ S1.1 := by rw [hS5]; exact List.mem_append_left _ hL_sg
    have hf15 : S1.2 sg = .inr (0, [.int (nI 0), .ref ed, .int (nI 0)]) := (hfr6 sg hL_sg (ne_cells hf_sg hf_lk (by nofun)) (ne_cells hf_sg hf_ch (by nofun)) (ne_cells hf_sg hf_cor1 (by nofun)) (ne_cells hf_sg hf_car1 (by nofun)) (ne_cells hf_sg hf_cab1 (by nofun)) (ne_cells hf_sg hf_car0 (by nofun)) (ne_cells hf_sg hf_jo (by nofun))).trans hf_sg
    refine p_calli (va_runV (As := [.int (xs (nI 1).toNatClampNeg), .int (xs (nI 2).toNatClampNeg)]) (rest := []) C.fix (e_X13_check l D cy ed S1 H.size mm me sg cn im (xs (nI 1).toNatClampNeg) (xs (nI 2).toNatClampNeg) hL10 hf11 hL12 hf13 hL14 hf15 ) (cwV 2 C.2.2.2.2.1 (gU_V mw_646 mw_647 mw_648 mw_5 (subU mw_649)) rfl rfl rfl hde_law_419_V_1 ⟨Nat.le_of_ble_eq_true rfl, Nat.le_of_ble_eq_true rfl⟩) (e_preV C hw hA hE hL10 hf11 rfl) rfl rfl hl.1 rfl (lv_room (Nat.le_of_ble_eq_true rfl)) dL_law_451 ⟨(Nat.le_of_ble_eq_true rfl), (Nat.le_of_ble_eq_true rfl)⟩) hw hA (fun r17 S16 H locs hpost hw => ?_)
    rcases hpost with hpost | hpost
    · skip
      obtain ⟨nl18, hc19, hr_, hS20, hfr21, hf22⟩ := hpost
      subst hr_
      have hL23 : mm ∈ S16.1 := by rw [hS20]; exact List.mem_append_left _ hL10
      refine lv_istore (lv' := [(7, .int (nI 0)), (6, .int (nI 0)), (5, .int (nI 0)), (4, .ref dd), (3, .ref jo), (2, .ref mm), (1, .ref x), (0, .ref b)]) hx hb dL_law_454 hl (by decide) rfl (fun ls hl => ?_)
      refine lv_aload_n hx hb dL_law_456 rfl (lv_at hl 5 rfl) ?_
      refine p_calli (va_runV (As := []) (rest := []) C.fix (e_X13_thrown l D cy S16 H.size mm me sg cn im 0 hL23 hf22 ) (cwV 0 C.2.2.2.2.1 (gU_V mw_544 mw_545 mw_546 mw_5 (subU mw_547)) rfl rfl rfl hde_law_419_V_2 ⟨Nat.le_of_ble_eq_true rfl, Nat.le_of_ble_eq_true rfl⟩) (p_preV C hw hL23 hf22 rfl) rfl rfl hl.1 rfl (lv_room (Nat.le_of_ble_eq_true rfl)) dL_law_457 ⟨(Nat.le_of_ble_eq_true rfl), (Nat.le_of_ble_eq_true rfl)⟩) hw hA (fun r25 S24 H locs hpost hw => ?_)
      obtain ⟨hr_, hS_⟩ := hpost
      subst hr_
      subst hS_
      refine lv_iload hx hb dL_law_460 (lv_at hl 1 rfl) ?_
      refine n_icmp_eq (tgt := 467) hx hb (by first | decide | omega) (by first | decide | omega) dL_law_462 (by decide) (fun h_462 => ?_) (fun h_462 => ?_)
      · skip
        refine lv_iload hx hb dL_law_467 (lv_at hl 1 rfl) ?_
        refine n_if_ne (tgt := 484) hx hb (by first | decide | omega) dL_law_469 (by decide) (fun h_469 => ?_) (fun h_469 => ?_)
        · exact absurd h_469 (by first | decide | omega)
        · skip
          refine lv_aload_n hx hb dL_law_472 rfl (lv_at hl 4 rfl) ?_
          refine lv_iconst (v := nI 0) hx hb dL_law_473 (by decide) ?_
          have hL26 : jo ∈ S16.1 := by rw [hS20]; exact List.mem_append_left _ hL9
          have hf27 : S16.2 jo = .inl (cy 6, 1, .inr (.inl (vp_updL (fun _ => 0) 0 ((nI 0)).toInt64))) := (hfr21 jo hL9 (ne_cells hf7 hf11 (by nofun)) (ne_cells hf7 hf15 (by nofun))).trans hf7
          refine p_lald C hw 6 rfl hL26 hf27 (by decide) (by decide) dL_law_474 ?_
          refine lv_iload hx hb dL_law_475 (lv_at hl 0 rfl) ?_
          refine lv_i2l hx hb dL_law_477 rfl ?_
          refine W.lcmp hx hb dL_law_478 ?_
          refine x_ren (b := 0) (by first | exact lc_self _ | exact lc_upd _ _) ?_
          refine z_if_eq (tgt := 484) hx hb (show (0 : Int32).toInt = 0 from by decide) dL_law_479 (by decide) (fun h_479 => ?_) (fun h_479 => ?_)
          · skip
            refine lv_goto (tgt := 1501) hx hb dL_law_484 (by decide) ?_
            exact W.widen (k := 600002) (n := 7302232) (Nat.le_of_ble_eq_true rfl) (Nat.le_of_ble_eq_true rfl) (kk S16 H locs ls hw (lv_sub hl [2, 7] rfl))
          · exact absurd h_479 (by first | decide | omega)
      · exact absurd h_462 (by first | decide | omega)
    · skip
      obtain ⟨nl28, hc29, hr_, hS30, hfr31, hf32⟩ := hpost
      subst hr_
      have hL33 : mm ∈ S16.1 := by rw [hS30]; exact List.mem_append_left _ hL10
      refine lv_istore (lv' := [(7, .int (nI 0)), (6, .int (nI 0)), (5, .int (nI 0)), (4, .ref dd), (3, .ref jo), (2, .ref mm), (1, .ref x), (0, .ref b)]) hx hb dL_law_454 hl (by decide) rfl (fun ls hl => ?_)
      refine lv_aload_n hx hb dL_law_456 rfl (lv_at hl 5 rfl) ?_
      refine p_calli (va_runV (As := []) (rest := []) C.fix (e_X13_thrown l D cy S16 H.size mm me sg cn im 1 hL33 hf32 ) (cwV 0 C.2.2.2.2.1 (gU_V mw_544 mw_545 mw_546 mw_5 (subU mw_547)) rfl rfl rfl hde_law_419_V_2 ⟨Nat.le_of_ble_eq_true rfl, Nat.le_of_ble_eq_true rfl⟩) (p_preV C hw hL33 hf32 rfl) rfl rfl hl.1 rfl (lv_room (Nat.le_of_ble_eq_true rfl)) dL_law_457 ⟨(Nat.le_of_ble_eq_true rfl), (Nat.le_of_ble_eq_true rfl)⟩) hw hA (fun r35 S34 H locs hpost hw => ?_)
      obtain ⟨hr_, hS_⟩ := hpost
      subst hr_
      subst hS_
      refine lv_iload hx hb dL_law_460 (lv_at hl 1 rfl) ?_
      refine n_icmp_eq (tgt := 467) hx hb (by first | decide | omega) (by first | decide | omega) dL_law_462 (by decide) (fun h_462 => ?_) (fun h_462 => ?_)
      · exact absurd h_462 (by first | decide | omega)
      · skip
        refine lv_iconst (v := nI 0) hx hb dL_law_465 (by decide) ?_
        contradiction
  · skip
    obtain ⟨hc36, hr_, hS_⟩ := hpost
    subst hr_
    subst hS_
    refine lv_istore (lv' := [(6, .int (nI 1)), (5, .int (nI 0)), (4, .ref dd), (3, .ref jo), (2, .ref mm), (1, .ref x), (0, .ref b)]) hx hb dL_law_436 hl (by decide) rfl (fun ls hl => ?_)
    refine lv_aload_n hx hb dL_law_438 rfl (lv_at hl 4 rfl) ?_
    refine lv_aload_n hx hb dL_law_439 rfl (lv_at hl 6 rfl) ?_
    refine lv_iload hx hb dL_law_440 (lv_at hl 1 rfl) ?_
    refine lv_iconst (v := nI 1) hx hb dL_law_442 (by decide) ?_
    refine n_iadd hx hb dL_law_443 ?_
    refine n_ren (b := 1) (by first | rfl | omega | simp) ?_
    refine va_sld hx hb hXs hbl hbA hw.2.2 (i := nI 1) (show vp_in (nI 1) 7 from by unfold vp_in; decide) dL_law_444 ?_
    refine lv_aload_n hx hb dL_law_445 rfl (lv_at hl 6 rfl) ?_
    refine lv_iload hx hb dL_law_446 (lv_at hl 1 rfl) ?_
    refine lv_iconst (v := nI 2) hx hb dL_law_448 (by decide) ?_
    refine n_iadd hx hb dL_law_449 ?_
    refine n_ren (b := 2) (by first | rfl | omega | simp) ?_
    refine va_sld hx hb hXs hbl hbA hw.2.2 (i := nI 2) (show vp_in (nI 2) 7 from by unfold vp_in; decide) dL_law_450 ?_
    refine p_calli (va_runV (As := [.int (xs (nI 1).toNatClampNeg), .int (xs (nI 2).toNatClampNeg)]) (rest := []) C.fix (e_X13_check l D cy ed S H.size mm me sg cn im (xs (nI 1).toNatClampNeg) (xs (nI 2).toNatClampNeg) hL_mm hf_mm hL_me hf_me hL_sg hf_sg ) (cwV 2 C.2.2.2.2.1 (gU_V mw_646 mw_647 mw_648 mw_5 (subU mw_649)) rfl rfl rfl hde_law_419_V_1 ⟨Nat.le_of_ble_eq_true rfl, Nat.le_of_ble_eq_true rfl⟩) (e_preV C hw hA hE hL_mm hf_mm rfl) rfl rfl hl.1 rfl (lv_room (Nat.le_of_ble_eq_true rfl)) dL_law_451 ⟨(Nat.le_of_ble_eq_true rfl), (Nat.le_of_ble_eq_true rfl)⟩) hw hA (fun r38 S37 H locs hpost hw => ?_)
    rcases hpost with hpost | hpost
    · skip
      obtain ⟨nl39, hc40, hr_, hS41, hfr42, hf43⟩ := hpost
      subst hr_
      have hL44 : mm ∈ S37.1 := by rw [hS41]; exact List.mem_append_left _ hL_mm
      refine lv_istore (lv' := [(7, .int (nI 0)), (6, .int (nI 1)), (5, .int (nI 0)), (4, .ref dd), (3, .ref jo), (2, .ref mm), (1, .ref x), (0, .ref b)]) hx hb dL_law_454 hl (by decide) rfl (fun ls hl => ?_)
      refine lv_aload_n hx hb dL_law_456 rfl (lv_at hl 5 rfl) ?_
      refine p_calli (va_runV (As := []) (rest := []) C.fix (e_X13_thrown l D cy S37 H.size mm me sg cn im 0 hL44 hf43 ) (cwV 0 C.2.2.2.2.1 (gU_V mw_544 mw_545 mw_546 mw_5 (subU mw_547)) rfl rfl rfl hde_law_419_V_2 ⟨Nat.le_of_ble_eq_true rfl, Nat.le_of_ble_eq_true rfl⟩) (p_preV C hw hL44 hf43 rfl) rfl rfl hl.1 rfl (lv_room (Nat.le_of_ble_eq_true rfl)) dL_law_457 ⟨(Nat.le_of_ble_eq_true rfl), (Nat.le_of_ble_eq_true rfl)⟩) hw hA (fun r46 S45 H locs hpost hw => ?_)
      obtain ⟨hr_, hS_⟩ := hpost
      subst hr_
      subst hS_
      refine lv_iload hx hb dL_law_460 (lv_at hl 1 rfl) ?_
      refine n_icmp_eq (tgt := 467) hx hb (by first | decide | omega) (by first | decide | omega) dL_law_462 (by decide) (fun h_462 => ?_) (fun h_462 => ?_)
      · exact absurd h_462 (by first | decide | omega)
      · skip
        refine lv_iconst (v := nI 0) hx hb dL_law_465 (by decide) ?_
        contradiction
    · skip
      obtain ⟨nl47, hc48, hr_, hS49, hfr50, hf51⟩ := hpost
      subst hr_
      have hL52 : mm ∈ S37.1 := by rw [hS49]; exact List.mem_append_left _ hL_mm
      refine lv_istore (lv' := [(7, .int (nI 0)), (6, .int (nI 1)), (5, .int (nI 0)), (4, .ref dd), (3, .ref jo), (2, .ref mm), (1, .ref x), (0, .ref b)]) hx hb dL_law_454 hl (by decide) rfl (fun ls hl => ?_)
      refine lv_aload_n hx hb dL_law_456 rfl (lv_at hl 5 rfl) ?_
      refine p_calli (va_runV (As := []) (rest := []) C.fix (e_X13_thrown l D cy S37 H.size mm me sg cn im 1 hL52 hf51 ) (cwV 0 C.2.2.2.2.1 (gU_V mw_544 mw_545 mw_546 mw_5 (subU mw_547)) rfl rfl rfl hde_law_419_V_2 ⟨Nat.le_of_ble_eq_true rfl, Nat.le_of_ble_eq_true rfl⟩) (p_preV C hw hL52 hf51 rfl) rfl rfl hl.1 rfl (lv_room (Nat.le_of_ble_eq_true rfl)) dL_law_457 ⟨(Nat.le_of_ble_eq_true rfl), (Nat.le_of_ble_eq_true rfl)⟩) hw hA (fun r54 S53 H locs hpost hw => ?_)
      obtain ⟨hr_, hS_⟩ := hpost
      subst hr_
      subst hS_
      refine lv_iload hx hb dL_law_460 (lv_at hl 1 rfl) ?_
      refine n_icmp_eq (tgt := 467) hx hb (by first | decide | omega) (by first | decide | omega) dL_law_462 (by decide) (fun h_462 => ?_) (fun h_462 => ?_)
      · skip
        refine lv_iload hx hb dL_law_467 (lv_at hl 1 rfl) ?_
        refine n_if_ne (tgt := 484) hx hb (by first | decide | omega) dL_law_469 (by decide) (fun h_469 => ?_) (fun h_469 => ?_)
        · skip
          refine lv_goto (tgt := 1501) hx hb dL_law_484 (by decide) ?_
          exact W.widen (k := 600002) (n := 7302232) (Nat.le_of_ble_eq_true rfl) (Nat.le_of_ble_eq_true rfl) (kk S37 H locs ls hw (lv_sub hl [2, 7] rfl))
        · exact absurd h_469 (by first | decide | omega)
      · exact absurd h_462 (by first | decide | omega)

theorem hde_law_487_S_0 : yL_trail.cls ≠ "java/lang/invoke/MethodHandle" ∧ yL_trail.cls ≠ "java/lang/invoke/VarHandle" ∧ (parseMethodDescriptor yL_trail.desc).map (fun d => d.parameters.length) = some 6 := by decide +kernel
theorem hde_law_487_V_1 : yX13_trail.cls = RX13 ∧ yX13_trail.cls ≠ "java/lang/invoke/MethodHandle" ∧ yX13_trail.cls ≠ "java/lang/invoke/VarHandle" ∧ (parseMethodDescriptor yX13_trail.desc).map (fun d => d.parameters.length) = some 4 := by decide +kernel
theorem hde_law_487_V_2 : yX13_thrown.cls = RX13 ∧ yX13_thrown.cls ≠ "java/lang/invoke/MethodHandle" ∧ yX13_thrown.cls ≠ "java/lang/invoke/VarHandle" ∧ (parseMethodDescriptor yX13_thrown.desc).map (fun d => d.parameters.length) = some 0 := by decide +kernel
set_option maxHeartbeats 8000000 in
set_option maxRecDepth 100000 in
theorem e_law_487 {p : Program} {e : Env} {s : State} {m : MethodId} {below : List Frame} {meth : Method} {c : Code} (l : Launch) (hflags : l.stackTraces = false) (D : va_G) (cy : Nat → ClassId) (ed : Nat) {b : Nat} {xs : Nat → Int32} {Q : State → Prop} {S0 : pS} {cw : Cond} (C : pC p s m #[Value.ref b] c code 10 RL (cw :: lwU) D cy) (hE : eK (pA S0 s.heap.size) ed s s.heap) (hA : ∀ q, s.heap.size ≤ q → pA S0 s.heap.size q) (hXs : va_X b 7 xs s s.heap) (hbl : b < s.heap.size) (hbA : ¬ pA S0 s.heap.size b) (S : pS) (H : Heap) (locs : List Loc) (ls : Array Slot) (x : Nat) (mm : Nat) (jo : Nat) (dd : Nat) (ch : Nat) (ln : Nat) (sl : Nat) (mk : Nat) (co : Nat) (ca : Nat) (su : Nat) (lt : Nat) (lk : Nat) (mb : Nat) (col : Nat) (con : Nat) (cor0 : Nat) (cor1 : Nat) (cor2 : Nat) (cor3 : Nat) (cor4 : Nat) (cob0 : Nat) (cob1 : Nat) (cal : Nat) (can : Nat) (car0 : Nat) (car1 : Nat) (car2 : Nat) (car3 : Nat) (car4 : Nat) (cab0 : Nat) (cab1 : Nat) (lf : Nat) (lx : Nat) (lw : Nat) (me : Nat) (sg : Nat) (cn : Nat) (im : Nat) (hL_x : x ∈ S.1) (hf_x : S.2 x = .inr (11, [.ref ch, .ref ln, .ref sl, .ref mk, .ref co, .ref ca, .ref su, .ref lt])) (hL_ch : ch ∈ S.1) (hf_ch : S.2 ch = .inr (2, [.ref lk, .int (nI 0)])) (hL_lk : lk ∈ S.1) (hf_lk : S.2 lk = aQ (cy 3) 4 (fun _ => none)) (hL_ln : ln ∈ S.1) (hf_ln : S.2 ln = .inr (6, [.int (nI 0), .int (nI 0), .int (nI 0), .int (nI 0)])) (hL_mk : mk ∈ S.1) (hf_mk : S.2 mk = .inr (8, [.ref mb, .int (nI 320)])) (hL_mb : mb ∈ S.1) (hf_mb : S.2 mb = aN (cy 0) 320 (fun _ => 0)) (hL_co : co ∈ S.1) (hf_co : S.2 co = .inr (5, [.ref col, .ref con])) (hL_col : col ∈ S.1) (hf_col : S.2 col = aQ (cy 2) 5 (va_up (va_up (va_up (va_up (va_up (fun _ => none) 0 (some cor0)) 1 (some cor1)) 2 (some cor2)) 3 (some cor3)) 4 (some cor4))) (hL_cor0 : cor0 ∈ S.1) (hf_cor0 : S.2 cor0 = .inr (8, [.ref cob0, .int (nI 0)])) (hL_cor1 : cor1 ∈ S.1) (hf_cor1 : S.2 cor1 = .inr (8, [.ref cob1, .int (nI 0)])) (hL_cob1 : cob1 ∈ S.1) (hf_cob1 : S.2 cob1 = aN (cy 0) 320 (fun _ => 0)) (hL_ca : ca ∈ S.1) (hf_ca : S.2 ca = .inr (5, [.ref cal, .ref can])) (hL_cal : cal ∈ S.1) (hf_cal : S.2 cal = aQ (cy 2) 5 (va_up (va_up (va_up (va_up (va_up (fun _ => none) 0 (some car0)) 1 (some car1)) 2 (some car2)) 3 (some car3)) 4 (some car4))) (hL_car0 : car0 ∈ S.1) (hf_car0 : S.2 car0 = .inr (8, [.ref cab0, .int (nI 0)])) (hL_cab0 : cab0 ∈ S.1) (hf_cab0 : S.2 cab0 = aN (cy 0) 32 (fun _ => 0)) (hL_car1 : car1 ∈ S.1) (hf_car1 : S.2 car1 = .inr (8, [.ref cab1, .int (nI 0)])) (hL_cab1 : cab1 ∈ S.1) (hf_cab1 : S.2 cab1 = aN (cy 0) 320 (fun _ => 0)) (hL_lt : lt ∈ S.1) (hf_lt : S.2 lt = .inr (4, [.ref lf, .ref lx, .ref lw])) (hL_lf : lf ∈ S.1) (hf_lf : S.2 lf = aN (cy 0) 16 (fun _ => 0)) (hL_mm : mm ∈ S.1) (hf_mm : S.2 mm = .inr (13, [.int (nI 0), .ref me, .ref sg, .ref cn, .ref im])) (hL_me : me ∈ S.1) (hf_me : S.2 me = .inl (cy 0, 0, .inl (fun _ => 0))) (hL_sg : sg ∈ S.1) (hf_sg : S.2 sg = .inr (0, [.int (nI 0), .ref ed, .int (nI 0)])) (hL_jo : jo ∈ S.1) (hf_jo : S.2 jo = .inl (cy 6, 1, .inr (.inl (fun _ => 0)))) (hne_col_lk : col ≠ lk) (hne_cal_lk : cal ≠ lk) (hne_cor0_cor1 : cor0 ≠ cor1) (hne_mk_cor1 : mk ≠ cor1) (hne_car1_cor1 : car1 ≠ cor1) (hne_cob1_cab1 : cob1 ≠ cab1) (hne_mk_car1 : mk ≠ car1) (hne_mb_cab1 : mb ≠ cab1) (hne_lf_cab1 : lf ≠ cab1) (hne_cor0_car1 : cor0 ≠ car1) (hne_car0_cor1 : car0 ≠ cor1) (hne_car0_car1 : car0 ≠ car1) (hne_cab0_cab1 : cab0 ≠ cab1) (hne_jo_lk : jo ≠ lk) (hne_jo_cab1 : jo ≠ cab1) (hne_jo_lf : jo ≠ lf) (hne_me_lk : me ≠ lk) (hne_me_cab1 : me ≠ cab1) (hne_me_lf : me ≠ lf) (hne_me_jo : me ≠ jo) (hw : pW D (pA S0 s.heap.size) s.heap S H locs) (hl : lv_has ls 10 [(5, .int (nI 0)), (4, .ref dd), (3, .ref jo), (2, .ref mm), (1, .ref x), (0, .ref b)]) (kk : ∀ (S' : pS) (H' : Heap) (locs' : List Loc) (ls' : Array Slot), pW D (pA S0 s.heap.size) s.heap S' H' locs' → lv_has ls' 10 [(5, .int (nI 0)), (0, .ref b)] → W p l e room_1 s m #[Value.ref b] below meth c H' locs' 600002 7302232 Q (F0 m 1501 ls' [])) : W p l e room_1 s m #[Value.ref b] below meth c H locs 60 5026 Q (F0 m 487 ls []) := by
  have hx := C.1
  have hb := C.2.1
  refine lv_aload_n hx hb dL_law_487 rfl (lv_at hl 4 rfl) ?_
  refine lv_aload_n hx hb dL_law_488 rfl (lv_at hl 5 rfl) ?_
  refine lv_iload hx hb dL_law_489 (lv_at hl 0 rfl) ?_
  refine lv_iconst (v := nI 1) hx hb dL_law_491 (by decide) ?_
  refine n_iadd hx hb dL_law_492 ?_
  refine n_ren (b := 1) (by first | rfl | omega | simp) ?_
  refine va_sld hx hb hXs hbl hbA hw.2.2 (i := nI 1) (show vp_in (nI 1) 7 from by unfold vp_in; decide) dL_law_493 ?_
  refine lv_aload_n hx hb dL_law_494 rfl (lv_at hl 5 rfl) ?_
  refine lv_iload hx hb dL_law_495 (lv_at hl 0 rfl) ?_
  refine lv_iconst (v := nI 2) hx hb dL_law_497 (by decide) ?_
  refine n_iadd hx hb dL_law_498 ?_
  refine n_ren (b := 2) (by first | rfl | omega | simp) ?_
  refine va_sld hx hb hXs hbl hbA hw.2.2 (i := nI 2) (show vp_in (nI 2) 7 from by unfold vp_in; decide) dL_law_499 ?_
  refine lv_aload_n hx hb dL_law_500 rfl (lv_at hl 5 rfl) ?_
  refine lv_iload hx hb dL_law_501 (lv_at hl 0 rfl) ?_
  refine lv_iconst (v := nI 3) hx hb dL_law_503 (by decide) ?_
  refine n_iadd hx hb dL_law_504 ?_
  refine n_ren (b := 3) (by first | rfl | omega | simp) ?_
  refine va_sld hx hb hXs hbl hbA hw.2.2 (i := nI 3) (show vp_in (nI 3) 7 from by unfold vp_in; decide) dL_law_505 ?_
  refine lv_aload_n hx hb dL_law_506 rfl (lv_at hl 5 rfl) ?_
  refine lv_iload hx hb dL_law_507 (lv_at hl 0 rfl) ?_
  refine lv_iconst (v := nI 4) hx hb dL_law_509 (by decide) ?_
  refine n_iadd hx hb dL_law_510 ?_
  refine n_ren (b := 4) (by first | rfl | omega | simp) ?_
  refine va_sld hx hb hXs hbl hbA hw.2.2 (i := nI 4) (show vp_in (nI 4) 7 from by unfold vp_in; decide) dL_law_511 ?_
  refine lv_aload_n hx hb dL_law_512 rfl (lv_at hl 2 rfl) ?_
  refine x_calli (vx_runSX (As := [.ref x, .int (xs (nI 1).toNatClampNeg), .int (xs (nI 2).toNatClampNeg), .int (xs (nI 3).toNatClampNeg), .int (xs (nI 4).toNatClampNeg), .ref jo]) (rest := []) C.fix (e_L_trail l hflags D cy ed S H.size x jo ch ln sl mk co ca su lt lk mb col con cor0 cor1 cor2 cor3 cor4 cob0 cob1 cal can car0 car1 car2 car3 car4 cab0 cab1 lf lx lw (xs (nI 1).toNatClampNeg) (xs (nI 2).toNatClampNeg) (xs (nI 3).toNatClampNeg) (xs (nI 4).toNatClampNeg) (fun _ => 0) hL_x hf_x hL_ch hf_ch hL_lk hf_lk hL_ln hf_ln hL_mk hf_mk hL_mb hf_mb hL_co hf_co hL_col hf_col hL_cor0 hf_cor0 hL_cor1 hf_cor1 hL_cob1 hf_cob1 hL_ca hf_ca hL_cal hf_cal hL_car0 hf_car0 hL_cab0 hf_cab0 hL_car1 hf_car1 hL_cab1 hf_cab1 hL_lt hf_lt hL_lf hf_lf hL_jo hf_jo hne_col_lk hne_cal_lk hne_cor0_cor1 hne_mk_cor1 hne_car1_cor1 hne_cob1_cab1 hne_mk_car1 hne_mb_cab1 hne_lf_cab1 hne_cor0_car1 hne_car0_cor1 hne_car0_car1 hne_cab0_cab1 hne_jo_lk hne_jo_cab1 hne_jo_lf) (vx_cwSW 6 C.2.2.2.2.1 (gU_S mw_650 mw_651 mw_111 (subU mw_652)) rfl rfl rfl hde_law_487_S_0 ⟨Nat.le_of_ble_eq_true rfl, Nat.le_of_ble_eq_true rfl⟩) (e_preS C hw hA hE) rfl rfl hl.1 rfl (lv_room (Nat.le_of_ble_eq_true rfl)) dL_law_513 ⟨(Nat.le_of_ble_eq_true rfl), (Nat.le_of_ble_eq_true rfl)⟩) hw hA (fun E9 ce9 q9 S1 H locs hpost hw hce9 hcv9 hcl9 => ?_) (fun r2 S1 H locs hpost hw => ?_)
  · skip
    exact hpost.elim
  rcases hpost with hpost | hpost
  · skip
    obtain ⟨st3, sw4, hc5, hr_, hS6, hfr7, hf8⟩ := hpost
    subst hr_
    have hnd9 := p_apart hw hS6
    have hq10 : st3 ∉ S.1 := p_fresh hw hS6 0 rfl
    have hq11 : sw4 ∉ S.1 := p_fresh hw hS6 1 rfl
    have hL12 : jo ∈ S1.1 := by rw [hS6]; exact List.mem_append_left _ hL_jo
    refine lv_istore (lv' := [(6, .int (nI 0)), (5, .int (nI 0)), (4, .ref dd), (3, .ref jo), (2, .ref mm), (1, .ref x), (0, .ref b)]) hx hb dL_law_516 hl (by decide) rfl (fun ls hl => ?_)
    refine lv_aload_n hx hb dL_law_518 rfl (lv_at hl 4 rfl) ?_
    refine lv_aload_n hx hb dL_law_519 rfl (lv_at hl 6 rfl) ?_
    refine lv_iload hx hb dL_law_520 (lv_at hl 1 rfl) ?_
    refine lv_iconst (v := nI 1) hx hb dL_law_522 (by decide) ?_
    refine n_iadd hx hb dL_law_523 ?_
    refine n_ren (b := 1) (by first | rfl | omega | simp) ?_
    refine va_sld hx hb hXs hbl hbA hw.2.2 (i := nI 1) (show vp_in (nI 1) 7 from by unfold vp_in; decide) dL_law_524 ?_
    refine lv_aload_n hx hb dL_law_525 rfl (lv_at hl 6 rfl) ?_
    refine lv_iload hx hb dL_law_526 (lv_at hl 1 rfl) ?_
    refine lv_iconst (v := nI 2) hx hb dL_law_528 (by decide) ?_
    refine n_iadd hx hb dL_law_529 ?_
    refine n_ren (b := 2) (by first | rfl | omega | simp) ?_
    refine va_sld hx hb hXs hbl hbA hw.2.2 (i := nI 2) (show vp_in (nI 2) 7 from by unfold vp_in; decide) dL_law_530 ?_
    refine lv_aload_n hx hb dL_law_531 rfl (lv_at hl 6 rfl) ?_
    refine lv_iload hx hb dL_law_532 (lv_at hl 1 rfl) ?_
    refine lv_iconst (v := nI 3) hx hb dL_law_534 (by decide) ?_
    refine n_iadd hx hb dL_law_535 ?_
    refine n_ren (b := 3) (by first | rfl | omega | simp) ?_
    refine va_sld hx hb hXs hbl hbA hw.2.2 (i := nI 3) (show vp_in (nI 3) 7 from by unfold vp_in; decide) dL_law_536 ?_
    refine lv_aload_n hx hb dL_law_537 rfl (lv_at hl 6 rfl) ?_
    refine lv_iload hx hb dL_law_538 (lv_at hl 1 rfl) ?_
    refine lv_iconst (v := nI 4) hx hb dL_law_540 (by decide) ?_
    refine n_iadd hx hb dL_law_541 ?_
    refine n_ren (b := 4) (by first | rfl | omega | simp) ?_
    refine va_sld hx hb hXs hbl hbA hw.2.2 (i := nI 4) (show vp_in (nI 4) 7 from by unfold vp_in; decide) dL_law_542 ?_
    have hL13 : mm ∈ S1.1 := by rw [hS6]; exact List.mem_append_left _ hL_mm
    have hf14 : S1.2 mm = .inr (13, [.int (nI 0), .ref me, .ref sg, .ref cn, .ref im]) := (hfr7 mm hL_mm (ne_cells hf_mm hf_lk (by nofun)) (ne_cells hf_mm hf_ch (by nofun)) (ne_cells hf_mm hf_cor1 (by nofun)) (ne_cells hf_mm hf_car1 (by nofun)) (ne_cells hf_mm hf_cab1 (by nofun)) (ne_cells hf_mm hf_car0 (by nofun)) (ne_cells hf_mm hf_lf (by nofun)) (ne_cells hf_mm hf_jo (by nofun))).trans hf_mm
    have hL15 : me ∈ S1.1 := by rw [hS6]; exact List.mem_append_left _ hL_me
    have hf16 : S1.2 me = .inl (cy 0, 0, .inl (fun _ => 0)) := (hfr7 me hL_me hne_me_lk (ne_cells hf_me hf_ch (by nofun)) (ne_cells hf_me hf_cor1 (by nofun)) (ne_cells hf_me hf_car1 (by nofun)) hne_me_cab1 (ne_cells hf_me hf_car0 (by nofun)) hne_me_lf hne_me_jo).trans hf_me
    have hL17 : sg ∈ S1.1 := by rw [hS6]; exact List.mem_append_left _ hL_sg
    have hf18 : S1.2 sg = .inr (0, [.int (nI 0), .ref ed, .int (nI 0)]) := (hfr7 sg hL_sg (ne_cells hf_sg hf_lk (by nofun)) (ne_cells hf_sg hf_ch (by nofun)) (ne_cells hf_sg hf_cor1 (by nofun)) (ne_cells hf_sg hf_car1 (by nofun)) (ne_cells hf_sg hf_cab1 (by nofun)) (ne_cells hf_sg hf_car0 (by nofun)) (ne_cells hf_sg hf_lf (by nofun)) (ne_cells hf_sg hf_jo (by nofun))).trans hf_sg
    refine p_calli (va_runV (As := [.int (xs (nI 1).toNatClampNeg), .int (xs (nI 2).toNatClampNeg), .int (xs (nI 3).toNatClampNeg), .int (xs (nI 4).toNatClampNeg)]) (rest := []) C.fix (e_X13_trail l D cy ed S1 H.size mm me sg cn im (xs (nI 1).toNatClampNeg) (xs (nI 2).toNatClampNeg) (xs (nI 3).toNatClampNeg) (xs (nI 4).toNatClampNeg) hL13 hf14 hL15 hf16 hL17 hf18 ) (cwV 4 C.2.2.2.2.1 (gU_V mw_665 mw_666 mw_667 mw_5 (subU mw_668)) rfl rfl rfl hde_law_487_V_1 ⟨Nat.le_of_ble_eq_true rfl, Nat.le_of_ble_eq_true rfl⟩) (e_preV C hw hA hE hL13 hf14 rfl) rfl rfl hl.1 rfl (lv_room (Nat.le_of_ble_eq_true rfl)) dL_law_543 ⟨(Nat.le_of_ble_eq_true rfl), (Nat.le_of_ble_eq_true rfl)⟩) hw hA (fun r20 S19 H locs hpost hw => ?_)
    rcases hpost with hpost | hpost
    · skip
      obtain ⟨nl21, hc22, hr_, hS23, hfr24, hf25⟩ := hpost
      subst hr_
      have hL26 : mm ∈ S19.1 := by rw [hS23]; exact List.mem_append_left _ hL13
      refine lv_istore (lv' := [(7, .int (nI 0)), (6, .int (nI 0)), (5, .int (nI 0)), (4, .ref dd), (3, .ref jo), (2, .ref mm), (1, .ref x), (0, .ref b)]) hx hb dL_law_546 hl (by decide) rfl (fun ls hl => ?_)
      refine lv_aload_n hx hb dL_law_548 rfl (lv_at hl 5 rfl) ?_
      refine p_calli (va_runV (As := []) (rest := []) C.fix (e_X13_thrown l D cy S19 H.size mm me sg cn im 0 hL26 hf25 ) (cwV 0 C.2.2.2.2.1 (gU_V mw_544 mw_545 mw_546 mw_5 (subU mw_547)) rfl rfl rfl hde_law_487_V_2 ⟨Nat.le_of_ble_eq_true rfl, Nat.le_of_ble_eq_true rfl⟩) (p_preV C hw hL26 hf25 rfl) rfl rfl hl.1 rfl (lv_room (Nat.le_of_ble_eq_true rfl)) dL_law_549 ⟨(Nat.le_of_ble_eq_true rfl), (Nat.le_of_ble_eq_true rfl)⟩) hw hA (fun r28 S27 H locs hpost hw => ?_)
      obtain ⟨hr_, hS_⟩ := hpost
      subst hr_
      subst hS_
      refine lv_iload hx hb dL_law_552 (lv_at hl 1 rfl) ?_
      refine n_icmp_eq (tgt := 559) hx hb (by first | decide | omega) (by first | decide | omega) dL_law_554 (by decide) (fun h_554 => ?_) (fun h_554 => ?_)
      · skip
        refine lv_iload hx hb dL_law_559 (lv_at hl 1 rfl) ?_
        refine n_if_ne (tgt := 576) hx hb (by first | decide | omega) dL_law_561 (by decide) (fun h_561 => ?_) (fun h_561 => ?_)
        · exact absurd h_561 (by first | decide | omega)
        · skip
          refine lv_aload_n hx hb dL_law_564 rfl (lv_at hl 4 rfl) ?_
          refine lv_iconst (v := nI 0) hx hb dL_law_565 (by decide) ?_
          have hL29 : jo ∈ S19.1 := by rw [hS23]; exact List.mem_append_left _ hL12
          have hf30 : S19.2 jo = .inl (cy 6, 1, .inr (.inl (vp_updL (fun _ => 0) 0 ((nI 0)).toInt64))) := (hfr24 jo hL12 (ne_cells hf8 hf14 (by nofun)) (ne_cells hf8 hf18 (by nofun))).trans hf8
          refine p_lald C hw 6 rfl hL29 hf30 (by decide) (by decide) dL_law_566 ?_
          refine lv_iload hx hb dL_law_567 (lv_at hl 0 rfl) ?_
          refine lv_i2l hx hb dL_law_569 rfl ?_
          refine W.lcmp hx hb dL_law_570 ?_
          refine x_ren (b := 0) (by first | exact lc_self _ | exact lc_upd _ _) ?_
          refine z_if_eq (tgt := 576) hx hb (show (0 : Int32).toInt = 0 from by decide) dL_law_571 (by decide) (fun h_571 => ?_) (fun h_571 => ?_)
          · skip
            refine lv_goto (tgt := 1501) hx hb dL_law_576 (by decide) ?_
            exact W.widen (k := 600002) (n := 7302232) (Nat.le_of_ble_eq_true rfl) (Nat.le_of_ble_eq_true rfl) (kk S19 H locs ls hw (lv_sub hl [2, 7] rfl))
          · exact absurd h_571 (by first | decide | omega)
      · exact absurd h_554 (by first | decide | omega)
    · skip
      obtain ⟨nl31, hc32, hr_, hS33, hfr34, hf35⟩ := hpost
      subst hr_
      have hL36 : mm ∈ S19.1 := by rw [hS33]; exact List.mem_append_left _ hL13
      refine lv_istore (lv' := [(7, .int (nI 0)), (6, .int (nI 0)), (5, .int (nI 0)), (4, .ref dd), (3, .ref jo), (2, .ref mm), (1, .ref x), (0, .ref b)]) hx hb dL_law_546 hl (by decide) rfl (fun ls hl => ?_)
      refine lv_aload_n hx hb dL_law_548 rfl (lv_at hl 5 rfl) ?_
      refine p_calli (va_runV (As := []) (rest := []) C.fix (e_X13_thrown l D cy S19 H.size mm me sg cn im 1 hL36 hf35 ) (cwV 0 C.2.2.2.2.1 (gU_V mw_544 mw_545 mw_546 mw_5 (subU mw_547)) rfl rfl rfl hde_law_487_V_2 ⟨Nat.le_of_ble_eq_true rfl, Nat.le_of_ble_eq_true rfl⟩) (p_preV C hw hL36 hf35 rfl) rfl rfl hl.1 rfl (lv_room (Nat.le_of_ble_eq_true rfl)) dL_law_549 ⟨(Nat.le_of_ble_eq_true rfl), (Nat.le_of_ble_eq_true rfl)⟩) hw hA (fun r38 S37 H locs hpost hw => ?_)
      obtain ⟨hr_, hS_⟩ := hpost
      subst hr_
      subst hS_
      refine lv_iload hx hb dL_law_552 (lv_at hl 1 rfl) ?_
      refine n_icmp_eq (tgt := 559) hx hb (by first | decide | omega) (by first | decide | omega) dL_law_554 (by decide) (fun h_554 => ?_) (fun h_554 => ?_)
      · exact absurd h_554 (by first | decide | omega)
      · skip
        refine lv_iconst (v := nI 0) hx hb dL_law_557 (by decide) ?_
        contradiction
  · skip
    obtain ⟨hc39, hr_, hS_⟩ := hpost
    subst hr_
    subst hS_
    refine lv_istore (lv' := [(6, .int (nI 1)), (5, .int (nI 0)), (4, .ref dd), (3, .ref jo), (2, .ref mm), (1, .ref x), (0, .ref b)]) hx hb dL_law_516 hl (by decide) rfl (fun ls hl => ?_)
    refine lv_aload_n hx hb dL_law_518 rfl (lv_at hl 4 rfl) ?_
    refine lv_aload_n hx hb dL_law_519 rfl (lv_at hl 6 rfl) ?_
    refine lv_iload hx hb dL_law_520 (lv_at hl 1 rfl) ?_
    refine lv_iconst (v := nI 1) hx hb dL_law_522 (by decide) ?_
    refine n_iadd hx hb dL_law_523 ?_
    refine n_ren (b := 1) (by first | rfl | omega | simp) ?_
    refine va_sld hx hb hXs hbl hbA hw.2.2 (i := nI 1) (show vp_in (nI 1) 7 from by unfold vp_in; decide) dL_law_524 ?_
    refine lv_aload_n hx hb dL_law_525 rfl (lv_at hl 6 rfl) ?_
    refine lv_iload hx hb dL_law_526 (lv_at hl 1 rfl) ?_
    refine lv_iconst (v := nI 2) hx hb dL_law_528 (by decide) ?_
    refine n_iadd hx hb dL_law_529 ?_
    refine n_ren (b := 2) (by first | rfl | omega | simp) ?_
    refine va_sld hx hb hXs hbl hbA hw.2.2 (i := nI 2) (show vp_in (nI 2) 7 from by unfold vp_in; decide) dL_law_530 ?_
    refine lv_aload_n hx hb dL_law_531 rfl (lv_at hl 6 rfl) ?_
    refine lv_iload hx hb dL_law_532 (lv_at hl 1 rfl) ?_
    refine lv_iconst (v := nI 3) hx hb dL_law_534 (by decide) ?_
    refine n_iadd hx hb dL_law_535 ?_
    refine n_ren (b := 3) (by first | rfl | omega | simp) ?_
    refine va_sld hx hb hXs hbl hbA hw.2.2 (i := nI 3) (show vp_in (nI 3) 7 from by unfold vp_in; decide) dL_law_536 ?_
    refine lv_aload_n hx hb dL_law_537 rfl (lv_at hl 6 rfl) ?_
    refine lv_iload hx hb dL_law_538 (lv_at hl 1 rfl) ?_
    refine lv_iconst (v := nI 4) hx hb dL_law_540 (by decide) ?_
    refine n_iadd hx hb dL_law_541 ?_
    refine n_ren (b := 4) (by first | rfl | omega | simp) ?_
    refine va_sld hx hb hXs hbl hbA hw.2.2 (i := nI 4) (show vp_in (nI 4) 7 from by unfold vp_in; decide) dL_law_542 ?_
    refine p_calli (va_runV (As := [.int (xs (nI 1).toNatClampNeg), .int (xs (nI 2).toNatClampNeg), .int (xs (nI 3).toNatClampNeg), .int (xs (nI 4).toNatClampNeg)]) (rest := []) C.fix (e_X13_trail l D cy ed S H.size mm me sg cn im (xs (nI 1).toNatClampNeg) (xs (nI 2).toNatClampNeg) (xs (nI 3).toNatClampNeg) (xs (nI 4).toNatClampNeg) hL_mm hf_mm hL_me hf_me hL_sg hf_sg ) (cwV 4 C.2.2.2.2.1 (gU_V mw_665 mw_666 mw_667 mw_5 (subU mw_668)) rfl rfl rfl hde_law_487_V_1 ⟨Nat.le_of_ble_eq_true rfl, Nat.le_of_ble_eq_true rfl⟩) (e_preV C hw hA hE hL_mm hf_mm rfl) rfl rfl hl.1 rfl (lv_room (Nat.le_of_ble_eq_true rfl)) dL_law_543 ⟨(Nat.le_of_ble_eq_true rfl), (Nat.le_of_ble_eq_true rfl)⟩) hw hA (fun r41 S40 H locs hpost hw => ?_)
    rcases hpost with hpost | hpost
    · skip
      obtain ⟨nl42, hc43, hr_, hS44, hfr45, hf46⟩ := hpost
      subst hr_
      have hL47 : mm ∈ S40.1 := by rw [hS44]; exact List.mem_append_left _ hL_mm
      refine lv_istore (lv' := [(7, .int (nI 0)), (6, .int (nI 1)), (5, .int (nI 0)), (4, .ref dd), (3, .ref jo), (2, .ref mm), (1, .ref x), (0, .ref b)]) hx hb dL_law_546 hl (by decide) rfl (fun ls hl => ?_)
      refine lv_aload_n hx hb dL_law_548 rfl (lv_at hl 5 rfl) ?_
      refine p_calli (va_runV (As := []) (rest := []) C.fix (e_X13_thrown l D cy S40 H.size mm me sg cn im 0 hL47 hf46 ) (cwV 0 C.2.2.2.2.1 (gU_V mw_544 mw_545 mw_546 mw_5 (subU mw_547)) rfl rfl rfl hde_law_487_V_2 ⟨Nat.le_of_ble_eq_true rfl, Nat.le_of_ble_eq_true rfl⟩) (p_preV C hw hL47 hf46 rfl) rfl rfl hl.1 rfl (lv_room (Nat.le_of_ble_eq_true rfl)) dL_law_549 ⟨(Nat.le_of_ble_eq_true rfl), (Nat.le_of_ble_eq_true rfl)⟩) hw hA (fun r49 S48 H locs hpost hw => ?_)
      obtain ⟨hr_, hS_⟩ := hpost
      subst hr_
      subst hS_
      refine lv_iload hx hb dL_law_552 (lv_at hl 1 rfl) ?_
      refine n_icmp_eq (tgt := 559) hx hb (by first | decide | omega) (by first | decide | omega) dL_law_554 (by decide) (fun h_554 => ?_) (fun h_554 => ?_)
      · exact absurd h_554 (by first | decide | omega)
      · skip
        refine lv_iconst (v := nI 0) hx hb dL_law_557 (by decide) ?_
        contradiction
    · skip
      obtain ⟨nl50, hc51, hr_, hS52, hfr53, hf54⟩ := hpost
      subst hr_
      have hL55 : mm ∈ S40.1 := by rw [hS52]; exact List.mem_append_left _ hL_mm
      refine lv_istore (lv' := [(7, .int (nI 0)), (6, .int (nI 1)), (5, .int (nI 0)), (4, .ref dd), (3, .ref jo), (2, .ref mm), (1, .ref x), (0, .ref b)]) hx hb dL_law_546 hl (by decide) rfl (fun ls hl => ?_)
      refine lv_aload_n hx hb dL_law_548 rfl (lv_at hl 5 rfl) ?_
      refine p_calli (va_runV (As := []) (rest := []) C.fix (e_X13_thrown l D cy S40 H.size mm me sg cn im 1 hL55 hf54 ) (cwV 0 C.2.2.2.2.1 (gU_V mw_544 mw_545 mw_546 mw_5 (subU mw_547)) rfl rfl rfl hde_law_487_V_2 ⟨Nat.le_of_ble_eq_true rfl, Nat.le_of_ble_eq_true rfl⟩) (p_preV C hw hL55 hf54 rfl) rfl rfl hl.1 rfl (lv_room (Nat.le_of_ble_eq_true rfl)) dL_law_549 ⟨(Nat.le_of_ble_eq_true rfl), (Nat.le_of_ble_eq_true rfl)⟩) hw hA (fun r57 S56 H locs hpost hw => ?_)
      obtain ⟨hr_, hS_⟩ := hpost
      subst hr_
      subst hS_
      refine lv_iload hx hb dL_law_552 (lv_at hl 1 rfl) ?_
      refine n_icmp_eq (tgt := 559) hx hb (by first | decide | omega) (by first | decide | omega) dL_law_554 (by decide) (fun h_554 => ?_) (fun h_554 => ?_)
      · skip
        refine lv_iload hx hb dL_law_559 (lv_at hl 1 rfl) ?_
        refine n_if_ne (tgt := 576) hx hb (by first | decide | omega) dL_law_561 (by decide) (fun h_561 => ?_) (fun h_561 => ?_)
        · skip
          refine lv_goto (tgt := 1501) hx hb dL_law_576 (by decide) ?_
          exact W.widen (k := 600002) (n := 7302232) (Nat.le_of_ble_eq_true rfl) (Nat.le_of_ble_eq_true rfl) (kk S40 H locs ls hw (lv_sub hl [2, 7] rfl))
        · exact absurd h_561 (by first | decide | omega)
      · exact absurd h_554 (by first | decide | omega)

theorem hde_law_579_S_0 : yL_weave.cls ≠ "java/lang/invoke/MethodHandle" ∧ yL_weave.cls ≠ "java/lang/invoke/VarHandle" ∧ (parseMethodDescriptor yL_weave.desc).map (fun d => d.parameters.length) = some 4 := by decide +kernel
theorem hde_law_579_V_1 : yX13_weave.cls = RX13 ∧ yX13_weave.cls ≠ "java/lang/invoke/MethodHandle" ∧ yX13_weave.cls ≠ "java/lang/invoke/VarHandle" ∧ (parseMethodDescriptor yX13_weave.desc).map (fun d => d.parameters.length) = some 2 := by decide +kernel
theorem hde_law_579_V_2 : yX13_thrown.cls = RX13 ∧ yX13_thrown.cls ≠ "java/lang/invoke/MethodHandle" ∧ yX13_thrown.cls ≠ "java/lang/invoke/VarHandle" ∧ (parseMethodDescriptor yX13_thrown.desc).map (fun d => d.parameters.length) = some 0 := by decide +kernel
set_option maxHeartbeats 8000000 in
set_option maxRecDepth 100000 in
theorem e_law_579 {p : Program} {e : Env} {s : State} {m : MethodId} {below : List Frame} {meth : Method} {c : Code} (l : Launch) (hflags : l.stackTraces = false) (D : va_G) (cy : Nat → ClassId) (ed : Nat) {b : Nat} {xs : Nat → Int32} {Q : State → Prop} {S0 : pS} {cw : Cond} (C : pC p s m #[Value.ref b] c code 10 RL (cw :: lwU) D cy) (hE : eK (pA S0 s.heap.size) ed s s.heap) (hA : ∀ q, s.heap.size ≤ q → pA S0 s.heap.size q) (hXs : va_X b 7 xs s s.heap) (hbl : b < s.heap.size) (hbA : ¬ pA S0 s.heap.size b) (S : pS) (H : Heap) (locs : List Loc) (ls : Array Slot) (x : Nat) (mm : Nat) (jo : Nat) (dd : Nat) (ch : Nat) (ln : Nat) (sl : Nat) (mk : Nat) (co : Nat) (ca : Nat) (su : Nat) (lt : Nat) (lk : Nat) (mb : Nat) (col : Nat) (con : Nat) (cor0 : Nat) (cor1 : Nat) (cor2 : Nat) (cor3 : Nat) (cor4 : Nat) (cob0 : Nat) (cob1 : Nat) (cal : Nat) (can : Nat) (car0 : Nat) (car1 : Nat) (car2 : Nat) (car3 : Nat) (car4 : Nat) (cab0 : Nat) (cab1 : Nat) (me : Nat) (sg : Nat) (cn : Nat) (im : Nat) (hL_x : x ∈ S.1) (hf_x : S.2 x = .inr (11, [.ref ch, .ref ln, .ref sl, .ref mk, .ref co, .ref ca, .ref su, .ref lt])) (hL_ch : ch ∈ S.1) (hf_ch : S.2 ch = .inr (2, [.ref lk, .int (nI 0)])) (hL_lk : lk ∈ S.1) (hf_lk : S.2 lk = aQ (cy 3) 4 (fun _ => none)) (hL_ln : ln ∈ S.1) (hf_ln : S.2 ln = .inr (6, [.int (nI 0), .int (nI 0), .int (nI 0), .int (nI 0)])) (hL_mk : mk ∈ S.1) (hf_mk : S.2 mk = .inr (8, [.ref mb, .int (nI 320)])) (hL_mb : mb ∈ S.1) (hf_mb : S.2 mb = aN (cy 0) 320 (fun _ => 0)) (hL_co : co ∈ S.1) (hf_co : S.2 co = .inr (5, [.ref col, .ref con])) (hL_col : col ∈ S.1) (hf_col : S.2 col = aQ (cy 2) 5 (va_up (va_up (va_up (va_up (va_up (fun _ => none) 0 (some cor0)) 1 (some cor1)) 2 (some cor2)) 3 (some cor3)) 4 (some cor4))) (hL_cor0 : cor0 ∈ S.1) (hf_cor0 : S.2 cor0 = .inr (8, [.ref cob0, .int (nI 0)])) (hL_cor1 : cor1 ∈ S.1) (hf_cor1 : S.2 cor1 = .inr (8, [.ref cob1, .int (nI 0)])) (hL_cob1 : cob1 ∈ S.1) (hf_cob1 : S.2 cob1 = aN (cy 0) 320 (fun _ => 0)) (hL_ca : ca ∈ S.1) (hf_ca : S.2 ca = .inr (5, [.ref cal, .ref can])) (hL_cal : cal ∈ S.1) (hf_cal : S.2 cal = aQ (cy 2) 5 (va_up (va_up (va_up (va_up (va_up (fun _ => none) 0 (some car0)) 1 (some car1)) 2 (some car2)) 3 (some car3)) 4 (some car4))) (hL_car0 : car0 ∈ S.1) (hf_car0 : S.2 car0 = .inr (8, [.ref cab0, .int (nI 0)])) (hL_cab0 : cab0 ∈ S.1) (hf_cab0 : S.2 cab0 = aN (cy 0) 32 (fun _ => 0)) (hL_car1 : car1 ∈ S.1) (hf_car1 : S.2 car1 = .inr (8, [.ref cab1, .int (nI 0)])) (hL_cab1 : cab1 ∈ S.1) (hf_cab1 : S.2 cab1 = aN (cy 0) 320 (fun _ => 0)) (hL_mm : mm ∈ S.1) (hf_mm : S.2 mm = .inr (13, [.int (nI 0), .ref me, .ref sg, .ref cn, .ref im])) (hL_me : me ∈ S.1) (hf_me : S.2 me = .inl (cy 0, 0, .inl (fun _ => 0))) (hL_sg : sg ∈ S.1) (hf_sg : S.2 sg = .inr (0, [.int (nI 0), .ref ed, .int (nI 0)])) (hL_jo : jo ∈ S.1) (hf_jo : S.2 jo = .inl (cy 6, 1, .inr (.inl (fun _ => 0)))) (hne_col_lk : col ≠ lk) (hne_cal_lk : cal ≠ lk) (hne_mk_cor1 : mk ≠ cor1) (hne_car1_cor1 : car1 ≠ cor1) (hne_cob1_cab1 : cob1 ≠ cab1) (hne_mk_car1 : mk ≠ car1) (hne_mb_cab1 : mb ≠ cab1) (hne_cor0_cor1 : cor0 ≠ cor1) (hne_cor0_car1 : cor0 ≠ car1) (hne_car0_cor1 : car0 ≠ cor1) (hne_car0_car1 : car0 ≠ car1) (hne_cab0_cab1 : cab0 ≠ cab1) (hne_jo_lk : jo ≠ lk) (hne_jo_cab1 : jo ≠ cab1) (hne_me_lk : me ≠ lk) (hne_me_cab1 : me ≠ cab1) (hne_me_jo : me ≠ jo) (hw : pW D (pA S0 s.heap.size) s.heap S H locs) (hl : lv_has ls 10 [(5, .int (nI 0)), (4, .ref dd), (3, .ref jo), (2, .ref mm), (1, .ref x), (0, .ref b)]) (kk : ∀ (S' : pS) (H' : Heap) (locs' : List Loc) (ls' : Array Slot), pW D (pA S0 s.heap.size) s.heap S' H' locs' → lv_has ls' 10 [(5, .int (nI 0)), (0, .ref b)] → W p l e room_1 s m #[Value.ref b] below meth c H' locs' 600002 7302232 Q (F0 m 1501 ls' [])) : W p l e room_1 s m #[Value.ref b] below meth c H locs 60 5026 Q (F0 m 579 ls []) := by
  have hx := C.1
  have hb := C.2.1
  refine lv_aload_n hx hb dL_law_579 rfl (lv_at hl 4 rfl) ?_
  refine lv_aload_n hx hb dL_law_580 rfl (lv_at hl 5 rfl) ?_
  refine lv_iload hx hb dL_law_581 (lv_at hl 0 rfl) ?_
  refine lv_iconst (v := nI 1) hx hb dL_law_583 (by decide) ?_
  refine n_iadd hx hb dL_law_584 ?_
  refine n_ren (b := 1) (by first | rfl | omega | simp) ?_
  refine va_sld hx hb hXs hbl hbA hw.2.2 (i := nI 1) (show vp_in (nI 1) 7 from by unfold vp_in; decide) dL_law_585 ?_
  refine lv_aload_n hx hb dL_law_586 rfl (lv_at hl 5 rfl) ?_
  refine lv_iload hx hb dL_law_587 (lv_at hl 0 rfl) ?_
  refine lv_iconst (v := nI 2) hx hb dL_law_589 (by decide) ?_
  refine n_iadd hx hb dL_law_590 ?_
  refine n_ren (b := 2) (by first | rfl | omega | simp) ?_
  refine va_sld hx hb hXs hbl hbA hw.2.2 (i := nI 2) (show vp_in (nI 2) 7 from by unfold vp_in; decide) dL_law_591 ?_
  refine lv_aload_n hx hb dL_law_592 rfl (lv_at hl 2 rfl) ?_
  refine x_calli (vx_runSX (As := [.ref x, .int (xs (nI 1).toNatClampNeg), .int (xs (nI 2).toNatClampNeg), .ref jo]) (rest := []) C.fix (e_L_weave l hflags D cy ed S H.size x jo ch ln sl mk co ca su lt lk mb col con cor0 cor1 cor2 cor3 cor4 cob0 cob1 cal can car0 car1 car2 car3 car4 cab0 cab1 (xs (nI 1).toNatClampNeg) (xs (nI 2).toNatClampNeg) (fun _ => 0) hL_x hf_x hL_ch hf_ch hL_lk hf_lk hL_ln hf_ln hL_mk hf_mk hL_mb hf_mb hL_co hf_co hL_col hf_col hL_cor0 hf_cor0 hL_cor1 hf_cor1 hL_cob1 hf_cob1 hL_ca hf_ca hL_cal hf_cal hL_car0 hf_car0 hL_cab0 hf_cab0 hL_car1 hf_car1 hL_cab1 hf_cab1 hL_jo hf_jo hne_col_lk hne_cal_lk hne_mk_cor1 hne_car1_cor1 hne_cob1_cab1 hne_mk_car1 hne_mb_cab1 hne_cor0_cor1 hne_cor0_car1 hne_car0_cor1 hne_car0_car1 hne_cab0_cab1 hne_jo_lk hne_jo_cab1) (vx_cwSW 4 C.2.2.2.2.1 (gU_S mw_669 mw_670 mw_111 (subU mw_671)) rfl rfl rfl hde_law_579_S_0 ⟨Nat.le_of_ble_eq_true rfl, Nat.le_of_ble_eq_true rfl⟩) (e_preS C hw hA hE) rfl rfl hl.1 rfl (lv_room (Nat.le_of_ble_eq_true rfl)) dL_law_593 ⟨(Nat.le_of_ble_eq_true rfl), (Nat.le_of_ble_eq_true rfl)⟩) hw hA (fun E9 ce9 q9 S1 H locs hpost hw hce9 hcv9 hcl9 => ?_) (fun r2 S1 H locs hpost hw => ?_)
  · skip
    exact hpost.elim
  rcases hpost with hpost | hpost
  · skip
    obtain ⟨st3, hc4, hr_, hS5, hfr6, hf7⟩ := hpost
    subst hr_
    have hq8 : st3 ∉ S.1 := p_fresh hw hS5 0 rfl
    have hL9 : jo ∈ S1.1 := by rw [hS5]; exact List.mem_append_left _ hL_jo
    refine lv_istore (lv' := [(6, .int (nI 0)), (5, .int (nI 0)), (4, .ref dd), (3, .ref jo), (2, .ref mm), (1, .ref x), (0, .ref b)]) hx hb dL_law_596 hl (by decide) rfl (fun ls hl => ?_)
    refine lv_aload_n hx hb dL_law_598 rfl (lv_at hl 4 rfl) ?_
    refine lv_aload_n hx hb dL_law_599 rfl (lv_at hl 6 rfl) ?_
    refine lv_iload hx hb dL_law_600 (lv_at hl 1 rfl) ?_
    refine lv_iconst (v := nI 1) hx hb dL_law_602 (by decide) ?_
    refine n_iadd hx hb dL_law_603 ?_
    refine n_ren (b := 1) (by first | rfl | omega | simp) ?_
    refine va_sld hx hb hXs hbl hbA hw.2.2 (i := nI 1) (show vp_in (nI 1) 7 from by unfold vp_in; decide) dL_law_604 ?_
    refine lv_aload_n hx hb dL_law_605 rfl (lv_at hl 6 rfl) ?_
    refine lv_iload hx hb dL_law_606 (lv_at hl 1 rfl) ?_
    refine lv_iconst (v := nI 2) hx hb dL_law_608 (by decide) ?_
    refine n_iadd hx hb dL_law_609 ?_
    refine n_ren (b := 2) (by first | rfl | omega | simp) ?_
    refine va_sld hx hb hXs hbl hbA hw.2.2 (i := nI 2) (show vp_in (nI 2) 7 from by unfold vp_in; decide) dL_law_610 ?_
    have hL10 : mm ∈ S1.1 := by rw [hS5]; exact List.mem_append_left _ hL_mm
    have hf11 : S1.2 mm = .inr (13, [.int (nI 0), .ref me, .ref sg, .ref cn, .ref im]) := (hfr6 mm hL_mm (ne_cells hf_mm hf_lk (by nofun)) (ne_cells hf_mm hf_ch (by nofun)) (ne_cells hf_mm hf_cor1 (by nofun)) (ne_cells hf_mm hf_car1 (by nofun)) (ne_cells hf_mm hf_cab1 (by nofun)) (ne_cells hf_mm hf_car0 (by nofun)) (ne_cells hf_mm hf_jo (by nofun))).trans hf_mm
    have hL12 : me ∈ S1.1 := by rw [hS5]; exact List.mem_append_left _ hL_me
    have hf13 : S1.2 me = .inl (cy 0, 0, .inl (fun _ => 0)) := (hfr6 me hL_me hne_me_lk (ne_cells hf_me hf_ch (by nofun)) (ne_cells hf_me hf_cor1 (by nofun)) (ne_cells hf_me hf_car1 (by nofun)) hne_me_cab1 (ne_cells hf_me hf_car0 (by nofun)) hne_me_jo).trans hf_me
    have hL14 : sg ∈ S1.1 := by rw [hS5]; exact List.mem_append_left _ hL_sg
    have hf15 : S1.2 sg = .inr (0, [.int (nI 0), .ref ed, .int (nI 0)]) := (hfr6 sg hL_sg (ne_cells hf_sg hf_lk (by nofun)) (ne_cells hf_sg hf_ch (by nofun)) (ne_cells hf_sg hf_cor1 (by nofun)) (ne_cells hf_sg hf_car1 (by nofun)) (ne_cells hf_sg hf_cab1 (by nofun)) (ne_cells hf_sg hf_car0 (by nofun)) (ne_cells hf_sg hf_jo (by nofun))).trans hf_sg
    refine p_calli (va_runV (As := [.int (xs (nI 1).toNatClampNeg), .int (xs (nI 2).toNatClampNeg)]) (rest := []) C.fix (e_X13_weave l D cy ed S1 H.size mm me sg cn im (xs (nI 1).toNatClampNeg) (xs (nI 2).toNatClampNeg) hL10 hf11 hL12 hf13 hL14 hf15 ) (cwV 2 C.2.2.2.2.1 (gU_V mw_681 mw_682 mw_683 mw_5 (subU mw_684)) rfl rfl rfl hde_law_579_V_1 ⟨Nat.le_of_ble_eq_true rfl, Nat.le_of_ble_eq_true rfl⟩) (e_preV C hw hA hE hL10 hf11 rfl) rfl rfl hl.1 rfl (lv_room (Nat.le_of_ble_eq_true rfl)) dL_law_611 ⟨(Nat.le_of_ble_eq_true rfl), (Nat.le_of_ble_eq_true rfl)⟩) hw hA (fun r17 S16 H locs hpost hw => ?_)
    rcases hpost with hpost | hpost
    · skip
      obtain ⟨nl18, hc19, hr_, hS20, hfr21, hf22⟩ := hpost
      subst hr_
      have hL23 : mm ∈ S16.1 := by rw [hS20]; exact List.mem_append_left _ hL10
      refine lv_istore (lv' := [(7, .int (nI 0)), (6, .int (nI 0)), (5, .int (nI 0)), (4, .ref dd), (3, .ref jo), (2, .ref mm), (1, .ref x), (0, .ref b)]) hx hb dL_law_614 hl (by decide) rfl (fun ls hl => ?_)
      refine lv_aload_n hx hb dL_law_616 rfl (lv_at hl 5 rfl) ?_
      refine p_calli (va_runV (As := []) (rest := []) C.fix (e_X13_thrown l D cy S16 H.size mm me sg cn im 0 hL23 hf22 ) (cwV 0 C.2.2.2.2.1 (gU_V mw_544 mw_545 mw_546 mw_5 (subU mw_547)) rfl rfl rfl hde_law_579_V_2 ⟨Nat.le_of_ble_eq_true rfl, Nat.le_of_ble_eq_true rfl⟩) (p_preV C hw hL23 hf22 rfl) rfl rfl hl.1 rfl (lv_room (Nat.le_of_ble_eq_true rfl)) dL_law_617 ⟨(Nat.le_of_ble_eq_true rfl), (Nat.le_of_ble_eq_true rfl)⟩) hw hA (fun r25 S24 H locs hpost hw => ?_)
      obtain ⟨hr_, hS_⟩ := hpost
      subst hr_
      subst hS_
      refine lv_iload hx hb dL_law_620 (lv_at hl 1 rfl) ?_
      refine n_icmp_eq (tgt := 627) hx hb (by first | decide | omega) (by first | decide | omega) dL_law_622 (by decide) (fun h_622 => ?_) (fun h_622 => ?_)
      · skip
        refine lv_iload hx hb dL_law_627 (lv_at hl 1 rfl) ?_
        refine n_if_ne (tgt := 644) hx hb (by first | decide | omega) dL_law_629 (by decide) (fun h_629 => ?_) (fun h_629 => ?_)
        · exact absurd h_629 (by first | decide | omega)
        · skip
          refine lv_aload_n hx hb dL_law_632 rfl (lv_at hl 4 rfl) ?_
          refine lv_iconst (v := nI 0) hx hb dL_law_633 (by decide) ?_
          have hL26 : jo ∈ S16.1 := by rw [hS20]; exact List.mem_append_left _ hL9
          have hf27 : S16.2 jo = .inl (cy 6, 1, .inr (.inl (vp_updL (fun _ => 0) 0 ((nI 0)).toInt64))) := (hfr21 jo hL9 (ne_cells hf7 hf11 (by nofun)) (ne_cells hf7 hf15 (by nofun))).trans hf7
          refine p_lald C hw 6 rfl hL26 hf27 (by decide) (by decide) dL_law_634 ?_
          refine lv_iload hx hb dL_law_635 (lv_at hl 0 rfl) ?_
          refine lv_i2l hx hb dL_law_637 rfl ?_
          refine W.lcmp hx hb dL_law_638 ?_
          refine x_ren (b := 0) (by first | exact lc_self _ | exact lc_upd _ _) ?_
          refine z_if_eq (tgt := 644) hx hb (show (0 : Int32).toInt = 0 from by decide) dL_law_639 (by decide) (fun h_639 => ?_) (fun h_639 => ?_)
          · skip
            refine lv_goto (tgt := 1501) hx hb dL_law_644 (by decide) ?_
            exact W.widen (k := 600002) (n := 7302232) (Nat.le_of_ble_eq_true rfl) (Nat.le_of_ble_eq_true rfl) (kk S16 H locs ls hw (lv_sub hl [2, 7] rfl))
          · exact absurd h_639 (by first | decide | omega)
      · exact absurd h_622 (by first | decide | omega)
    · skip
      obtain ⟨nl28, hc29, hr_, hS30, hfr31, hf32⟩ := hpost
      subst hr_
      have hL33 : mm ∈ S16.1 := by rw [hS30]; exact List.mem_append_left _ hL10
      refine lv_istore (lv' := [(7, .int (nI 0)), (6, .int (nI 0)), (5, .int (nI 0)), (4, .ref dd), (3, .ref jo), (2, .ref mm), (1, .ref x), (0, .ref b)]) hx hb dL_law_614 hl (by decide) rfl (fun ls hl => ?_)
      refine lv_aload_n hx hb dL_law_616 rfl (lv_at hl 5 rfl) ?_
      refine p_calli (va_runV (As := []) (rest := []) C.fix (e_X13_thrown l D cy S16 H.size mm me sg cn im 1 hL33 hf32 ) (cwV 0 C.2.2.2.2.1 (gU_V mw_544 mw_545 mw_546 mw_5 (subU mw_547)) rfl rfl rfl hde_law_579_V_2 ⟨Nat.le_of_ble_eq_true rfl, Nat.le_of_ble_eq_true rfl⟩) (p_preV C hw hL33 hf32 rfl) rfl rfl hl.1 rfl (lv_room (Nat.le_of_ble_eq_true rfl)) dL_law_617 ⟨(Nat.le_of_ble_eq_true rfl), (Nat.le_of_ble_eq_true rfl)⟩) hw hA (fun r35 S34 H locs hpost hw => ?_)
      obtain ⟨hr_, hS_⟩ := hpost
      subst hr_
      subst hS_
      refine lv_iload hx hb dL_law_620 (lv_at hl 1 rfl) ?_
      refine n_icmp_eq (tgt := 627) hx hb (by first | decide | omega) (by first | decide | omega) dL_law_622 (by decide) (fun h_622 => ?_) (fun h_622 => ?_)
      · exact absurd h_622 (by first | decide | omega)
      · skip
        refine lv_iconst (v := nI 0) hx hb dL_law_625 (by decide) ?_
        contradiction
  · skip
    obtain ⟨hc36, hr_, hS_⟩ := hpost
    subst hr_
    subst hS_
    refine lv_istore (lv' := [(6, .int (nI 1)), (5, .int (nI 0)), (4, .ref dd), (3, .ref jo), (2, .ref mm), (1, .ref x), (0, .ref b)]) hx hb dL_law_596 hl (by decide) rfl (fun ls hl => ?_)
    refine lv_aload_n hx hb dL_law_598 rfl (lv_at hl 4 rfl) ?_
    refine lv_aload_n hx hb dL_law_599 rfl (lv_at hl 6 rfl) ?_
    refine lv_iload hx hb dL_law_600 (lv_at hl 1 rfl) ?_
    refine lv_iconst (v := nI 1) hx hb dL_law_602 (by decide) ?_
    refine n_iadd hx hb dL_law_603 ?_
    refine n_ren (b := 1) (by first | rfl | omega | simp) ?_
    refine va_sld hx hb hXs hbl hbA hw.2.2 (i := nI 1) (show vp_in (nI 1) 7 from by unfold vp_in; decide) dL_law_604 ?_
    refine lv_aload_n hx hb dL_law_605 rfl (lv_at hl 6 rfl) ?_
    refine lv_iload hx hb dL_law_606 (lv_at hl 1 rfl) ?_
    refine lv_iconst (v := nI 2) hx hb dL_law_608 (by decide) ?_
    refine n_iadd hx hb dL_law_609 ?_
    refine n_ren (b := 2) (by first | rfl | omega | simp) ?_
    refine va_sld hx hb hXs hbl hbA hw.2.2 (i := nI 2) (show vp_in (nI 2) 7 from by unfold vp_in; decide) dL_law_610 ?_
    refine p_calli (va_runV (As := [.int (xs (nI 1).toNatClampNeg), .int (xs (nI 2).toNatClampNeg)]) (rest := []) C.fix (e_X13_weave l D cy ed S H.size mm me sg cn im (xs (nI 1).toNatClampNeg) (xs (nI 2).toNatClampNeg) hL_mm hf_mm hL_me hf_me hL_sg hf_sg ) (cwV 2 C.2.2.2.2.1 (gU_V mw_681 mw_682 mw_683 mw_5 (subU mw_684)) rfl rfl rfl hde_law_579_V_1 ⟨Nat.le_of_ble_eq_true rfl, Nat.le_of_ble_eq_true rfl⟩) (e_preV C hw hA hE hL_mm hf_mm rfl) rfl rfl hl.1 rfl (lv_room (Nat.le_of_ble_eq_true rfl)) dL_law_611 ⟨(Nat.le_of_ble_eq_true rfl), (Nat.le_of_ble_eq_true rfl)⟩) hw hA (fun r38 S37 H locs hpost hw => ?_)
    rcases hpost with hpost | hpost
    · skip
      obtain ⟨nl39, hc40, hr_, hS41, hfr42, hf43⟩ := hpost
      subst hr_
      have hL44 : mm ∈ S37.1 := by rw [hS41]; exact List.mem_append_left _ hL_mm
      refine lv_istore (lv' := [(7, .int (nI 0)), (6, .int (nI 1)), (5, .int (nI 0)), (4, .ref dd), (3, .ref jo), (2, .ref mm), (1, .ref x), (0, .ref b)]) hx hb dL_law_614 hl (by decide) rfl (fun ls hl => ?_)
      refine lv_aload_n hx hb dL_law_616 rfl (lv_at hl 5 rfl) ?_
      refine p_calli (va_runV (As := []) (rest := []) C.fix (e_X13_thrown l D cy S37 H.size mm me sg cn im 0 hL44 hf43 ) (cwV 0 C.2.2.2.2.1 (gU_V mw_544 mw_545 mw_546 mw_5 (subU mw_547)) rfl rfl rfl hde_law_579_V_2 ⟨Nat.le_of_ble_eq_true rfl, Nat.le_of_ble_eq_true rfl⟩) (p_preV C hw hL44 hf43 rfl) rfl rfl hl.1 rfl (lv_room (Nat.le_of_ble_eq_true rfl)) dL_law_617 ⟨(Nat.le_of_ble_eq_true rfl), (Nat.le_of_ble_eq_true rfl)⟩) hw hA (fun r46 S45 H locs hpost hw => ?_)
      obtain ⟨hr_, hS_⟩ := hpost
      subst hr_
      subst hS_
      refine lv_iload hx hb dL_law_620 (lv_at hl 1 rfl) ?_
      refine n_icmp_eq (tgt := 627) hx hb (by first | decide | omega) (by first | decide | omega) dL_law_622 (by decide) (fun h_622 => ?_) (fun h_622 => ?_)
      · exact absurd h_622 (by first | decide | omega)
      · skip
        refine lv_iconst (v := nI 0) hx hb dL_law_625 (by decide) ?_
        contradiction
    · skip
      obtain ⟨nl47, hc48, hr_, hS49, hfr50, hf51⟩ := hpost
      subst hr_
      have hL52 : mm ∈ S37.1 := by rw [hS49]; exact List.mem_append_left _ hL_mm
      refine lv_istore (lv' := [(7, .int (nI 0)), (6, .int (nI 1)), (5, .int (nI 0)), (4, .ref dd), (3, .ref jo), (2, .ref mm), (1, .ref x), (0, .ref b)]) hx hb dL_law_614 hl (by decide) rfl (fun ls hl => ?_)
      refine lv_aload_n hx hb dL_law_616 rfl (lv_at hl 5 rfl) ?_
      refine p_calli (va_runV (As := []) (rest := []) C.fix (e_X13_thrown l D cy S37 H.size mm me sg cn im 1 hL52 hf51 ) (cwV 0 C.2.2.2.2.1 (gU_V mw_544 mw_545 mw_546 mw_5 (subU mw_547)) rfl rfl rfl hde_law_579_V_2 ⟨Nat.le_of_ble_eq_true rfl, Nat.le_of_ble_eq_true rfl⟩) (p_preV C hw hL52 hf51 rfl) rfl rfl hl.1 rfl (lv_room (Nat.le_of_ble_eq_true rfl)) dL_law_617 ⟨(Nat.le_of_ble_eq_true rfl), (Nat.le_of_ble_eq_true rfl)⟩) hw hA (fun r54 S53 H locs hpost hw => ?_)
      obtain ⟨hr_, hS_⟩ := hpost
      subst hr_
      subst hS_
      refine lv_iload hx hb dL_law_620 (lv_at hl 1 rfl) ?_
      refine n_icmp_eq (tgt := 627) hx hb (by first | decide | omega) (by first | decide | omega) dL_law_622 (by decide) (fun h_622 => ?_) (fun h_622 => ?_)
      · skip
        refine lv_iload hx hb dL_law_627 (lv_at hl 1 rfl) ?_
        refine n_if_ne (tgt := 644) hx hb (by first | decide | omega) dL_law_629 (by decide) (fun h_629 => ?_) (fun h_629 => ?_)
        · skip
          refine lv_goto (tgt := 1501) hx hb dL_law_644 (by decide) ?_
          exact W.widen (k := 600002) (n := 7302232) (Nat.le_of_ble_eq_true rfl) (Nat.le_of_ble_eq_true rfl) (kk S37 H locs ls hw (lv_sub hl [2, 7] rfl))
        · exact absurd h_629 (by first | decide | omega)
      · exact absurd h_622 (by first | decide | omega)
