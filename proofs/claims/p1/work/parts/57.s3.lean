theorem hde_law_647_S_0 : yL_drop.cls ≠ "java/lang/invoke/MethodHandle" ∧ yL_drop.cls ≠ "java/lang/invoke/VarHandle" ∧ (parseMethodDescriptor yL_drop.desc).map (fun d => d.parameters.length) = some 2 := by decide +kernel
theorem hde_law_647_V_1 : yX13_drop.cls = RX13 ∧ yX13_drop.cls ≠ "java/lang/invoke/MethodHandle" ∧ yX13_drop.cls ≠ "java/lang/invoke/VarHandle" ∧ (parseMethodDescriptor yX13_drop.desc).map (fun d => d.parameters.length) = some 0 := by decide +kernel
theorem hde_law_647_V_2 : yX13_thrown.cls = RX13 ∧ yX13_thrown.cls ≠ "java/lang/invoke/MethodHandle" ∧ yX13_thrown.cls ≠ "java/lang/invoke/VarHandle" ∧ (parseMethodDescriptor yX13_thrown.desc).map (fun d => d.parameters.length) = some 0 := by decide +kernel
set_option maxHeartbeats 8000000 in
set_option maxRecDepth 100000 in
theorem e_law_647 {p : Program} {e : Env} {s : State} {m : MethodId} {below : List Frame} {meth : Method} {c : Code} (l : Launch) (hflags : l.stackTraces = false) (D : va_G) (cy : Nat → ClassId) (ed : Nat) {b : Nat} {xs : Nat → Int32} {Q : State → Prop} {S0 : pS} {cw : Cond} (C : pC p s m #[Value.ref b] c code 10 RL (cw :: lwU) D cy) (hE : eK (pA S0 s.heap.size) ed s s.heap) (hA : ∀ q, s.heap.size ≤ q → pA S0 s.heap.size q) (hXs : va_X b 7 xs s s.heap) (hbl : b < s.heap.size) (hbA : ¬ pA S0 s.heap.size b) (S : pS) (H : Heap) (locs : List Loc) (ls : Array Slot) (x : Nat) (mm : Nat) (jo : Nat) (dd : Nat) (ch : Nat) (ln : Nat) (sl : Nat) (mk : Nat) (co : Nat) (ca : Nat) (su : Nat) (lt : Nat) (lk : Nat) (me : Nat) (sg : Nat) (cn : Nat) (im : Nat) (hL_x : x ∈ S.1) (hf_x : S.2 x = .inr (11, [.ref ch, .ref ln, .ref sl, .ref mk, .ref co, .ref ca, .ref su, .ref lt])) (hL_ch : ch ∈ S.1) (hf_ch : S.2 ch = .inr (2, [.ref lk, .int (nI 0)])) (hL_mm : mm ∈ S.1) (hf_mm : S.2 mm = .inr (13, [.int (nI 0), .ref me, .ref sg, .ref cn, .ref im])) (hL_sg : sg ∈ S.1) (hf_sg : S.2 sg = .inr (0, [.int (nI 0), .ref ed, .int (nI 0)]))  (hw : pW D (pA S0 s.heap.size) s.heap S H locs) (hl : lv_has ls 10 [(5, .int (nI 0)), (4, .ref dd), (3, .ref jo), (2, .ref mm), (1, .ref x), (0, .ref b)]) (kk : ∀ (S' : pS) (H' : Heap) (locs' : List Loc) (ls' : Array Slot), pW D (pA S0 s.heap.size) s.heap S' H' locs' → lv_has ls' 10 [(5, .int (nI 0)), (0, .ref b)] → W p l e room_1 s m #[Value.ref b] below meth c H' locs' 600002 7302232 Q (F0 m 1501 ls' [])) : W p l e room_1 s m #[Value.ref b] below meth c H locs 60 5026 Q (F0 m 647 ls []) := by
  have hx := C.1
  have hb := C.2.1
  refine lv_aload_n hx hb dL_law_647 rfl (lv_at hl 4 rfl) ?_
  refine lv_aload_n hx hb dL_law_648 rfl (lv_at hl 2 rfl) ?_
  refine x_calli (vx_runSX (As := [.ref x, .ref jo]) (rest := []) C.fix (e_L_drop l hflags D cy ed S H.size x jo ch ln sl mk co ca su lt lk hL_x hf_x hL_ch hf_ch ) (vx_cwSW 2 C.2.2.2.2.1 (gU_S mw_685 mw_686 mw_111 (subU mw_687)) rfl rfl rfl hde_law_647_S_0 ⟨Nat.le_of_ble_eq_true rfl, Nat.le_of_ble_eq_true rfl⟩) (e_preS C hw hA hE) rfl rfl hl.1 rfl (lv_room (Nat.le_of_ble_eq_true rfl)) dL_law_649 ⟨(Nat.le_of_ble_eq_true rfl), (Nat.le_of_ble_eq_true rfl)⟩) hw hA (fun E9 ce9 q9 S1 H locs hpost hw hce9 hcv9 hcl9 => ?_) (fun r2 S1 H locs hpost hw => ?_)
  · skip
    exact hpost.elim
  obtain ⟨hr_, hS_⟩ := hpost
  subst hr_
  subst hS_
  refine lv_istore (lv' := [(6, .int (nI 1)), (5, .int (nI 0)), (4, .ref dd), (3, .ref jo), (2, .ref mm), (1, .ref x), (0, .ref b)]) hx hb dL_law_652 hl (by decide) rfl (fun ls hl => ?_)
  refine lv_aload_n hx hb dL_law_654 rfl (lv_at hl 4 rfl) ?_
  refine p_calli (va_runV (As := []) (rest := []) C.fix (e_X13_drop l D cy ed S H.size mm me sg cn im hL_mm hf_mm hL_sg hf_sg ) (cwV 0 C.2.2.2.2.1 (gU_V mw_696 mw_697 mw_698 mw_5 (subU mw_699)) rfl rfl rfl hde_law_647_V_1 ⟨Nat.le_of_ble_eq_true rfl, Nat.le_of_ble_eq_true rfl⟩) (e_preV C hw hA hE hL_mm hf_mm rfl) rfl rfl hl.1 rfl (lv_room (Nat.le_of_ble_eq_true rfl)) dL_law_655 ⟨(Nat.le_of_ble_eq_true rfl), (Nat.le_of_ble_eq_true rfl)⟩) hw hA (fun r4 S3 H locs hpost hw => ?_)
  obtain ⟨nl5, hr_, hS6, hfr7, hf8⟩ := hpost
  subst hr_
  have hL9 : mm ∈ S3.1 := by rw [hS6]; exact List.mem_append_left _ hL_mm
  refine lv_istore (lv' := [(7, .int (nI 0)), (6, .int (nI 1)), (5, .int (nI 0)), (4, .ref dd), (3, .ref jo), (2, .ref mm), (1, .ref x), (0, .ref b)]) hx hb dL_law_658 hl (by decide) rfl (fun ls hl => ?_)
  refine lv_aload_n hx hb dL_law_660 rfl (lv_at hl 5 rfl) ?_
  refine p_calli (va_runV (As := []) (rest := []) C.fix (e_X13_thrown l D cy S3 H.size mm me sg cn im 1 hL9 hf8 ) (cwV 0 C.2.2.2.2.1 (gU_V mw_544 mw_545 mw_546 mw_5 (subU mw_547)) rfl rfl rfl hde_law_647_V_2 ⟨Nat.le_of_ble_eq_true rfl, Nat.le_of_ble_eq_true rfl⟩) (p_preV C hw hL9 hf8 rfl) rfl rfl hl.1 rfl (lv_room (Nat.le_of_ble_eq_true rfl)) dL_law_661 ⟨(Nat.le_of_ble_eq_true rfl), (Nat.le_of_ble_eq_true rfl)⟩) hw hA (fun r11 S10 H locs hpost hw => ?_)
  obtain ⟨hr_, hS_⟩ := hpost
  subst hr_
  subst hS_
  refine lv_iload hx hb dL_law_664 (lv_at hl 1 rfl) ?_
  refine n_icmp_eq (tgt := 671) hx hb (by first | decide | omega) (by first | decide | omega) dL_law_666 (by decide) (fun h_666 => ?_) (fun h_666 => ?_)
  · skip
    refine lv_iload hx hb dL_law_671 (lv_at hl 1 rfl) ?_
    refine n_if_ne (tgt := 688) hx hb (by first | decide | omega) dL_law_673 (by decide) (fun h_673 => ?_) (fun h_673 => ?_)
    · skip
      refine lv_goto (tgt := 1501) hx hb dL_law_688 (by decide) ?_
      exact W.widen (k := 600002) (n := 7302232) (Nat.le_of_ble_eq_true rfl) (Nat.le_of_ble_eq_true rfl) (kk S3 H locs ls hw (lv_sub hl [2, 7] rfl))
    · exact absurd h_673 (by first | decide | omega)
  · exact absurd h_666 (by first | decide | omega)

theorem hde_law_691_S_0 : yL_channel.cls ≠ "java/lang/invoke/MethodHandle" ∧ yL_channel.cls ≠ "java/lang/invoke/VarHandle" ∧ (parseMethodDescriptor yL_channel.desc).map (fun d => d.parameters.length) = some 6 := by decide +kernel
theorem hde_law_691_V_1 : yX13_channel.cls = RX13 ∧ yX13_channel.cls ≠ "java/lang/invoke/MethodHandle" ∧ yX13_channel.cls ≠ "java/lang/invoke/VarHandle" ∧ (parseMethodDescriptor yX13_channel.desc).map (fun d => d.parameters.length) = some 4 := by decide +kernel
theorem hde_law_691_V_2 : yX13_thrown.cls = RX13 ∧ yX13_thrown.cls ≠ "java/lang/invoke/MethodHandle" ∧ yX13_thrown.cls ≠ "java/lang/invoke/VarHandle" ∧ (parseMethodDescriptor yX13_thrown.desc).map (fun d => d.parameters.length) = some 0 := by decide +kernel
set_option maxHeartbeats 8000000 in
set_option maxRecDepth 100000 in
theorem e_law_691 {p : Program} {e : Env} {s : State} {m : MethodId} {below : List Frame} {meth : Method} {c : Code} (l : Launch) (hflags : l.stackTraces = false) (D : va_G) (cy : Nat → ClassId) (ed : Nat) {b : Nat} {xs : Nat → Int32} {Q : State → Prop} {S0 : pS} {cw : Cond} (C : pC p s m #[Value.ref b] c code 10 RL (cw :: lwU) D cy) (hE : eK (pA S0 s.heap.size) ed s s.heap) (hA : ∀ q, s.heap.size ≤ q → pA S0 s.heap.size q) (hXs : va_X b 7 xs s s.heap) (hbl : b < s.heap.size) (hbA : ¬ pA S0 s.heap.size b) (S : pS) (H : Heap) (locs : List Loc) (ls : Array Slot) (x : Nat) (mm : Nat) (jo : Nat) (dd : Nat) (ch : Nat) (ln : Nat) (sl : Nat) (mk : Nat) (co : Nat) (ca : Nat) (su : Nat) (lt : Nat) (lk : Nat) (mb : Nat) (col : Nat) (con : Nat) (cor0 : Nat) (cor1 : Nat) (cor2 : Nat) (cor3 : Nat) (cor4 : Nat) (cob0 : Nat) (cal : Nat) (can : Nat) (car0 : Nat) (car1 : Nat) (car2 : Nat) (car3 : Nat) (car4 : Nat) (cab0 : Nat) (me : Nat) (sg : Nat) (cn : Nat) (im : Nat) (hL_x : x ∈ S.1) (hf_x : S.2 x = .inr (11, [.ref ch, .ref ln, .ref sl, .ref mk, .ref co, .ref ca, .ref su, .ref lt])) (hL_ch : ch ∈ S.1) (hf_ch : S.2 ch = .inr (2, [.ref lk, .int (nI 0)])) (hL_ln : ln ∈ S.1) (hf_ln : S.2 ln = .inr (6, [.int (nI 0), .int (nI 0), .int (nI 0), .int (nI 0)])) (hL_mk : mk ∈ S.1) (hf_mk : S.2 mk = .inr (8, [.ref mb, .int (nI 320)])) (hL_mb : mb ∈ S.1) (hf_mb : S.2 mb = aN (cy 0) 320 (fun _ => 0)) (hL_co : co ∈ S.1) (hf_co : S.2 co = .inr (5, [.ref col, .ref con])) (hL_col : col ∈ S.1) (hf_col : S.2 col = aQ (cy 2) 5 (va_up (va_up (va_up (va_up (va_up (fun _ => none) 0 (some cor0)) 1 (some cor1)) 2 (some cor2)) 3 (some cor3)) 4 (some cor4))) (hL_cor0 : cor0 ∈ S.1) (hf_cor0 : S.2 cor0 = .inr (8, [.ref cob0, .int (nI 0)])) (hL_cob0 : cob0 ∈ S.1) (hf_cob0 : S.2 cob0 = aN (cy 0) 32 (fun _ => 0)) (hL_ca : ca ∈ S.1) (hf_ca : S.2 ca = .inr (5, [.ref cal, .ref can])) (hL_cal : cal ∈ S.1) (hf_cal : S.2 cal = aQ (cy 2) 5 (va_up (va_up (va_up (va_up (va_up (fun _ => none) 0 (some car0)) 1 (some car1)) 2 (some car2)) 3 (some car3)) 4 (some car4))) (hL_car0 : car0 ∈ S.1) (hf_car0 : S.2 car0 = .inr (8, [.ref cab0, .int (nI 0)])) (hL_cab0 : cab0 ∈ S.1) (hf_cab0 : S.2 cab0 = aN (cy 0) 32 (fun _ => 0)) (hL_mm : mm ∈ S.1) (hf_mm : S.2 mm = .inr (13, [.int (nI 0), .ref me, .ref sg, .ref cn, .ref im])) (hL_cn : cn ∈ S.1) (hf_cn : S.2 cn = .inl (cy 0, 4, .inl (upd (upd (upd (upd (fun _ => 0) 0 (nI 0)) 1 (nI 0)) 2 (nI 0)) 3 (nI 1)))) (hL_jo : jo ∈ S.1) (hf_jo : S.2 jo = .inl (cy 6, 1, .inr (.inl (fun _ => 0)))) (hne_cob0_cab0 : cob0 ≠ cab0) (hne_cor0_car0 : cor0 ≠ car0) (hne_mk_car0 : mk ≠ car0) (hne_mb_cab0 : mb ≠ cab0) (hne_jo_cab0 : jo ≠ cab0) (hne_cn_cab0 : cn ≠ cab0) (hne_cn_jo : cn ≠ jo) (hw : pW D (pA S0 s.heap.size) s.heap S H locs) (hl : lv_has ls 10 [(5, .int (nI 0)), (4, .ref dd), (3, .ref jo), (2, .ref mm), (1, .ref x), (0, .ref b)]) (kk : ∀ (S' : pS) (H' : Heap) (locs' : List Loc) (ls' : Array Slot), pW D (pA S0 s.heap.size) s.heap S' H' locs' → lv_has ls' 10 [(5, .int (nI 0)), (0, .ref b)] → W p l e room_1 s m #[Value.ref b] below meth c H' locs' 600002 7302232 Q (F0 m 1501 ls' [])) : W p l e room_1 s m #[Value.ref b] below meth c H locs 60 5026 Q (F0 m 691 ls []) := by
  have hx := C.1
  have hb := C.2.1
  refine lv_aload_n hx hb dL_law_691 rfl (lv_at hl 4 rfl) ?_
  refine lv_aload_n hx hb dL_law_692 rfl (lv_at hl 5 rfl) ?_
  refine lv_iload hx hb dL_law_693 (lv_at hl 0 rfl) ?_
  refine lv_iconst (v := nI 1) hx hb dL_law_695 (by decide) ?_
  refine n_iadd hx hb dL_law_696 ?_
  refine n_ren (b := 1) (by first | rfl | omega | simp) ?_
  refine va_sld hx hb hXs hbl hbA hw.2.2 (i := nI 1) (show vp_in (nI 1) 7 from by unfold vp_in; decide) dL_law_697 ?_
  refine lv_aload_n hx hb dL_law_698 rfl (lv_at hl 5 rfl) ?_
  refine lv_iload hx hb dL_law_699 (lv_at hl 0 rfl) ?_
  refine lv_iconst (v := nI 2) hx hb dL_law_701 (by decide) ?_
  refine n_iadd hx hb dL_law_702 ?_
  refine n_ren (b := 2) (by first | rfl | omega | simp) ?_
  refine va_sld hx hb hXs hbl hbA hw.2.2 (i := nI 2) (show vp_in (nI 2) 7 from by unfold vp_in; decide) dL_law_703 ?_
  refine lv_aload_n hx hb dL_law_704 rfl (lv_at hl 5 rfl) ?_
  refine lv_iload hx hb dL_law_705 (lv_at hl 0 rfl) ?_
  refine lv_iconst (v := nI 3) hx hb dL_law_707 (by decide) ?_
  refine n_iadd hx hb dL_law_708 ?_
  refine n_ren (b := 3) (by first | rfl | omega | simp) ?_
  refine va_sld hx hb hXs hbl hbA hw.2.2 (i := nI 3) (show vp_in (nI 3) 7 from by unfold vp_in; decide) dL_law_709 ?_
  refine lv_aload_n hx hb dL_law_710 rfl (lv_at hl 5 rfl) ?_
  refine lv_iload hx hb dL_law_711 (lv_at hl 0 rfl) ?_
  refine lv_iconst (v := nI 4) hx hb dL_law_713 (by decide) ?_
  refine n_iadd hx hb dL_law_714 ?_
  refine n_ren (b := 4) (by first | rfl | omega | simp) ?_
  refine va_sld hx hb hXs hbl hbA hw.2.2 (i := nI 4) (show vp_in (nI 4) 7 from by unfold vp_in; decide) dL_law_715 ?_
  refine lv_aload_n hx hb dL_law_716 rfl (lv_at hl 2 rfl) ?_
  refine x_calli (vx_runSX (As := [.ref x, .int (xs (nI 1).toNatClampNeg), .int (xs (nI 2).toNatClampNeg), .int (xs (nI 3).toNatClampNeg), .int (xs (nI 4).toNatClampNeg), .ref jo]) (rest := []) C.fix (e_L_channel l hflags D cy ed S H.size x jo ch ln sl mk co ca su lt lk mb col con cor0 cor1 cor2 cor3 cor4 cob0 cal can car0 car1 car2 car3 car4 cab0 (xs (nI 1).toNatClampNeg) (xs (nI 2).toNatClampNeg) (xs (nI 3).toNatClampNeg) (xs (nI 4).toNatClampNeg) (fun _ => 0) hL_x hf_x hL_ch hf_ch hL_ln hf_ln hL_mk hf_mk hL_mb hf_mb hL_co hf_co hL_col hf_col hL_cor0 hf_cor0 hL_cob0 hf_cob0 hL_ca hf_ca hL_cal hf_cal hL_car0 hf_car0 hL_cab0 hf_cab0 hL_jo hf_jo hne_cob0_cab0 hne_cor0_car0 hne_mk_car0 hne_mb_cab0 hne_jo_cab0) (vx_cwSW 6 C.2.2.2.2.1 (gU_S mw_704 mw_705 mw_111 (subU mw_706)) rfl rfl rfl hde_law_691_S_0 ⟨Nat.le_of_ble_eq_true rfl, Nat.le_of_ble_eq_true rfl⟩) (e_preS C hw hA hE) rfl rfl hl.1 rfl (lv_room (Nat.le_of_ble_eq_true rfl)) dL_law_717 ⟨(Nat.le_of_ble_eq_true rfl), (Nat.le_of_ble_eq_true rfl)⟩) hw hA (fun E9 ce9 q9 S1 H locs hpost hw hce9 hcv9 hcl9 => ?_) (fun r2 S1 H locs hpost hw => ?_)
  · skip
    exact hpost.elim
  rcases hpost with hpost | hpost
  · skip
    obtain ⟨hc3, hr_, hS4, hfr5, hf6⟩ := hpost
    subst hr_
    have hL7 : jo ∈ S1.1 := by rw [hS4]; exact List.mem_append_left _ hL_jo
    refine lv_istore (lv' := [(6, .int (nI 0)), (5, .int (nI 0)), (4, .ref dd), (3, .ref jo), (2, .ref mm), (1, .ref x), (0, .ref b)]) hx hb dL_law_720 hl (by decide) rfl (fun ls hl => ?_)
    refine lv_aload_n hx hb dL_law_722 rfl (lv_at hl 4 rfl) ?_
    refine lv_aload_n hx hb dL_law_723 rfl (lv_at hl 6 rfl) ?_
    refine lv_iload hx hb dL_law_724 (lv_at hl 1 rfl) ?_
    refine lv_iconst (v := nI 1) hx hb dL_law_726 (by decide) ?_
    refine n_iadd hx hb dL_law_727 ?_
    refine n_ren (b := 1) (by first | rfl | omega | simp) ?_
    refine va_sld hx hb hXs hbl hbA hw.2.2 (i := nI 1) (show vp_in (nI 1) 7 from by unfold vp_in; decide) dL_law_728 ?_
    refine lv_aload_n hx hb dL_law_729 rfl (lv_at hl 6 rfl) ?_
    refine lv_iload hx hb dL_law_730 (lv_at hl 1 rfl) ?_
    refine lv_iconst (v := nI 2) hx hb dL_law_732 (by decide) ?_
    refine n_iadd hx hb dL_law_733 ?_
    refine n_ren (b := 2) (by first | rfl | omega | simp) ?_
    refine va_sld hx hb hXs hbl hbA hw.2.2 (i := nI 2) (show vp_in (nI 2) 7 from by unfold vp_in; decide) dL_law_734 ?_
    refine lv_aload_n hx hb dL_law_735 rfl (lv_at hl 6 rfl) ?_
    refine lv_iload hx hb dL_law_736 (lv_at hl 1 rfl) ?_
    refine lv_iconst (v := nI 3) hx hb dL_law_738 (by decide) ?_
    refine n_iadd hx hb dL_law_739 ?_
    refine n_ren (b := 3) (by first | rfl | omega | simp) ?_
    refine va_sld hx hb hXs hbl hbA hw.2.2 (i := nI 3) (show vp_in (nI 3) 7 from by unfold vp_in; decide) dL_law_740 ?_
    refine lv_aload_n hx hb dL_law_741 rfl (lv_at hl 6 rfl) ?_
    refine lv_iload hx hb dL_law_742 (lv_at hl 1 rfl) ?_
    refine lv_iconst (v := nI 4) hx hb dL_law_744 (by decide) ?_
    refine n_iadd hx hb dL_law_745 ?_
    refine n_ren (b := 4) (by first | rfl | omega | simp) ?_
    refine va_sld hx hb hXs hbl hbA hw.2.2 (i := nI 4) (show vp_in (nI 4) 7 from by unfold vp_in; decide) dL_law_746 ?_
    have hL8 : mm ∈ S1.1 := by rw [hS4]; exact List.mem_append_left _ hL_mm
    have hf9 : S1.2 mm = .inr (13, [.int (nI 0), .ref me, .ref sg, .ref cn, .ref im]) := (hfr5 mm hL_mm (ne_cells hf_mm hf_ln (by nofun)) (ne_cells hf_mm hf_car0 (by nofun)) (ne_cells hf_mm hf_cab0 (by nofun)) (ne_cells hf_mm hf_jo (by nofun))).trans hf_mm
    have hL10 : cn ∈ S1.1 := by rw [hS4]; exact List.mem_append_left _ hL_cn
    have hf11 : S1.2 cn = .inl (cy 0, 4, .inl (upd (upd (upd (upd (fun _ => 0) 0 (nI 0)) 1 (nI 0)) 2 (nI 0)) 3 (nI 1))) := (hfr5 cn hL_cn (ne_cells hf_cn hf_ln (by nofun)) (ne_cells hf_cn hf_car0 (by nofun)) hne_cn_cab0 hne_cn_jo).trans hf_cn
    refine p_calli (va_runV (As := [.int (xs (nI 1).toNatClampNeg), .int (xs (nI 2).toNatClampNeg), .int (xs (nI 3).toNatClampNeg), .int (xs (nI 4).toNatClampNeg)]) (rest := []) C.fix (e_X13_channel l D cy ed S1 H.size mm me sg cn im (xs (nI 1).toNatClampNeg) (xs (nI 2).toNatClampNeg) (xs (nI 3).toNatClampNeg) (xs (nI 4).toNatClampNeg) hL8 hf9 hL10 hf11 ) (cwV 4 C.2.2.2.2.1 (gU_V mw_720 mw_721 mw_722 mw_5 (subU mw_723)) rfl rfl rfl hde_law_691_V_1 ⟨Nat.le_of_ble_eq_true rfl, Nat.le_of_ble_eq_true rfl⟩) (e_preV C hw hA hE hL8 hf9 rfl) rfl rfl hl.1 rfl (lv_room (Nat.le_of_ble_eq_true rfl)) dL_law_747 ⟨(Nat.le_of_ble_eq_true rfl), (Nat.le_of_ble_eq_true rfl)⟩) hw hA (fun r13 S12 H locs hpost hw => ?_)
    rcases hpost with hpost | hpost
    · skip
      obtain ⟨w914, nl15, hc16, hr_, hS17, hfr18, hf19⟩ := hpost
      subst hr_
      have hL20 : mm ∈ S12.1 := by rw [hS17]; exact List.mem_append_left _ hL8
      refine lv_istore (lv' := [(7, .int (nI 0)), (6, .int (nI 0)), (5, .int (nI 0)), (4, .ref dd), (3, .ref jo), (2, .ref mm), (1, .ref x), (0, .ref b)]) hx hb dL_law_750 hl (by decide) rfl (fun ls hl => ?_)
      refine lv_aload_n hx hb dL_law_752 rfl (lv_at hl 5 rfl) ?_
      refine p_calli (va_runV (As := []) (rest := []) C.fix (e_X13_thrown l D cy S12 H.size mm me sg w914 im 0 hL20 hf19 ) (cwV 0 C.2.2.2.2.1 (gU_V mw_544 mw_545 mw_546 mw_5 (subU mw_547)) rfl rfl rfl hde_law_691_V_2 ⟨Nat.le_of_ble_eq_true rfl, Nat.le_of_ble_eq_true rfl⟩) (p_preV C hw hL20 hf19 rfl) rfl rfl hl.1 rfl (lv_room (Nat.le_of_ble_eq_true rfl)) dL_law_753 ⟨(Nat.le_of_ble_eq_true rfl), (Nat.le_of_ble_eq_true rfl)⟩) hw hA (fun r22 S21 H locs hpost hw => ?_)
      obtain ⟨hr_, hS_⟩ := hpost
      subst hr_
      subst hS_
      refine lv_iload hx hb dL_law_756 (lv_at hl 1 rfl) ?_
      refine n_icmp_eq (tgt := 763) hx hb (by first | decide | omega) (by first | decide | omega) dL_law_758 (by decide) (fun h_758 => ?_) (fun h_758 => ?_)
      · skip
        refine lv_iload hx hb dL_law_763 (lv_at hl 1 rfl) ?_
        refine n_if_ne (tgt := 780) hx hb (by first | decide | omega) dL_law_765 (by decide) (fun h_765 => ?_) (fun h_765 => ?_)
        · exact absurd h_765 (by first | decide | omega)
        · skip
          refine lv_aload_n hx hb dL_law_768 rfl (lv_at hl 4 rfl) ?_
          refine lv_iconst (v := nI 0) hx hb dL_law_769 (by decide) ?_
          have hL23 : jo ∈ S12.1 := by rw [hS17]; exact List.mem_append_left _ hL7
          have hf24 : S12.2 jo = .inl (cy 6, 1, .inr (.inl (vp_updL (fun _ => 0) 0 ((nI 0)).toInt64))) := (hfr18 jo hL7 (ne_cells hf6 hf9 (by nofun))).trans hf6
          refine p_lald C hw 6 rfl hL23 hf24 (by decide) (by decide) dL_law_770 ?_
          refine lv_iload hx hb dL_law_771 (lv_at hl 0 rfl) ?_
          refine lv_i2l hx hb dL_law_773 rfl ?_
          refine W.lcmp hx hb dL_law_774 ?_
          refine x_ren (b := 0) (by first | exact lc_self _ | exact lc_upd _ _) ?_
          refine z_if_eq (tgt := 780) hx hb (show (0 : Int32).toInt = 0 from by decide) dL_law_775 (by decide) (fun h_775 => ?_) (fun h_775 => ?_)
          · skip
            refine lv_goto (tgt := 1501) hx hb dL_law_780 (by decide) ?_
            exact W.widen (k := 600002) (n := 7302232) (Nat.le_of_ble_eq_true rfl) (Nat.le_of_ble_eq_true rfl) (kk S12 H locs ls hw (lv_sub hl [2, 7] rfl))
          · exact absurd h_775 (by first | decide | omega)
      · exact absurd h_758 (by first | decide | omega)
    · skip
      obtain ⟨nl25, hc26, hr_, hS27, hfr28, hf29⟩ := hpost
      subst hr_
      have hL30 : mm ∈ S12.1 := by rw [hS27]; exact List.mem_append_left _ hL8
      refine lv_istore (lv' := [(7, .int (nI 0)), (6, .int (nI 0)), (5, .int (nI 0)), (4, .ref dd), (3, .ref jo), (2, .ref mm), (1, .ref x), (0, .ref b)]) hx hb dL_law_750 hl (by decide) rfl (fun ls hl => ?_)
      refine lv_aload_n hx hb dL_law_752 rfl (lv_at hl 5 rfl) ?_
      refine p_calli (va_runV (As := []) (rest := []) C.fix (e_X13_thrown l D cy S12 H.size mm me sg cn im 1 hL30 hf29 ) (cwV 0 C.2.2.2.2.1 (gU_V mw_544 mw_545 mw_546 mw_5 (subU mw_547)) rfl rfl rfl hde_law_691_V_2 ⟨Nat.le_of_ble_eq_true rfl, Nat.le_of_ble_eq_true rfl⟩) (p_preV C hw hL30 hf29 rfl) rfl rfl hl.1 rfl (lv_room (Nat.le_of_ble_eq_true rfl)) dL_law_753 ⟨(Nat.le_of_ble_eq_true rfl), (Nat.le_of_ble_eq_true rfl)⟩) hw hA (fun r32 S31 H locs hpost hw => ?_)
      obtain ⟨hr_, hS_⟩ := hpost
      subst hr_
      subst hS_
      refine lv_iload hx hb dL_law_756 (lv_at hl 1 rfl) ?_
      refine n_icmp_eq (tgt := 763) hx hb (by first | decide | omega) (by first | decide | omega) dL_law_758 (by decide) (fun h_758 => ?_) (fun h_758 => ?_)
      · exact absurd h_758 (by first | decide | omega)
      · skip
        refine lv_iconst (v := nI 0) hx hb dL_law_761 (by decide) ?_
        contradiction
  · skip
    obtain ⟨hc33, hr_, hS_⟩ := hpost
    subst hr_
    subst hS_
    refine lv_istore (lv' := [(6, .int (nI 1)), (5, .int (nI 0)), (4, .ref dd), (3, .ref jo), (2, .ref mm), (1, .ref x), (0, .ref b)]) hx hb dL_law_720 hl (by decide) rfl (fun ls hl => ?_)
    refine lv_aload_n hx hb dL_law_722 rfl (lv_at hl 4 rfl) ?_
    refine lv_aload_n hx hb dL_law_723 rfl (lv_at hl 6 rfl) ?_
    refine lv_iload hx hb dL_law_724 (lv_at hl 1 rfl) ?_
    refine lv_iconst (v := nI 1) hx hb dL_law_726 (by decide) ?_
    refine n_iadd hx hb dL_law_727 ?_
    refine n_ren (b := 1) (by first | rfl | omega | simp) ?_
    refine va_sld hx hb hXs hbl hbA hw.2.2 (i := nI 1) (show vp_in (nI 1) 7 from by unfold vp_in; decide) dL_law_728 ?_
    refine lv_aload_n hx hb dL_law_729 rfl (lv_at hl 6 rfl) ?_
    refine lv_iload hx hb dL_law_730 (lv_at hl 1 rfl) ?_
    refine lv_iconst (v := nI 2) hx hb dL_law_732 (by decide) ?_
    refine n_iadd hx hb dL_law_733 ?_
    refine n_ren (b := 2) (by first | rfl | omega | simp) ?_
    refine va_sld hx hb hXs hbl hbA hw.2.2 (i := nI 2) (show vp_in (nI 2) 7 from by unfold vp_in; decide) dL_law_734 ?_
    refine lv_aload_n hx hb dL_law_735 rfl (lv_at hl 6 rfl) ?_
    refine lv_iload hx hb dL_law_736 (lv_at hl 1 rfl) ?_
    refine lv_iconst (v := nI 3) hx hb dL_law_738 (by decide) ?_
    refine n_iadd hx hb dL_law_739 ?_
    refine n_ren (b := 3) (by first | rfl | omega | simp) ?_
    refine va_sld hx hb hXs hbl hbA hw.2.2 (i := nI 3) (show vp_in (nI 3) 7 from by unfold vp_in; decide) dL_law_740 ?_
    refine lv_aload_n hx hb dL_law_741 rfl (lv_at hl 6 rfl) ?_
    refine lv_iload hx hb dL_law_742 (lv_at hl 1 rfl) ?_
    refine lv_iconst (v := nI 4) hx hb dL_law_744 (by decide) ?_
    refine n_iadd hx hb dL_law_745 ?_
    refine n_ren (b := 4) (by first | rfl | omega | simp) ?_
    refine va_sld hx hb hXs hbl hbA hw.2.2 (i := nI 4) (show vp_in (nI 4) 7 from by unfold vp_in; decide) dL_law_746 ?_
    refine p_calli (va_runV (As := [.int (xs (nI 1).toNatClampNeg), .int (xs (nI 2).toNatClampNeg), .int (xs (nI 3).toNatClampNeg), .int (xs (nI 4).toNatClampNeg)]) (rest := []) C.fix (e_X13_channel l D cy ed S H.size mm me sg cn im (xs (nI 1).toNatClampNeg) (xs (nI 2).toNatClampNeg) (xs (nI 3).toNatClampNeg) (xs (nI 4).toNatClampNeg) hL_mm hf_mm hL_cn hf_cn ) (cwV 4 C.2.2.2.2.1 (gU_V mw_720 mw_721 mw_722 mw_5 (subU mw_723)) rfl rfl rfl hde_law_691_V_1 ⟨Nat.le_of_ble_eq_true rfl, Nat.le_of_ble_eq_true rfl⟩) (e_preV C hw hA hE hL_mm hf_mm rfl) rfl rfl hl.1 rfl (lv_room (Nat.le_of_ble_eq_true rfl)) dL_law_747 ⟨(Nat.le_of_ble_eq_true rfl), (Nat.le_of_ble_eq_true rfl)⟩) hw hA (fun r35 S34 H locs hpost hw => ?_)
    rcases hpost with hpost | hpost
    · skip
      obtain ⟨w936, nl37, hc38, hr_, hS39, hfr40, hf41⟩ := hpost
      subst hr_
      have hL42 : mm ∈ S34.1 := by rw [hS39]; exact List.mem_append_left _ hL_mm
      refine lv_istore (lv' := [(7, .int (nI 0)), (6, .int (nI 1)), (5, .int (nI 0)), (4, .ref dd), (3, .ref jo), (2, .ref mm), (1, .ref x), (0, .ref b)]) hx hb dL_law_750 hl (by decide) rfl (fun ls hl => ?_)
      refine lv_aload_n hx hb dL_law_752 rfl (lv_at hl 5 rfl) ?_
      refine p_calli (va_runV (As := []) (rest := []) C.fix (e_X13_thrown l D cy S34 H.size mm me sg w936 im 0 hL42 hf41 ) (cwV 0 C.2.2.2.2.1 (gU_V mw_544 mw_545 mw_546 mw_5 (subU mw_547)) rfl rfl rfl hde_law_691_V_2 ⟨Nat.le_of_ble_eq_true rfl, Nat.le_of_ble_eq_true rfl⟩) (p_preV C hw hL42 hf41 rfl) rfl rfl hl.1 rfl (lv_room (Nat.le_of_ble_eq_true rfl)) dL_law_753 ⟨(Nat.le_of_ble_eq_true rfl), (Nat.le_of_ble_eq_true rfl)⟩) hw hA (fun r44 S43 H locs hpost hw => ?_)
      obtain ⟨hr_, hS_⟩ := hpost
      subst hr_
      subst hS_
      refine lv_iload hx hb dL_law_756 (lv_at hl 1 rfl) ?_
      refine n_icmp_eq (tgt := 763) hx hb (by first | decide | omega) (by first | decide | omega) dL_law_758 (by decide) (fun h_758 => ?_) (fun h_758 => ?_)
      · exact absurd h_758 (by first | decide | omega)
      · skip
        refine lv_iconst (v := nI 0) hx hb dL_law_761 (by decide) ?_
        contradiction
    · skip
      obtain ⟨nl45, hc46, hr_, hS47, hfr48, hf49⟩ := hpost
      subst hr_
      have hL50 : mm ∈ S34.1 := by rw [hS47]; exact List.mem_append_left _ hL_mm
      refine lv_istore (lv' := [(7, .int (nI 0)), (6, .int (nI 1)), (5, .int (nI 0)), (4, .ref dd), (3, .ref jo), (2, .ref mm), (1, .ref x), (0, .ref b)]) hx hb dL_law_750 hl (by decide) rfl (fun ls hl => ?_)
      refine lv_aload_n hx hb dL_law_752 rfl (lv_at hl 5 rfl) ?_
      refine p_calli (va_runV (As := []) (rest := []) C.fix (e_X13_thrown l D cy S34 H.size mm me sg cn im 1 hL50 hf49 ) (cwV 0 C.2.2.2.2.1 (gU_V mw_544 mw_545 mw_546 mw_5 (subU mw_547)) rfl rfl rfl hde_law_691_V_2 ⟨Nat.le_of_ble_eq_true rfl, Nat.le_of_ble_eq_true rfl⟩) (p_preV C hw hL50 hf49 rfl) rfl rfl hl.1 rfl (lv_room (Nat.le_of_ble_eq_true rfl)) dL_law_753 ⟨(Nat.le_of_ble_eq_true rfl), (Nat.le_of_ble_eq_true rfl)⟩) hw hA (fun r52 S51 H locs hpost hw => ?_)
      obtain ⟨hr_, hS_⟩ := hpost
      subst hr_
      subst hS_
      refine lv_iload hx hb dL_law_756 (lv_at hl 1 rfl) ?_
      refine n_icmp_eq (tgt := 763) hx hb (by first | decide | omega) (by first | decide | omega) dL_law_758 (by decide) (fun h_758 => ?_) (fun h_758 => ?_)
      · skip
        refine lv_iload hx hb dL_law_763 (lv_at hl 1 rfl) ?_
        refine n_if_ne (tgt := 780) hx hb (by first | decide | omega) dL_law_765 (by decide) (fun h_765 => ?_) (fun h_765 => ?_)
        · skip
          refine lv_goto (tgt := 1501) hx hb dL_law_780 (by decide) ?_
          exact W.widen (k := 600002) (n := 7302232) (Nat.le_of_ble_eq_true rfl) (Nat.le_of_ble_eq_true rfl) (kk S34 H locs ls hw (lv_sub hl [2, 7] rfl))
        · exact absurd h_765 (by first | decide | omega)
      · exact absurd h_758 (by first | decide | omega)

theorem hde_law_783_S_0 : yL_mark.cls ≠ "java/lang/invoke/MethodHandle" ∧ yL_mark.cls ≠ "java/lang/invoke/VarHandle" ∧ (parseMethodDescriptor yL_mark.desc).map (fun d => d.parameters.length) = some 3 := by decide +kernel
theorem hde_law_783_V_1 : yX13_mark.cls = RX13 ∧ yX13_mark.cls ≠ "java/lang/invoke/MethodHandle" ∧ yX13_mark.cls ≠ "java/lang/invoke/VarHandle" ∧ (parseMethodDescriptor yX13_mark.desc).map (fun d => d.parameters.length) = some 1 := by decide +kernel
theorem hde_law_783_V_2 : yX13_thrown.cls = RX13 ∧ yX13_thrown.cls ≠ "java/lang/invoke/MethodHandle" ∧ yX13_thrown.cls ≠ "java/lang/invoke/VarHandle" ∧ (parseMethodDescriptor yX13_thrown.desc).map (fun d => d.parameters.length) = some 0 := by decide +kernel
set_option maxHeartbeats 8000000 in
set_option maxRecDepth 100000 in
theorem e_law_783 {p : Program} {e : Env} {s : State} {m : MethodId} {below : List Frame} {meth : Method} {c : Code} (l : Launch) (hflags : l.stackTraces = false) (D : va_G) (cy : Nat → ClassId) (ed : Nat) {b : Nat} {xs : Nat → Int32} {Q : State → Prop} {S0 : pS} {cw : Cond} (C : pC p s m #[Value.ref b] c code 10 RL (cw :: lwU) D cy) (hE : eK (pA S0 s.heap.size) ed s s.heap) (hA : ∀ q, s.heap.size ≤ q → pA S0 s.heap.size q) (hXs : va_X b 7 xs s s.heap) (hbl : b < s.heap.size) (hbA : ¬ pA S0 s.heap.size b) (S : pS) (H : Heap) (locs : List Loc) (ls : Array Slot) (x : Nat) (mm : Nat) (jo : Nat) (dd : Nat) (ch : Nat) (ln : Nat) (sl : Nat) (mk : Nat) (co : Nat) (ca : Nat) (su : Nat) (lt : Nat) (lk : Nat) (mb : Nat) (col : Nat) (con : Nat) (cor0 : Nat) (cor1 : Nat) (cor2 : Nat) (cor3 : Nat) (cor4 : Nat) (cob0 : Nat) (cal : Nat) (can : Nat) (car0 : Nat) (car1 : Nat) (car2 : Nat) (car3 : Nat) (car4 : Nat) (cab0 : Nat) (me : Nat) (sg : Nat) (cn : Nat) (im : Nat) (hL_x : x ∈ S.1) (hf_x : S.2 x = .inr (11, [.ref ch, .ref ln, .ref sl, .ref mk, .ref co, .ref ca, .ref su, .ref lt])) (hL_ch : ch ∈ S.1) (hf_ch : S.2 ch = .inr (2, [.ref lk, .int (nI 0)])) (hL_ln : ln ∈ S.1) (hf_ln : S.2 ln = .inr (6, [.int (nI 0), .int (nI 0), .int (nI 0), .int (nI 0)])) (hL_mk : mk ∈ S.1) (hf_mk : S.2 mk = .inr (8, [.ref mb, .int (nI 320)])) (hL_mb : mb ∈ S.1) (hf_mb : S.2 mb = aN (cy 0) 320 (fun _ => 0)) (hL_co : co ∈ S.1) (hf_co : S.2 co = .inr (5, [.ref col, .ref con])) (hL_col : col ∈ S.1) (hf_col : S.2 col = aQ (cy 2) 5 (va_up (va_up (va_up (va_up (va_up (fun _ => none) 0 (some cor0)) 1 (some cor1)) 2 (some cor2)) 3 (some cor3)) 4 (some cor4))) (hL_cor0 : cor0 ∈ S.1) (hf_cor0 : S.2 cor0 = .inr (8, [.ref cob0, .int (nI 0)])) (hL_cob0 : cob0 ∈ S.1) (hf_cob0 : S.2 cob0 = aN (cy 0) 32 (fun _ => 0)) (hL_ca : ca ∈ S.1) (hf_ca : S.2 ca = .inr (5, [.ref cal, .ref can])) (hL_cal : cal ∈ S.1) (hf_cal : S.2 cal = aQ (cy 2) 5 (va_up (va_up (va_up (va_up (va_up (fun _ => none) 0 (some car0)) 1 (some car1)) 2 (some car2)) 3 (some car3)) 4 (some car4))) (hL_car0 : car0 ∈ S.1) (hf_car0 : S.2 car0 = .inr (8, [.ref cab0, .int (nI 0)])) (hL_cab0 : cab0 ∈ S.1) (hf_cab0 : S.2 cab0 = aN (cy 0) 32 (fun _ => 0)) (hL_mm : mm ∈ S.1) (hf_mm : S.2 mm = .inr (13, [.int (nI 0), .ref me, .ref sg, .ref cn, .ref im])) (hL_im : im ∈ S.1) (hf_im : S.2 im = .inl (cy 1, 320, .inl (fun _ => 0))) (hL_jo : jo ∈ S.1) (hf_jo : S.2 jo = .inl (cy 6, 1, .inr (.inl (fun _ => 0)))) (hne_cob0_mb : cob0 ≠ mb) (hne_cab0_mb : cab0 ≠ mb) (hne_cob0_cab0 : cob0 ≠ cab0) (hne_cor0_car0 : cor0 ≠ car0) (hne_mk_car0 : mk ≠ car0) (hne_jo_mb : jo ≠ mb) (hne_jo_cab0 : jo ≠ cab0) (hne_im_mb : im ≠ mb) (hne_im_cab0 : im ≠ cab0) (hne_im_jo : im ≠ jo) (hw : pW D (pA S0 s.heap.size) s.heap S H locs) (hl : lv_has ls 10 [(5, .int (nI 0)), (4, .ref dd), (3, .ref jo), (2, .ref mm), (1, .ref x), (0, .ref b)]) (kk : ∀ (S' : pS) (H' : Heap) (locs' : List Loc) (ls' : Array Slot), pW D (pA S0 s.heap.size) s.heap S' H' locs' → lv_has ls' 10 [(5, .int (nI 0)), (0, .ref b)] → W p l e room_1 s m #[Value.ref b] below meth c H' locs' 600002 7302232 Q (F0 m 1501 ls' [])) : W p l e room_1 s m #[Value.ref b] below meth c H locs 60 5026 Q (F0 m 783 ls []) := by
  have hx := C.1
  have hb := C.2.1
  refine lv_aload_n hx hb dL_law_783 rfl (lv_at hl 4 rfl) ?_
  refine lv_aload_n hx hb dL_law_784 rfl (lv_at hl 5 rfl) ?_
  refine lv_iload hx hb dL_law_785 (lv_at hl 0 rfl) ?_
  refine lv_iconst (v := nI 1) hx hb dL_law_787 (by decide) ?_
  refine n_iadd hx hb dL_law_788 ?_
  refine n_ren (b := 1) (by first | rfl | omega | simp) ?_
  refine va_sld hx hb hXs hbl hbA hw.2.2 (i := nI 1) (show vp_in (nI 1) 7 from by unfold vp_in; decide) dL_law_789 ?_
  refine lv_aload_n hx hb dL_law_790 rfl (lv_at hl 2 rfl) ?_
  refine x_calli (vx_runSX (As := [.ref x, .int (xs (nI 1).toNatClampNeg), .ref jo]) (rest := []) C.fix (e_L_mark l hflags D cy ed S H.size x jo ch ln sl mk co ca su lt lk mb col con cor0 cor1 cor2 cor3 cor4 cob0 cal can car0 car1 car2 car3 car4 cab0 (xs (nI 1).toNatClampNeg) (fun _ => 0) hL_x hf_x hL_ch hf_ch hL_ln hf_ln hL_mk hf_mk hL_mb hf_mb hL_co hf_co hL_col hf_col hL_cor0 hf_cor0 hL_cob0 hf_cob0 hL_ca hf_ca hL_cal hf_cal hL_car0 hf_car0 hL_cab0 hf_cab0 hL_jo hf_jo hne_cob0_mb hne_cab0_mb hne_cob0_cab0 hne_cor0_car0 hne_mk_car0 hne_jo_mb hne_jo_cab0) (vx_cwSW 3 C.2.2.2.2.1 (gU_S mw_725 mw_726 mw_111 (subU mw_727)) rfl rfl rfl hde_law_783_S_0 ⟨Nat.le_of_ble_eq_true rfl, Nat.le_of_ble_eq_true rfl⟩) (e_preS C hw hA hE) rfl rfl hl.1 rfl (lv_room (Nat.le_of_ble_eq_true rfl)) dL_law_791 ⟨(Nat.le_of_ble_eq_true rfl), (Nat.le_of_ble_eq_true rfl)⟩) hw hA (fun E9 ce9 q9 S1 H locs hpost hw hce9 hcv9 hcl9 => ?_) (fun r2 S1 H locs hpost hw => ?_)
  · skip
    exact hpost.elim
  rcases hpost with hpost | hpost
  · skip
    obtain ⟨hc3, hr_, hS4, hfr5, hf6⟩ := hpost
    subst hr_
    have hL7 : jo ∈ S1.1 := by rw [hS4]; exact List.mem_append_left _ hL_jo
    refine lv_istore (lv' := [(6, .int (nI 0)), (5, .int (nI 0)), (4, .ref dd), (3, .ref jo), (2, .ref mm), (1, .ref x), (0, .ref b)]) hx hb dL_law_794 hl (by decide) rfl (fun ls hl => ?_)
    refine lv_aload_n hx hb dL_law_796 rfl (lv_at hl 4 rfl) ?_
    refine lv_aload_n hx hb dL_law_797 rfl (lv_at hl 6 rfl) ?_
    refine lv_iload hx hb dL_law_798 (lv_at hl 1 rfl) ?_
    refine lv_iconst (v := nI 1) hx hb dL_law_800 (by decide) ?_
    refine n_iadd hx hb dL_law_801 ?_
    refine n_ren (b := 1) (by first | rfl | omega | simp) ?_
    refine va_sld hx hb hXs hbl hbA hw.2.2 (i := nI 1) (show vp_in (nI 1) 7 from by unfold vp_in; decide) dL_law_802 ?_
    have hL8 : mm ∈ S1.1 := by rw [hS4]; exact List.mem_append_left _ hL_mm
    have hf9 : S1.2 mm = .inr (13, [.int (nI 0), .ref me, .ref sg, .ref cn, .ref im]) := (hfr5 mm hL_mm (ne_cells hf_mm hf_mb (by nofun)) (ne_cells hf_mm hf_car0 (by nofun)) (ne_cells hf_mm hf_cab0 (by nofun)) (ne_cells hf_mm hf_jo (by nofun))).trans hf_mm
    have hL10 : im ∈ S1.1 := by rw [hS4]; exact List.mem_append_left _ hL_im
    have hf11 : S1.2 im = .inl (cy 1, 320, .inl (fun _ => 0)) := (hfr5 im hL_im hne_im_mb (ne_cells hf_im hf_car0 (by nofun)) hne_im_cab0 hne_im_jo).trans hf_im
    refine p_calli (va_runV (As := [.int (xs (nI 1).toNatClampNeg)]) (rest := []) C.fix (e_X13_mark l D cy ed S1 H.size mm me sg cn im (xs (nI 1).toNatClampNeg) hL8 hf9 hL10 hf11 ) (cwV 1 C.2.2.2.2.1 (gU_V mw_740 mw_741 mw_742 mw_5 (subU mw_743)) rfl rfl rfl hde_law_783_V_1 ⟨Nat.le_of_ble_eq_true rfl, Nat.le_of_ble_eq_true rfl⟩) (e_preV C hw hA hE hL8 hf9 rfl) rfl rfl hl.1 rfl (lv_room (Nat.le_of_ble_eq_true rfl)) dL_law_803 ⟨(Nat.le_of_ble_eq_true rfl), (Nat.le_of_ble_eq_true rfl)⟩) hw hA (fun r13 S12 H locs hpost hw => ?_)
    rcases hpost with hpost | hpost
    · skip
      obtain ⟨nl14, hc15, hr_, hS16, hfr17, hf18⟩ := hpost
      subst hr_
      have hL19 : mm ∈ S12.1 := by rw [hS16]; exact List.mem_append_left _ hL8
      refine lv_istore (lv' := [(7, .int (nI 1)), (6, .int (nI 0)), (5, .int (nI 0)), (4, .ref dd), (3, .ref jo), (2, .ref mm), (1, .ref x), (0, .ref b)]) hx hb dL_law_806 hl (by decide) rfl (fun ls hl => ?_)
      refine lv_aload_n hx hb dL_law_808 rfl (lv_at hl 5 rfl) ?_
      refine p_calli (va_runV (As := []) (rest := []) C.fix (e_X13_thrown l D cy S12 H.size mm me sg cn im 0 hL19 hf18 ) (cwV 0 C.2.2.2.2.1 (gU_V mw_544 mw_545 mw_546 mw_5 (subU mw_547)) rfl rfl rfl hde_law_783_V_2 ⟨Nat.le_of_ble_eq_true rfl, Nat.le_of_ble_eq_true rfl⟩) (p_preV C hw hL19 hf18 rfl) rfl rfl hl.1 rfl (lv_room (Nat.le_of_ble_eq_true rfl)) dL_law_809 ⟨(Nat.le_of_ble_eq_true rfl), (Nat.le_of_ble_eq_true rfl)⟩) hw hA (fun r21 S20 H locs hpost hw => ?_)
      obtain ⟨hr_, hS_⟩ := hpost
      subst hr_
      subst hS_
      refine lv_iload hx hb dL_law_812 (lv_at hl 1 rfl) ?_
      refine n_icmp_eq (tgt := 819) hx hb (by first | decide | omega) (by first | decide | omega) dL_law_814 (by decide) (fun h_814 => ?_) (fun h_814 => ?_)
      · skip
        refine lv_iload hx hb dL_law_819 (lv_at hl 1 rfl) ?_
        refine n_if_ne (tgt := 836) hx hb (by first | decide | omega) dL_law_821 (by decide) (fun h_821 => ?_) (fun h_821 => ?_)
        · exact absurd h_821 (by first | decide | omega)
        · skip
          refine lv_aload_n hx hb dL_law_824 rfl (lv_at hl 4 rfl) ?_
          refine lv_iconst (v := nI 0) hx hb dL_law_825 (by decide) ?_
          have hL22 : jo ∈ S12.1 := by rw [hS16]; exact List.mem_append_left _ hL7
          have hf23 : S12.2 jo = .inl (cy 6, 1, .inr (.inl (vp_updL (fun _ => 0) 0 ((nI 1)).toInt64))) := (hfr17 jo hL7 (ne_cells hf6 hf9 (by nofun)) (Ne.symm hne_im_jo)).trans hf6
          refine p_lald C hw 6 rfl hL22 hf23 (by decide) (by decide) dL_law_826 ?_
          refine lv_iload hx hb dL_law_827 (lv_at hl 0 rfl) ?_
          refine lv_i2l hx hb dL_law_829 rfl ?_
          refine W.lcmp hx hb dL_law_830 ?_
          refine x_ren (b := 0) (by first | exact lc_self _ | exact lc_upd _ _) ?_
          refine z_if_eq (tgt := 836) hx hb (show (0 : Int32).toInt = 0 from by decide) dL_law_831 (by decide) (fun h_831 => ?_) (fun h_831 => ?_)
          · skip
            refine lv_goto (tgt := 1501) hx hb dL_law_836 (by decide) ?_
            exact W.widen (k := 600002) (n := 7302232) (Nat.le_of_ble_eq_true rfl) (Nat.le_of_ble_eq_true rfl) (kk S12 H locs ls hw (lv_sub hl [2, 7] rfl))
          · exact absurd h_831 (by first | decide | omega)
      · exact absurd h_814 (by first | decide | omega)
    · skip
      obtain ⟨nl24, hc25, hr_, hS26, hfr27, hf28⟩ := hpost
      subst hr_
      have hL29 : mm ∈ S12.1 := by rw [hS26]; exact List.mem_append_left _ hL8
      refine lv_istore (lv' := [(7, .int (nI 0)), (6, .int (nI 0)), (5, .int (nI 0)), (4, .ref dd), (3, .ref jo), (2, .ref mm), (1, .ref x), (0, .ref b)]) hx hb dL_law_806 hl (by decide) rfl (fun ls hl => ?_)
      refine lv_aload_n hx hb dL_law_808 rfl (lv_at hl 5 rfl) ?_
      refine p_calli (va_runV (As := []) (rest := []) C.fix (e_X13_thrown l D cy S12 H.size mm me sg cn im 1 hL29 hf28 ) (cwV 0 C.2.2.2.2.1 (gU_V mw_544 mw_545 mw_546 mw_5 (subU mw_547)) rfl rfl rfl hde_law_783_V_2 ⟨Nat.le_of_ble_eq_true rfl, Nat.le_of_ble_eq_true rfl⟩) (p_preV C hw hL29 hf28 rfl) rfl rfl hl.1 rfl (lv_room (Nat.le_of_ble_eq_true rfl)) dL_law_809 ⟨(Nat.le_of_ble_eq_true rfl), (Nat.le_of_ble_eq_true rfl)⟩) hw hA (fun r31 S30 H locs hpost hw => ?_)
      obtain ⟨hr_, hS_⟩ := hpost
      subst hr_
      subst hS_
      refine lv_iload hx hb dL_law_812 (lv_at hl 1 rfl) ?_
      refine n_icmp_eq (tgt := 819) hx hb (by first | decide | omega) (by first | decide | omega) dL_law_814 (by decide) (fun h_814 => ?_) (fun h_814 => ?_)
      · exact absurd h_814 (by first | decide | omega)
      · skip
        refine lv_iconst (v := nI 0) hx hb dL_law_817 (by decide) ?_
        contradiction
  · skip
    obtain ⟨hc32, hr_, hS_⟩ := hpost
    subst hr_
    subst hS_
    refine lv_istore (lv' := [(6, .int (nI 1)), (5, .int (nI 0)), (4, .ref dd), (3, .ref jo), (2, .ref mm), (1, .ref x), (0, .ref b)]) hx hb dL_law_794 hl (by decide) rfl (fun ls hl => ?_)
    refine lv_aload_n hx hb dL_law_796 rfl (lv_at hl 4 rfl) ?_
    refine lv_aload_n hx hb dL_law_797 rfl (lv_at hl 6 rfl) ?_
    refine lv_iload hx hb dL_law_798 (lv_at hl 1 rfl) ?_
    refine lv_iconst (v := nI 1) hx hb dL_law_800 (by decide) ?_
    refine n_iadd hx hb dL_law_801 ?_
    refine n_ren (b := 1) (by first | rfl | omega | simp) ?_
    refine va_sld hx hb hXs hbl hbA hw.2.2 (i := nI 1) (show vp_in (nI 1) 7 from by unfold vp_in; decide) dL_law_802 ?_
    refine p_calli (va_runV (As := [.int (xs (nI 1).toNatClampNeg)]) (rest := []) C.fix (e_X13_mark l D cy ed S H.size mm me sg cn im (xs (nI 1).toNatClampNeg) hL_mm hf_mm hL_im hf_im ) (cwV 1 C.2.2.2.2.1 (gU_V mw_740 mw_741 mw_742 mw_5 (subU mw_743)) rfl rfl rfl hde_law_783_V_1 ⟨Nat.le_of_ble_eq_true rfl, Nat.le_of_ble_eq_true rfl⟩) (e_preV C hw hA hE hL_mm hf_mm rfl) rfl rfl hl.1 rfl (lv_room (Nat.le_of_ble_eq_true rfl)) dL_law_803 ⟨(Nat.le_of_ble_eq_true rfl), (Nat.le_of_ble_eq_true rfl)⟩) hw hA (fun r34 S33 H locs hpost hw => ?_)
    rcases hpost with hpost | hpost
    · skip
      obtain ⟨nl35, hc36, hr_, hS37, hfr38, hf39⟩ := hpost
      subst hr_
      have hL40 : mm ∈ S33.1 := by rw [hS37]; exact List.mem_append_left _ hL_mm
      refine lv_istore (lv' := [(7, .int (nI 1)), (6, .int (nI 1)), (5, .int (nI 0)), (4, .ref dd), (3, .ref jo), (2, .ref mm), (1, .ref x), (0, .ref b)]) hx hb dL_law_806 hl (by decide) rfl (fun ls hl => ?_)
      refine lv_aload_n hx hb dL_law_808 rfl (lv_at hl 5 rfl) ?_
      refine p_calli (va_runV (As := []) (rest := []) C.fix (e_X13_thrown l D cy S33 H.size mm me sg cn im 0 hL40 hf39 ) (cwV 0 C.2.2.2.2.1 (gU_V mw_544 mw_545 mw_546 mw_5 (subU mw_547)) rfl rfl rfl hde_law_783_V_2 ⟨Nat.le_of_ble_eq_true rfl, Nat.le_of_ble_eq_true rfl⟩) (p_preV C hw hL40 hf39 rfl) rfl rfl hl.1 rfl (lv_room (Nat.le_of_ble_eq_true rfl)) dL_law_809 ⟨(Nat.le_of_ble_eq_true rfl), (Nat.le_of_ble_eq_true rfl)⟩) hw hA (fun r42 S41 H locs hpost hw => ?_)
      obtain ⟨hr_, hS_⟩ := hpost
      subst hr_
      subst hS_
      refine lv_iload hx hb dL_law_812 (lv_at hl 1 rfl) ?_
      refine n_icmp_eq (tgt := 819) hx hb (by first | decide | omega) (by first | decide | omega) dL_law_814 (by decide) (fun h_814 => ?_) (fun h_814 => ?_)
      · exact absurd h_814 (by first | decide | omega)
      · skip
        refine lv_iconst (v := nI 0) hx hb dL_law_817 (by decide) ?_
        contradiction
    · skip
      obtain ⟨nl43, hc44, hr_, hS45, hfr46, hf47⟩ := hpost
      subst hr_
      have hL48 : mm ∈ S33.1 := by rw [hS45]; exact List.mem_append_left _ hL_mm
      refine lv_istore (lv' := [(7, .int (nI 0)), (6, .int (nI 1)), (5, .int (nI 0)), (4, .ref dd), (3, .ref jo), (2, .ref mm), (1, .ref x), (0, .ref b)]) hx hb dL_law_806 hl (by decide) rfl (fun ls hl => ?_)
      refine lv_aload_n hx hb dL_law_808 rfl (lv_at hl 5 rfl) ?_
      refine p_calli (va_runV (As := []) (rest := []) C.fix (e_X13_thrown l D cy S33 H.size mm me sg cn im 1 hL48 hf47 ) (cwV 0 C.2.2.2.2.1 (gU_V mw_544 mw_545 mw_546 mw_5 (subU mw_547)) rfl rfl rfl hde_law_783_V_2 ⟨Nat.le_of_ble_eq_true rfl, Nat.le_of_ble_eq_true rfl⟩) (p_preV C hw hL48 hf47 rfl) rfl rfl hl.1 rfl (lv_room (Nat.le_of_ble_eq_true rfl)) dL_law_809 ⟨(Nat.le_of_ble_eq_true rfl), (Nat.le_of_ble_eq_true rfl)⟩) hw hA (fun r50 S49 H locs hpost hw => ?_)
      obtain ⟨hr_, hS_⟩ := hpost
      subst hr_
      subst hS_
      refine lv_iload hx hb dL_law_812 (lv_at hl 1 rfl) ?_
      refine n_icmp_eq (tgt := 819) hx hb (by first | decide | omega) (by first | decide | omega) dL_law_814 (by decide) (fun h_814 => ?_) (fun h_814 => ?_)
      · skip
        refine lv_iload hx hb dL_law_819 (lv_at hl 1 rfl) ?_
        refine n_if_ne (tgt := 836) hx hb (by first | decide | omega) dL_law_821 (by decide) (fun h_821 => ?_) (fun h_821 => ?_)
        · skip
          refine lv_goto (tgt := 1501) hx hb dL_law_836 (by decide) ?_
          exact W.widen (k := 600002) (n := 7302232) (Nat.le_of_ble_eq_true rfl) (Nat.le_of_ble_eq_true rfl) (kk S33 H locs ls hw (lv_sub hl [2, 7] rfl))
        · exact absurd h_821 (by first | decide | omega)
      · exact absurd h_814 (by first | decide | omega)

theorem hde_law_839_V_0 : yX11_length.cls = RX11 ∧ yX11_length.cls ≠ "java/lang/invoke/MethodHandle" ∧ yX11_length.cls ≠ "java/lang/invoke/VarHandle" ∧ (parseMethodDescriptor yX11_length.desc).map (fun d => d.parameters.length) = some 0 := by decide +kernel
theorem hde_law_839_V_1 : yX13_length.cls = RX13 ∧ yX13_length.cls ≠ "java/lang/invoke/MethodHandle" ∧ yX13_length.cls ≠ "java/lang/invoke/VarHandle" ∧ (parseMethodDescriptor yX13_length.desc).map (fun d => d.parameters.length) = some 0 := by decide +kernel
set_option maxHeartbeats 8000000 in
set_option maxRecDepth 100000 in
theorem e_law_839 {p : Program} {e : Env} {s : State} {m : MethodId} {below : List Frame} {meth : Method} {c : Code} (l : Launch) (hflags : l.stackTraces = false) (D : va_G) (cy : Nat → ClassId) (ed : Nat) {b : Nat} {xs : Nat → Int32} {Q : State → Prop} {S0 : pS} {cw : Cond} (C : pC p s m #[Value.ref b] c code 10 RL (cw :: lwU) D cy) (hE : eK (pA S0 s.heap.size) ed s s.heap) (hA : ∀ q, s.heap.size ≤ q → pA S0 s.heap.size q) (hXs : va_X b 7 xs s s.heap) (hbl : b < s.heap.size) (hbA : ¬ pA S0 s.heap.size b) (S : pS) (H : Heap) (locs : List Loc) (ls : Array Slot) (x : Nat) (mm : Nat) (jo : Nat) (dd : Nat) (ch : Nat) (ln : Nat) (sl : Nat) (mk : Nat) (co : Nat) (ca : Nat) (su : Nat) (lt : Nat) (col : Nat) (con : Nat) (cor0 : Nat) (cor1 : Nat) (cor2 : Nat) (cor3 : Nat) (cor4 : Nat) (cob0 : Nat) (me : Nat) (sg : Nat) (cn : Nat) (im : Nat) (hL_x : x ∈ S.1) (hf_x : S.2 x = .inr (11, [.ref ch, .ref ln, .ref sl, .ref mk, .ref co, .ref ca, .ref su, .ref lt])) (hL_co : co ∈ S.1) (hf_co : S.2 co = .inr (5, [.ref col, .ref con])) (hL_col : col ∈ S.1) (hf_col : S.2 col = aQ (cy 2) 5 (va_up (va_up (va_up (va_up (va_up (fun _ => none) 0 (some cor0)) 1 (some cor1)) 2 (some cor2)) 3 (some cor3)) 4 (some cor4))) (hL_cor0 : cor0 ∈ S.1) (hf_cor0 : S.2 cor0 = .inr (8, [.ref cob0, .int (nI 0)])) (hL_mm : mm ∈ S.1) (hf_mm : S.2 mm = .inr (13, [.int (nI 0), .ref me, .ref sg, .ref cn, .ref im])) (hL_me : me ∈ S.1) (hf_me : S.2 me = .inl (cy 0, 0, .inl (fun _ => 0)))  (hw : pW D (pA S0 s.heap.size) s.heap S H locs) (hl : lv_has ls 10 [(5, .int (nI 0)), (4, .ref dd), (3, .ref jo), (2, .ref mm), (1, .ref x), (0, .ref b)]) (kk : ∀ (S' : pS) (H' : Heap) (locs' : List Loc) (ls' : Array Slot), pW D (pA S0 s.heap.size) s.heap S' H' locs' → lv_has ls' 10 [(5, .int (nI 0)), (0, .ref b)] → W p l e room_1 s m #[Value.ref b] below meth c H' locs' 600002 7302232 Q (F0 m 1501 ls' [])) : W p l e room_1 s m #[Value.ref b] below meth c H locs 60 5026 Q (F0 m 839 ls []) := by
  have hx := C.1
  have hb := C.2.1
  refine lv_aload_n hx hb dL_law_839 rfl (lv_at hl 4 rfl) ?_
  refine p_calli (va_runV (As := []) (rest := []) C.fix (e_X11_length l D cy S H.size x ch ln sl mk co ca su lt col con cor0 cor1 cor2 cor3 cor4 cob0 hL_x hf_x hL_co hf_co hL_col hf_col hL_cor0 hf_cor0 ) (cwV 0 C.2.2.2.2.1 (gU_V mw_744 mw_745 mw_746 mw_2 (subU mw_747)) rfl rfl rfl hde_law_839_V_0 ⟨Nat.le_of_ble_eq_true rfl, Nat.le_of_ble_eq_true rfl⟩) (p_preV C hw hL_x hf_x rfl) rfl rfl hl.1 rfl (lv_room (Nat.le_of_ble_eq_true rfl)) dL_law_840 ⟨(Nat.le_of_ble_eq_true rfl), (Nat.le_of_ble_eq_true rfl)⟩) hw hA (fun r2 S1 H locs hpost hw => ?_)
  obtain ⟨hr_, hS_⟩ := hpost
  subst hr_
  subst hS_
  refine lv_aload_n hx hb dL_law_843 rfl (lv_at hl 3 rfl) ?_
  refine p_calli (va_runV (As := []) (rest := [.int (nI 0)]) C.fix (e_X13_length l D cy ed S H.size mm me sg cn im hL_mm hf_mm hL_me hf_me ) (cwV 0 C.2.2.2.2.1 (gU_V mw_748 mw_749 mw_750 mw_5 (subU mw_751)) rfl rfl rfl hde_law_839_V_1 ⟨Nat.le_of_ble_eq_true rfl, Nat.le_of_ble_eq_true rfl⟩) (e_preV C hw hA hE hL_mm hf_mm rfl) rfl rfl hl.1 rfl (lv_room (Nat.le_of_ble_eq_true rfl)) dL_law_844 ⟨(Nat.le_of_ble_eq_true rfl), (Nat.le_of_ble_eq_true rfl)⟩) hw hA (fun r4 S3 H locs hpost hw => ?_)
  obtain ⟨nl5, hr_, hS6, hfr7, hf8⟩ := hpost
  subst hr_
  have hL9 : mm ∈ S3.1 := by rw [hS6]; exact List.mem_append_left _ hL_mm
  refine n_icmp_eq (tgt := 1501) hx hb (by first | decide | omega) (by first | decide | omega) dL_law_847 (by decide) (fun h_847 => ?_) (fun h_847 => ?_)
  · skip
    exact W.widen (k := 600002) (n := 7302232) (Nat.le_of_ble_eq_true rfl) (Nat.le_of_ble_eq_true rfl) (kk S3 H locs ls hw (lv_sub hl [0, 5] rfl))
  · exact absurd h_847 (by first | decide | omega)

theorem hde_law_852_V_0 : yX11_stages.cls = RX11 ∧ yX11_stages.cls ≠ "java/lang/invoke/MethodHandle" ∧ yX11_stages.cls ≠ "java/lang/invoke/VarHandle" ∧ (parseMethodDescriptor yX11_stages.desc).map (fun d => d.parameters.length) = some 0 := by decide +kernel
theorem hde_law_852_V_1 : yX13_stages.cls = RX13 ∧ yX13_stages.cls ≠ "java/lang/invoke/MethodHandle" ∧ yX13_stages.cls ≠ "java/lang/invoke/VarHandle" ∧ (parseMethodDescriptor yX13_stages.desc).map (fun d => d.parameters.length) = some 0 := by decide +kernel
set_option maxHeartbeats 8000000 in
set_option maxRecDepth 100000 in
theorem e_law_852 {p : Program} {e : Env} {s : State} {m : MethodId} {below : List Frame} {meth : Method} {c : Code} (l : Launch) (hflags : l.stackTraces = false) (D : va_G) (cy : Nat → ClassId) (ed : Nat) {b : Nat} {xs : Nat → Int32} {Q : State → Prop} {S0 : pS} {cw : Cond} (C : pC p s m #[Value.ref b] c code 10 RL (cw :: lwU) D cy) (hE : eK (pA S0 s.heap.size) ed s s.heap) (hA : ∀ q, s.heap.size ≤ q → pA S0 s.heap.size q) (hXs : va_X b 7 xs s s.heap) (hbl : b < s.heap.size) (hbA : ¬ pA S0 s.heap.size b) (S : pS) (H : Heap) (locs : List Loc) (ls : Array Slot) (x : Nat) (mm : Nat) (jo : Nat) (dd : Nat) (ch : Nat) (ln : Nat) (sl : Nat) (mk : Nat) (co : Nat) (ca : Nat) (su : Nat) (lt : Nat) (lk : Nat) (me : Nat) (sg : Nat) (cn : Nat) (im : Nat) (hL_x : x ∈ S.1) (hf_x : S.2 x = .inr (11, [.ref ch, .ref ln, .ref sl, .ref mk, .ref co, .ref ca, .ref su, .ref lt])) (hL_ch : ch ∈ S.1) (hf_ch : S.2 ch = .inr (2, [.ref lk, .int (nI 0)])) (hL_mm : mm ∈ S.1) (hf_mm : S.2 mm = .inr (13, [.int (nI 0), .ref me, .ref sg, .ref cn, .ref im])) (hL_sg : sg ∈ S.1) (hf_sg : S.2 sg = .inr (0, [.int (nI 0), .ref ed, .int (nI 0)]))  (hw : pW D (pA S0 s.heap.size) s.heap S H locs) (hl : lv_has ls 10 [(5, .int (nI 0)), (4, .ref dd), (3, .ref jo), (2, .ref mm), (1, .ref x), (0, .ref b)]) (kk : ∀ (S' : pS) (H' : Heap) (locs' : List Loc) (ls' : Array Slot), pW D (pA S0 s.heap.size) s.heap S' H' locs' → lv_has ls' 10 [(5, .int (nI 0)), (0, .ref b)] → W p l e room_1 s m #[Value.ref b] below meth c H' locs' 600002 7302232 Q (F0 m 1501 ls' [])) : W p l e room_1 s m #[Value.ref b] below meth c H locs 60 5026 Q (F0 m 852 ls []) := by
  have hx := C.1
  have hb := C.2.1
  refine lv_aload_n hx hb dL_law_852 rfl (lv_at hl 4 rfl) ?_
  refine p_calli (va_runV (As := []) (rest := []) C.fix (e_X11_stages l D cy S H.size x ch ln sl mk co ca su lt lk hL_x hf_x hL_ch hf_ch ) (cwV 0 C.2.2.2.2.1 (gU_V mw_752 mw_753 mw_754 mw_2 (subU mw_755)) rfl rfl rfl hde_law_852_V_0 ⟨Nat.le_of_ble_eq_true rfl, Nat.le_of_ble_eq_true rfl⟩) (p_preV C hw hL_x hf_x rfl) rfl rfl hl.1 rfl (lv_room (Nat.le_of_ble_eq_true rfl)) dL_law_853 ⟨(Nat.le_of_ble_eq_true rfl), (Nat.le_of_ble_eq_true rfl)⟩) hw hA (fun r2 S1 H locs hpost hw => ?_)
  obtain ⟨hr_, hS_⟩ := hpost
  subst hr_
  subst hS_
  refine lv_aload_n hx hb dL_law_856 rfl (lv_at hl 3 rfl) ?_
  refine p_calli (va_runV (As := []) (rest := [.int (nI 0)]) C.fix (e_X13_stages l D cy ed S H.size mm me sg cn im hL_mm hf_mm hL_sg hf_sg ) (cwV 0 C.2.2.2.2.1 (gU_V mw_756 mw_757 mw_758 mw_5 (subU mw_759)) rfl rfl rfl hde_law_852_V_1 ⟨Nat.le_of_ble_eq_true rfl, Nat.le_of_ble_eq_true rfl⟩) (e_preV C hw hA hE hL_mm hf_mm rfl) rfl rfl hl.1 rfl (lv_room (Nat.le_of_ble_eq_true rfl)) dL_law_857 ⟨(Nat.le_of_ble_eq_true rfl), (Nat.le_of_ble_eq_true rfl)⟩) hw hA (fun r4 S3 H locs hpost hw => ?_)
  obtain ⟨nl5, hr_, hS6, hfr7, hf8⟩ := hpost
  subst hr_
  have hL9 : mm ∈ S3.1 := by rw [hS6]; exact List.mem_append_left _ hL_mm
  refine n_icmp_eq (tgt := 1501) hx hb (by first | decide | omega) (by first | decide | omega) dL_law_860 (by decide) (fun h_860 => ?_) (fun h_860 => ?_)
  · skip
    exact W.widen (k := 600002) (n := 7302232) (Nat.le_of_ble_eq_true rfl) (Nat.le_of_ble_eq_true rfl) (kk S3 H locs ls hw (lv_sub hl [0, 5] rfl))
  · exact absurd h_860 (by first | decide | omega)
