theorem cnt_1 {f : Nat → Bool} {k : Nat} (h : f k = true) : cnt f (k + 1) = cnt f k + 1 := by
  show cnt f k + (if f k then 1 else 0) = _
  rw [h]; rfl
theorem cnt_0 {f : Nat → Bool} {k : Nat} (h : f k = false) : cnt f (k + 1) = cnt f k := by
  show cnt f k + (if f k then 1 else 0) = _
  rw [h]; rfl
theorem told_2 {cy : Nat → ClassId} {S : pS} {G T : Nat → Nat} {n : Nat} {ws : Nat → WV} {l1 l2 : va_E} {V : RV} (hP : Pic cy S G T n ws l1 l2 V) {r : Nat} (j : Nat) (hr : r < 15) : rg (V.2 r) (V.1 r) j ≤ 2 := rg_le (fun q => hP.rg2 (r := r) (by omega) q) _ _
theorem damN_0 {ws : Nat → WV} {V : RV} {j : Nat} (h : (ws j).1 ≠ 2) : damN ws V j = 0 := by
  unfold damN sDam
  rw [if_neg h]
theorem hdlaw_F_S_0 : yL_cell.cls ≠ "java/lang/invoke/MethodHandle" ∧ yL_cell.cls ≠ "java/lang/invoke/VarHandle" ∧ (parseMethodDescriptor yL_cell.desc).map (fun d => d.parameters.length) = some 2 := by decide +kernel
theorem hdlaw_F_S_1 : yL_below.cls ≠ "java/lang/invoke/MethodHandle" ∧ yL_below.cls ≠ "java/lang/invoke/VarHandle" ∧ (parseMethodDescriptor yL_below.desc).map (fun d => d.parameters.length) = some 2 := by decide +kernel
theorem hdlaw_F_V_2 : yX11_channel.cls = RX11 ∧ yX11_channel.cls ≠ "java/lang/invoke/MethodHandle" ∧ yX11_channel.cls ≠ "java/lang/invoke/VarHandle" ∧ (parseMethodDescriptor yX11_channel.desc).map (fun d => d.parameters.length) = some 4 := by decide +kernel
theorem hdlaw_F_V_3 : yX11_mark.cls = RX11 ∧ yX11_mark.cls ≠ "java/lang/invoke/MethodHandle" ∧ yX11_mark.cls ≠ "java/lang/invoke/VarHandle" ∧ (parseMethodDescriptor yX11_mark.desc).map (fun d => d.parameters.length) = some 1 := by decide +kernel
theorem hdlaw_F_V_4 : yX11_sent.cls = RX11 ∧ yX11_sent.cls ≠ "java/lang/invoke/MethodHandle" ∧ yX11_sent.cls ≠ "java/lang/invoke/VarHandle" ∧ (parseMethodDescriptor yX11_sent.desc).map (fun d => d.parameters.length) = some 0 := by decide +kernel
theorem hdlaw_F_V_5 : yX11_hurt.cls = RX11 ∧ yX11_hurt.cls ≠ "java/lang/invoke/MethodHandle" ∧ yX11_hurt.cls ≠ "java/lang/invoke/VarHandle" ∧ (parseMethodDescriptor yX11_hurt.desc).map (fun d => d.parameters.length) = some 0 := by decide +kernel
theorem hdlaw_F_V_6 : yX11_errors.cls = RX11 ∧ yX11_errors.cls ≠ "java/lang/invoke/MethodHandle" ∧ yX11_errors.cls ≠ "java/lang/invoke/VarHandle" ∧ (parseMethodDescriptor yX11_errors.desc).map (fun d => d.parameters.length) = some 0 := by decide +kernel
theorem hdlaw_F_V_7 : yX11_weak.cls = RX11 ∧ yX11_weak.cls ≠ "java/lang/invoke/MethodHandle" ∧ yX11_weak.cls ≠ "java/lang/invoke/VarHandle" ∧ (parseMethodDescriptor yX11_weak.desc).map (fun d => d.parameters.length) = some 0 := by decide +kernel
theorem hdlaw_F_V_8 : yX11_meanErrors.cls = RX11 ∧ yX11_meanErrors.cls ≠ "java/lang/invoke/MethodHandle" ∧ yX11_meanErrors.cls ≠ "java/lang/invoke/VarHandle" ∧ (parseMethodDescriptor yX11_meanErrors.desc).map (fun d => d.parameters.length) = some 2 := by decide +kernel
theorem hdlaw_F_V_9 : yX11_ofStage.cls = RX11 ∧ yX11_ofStage.cls ≠ "java/lang/invoke/MethodHandle" ∧ yX11_ofStage.cls ≠ "java/lang/invoke/VarHandle" ∧ (parseMethodDescriptor yX11_ofStage.desc).map (fun d => d.parameters.length) = some 2 := by decide +kernel
theorem hdlaw_F_V_10 : yX11_errorsWith.cls = RX11 ∧ yX11_errorsWith.cls ≠ "java/lang/invoke/MethodHandle" ∧ yX11_errorsWith.cls ≠ "java/lang/invoke/VarHandle" ∧ (parseMethodDescriptor yX11_errorsWith.desc).map (fun d => d.parameters.length) = some 1 := by decide +kernel
theorem hdlaw_F_V_11 : yX11_told.cls = RX11 ∧ yX11_told.cls ≠ "java/lang/invoke/MethodHandle" ∧ yX11_told.cls ≠ "java/lang/invoke/VarHandle" ∧ (parseMethodDescriptor yX11_told.desc).map (fun d => d.parameters.length) = some 2 := by decide +kernel
theorem hdlaw_F_V_12 : yX11_bit.cls = RX11 ∧ yX11_bit.cls ≠ "java/lang/invoke/MethodHandle" ∧ yX11_bit.cls ≠ "java/lang/invoke/VarHandle" ∧ (parseMethodDescriptor yX11_bit.desc).map (fun d => d.parameters.length) = some 2 := by decide +kernel
set_option maxHeartbeats 8000000 in
set_option maxRecDepth 100000 in
theorem law_F {p : Program} {e : Env} {s : State} {m : MethodId} {below : List Frame} {meth : Method} {c : Code} (l : Launch) (D : va_G) (cy : Nat → ClassId) (ed : Nat) {Q : State → Prop} {S : pS} {cw : Cond} (C : pC p s m #[Value.ref ed] c code 15 RL (cw :: lwU) D cy) (hE : eK (pA S s.heap.size) ed s s.heap) (hA : ∀ q, s.heap.size ≤ q → pA S s.heap.size q) {G T : Nat → Nat} {n : Nat} {ws : Nat → WV} {V : RV} {k0 a0 b0 c0 k2 : Nat} {x2 y2 z2 : Int32} {len row : Nat} {gr : Nat → Int32} (Sb : pS) (H : Heap) (locs : List Loc) (ls : Array Slot) (hP : Pic cy Sb G T n ws (.inr (5, [.int (nI k0), .int (nI a0), .int (nI b0), .int (nI c0)])) (.inr (5, [.int (nI k2), .int x2, .int y2, .int z2])) V) (hA_row : Arr cy Sb row len gr) (hk_row : ∀ k, k < 53 → row ≠ G k) (h1 : 1 ≤ len) (h8 : len ≤ 8) (hk : k0 ≤ 3) (hla : a0 < 2 ^ 30) (hlb : b0 < 2 ^ 30) (hlc : c0 < 2 ^ 30) (hLI : LI n ws k0 a0 b0 c0 len gr V) (hw : pW D (pA S s.heap.size) s.heap Sb H locs) (hl : lv_has ls 15 [(6, .int (nI n)), (2, .ref row), (1, .ref (G 0)), (0, .ref ed)]) (kk : ∀ (S' : pS) (V' : RV) (kq aq bq cq k3 : Nat) (x3 y3 z3 : Int32) (H' : Heap) (locs' : List Loc) (ls' : Array Slot), kq ≤ 3 → aq < 2 ^ 30 → bq < 2 ^ 30 → cq < 2 ^ 30 → Pic cy S' G T n ws (.inr (5, [.int (nI kq), .int (nI aq), .int (nI bq), .int (nI cq)])) (.inr (5, [.int (nI k3), .int x3, .int y3, .int z3])) V' → Arr cy S' row len gr → LI n ws kq aq bq cq len gr V' → pW D (pA S s.heap.size) s.heap S' H' locs' → lv_has ls' 15 [(6, .int (nI n)), (2, .ref row), (1, .ref (G 0)), (0, .ref ed)] → W p l e room_1 s m #[Value.ref ed] below meth c H' locs' 1942 1150027 Q (F0 m 765 ls' [])) : W p l e room_1 s m #[Value.ref ed] below meth c H locs 1942 1150027 Q (F0 m 343 ls []) := by
  have hx := C.1
  have hb := C.2.1
  obtain ⟨LL, xs, hX, hbl, hbA, hL260⟩ := id hE
  have hn4 := hP.n4
  refine lv_iconst (v := nI 0) hx hb dL_law_343 (by decide) ?_
  refine lv_istore (lv' := [(7, .int (nI 0)), (6, .int (nI n)), (2, .ref row), (1, .ref (G 0)), (0, .ref ed)]) hx hb dL_law_344 hl (by decide) rfl (fun ls hl => ?_)
  have loop346_1 : ∀ (kf : Nat) (tx : Nat) (kq : Nat) (aq : Nat) (bq : Nat) (cq : Nat) (k3 : Nat) (x3 : Int32) (y3 : Int32) (z3 : Int32), 3 - tx < kf → ∀ (Sx2 : pS) (Vx3 : RV)  (H : Heap) (locs : List Loc) (ls : Array Slot), Pic cy Sx2 G T n ws (.inr (5, [.int (nI kq), .int (nI aq), .int (nI bq), .int (nI cq)])) (.inr (5, [.int (nI k3), .int x3, .int y3, .int z3])) Vx3 → Frm G Sb Sx2 → (tx ≤ 3) → (kq ≤ 3) → (aq < 2 ^ 30) → (bq < 2 ^ 30) → (cq < 2 ^ 30) → (LI n ws kq aq bq cq len gr Vx3) → pW D (pA S s.heap.size) s.heap Sx2 H locs → lv_has ls 15 [(7, .int (nI tx)), (6, .int (nI n)), (2, .ref row), (1, .ref (G 0)), (0, .ref ed)] → W p l e room_1 s m #[Value.ref ed] below meth c H locs 1942 1150027 Q (F0 m 346 ls []) := by
    intro kf
    induction kf with
    | zero => intro tx kq aq bq cq k3 x3 y3 z3 hm; exact absurd hm (Nat.not_lt_zero _)
    | succ kf ihloop346_1 =>
      intro tx kq aq bq cq k3 x3 y3 z3 hm Sx2 Vx3  H locs ls hP4 hF5 htx hkq haq hbq hcq hLIx hw hl
      refine lv_iload hx hb dL_law_346 (lv_at hl 0 rfl) ?_
      refine lv_iconst (v := nI 3) hx hb dL_law_348 (by decide) ?_
      refine n_icmp_ge (tgt := 765) hx hb (by omega) (by decide) dL_law_349 (by decide) (fun h_349 => ?_) (fun h_349 => ?_)
      · skip
        exact kk Sx2 Vx3 kq aq bq cq k3 x3 y3 z3 H locs ls hkq haq hbq hcq hP4 (hA_row.frm hF5 hk_row) hLIx hw (lv_sub hl [1, 2, 3, 4] rfl)
      · skip
        refine lv_aload_n hx hb dL_law_352 rfl (lv_at hl 4 rfl) ?_
        refine lv_iconst (v := nI 5) hx hb dL_law_353 (by decide) ?_
        refine lv_iload hx hb dL_law_354 (lv_at hl 0 rfl) ?_
        refine n_iadd hx hb dL_law_356 ?_
        refine p_calli (va_runS (As := [.ref ed, .int (nI (5 + tx))]) (rest := []) C.fix (g_L_cell l D cy ed Sx2 H.size (5 + tx) (by omega)) (va_cwS 2 C.2.2.2.2.1 (gU_S mw_77 mw_78 mw_79 (subU mw_80)) rfl rfl rfl hdlaw_F_S_0 ⟨Nat.le_of_ble_eq_true rfl, Nat.le_of_ble_eq_true rfl⟩) (e_preS C hw hA hE) rfl rfl hl.1 rfl (lv_room (Nat.le_of_ble_eq_true rfl)) dL_law_357 ⟨(Nat.le_of_ble_eq_true rfl), (Nat.le_of_ble_eq_true rfl)⟩) hw hA (fun r7 S6 H locs hpost hw => ?_)
        subst hpost
        refine lv_istore (lv' := [(8, .int r7), (7, .int (nI tx)), (6, .int (nI n)), (2, .ref row), (1, .ref (G 0)), (0, .ref ed)]) hx hb dL_law_360 hl (by decide) rfl (fun ls hl => ?_)
        refine lv_iload hx hb dL_law_362 (lv_at hl 0 rfl) ?_
        refine lv_iconst (v := nI 4) hx hb dL_law_364 (by decide) ?_
        refine p_calli (va_runS (As := [.int r7, .int (nI 4)]) (rest := []) C.fix (g_L_below l D cy Sx2 H.size r7 4 (by first | decide | omega) (by first | decide | omega)) (va_cwS 2 C.2.2.2.2.1 (gU_S mw_82 mw_83 mw_79 (subU mw_84)) rfl rfl rfl hdlaw_F_S_1 ⟨Nat.le_of_ble_eq_true rfl, Nat.le_of_ble_eq_true rfl⟩) (p_preS C hw) rfl rfl hl.1 rfl (lv_room (Nat.le_of_ble_eq_true rfl)) dL_law_365 ⟨(Nat.le_of_ble_eq_true rfl), (Nat.le_of_ble_eq_true rfl)⟩) hw hA (fun r9 S8 H locs hpost hw => ?_)
        obtain ⟨kd, hkd, hr_, hS_⟩ := hpost
        subst hr_
        subst hS_
        refine lv_istore (lv' := [(9, .int (nI kd)), (8, .int r7), (7, .int (nI tx)), (6, .int (nI n)), (2, .ref row), (1, .ref (G 0)), (0, .ref ed)]) hx hb dL_law_368 hl (by decide) rfl (fun ls hl => ?_)
        refine lv_aload_n hx hb dL_law_370 rfl (lv_at hl 5 rfl) ?_
        refine lv_iload hx hb dL_law_371 (lv_at hl 0 rfl) ?_
        refine lv_iload hx hb dL_law_373 (lv_at hl 0 rfl) ?_
        refine lv_iconst (v := nI 2) hx hb dL_law_375 (by decide) ?_
        have join401_10 : ∀  (xa : Nat), ∀ (H : Heap) (locs : List Loc) (ls : Array Slot), (xa < 300 ∧ (kd = 2 → xa < 30)) → pW D (pA S s.heap.size) s.heap Sx2 H locs → lv_has ls 15 [(9, .int (nI kd)), (8, .int r7), (7, .int (nI tx)), (6, .int (nI n)), (2, .ref row), (1, .ref (G 0)), (0, .ref ed)] → W p l e room_1 s m #[Value.ref ed] below meth c H locs 1942 1150027 Q (F0 m 401 ls [.int (nI xa), .int (nI kd), .ref (G 0)]) := by
          intro xa     H locs ls hxa hw hl
          refine lv_iload hx hb dL_law_401 (lv_at hl 0 rfl) ?_
          refine lv_iconst (v := nI 2) hx hb dL_law_403 (by decide) ?_
          have join421_13 : ∀  (xb : Nat), ∀ (H : Heap) (locs : List Loc) (ls : Array Slot), (xb < 999 ∧ (kd = 2 → xb = 2)) → pW D (pA S s.heap.size) s.heap Sx2 H locs → lv_has ls 15 [(9, .int (nI kd)), (8, .int r7), (7, .int (nI tx)), (6, .int (nI n)), (2, .ref row), (1, .ref (G 0)), (0, .ref ed)] → W p l e room_1 s m #[Value.ref ed] below meth c H locs 1942 1150027 Q (F0 m 421 ls [.int (nI xb), .int (nI xa), .int (nI kd), .ref (G 0)]) := by
            intro xb     H locs ls hxb hw hl
            refine lv_iconst (v := nI 2) hx hb dL_law_421 (by decide) ?_
            refine lv_iload hx hb dL_law_422 (lv_at hl 1 rfl) ?_
            refine lv_iconst (v := nI 4) hx hb dL_law_424 (by decide) ?_
            refine lv_ishr hx hb dL_law_425 ?_
            refine lv_bipush (v := nI 9) hx hb dL_law_426 (by decide) ?_
            refine p_calli (va_runS (As := [.int (r7 >>> ((nI 4) &&& 31)), .int (nI 9)]) (rest := [.int (nI 2), .int (nI xb), .int (nI xa), .int (nI kd), .ref (G 0)]) C.fix (g_L_below l D cy Sx2 H.size (r7 >>> ((nI 4) &&& 31)) 9 (by first | decide | omega) (by first | decide | omega)) (va_cwS 2 C.2.2.2.2.1 (gU_S mw_82 mw_83 mw_79 (subU mw_84)) rfl rfl rfl hdlaw_F_S_1 ⟨Nat.le_of_ble_eq_true rfl, Nat.le_of_ble_eq_true rfl⟩) (p_preS C hw) rfl rfl hl.1 rfl (lv_room (Nat.le_of_ble_eq_true rfl)) dL_law_428 ⟨(Nat.le_of_ble_eq_true rfl), (Nat.le_of_ble_eq_true rfl)⟩) hw hA (fun r17 S16 H locs hpost hw => ?_)
            obtain ⟨x9, hx9, hr_, hS_⟩ := hpost
            subst hr_
            subst hS_
            refine n_iadd hx hb dL_law_431 ?_
            obtain ⟨xc, exc⟩ : ∃ z, z = 2 + x9 := ⟨_, rfl⟩
            refine n_ren (b := xc) exc.symm ?_
            refine p_calli (va_runV (As := [.int (nI kd), .int (nI xa), .int (nI xb), .int (nI xc)]) (rest := []) C.fix (g_X11_channel l D cy Sx2 H.size hP4 kd xa xb xc (by omega) (by omega) (by omega) (by omega) (fun h => ⟨by omega, by omega⟩) (fun h => ⟨by omega, by omega, by omega, by omega, by omega⟩) (hLIx.cz hP4)) (cwV 4 C.2.2.2.2.1 (gU_V mw_611 mw_612 mw_613 mw_2 (subU mw_614)) rfl rfl rfl hdlaw_F_V_2 ⟨Nat.le_of_ble_eq_true rfl, Nat.le_of_ble_eq_true rfl⟩) (p_preV C hw (hP4.mem (k := 0) (by omega)) hP4.c0 rfl) rfl rfl hl.1 rfl (lv_room (Nat.le_of_ble_eq_true rfl)) dL_law_432 ⟨(Nat.le_of_ble_eq_true rfl), (Nat.le_of_ble_eq_true rfl)⟩) hw hA (fun r19 S18 H locs hpost hw => ?_)
            obtain ⟨V22, hr_, hP20, hF21, hK23⟩ := hpost
            subst hr_
            have hT24 := hF5.trans hF21
            have hLIc := hLIx.nw hK23
            refine lv_pop hx hb dL_law_435 rfl ?_
            refine lv_aload_n hx hb dL_law_436 rfl (lv_at hl 5 rfl) ?_
            refine lv_iload hx hb dL_law_437 (lv_at hl 1 rfl) ?_
            refine lv_iconst (v := nI 5) hx hb dL_law_439 (by decide) ?_
            refine lv_ishr hx hb dL_law_440 ?_
            refine lv_bipush (v := nI 90) hx hb dL_law_441 (by decide) ?_
            refine p_calli (va_runS (As := [.int (r7 >>> ((nI 5) &&& 31)), .int (nI 90)]) (rest := [.ref (G 0)]) C.fix (g_L_below l D cy S18 H.size (r7 >>> ((nI 5) &&& 31)) 90 (by first | decide | omega) (by first | decide | omega)) (va_cwS 2 C.2.2.2.2.1 (gU_S mw_82 mw_83 mw_79 (subU mw_84)) rfl rfl rfl hdlaw_F_S_1 ⟨Nat.le_of_ble_eq_true rfl, Nat.le_of_ble_eq_true rfl⟩) (p_preS C hw) rfl rfl hl.1 rfl (lv_room (Nat.le_of_ble_eq_true rfl)) dL_law_443 ⟨(Nat.le_of_ble_eq_true rfl), (Nat.le_of_ble_eq_true rfl)⟩) hw hA (fun r26 S25 H locs hpost hw => ?_)
            obtain ⟨pm, hpm, hr_, hS_⟩ := hpost
            subst hr_
            subst hS_
            refine p_calli (va_runV (As := [.int (nI pm)]) (rest := []) C.fix (g_X11_mark l D cy S18 H.size hP20 (by omega) (by omega) (by omega) (by omega) pm (by omega) (hLIc.cz hP20)) (cwV 1 C.2.2.2.2.1 (gU_V mw_624 mw_625 mw_626 mw_2 (subU mw_627)) rfl rfl rfl hdlaw_F_V_3 ⟨Nat.le_of_ble_eq_true rfl, Nat.le_of_ble_eq_true rfl⟩) (p_preV C hw (hP20.mem (k := 0) (by omega)) hP20.c0 rfl) rfl rfl hl.1 rfl (lv_room (Nat.le_of_ble_eq_true rfl)) dL_law_446 ⟨(Nat.le_of_ble_eq_true rfl), (Nat.le_of_ble_eq_true rfl)⟩) hw hA (fun r28 S27 H locs hpost hw => ?_)
            obtain ⟨xm, Vm, hr_, hPm, hFm, hSm, h0m, h2m⟩ := hpost
            subst hr_
            have hLIm := hLIc.mk hSm h0m h2m
            have hT29 := hT24.trans hFm
            refine lv_pop hx hb dL_law_449 rfl ?_
            refine lv_iconst (v := nI 0) hx hb dL_law_450 (by decide) ?_
            refine lv_istore (lv' := [(10, .int (nI 0)), (9, .int (nI kd)), (8, .int r7), (7, .int (nI tx)), (6, .int (nI n)), (2, .ref row), (1, .ref (G 0)), (0, .ref ed)]) hx hb dL_law_451 hl (by decide) rfl (fun ls hl => ?_)
            refine lv_iconst (v := nI 0) hx hb dL_law_453 (by decide) ?_
            refine lv_istore (lv' := [(11, .int (nI 0)), (10, .int (nI 0)), (9, .int (nI kd)), (8, .int r7), (7, .int (nI tx)), (6, .int (nI n)), (2, .ref row), (1, .ref (G 0)), (0, .ref ed)]) hx hb dL_law_454 hl (by decide) rfl (fun ls hl => ?_)
            have loop456_30 : ∀ (kf : Nat) (hu : Nat) (kx : Nat), Vm.1 n - kx < kf → ∀ (H : Heap) (locs : List Loc) (ls : Array Slot), (kx ≤ Vm.1 n) → (hu = cnt (isOther (Vm.2 n) (Vm.1 n) (Vm.2 (n + 5)) (Vm.1 (n + 5))) kx) → pW D (pA S s.heap.size) s.heap S27 H locs → lv_has ls 15 [(11, .int (nI kx)), (10, .int (nI hu)), (9, .int (nI kd)), (8, .int r7), (7, .int (nI tx)), (6, .int (nI n)), (2, .ref row), (1, .ref (G 0)), (0, .ref ed)] → W p l e room_1 s m #[Value.ref ed] below meth c H locs 1942 1150027 Q (F0 m 456 ls []) := by
              intro kf
              induction kf with
              | zero => intro hu kx hm; exact absurd hm (Nat.not_lt_zero _)
              | succ kf ihloop456_30 =>
                intro hu kx hm    H locs ls hkx hhu hw hl
                have hx320 := hPm.z320 n (Nat.le_refl n)
                refine lv_iload hx hb dL_law_456 (lv_at hl 0 rfl) ?_
                refine lv_aload_n hx hb dL_law_458 rfl (lv_at hl 7 rfl) ?_
                refine p_calli (va_runV (As := []) (rest := [.int (nI kx)]) C.fix (g_X11_sent l D cy S27 H.size hPm ) (cwV 0 C.2.2.2.2.1 (gU_V mw_374 mw_375 mw_376 mw_2 (subU mw_377)) rfl rfl rfl hdlaw_F_V_4 ⟨Nat.le_of_ble_eq_true rfl, Nat.le_of_ble_eq_true rfl⟩) (p_preV C hw (hPm.mem (k := 0) (by omega)) hPm.c0 rfl) rfl rfl hl.1 rfl (lv_room (Nat.le_of_ble_eq_true rfl)) dL_law_459 ⟨(Nat.le_of_ble_eq_true rfl), (Nat.le_of_ble_eq_true rfl)⟩) hw hA (fun r34 S33 H locs hpost hw => ?_)
                obtain ⟨hr_, hS_⟩ := hpost
                subst hr_
                subst hS_
                refine n_icmp_ge (tgt := 527) hx hb (by omega) (by omega) dL_law_462 (by decide) (fun h_462 => ?_) (fun h_462 => ?_)
                · skip
                  have hhurt : hu = hurtN n Vm := by rw [hhu, show kx = Vm.1 n by omega]; rfl
                  have hhle := cnt_le (isOther (Vm.2 n) (Vm.1 n) (Vm.2 (n + 5)) (Vm.1 (n + 5))) kx
                  refine lv_iconst (v := nI 0) hx hb dL_law_527 (by decide) ?_
                  refine lv_istore (lv' := [(11, .int (nI 0)), (10, .int (nI hu)), (9, .int (nI kd)), (8, .int r7), (7, .int (nI tx)), (6, .int (nI n)), (2, .ref row), (1, .ref (G 0)), (0, .ref ed)]) hx hb dL_law_528 hl (by decide) rfl (fun ls hl => ?_)
                  refine lv_iconst (v := nI 0) hx hb dL_law_530 (by decide) ?_
                  refine lv_istore (lv' := [(12, .int (nI 0)), (11, .int (nI 0)), (10, .int (nI hu)), (9, .int (nI kd)), (8, .int r7), (7, .int (nI tx)), (6, .int (nI n)), (2, .ref row), (1, .ref (G 0)), (0, .ref ed)]) hx hb dL_law_531 hl (by decide) rfl (fun ls hl => ?_)
                  have loop533_37 : ∀ (kf : Nat) (er : Nat) (ky : Nat), len - ky < kf → ∀ (H : Heap) (locs : List Loc) (ls : Array Slot), (ky ≤ len) → (er = cnt (isOther (Vm.2 0) (Vm.1 0) (Vm.2 5) (Vm.1 5)) ky) → pW D (pA S s.heap.size) s.heap S27 H locs → lv_has ls 15 [(12, .int (nI ky)), (11, .int (nI er)), (10, .int (nI hu)), (9, .int (nI kd)), (8, .int r7), (7, .int (nI tx)), (6, .int (nI n)), (2, .ref row), (1, .ref (G 0)), (0, .ref ed)] → W p l e room_1 s m #[Value.ref ed] below meth c H locs 1942 1150027 Q (F0 m 533 ls []) := by
                    intro kf
                    induction kf with
                    | zero => intro er ky hm; exact absurd hm (Nat.not_lt_zero _)
                    | succ kf ihloop533_37 =>
                      intro er ky hm    H locs ls hky her hw hl
                      have hl0 := hLIm.2.1
                      refine lv_iload hx hb dL_law_533 (lv_at hl 0 rfl) ?_
                      refine lv_aload_n hx hb dL_law_535 rfl (lv_at hl 7 rfl) ?_
                      refine n_len C hw 0 rfl (hA_row.frm hT29 hk_row).1 (hA_row.frm hT29 hk_row).2 (n := len) rfl dL_law_536 ?_
                      refine n_icmp_ge (tgt := 589) hx hb (by omega) (by omega) dL_law_537 (by decide) (fun h_537 => ?_) (fun h_537 => ?_)
                      · skip
                        have herr : er = errN Vm := by rw [her, show ky = Vm.1 0 by omega]; rfl
                        have hele := cnt_le (isOther (Vm.2 0) (Vm.1 0) (Vm.2 5) (Vm.1 5)) ky
                        refine lv_iconst (v := nI 0) hx hb dL_law_589 (by decide) ?_
                        refine lv_istore (lv' := [(12, .int (nI 0)), (11, .int (nI er)), (10, .int (nI hu)), (9, .int (nI kd)), (8, .int r7), (7, .int (nI tx)), (6, .int (nI n)), (2, .ref row), (1, .ref (G 0)), (0, .ref ed)]) hx hb dL_law_590 hl (by decide) rfl (fun ls hl => ?_)
                        refine lv_iconst (v := nI 0) hx hb dL_law_592 (by decide) ?_
                        refine lv_istore (lv' := [(13, .int (nI 0)), (12, .int (nI 0)), (11, .int (nI er)), (10, .int (nI hu)), (9, .int (nI kd)), (8, .int r7), (7, .int (nI tx)), (6, .int (nI n)), (2, .ref row), (1, .ref (G 0)), (0, .ref ed)]) hx hb dL_law_593 hl (by decide) rfl (fun ls hl => ?_)
                        have loop595_40 : ∀ (kf : Nat) (wk : Nat) (kz : Nat), Vm.1 n - kz < kf → ∀ (Sx41 : pS) (Vx42 : RV)  (H : Heap) (locs : List Loc) (ls : Array Slot), Pic cy Sx41 G T n ws (.inr (5, [.int (nI kd), .int (nI xa), .int (nI xb), .int (nI xc)])) (.inr (5, [.int (nI k3), .int x3, .int y3, .int z3])) Vx42 → Frm G Sb Sx41 → (Kp Vm Vx42) → (kz ≤ Vm.1 n) → (wk = cnt (fun p => decide (errN Vm < eOf ws n Vm (rturn (Vm.2 (n + 5)) (Vm.1 n) p))) kz) → pW D (pA S s.heap.size) s.heap Sx41 H locs → lv_has ls 15 [(13, .int (nI kz)), (12, .int (nI wk)), (11, .int (nI er)), (10, .int (nI hu)), (9, .int (nI kd)), (8, .int r7), (7, .int (nI tx)), (6, .int (nI n)), (2, .ref row), (1, .ref (G 0)), (0, .ref ed)] → W p l e room_1 s m #[Value.ref ed] below meth c H locs 1942 1150027 Q (F0 m 595 ls []) := by
                          intro kf
                          induction kf with
                          | zero => intro wk kz hm; exact absurd hm (Nat.not_lt_zero _)
                          | succ kf ihloop595_40 =>
                            intro wk kz hm Sx41 Vx42  H locs ls hP43 hF44 hkp hkz hwk hw hl
                            have hLIy := hLIm.kp hn4 hkp
                            have hvn := (hkp n (by omega)).1
                            have hx3 := hPm.z320 n (Nat.le_refl n)
                            refine lv_iload hx hb dL_law_595 (lv_at hl 0 rfl) ?_
                            refine lv_aload_n hx hb dL_law_597 rfl (lv_at hl 9 rfl) ?_
                            refine p_calli (va_runV (As := []) (rest := [.int (nI kz)]) C.fix (g_X11_sent l D cy Sx41 H.size hP43 ) (cwV 0 C.2.2.2.2.1 (gU_V mw_374 mw_375 mw_376 mw_2 (subU mw_377)) rfl rfl rfl hdlaw_F_V_4 ⟨Nat.le_of_ble_eq_true rfl, Nat.le_of_ble_eq_true rfl⟩) (p_preV C hw (hP43.mem (k := 0) (by omega)) hP43.c0 rfl) rfl rfl hl.1 rfl (lv_room (Nat.le_of_ble_eq_true rfl)) dL_law_598 ⟨(Nat.le_of_ble_eq_true rfl), (Nat.le_of_ble_eq_true rfl)⟩) hw hA (fun r46 S45 H locs hpost hw => ?_)
                            obtain ⟨hr_, hS_⟩ := hpost
                            subst hr_
                            subst hS_
                            refine n_icmp_ge (tgt := 631) hx hb (by omega) (by omega) dL_law_601 (by decide) (fun h_601 => ?_) (fun h_601 => ?_)
                            · skip
                              have hweak : wk = weakN ws n Vm := by rw [hwk, show kz = Vm.1 n by omega]; rfl
                              have hwle := cnt_le (fun p => decide (errN Vm < eOf ws n Vm (rturn (Vm.2 (n + 5)) (Vm.1 n) p))) kz
                              refine lv_aload_n hx hb dL_law_631 rfl (lv_at hl 9 rfl) ?_
                              refine p_calli (va_runV (As := []) (rest := []) C.fix (g_X11_hurt l D cy Sx41 H.size hP43 ) (cwV 0 C.2.2.2.2.1 (gU_V mw_608 mw_511 mw_512 mw_2 (subU mw_513)) rfl rfl rfl hdlaw_F_V_5 ⟨Nat.le_of_ble_eq_true rfl, Nat.le_of_ble_eq_true rfl⟩) (p_preV C hw (hP43.mem (k := 0) (by omega)) hP43.c0 rfl) rfl rfl hl.1 rfl (lv_room (Nat.le_of_ble_eq_true rfl)) dL_law_632 ⟨(Nat.le_of_ble_eq_true rfl), (Nat.le_of_ble_eq_true rfl)⟩) hw hA (fun r50 S49 H locs hpost hw => ?_)
                              obtain ⟨hr_, hS_⟩ := hpost
                              subst hr_
                              subst hS_
                              have hq1 := hkp.hurt hn4
                              refine lv_iload hx hb dL_law_635 (lv_at hl 3 rfl) ?_
                              refine n_icmp_ne (tgt := 665) hx hb (by omega) (by omega) dL_law_637 (by decide) (fun h_637 => ?_) (fun h_637 => ?_)
                              · omega
                              · skip
                                refine lv_aload_n hx hb dL_law_640 rfl (lv_at hl 9 rfl) ?_
                                refine p_calli (va_runV (As := []) (rest := []) C.fix (g_X11_errors l D cy Sx41 H.size hP43 ) (cwV 0 C.2.2.2.2.1 (gU_V mw_609 mw_519 mw_520 mw_2 (subU mw_521)) rfl rfl rfl hdlaw_F_V_6 ⟨Nat.le_of_ble_eq_true rfl, Nat.le_of_ble_eq_true rfl⟩) (p_preV C hw (hP43.mem (k := 0) (by omega)) hP43.c0 rfl) rfl rfl hl.1 rfl (lv_room (Nat.le_of_ble_eq_true rfl)) dL_law_641 ⟨(Nat.le_of_ble_eq_true rfl), (Nat.le_of_ble_eq_true rfl)⟩) hw hA (fun r54 S53 H locs hpost hw => ?_)
                                obtain ⟨hr_, hS_⟩ := hpost
                                subst hr_
                                subst hS_
                                have hq2 := hkp.err
                                refine lv_iload hx hb dL_law_644 (lv_at hl 2 rfl) ?_
                                refine n_icmp_ne (tgt := 665) hx hb (by omega) (by omega) dL_law_646 (by decide) (fun h_646 => ?_) (fun h_646 => ?_)
                                · omega
                                · skip
                                  refine lv_aload_n hx hb dL_law_649 rfl (lv_at hl 9 rfl) ?_
                                  refine p_calli (va_runV (As := []) (rest := []) C.fix (g_X11_weak l D cy Sx41 H.size hP43 hLIy.s hLIy.u) (cwV 0 C.2.2.2.2.1 (gU_V mw_644 mw_600 mw_601 mw_2 (subU mw_602)) rfl rfl rfl hdlaw_F_V_7 ⟨Nat.le_of_ble_eq_true rfl, Nat.le_of_ble_eq_true rfl⟩) (p_preV C hw (hP43.mem (k := 0) (by omega)) hP43.c0 rfl) rfl rfl hl.1 rfl (lv_room (Nat.le_of_ble_eq_true rfl)) dL_law_650 ⟨(Nat.le_of_ble_eq_true rfl), (Nat.le_of_ble_eq_true rfl)⟩) hw hA (fun r58 S57 H locs hpost hw => ?_)
                                  obtain ⟨V61, hr_, hP59, hF60, hK62⟩ := hpost
                                  subst hr_
                                  have hT63 := hF44.trans hF60
                                  have hLI64 := hLIy.kp hP59.n4 hK62
                                  have hq3 := Kp.weaks hPm hLIm.s hkp
                                  refine lv_iload hx hb dL_law_653 (lv_at hl 1 rfl) ?_
                                  refine n_icmp_ne (tgt := 665) hx hb (by omega) (by omega) dL_law_655 (by decide) (fun h_655 => ?_) (fun h_655 => ?_)
                                  · omega
                                  · skip
                                    refine lv_iload hx hb dL_law_658 (lv_at hl 2 rfl) ?_
                                    refine lv_aload_n hx hb dL_law_660 rfl (lv_at hl 8 rfl) ?_
                                    refine n_len C hw 0 rfl (hA_row.frm hT63 hk_row).1 (hA_row.frm hT63 hk_row).2 (n := len) rfl dL_law_661 ?_
                                    refine n_icmp_le (tgt := 667) hx hb (by omega) (by omega) dL_law_662 (by decide) (fun h_662 => ?_) (fun h_662 => ?_)
                                    · skip
                                      refine lv_iconst (v := nI 0) hx hb dL_law_667 (by decide) ?_
                                      refine lv_istore (lv' := [(13, .int (nI 0)), (12, .int (nI wk)), (11, .int (nI er)), (10, .int (nI hu)), (9, .int (nI kd)), (8, .int r7), (7, .int (nI tx)), (6, .int (nI n)), (2, .ref row), (1, .ref (G 0)), (0, .ref ed)]) hx hb dL_law_668 hl (by decide) rfl (fun ls hl => ?_)
                                      have loop670_65 : ∀ (kf : Nat) (kv : Nat), n - kv < kf → ∀ (Sx66 : pS) (Vx67 : RV)  (H : Heap) (locs : List Loc) (ls : Array Slot), Pic cy Sx66 G T n ws (.inr (5, [.int (nI kd), .int (nI xa), .int (nI xb), .int (nI xc)])) (.inr (5, [.int (nI k3), .int x3, .int y3, .int z3])) Vx67 → Frm G Sb Sx66 → (Kp Vm Vx67) → (kv ≤ n) → pW D (pA S s.heap.size) s.heap Sx66 H locs → lv_has ls 15 [(13, .int (nI kv)), (12, .int (nI wk)), (11, .int (nI er)), (10, .int (nI hu)), (9, .int (nI kd)), (8, .int r7), (7, .int (nI tx)), (6, .int (nI n)), (2, .ref row), (1, .ref (G 0)), (0, .ref ed)] → W p l e room_1 s m #[Value.ref ed] below meth c H locs 1942 1150027 Q (F0 m 670 ls []) := by
                                        intro kf
                                        induction kf with
                                        | zero => intro kv hm; exact absurd hm (Nat.not_lt_zero _)
                                        | succ kf ihloop670_65 =>
                                          intro kv hm Sx66 Vx67  H locs ls hP68 hF69 hkp4 hkv hw hl
                                          have hLIv := hLIm.kp hn4 hkp4
                                          refine lv_iload hx hb dL_law_670 (lv_at hl 0 rfl) ?_
                                          refine lv_iload hx hb dL_law_672 (lv_at hl 7 rfl) ?_
                                          refine n_icmp_ge (tgt := 733) hx hb (by omega) (by omega) dL_law_674 (by decide) (fun h_674 => ?_) (fun h_674 => ?_)
                                          · skip
                                            refine lv_aload_n hx hb dL_law_733 rfl (lv_at hl 9 rfl) ?_
                                            refine lv_iconst (v := nI 0) hx hb dL_law_734 (by decide) ?_
                                            refine lv_iconst (v := nI 5) hx hb dL_law_735 (by decide) ?_
                                            refine p_calld (va_runV (As := [.int (nI 0), .int (nI 5)]) (rest := []) C.fix (g_X11_meanErrors l D cy Sx66 H.size hP68 hLIv.s hLIv.u) (cwV 2 C.2.2.2.2.1 (gU_V mw_645 mw_646 mw_647 mw_2 (subU mw_648)) rfl rfl rfl hdlaw_F_V_8 ⟨Nat.le_of_ble_eq_true rfl, Nat.le_of_ble_eq_true rfl⟩) (p_preV C hw (hP68.mem (k := 0) (by omega)) hP68.c0 rfl) rfl rfl hl.1 rfl (lv_room (Nat.le_of_ble_eq_true rfl)) dL_law_736 ⟨(Nat.le_of_ble_eq_true rfl), (Nat.le_of_ble_eq_true rfl)⟩) hw hA (fun r71 S70 H locs hpost hw => ?_)
                                            obtain ⟨sq, Vq, hsq, hr_, hPq, hFq, hKq⟩ := hpost
                                            subst hr_
                                            have hLIq := hLIv.kp hP68.n4 hKq
                                            rw [hLIv.2.1] at hsq
                                            have hT72 := hF69.trans hFq
                                            refine lv_dstore (lv' := [(13, .double (FP.ddiv (FP.i2d (nI sq)) (FP.i2d (nI 5)))), (12, .int (nI wk)), (11, .int (nI er)), (10, .int (nI hu)), (9, .int (nI kd)), (8, .int r7), (7, .int (nI tx)), (6, .int (nI n)), (2, .ref row), (1, .ref (G 0)), (0, .ref ed)]) hx hb dL_law_739 hl (by decide) rfl (fun ls hl => ?_)
                                            refine lv_dload hx hb dL_law_741 (lv_at hl 0 rfl) ?_
                                            refine lv_dconst0 hx hb dL_law_743 ?_
                                            refine lv_dcmp hx hb dL_law_744 ?_
                                            refine z_if_lt (tgt := 757) hx hb rfl dL_law_745 (by decide) (fun h_745 => ?_) (fun h_745 => ?_)
                                            · exact absurd h_745 (mean_lo (by omega))
                                            · skip
                                              refine lv_dload hx hb dL_law_748 (lv_at hl 0 rfl) ?_
                                              refine lv_aload_n hx hb dL_law_750 rfl (lv_at hl 8 rfl) ?_
                                              refine n_len C hw 0 rfl (hA_row.frm hT72 hk_row).1 (hA_row.frm hT72 hk_row).2 (n := len) rfl dL_law_751 ?_
                                              refine lv_i2d hx hb dL_law_752 ?_
                                              refine lv_dcmp hx hb dL_law_753 ?_
                                              refine z_if_le (tgt := 759) hx hb rfl dL_law_754 (by decide) (fun h_754 => ?_) (fun h_754 => ?_)
                                              · skip
                                                refine lv_iinc (v := (nI (tx + 1))) (lv' := [(7, .int (nI (tx + 1))), (13, .double (FP.ddiv (FP.i2d (nI sq)) (FP.i2d (nI 5)))), (12, .int (nI wk)), (11, .int (nI er)), (10, .int (nI hu)), (9, .int (nI kd)), (8, .int r7), (6, .int (nI n)), (2, .ref row), (1, .ref (G 0)), (0, .ref ed)]) hx hb dL_law_759 hl (k := 6) rfl (by rw [show Int32.ofInt 1 = nI 1 from by decide, nI_add]) (by decide) rfl (fun ls hl => ?_)
                                                refine lv_goto (tgt := 346) hx hb dL_law_762 (by decide) ?_
                                                exact ihloop346_1  (tx + 1) kd xa xb xc 1 (nI 0) (nI 5) (nI 0) (by omega) S70 Vq  H locs ls hPq hT72  (by omega) (by omega) (by omega) (by omega) (by omega) hLIq hw (lv_sub hl [0, 7, 8, 9, 10] rfl)
                                              · exact absurd h_754 (mean_hi hsq h8)
                                          · skip
                                            have hz6 := hP68.z320 (kv + 1) (by omega)
                                            have hm6 := mnd_le ws Vx67 kv
                                            refine lv_aload_n hx hb dL_law_677 rfl (lv_at hl 9 rfl) ?_
                                            refine lv_iload hx hb dL_law_678 (lv_at hl 0 rfl) ?_
                                            refine lv_iconst (v := nI 3) hx hb dL_law_680 (by decide) ?_
                                            refine p_calli (va_runV (As := [.int (nI kv), .int (nI 3)]) (rest := []) C.fix (g_X11_ofStage3 l D cy Sx66 H.size hP68 kv (by omega) hLIv.s hLIv.u) (cwV 2 C.2.2.2.2.1 (gU_V mw_607 mw_531 mw_532 mw_2 (subU mw_533)) rfl rfl rfl hdlaw_F_V_9 ⟨Nat.le_of_ble_eq_true rfl, Nat.le_of_ble_eq_true rfl⟩) (p_preV C hw (hP68.mem (k := 0) (by omega)) hP68.c0 rfl) rfl rfl hl.1 rfl (lv_room (Nat.le_of_ble_eq_true rfl)) dL_law_681 ⟨(Nat.le_of_ble_eq_true rfl), (Nat.le_of_ble_eq_true rfl)⟩) hw hA (fun r74 S73 H locs hpost hw => ?_)
                                            obtain ⟨V77, hr_, hP75, hF76, hK78⟩ := hpost
                                            subst hr_
                                            have hT79 := hF69.trans hF76
                                            have hLI80 := hLIv.kp hP75.n4 hK78
                                            have hKA := hK78
                                            have hz7 := (hK78 (kv + 1) (by omega)).1
                                            have hm7 := mnd_le ws V77 kv
                                            refine n_if_lt (tgt := 725) hx hb (by omega) dL_law_684 (by decide) ?_
                                            refine lv_aload_n hx hb dL_law_687 rfl (lv_at hl 9 rfl) ?_
                                            refine lv_iload hx hb dL_law_688 (lv_at hl 0 rfl) ?_
                                            refine lv_iconst (v := nI 3) hx hb dL_law_690 (by decide) ?_
                                            refine p_calli (va_runV (As := [.int (nI kv), .int (nI 3)]) (rest := []) C.fix (g_X11_ofStage3 l D cy S73 H.size hP75 kv (by omega) hLI80.s hLI80.u) (cwV 2 C.2.2.2.2.1 (gU_V mw_607 mw_531 mw_532 mw_2 (subU mw_533)) rfl rfl rfl hdlaw_F_V_9 ⟨Nat.le_of_ble_eq_true rfl, Nat.le_of_ble_eq_true rfl⟩) (p_preV C hw (hP75.mem (k := 0) (by omega)) hP75.c0 rfl) rfl rfl hl.1 rfl (lv_room (Nat.le_of_ble_eq_true rfl)) dL_law_691 ⟨(Nat.le_of_ble_eq_true rfl), (Nat.le_of_ble_eq_true rfl)⟩) hw hA (fun r82 S81 H locs hpost hw => ?_)
                                            obtain ⟨V85, hr_, hP83, hF84, hK86⟩ := hpost
                                            subst hr_
                                            have hT87 := hT79.trans hF84
                                            have hLI88 := hLI80.kp hP83.n4 hK86
                                            have hz8 := (hK86 (kv + 1) (by omega)).1
                                            refine lv_aload_n hx hb dL_law_694 rfl (lv_at hl 9 rfl) ?_
                                            refine lv_iload hx hb dL_law_695 (lv_at hl 0 rfl) ?_
                                            refine lv_iconst (v := nI 2) hx hb dL_law_697 (by decide) ?_
                                            refine p_calli (va_runV (As := [.int (nI kv), .int (nI 2)]) (rest := [.int (nI (mnd ws V77 kv))]) C.fix (g_X11_ofStage2 l D cy S81 H.size hP83 kv (by omega)) (cwV 2 C.2.2.2.2.1 (gU_V mw_607 mw_531 mw_532 mw_2 (subU mw_533)) rfl rfl rfl hdlaw_F_V_9 ⟨Nat.le_of_ble_eq_true rfl, Nat.le_of_ble_eq_true rfl⟩) (p_preV C hw (hP83.mem (k := 0) (by omega)) hP83.c0 rfl) rfl rfl hl.1 rfl (lv_room (Nat.le_of_ble_eq_true rfl)) dL_law_698 ⟨(Nat.le_of_ble_eq_true rfl), (Nat.le_of_ble_eq_true rfl)⟩) hw hA (fun r90 S89 H locs hpost hw => ?_)
                                            obtain ⟨hr_, hS_⟩ := hpost
                                            subst hr_
                                            subst hS_
                                            refine n_icmp_gt (tgt := 725) hx hb (by omega) (by omega) dL_law_701 (by decide) (fun h_701 => ?_) (fun h_701 => ?_)
                                            · omega
                                            · skip
                                              refine lv_aload_n hx hb dL_law_704 rfl (lv_at hl 9 rfl) ?_
                                              refine lv_iload hx hb dL_law_705 (lv_at hl 0 rfl) ?_
                                              refine lv_iconst (v := nI 0) hx hb dL_law_707 (by decide) ?_
                                              refine p_calli (va_runV (As := [.int (nI kv), .int (nI 0)]) (rest := []) C.fix (g_X11_ofStage0 l D cy S81 H.size hP83 kv (by omega)) (cwV 2 C.2.2.2.2.1 (gU_V mw_607 mw_531 mw_532 mw_2 (subU mw_533)) rfl rfl rfl hdlaw_F_V_9 ⟨Nat.le_of_ble_eq_true rfl, Nat.le_of_ble_eq_true rfl⟩) (p_preV C hw (hP83.mem (k := 0) (by omega)) hP83.c0 rfl) rfl rfl hl.1 rfl (lv_room (Nat.le_of_ble_eq_true rfl)) dL_law_708 ⟨(Nat.le_of_ble_eq_true rfl), (Nat.le_of_ble_eq_true rfl)⟩) hw hA (fun r94 S93 H locs hpost hw => ?_)
                                              obtain ⟨hr_, hS_⟩ := hpost
                                              subst hr_
                                              subst hS_
                                              have hkd4 := gok_k4 (hPm.gk kv (by omega))
                                              refine lv_iconst (v := nI 2) hx hb dL_law_711 (by decide) ?_
                                              refine n_icmp_eq (tgt := 727) hx hb (by omega) (by decide) dL_law_712 (by decide) (fun h_712 => ?_) (fun h_712 => ?_)
                                              · skip
                                                refine lv_iinc (v := (nI (kv + 1))) (lv' := [(13, .int (nI (kv + 1))), (12, .int (nI wk)), (11, .int (nI er)), (10, .int (nI hu)), (9, .int (nI kd)), (8, .int r7), (7, .int (nI tx)), (6, .int (nI n)), (2, .ref row), (1, .ref (G 0)), (0, .ref ed)]) hx hb dL_law_727 hl (k := 0) rfl (by rw [show Int32.ofInt 1 = nI 1 from by decide, nI_add]) (by decide) rfl (fun ls hl => ?_)
                                                refine lv_goto (tgt := 670) hx hb dL_law_730 (by decide) ?_
                                                exact ihloop670_65  (kv + 1) (by omega) S81 V85  H locs ls hP83 hT87  (Sam.trans (Sam.trans hkp4 hKA) hK86) (by omega) hw (lv_sub hl [0, 1, 2, 3, 4, 5, 6, 7, 8, 9, 10] rfl)
                                              · skip
                                                refine lv_aload_n hx hb dL_law_715 rfl (lv_at hl 9 rfl) ?_
                                                refine lv_iload hx hb dL_law_716 (lv_at hl 0 rfl) ?_
                                                refine lv_iconst (v := nI 4) hx hb dL_law_718 (by decide) ?_
                                                refine p_calli (va_runV (As := [.int (nI kv), .int (nI 4)]) (rest := []) C.fix (g_X11_ofStage4 l D cy S81 H.size hP83 kv (by omega)) (cwV 2 C.2.2.2.2.1 (gU_V mw_607 mw_531 mw_532 mw_2 (subU mw_533)) rfl rfl rfl hdlaw_F_V_9 ⟨Nat.le_of_ble_eq_true rfl, Nat.le_of_ble_eq_true rfl⟩) (p_preV C hw (hP83.mem (k := 0) (by omega)) hP83.c0 rfl) rfl rfl hl.1 rfl (lv_room (Nat.le_of_ble_eq_true rfl)) dL_law_719 ⟨(Nat.le_of_ble_eq_true rfl), (Nat.le_of_ble_eq_true rfl)⟩) hw hA (fun r98 S97 H locs hpost hw => ?_)
                                                obtain ⟨hr_, hS_⟩ := hpost
                                                subst hr_
                                                subst hS_
                                                refine n_ren (b := 0) (damN_0 h_712) ?_
                                                refine n_if_eq (tgt := 727) hx hb (by first | decide | omega) dL_law_722 (by decide) (fun h_722 => ?_) (fun h_722 => ?_)
                                                · skip
                                                  refine lv_iinc (v := (nI (kv + 1))) (lv' := [(13, .int (nI (kv + 1))), (12, .int (nI wk)), (11, .int (nI er)), (10, .int (nI hu)), (9, .int (nI kd)), (8, .int r7), (7, .int (nI tx)), (6, .int (nI n)), (2, .ref row), (1, .ref (G 0)), (0, .ref ed)]) hx hb dL_law_727 hl (k := 0) rfl (by rw [show Int32.ofInt 1 = nI 1 from by decide, nI_add]) (by decide) rfl (fun ls hl => ?_)
                                                  refine lv_goto (tgt := 670) hx hb dL_law_730 (by decide) ?_
                                                  exact ihloop670_65  (kv + 1) (by omega) S81 V85  H locs ls hP83 hT87  (Sam.trans (Sam.trans hkp4 hKA) hK86) (by omega) hw (lv_sub hl [0, 1, 2, 3, 4, 5, 6, 7, 8, 9, 10] rfl)
                                                · exact absurd h_722 (by first | decide | omega)
                                      exact loop670_65 (n - 0 + 1) 0 (by omega) S57 V61  H locs ls hP59 hT63  (Sam.trans hkp hK62) (Nat.zero_le _) hw (lv_sub hl [0, 1, 2, 3, 4, 5, 6, 7, 8, 9, 10] rfl)
                                    · omega
                            · skip
                              refine lv_iload hx hb dL_law_604 (lv_at hl 1 rfl) ?_
                              refine lv_aload_n hx hb dL_law_606 rfl (lv_at hl 9 rfl) ?_
                              refine lv_iload hx hb dL_law_607 (lv_at hl 0 rfl) ?_
                              refine p_calli (va_runV (As := [.int (nI kz)]) (rest := [.int (nI wk)]) C.fix (g_X11_errorsWith l D cy Sx41 H.size hP43 kz (by omega) hLIy.s hLIy.u) (cwV 1 C.2.2.2.2.1 (gU_V mw_640 mw_641 mw_642 mw_2 (subU mw_643)) rfl rfl rfl hdlaw_F_V_10 ⟨Nat.le_of_ble_eq_true rfl, Nat.le_of_ble_eq_true rfl⟩) (p_preV C hw (hP43.mem (k := 0) (by omega)) hP43.c0 rfl) rfl rfl hl.1 rfl (lv_room (Nat.le_of_ble_eq_true rfl)) dL_law_609 ⟨(Nat.le_of_ble_eq_true rfl), (Nat.le_of_ble_eq_true rfl)⟩) hw hA (fun r102 S101 H locs hpost hw => ?_)
                              obtain ⟨V105, hr_, hP103, hF104, hK106⟩ := hpost
                              subst hr_
                              have hT107 := hF44.trans hF104
                              have hLI108 := hLIy.kp hP103.n4 hK106
                              have heq := eow_kp hPm hLIm.s hkp kz
                              obtain ⟨ew, eew⟩ : ∃ z, z = eOf ws n Vm (rturn (Vm.2 (n + 5)) (Vm.1 n) kz) := ⟨_, rfl⟩
                              refine n_ren (b := ew) (heq.trans eew.symm) ?_
                              have hew := eOf_le ws n Vm (rturn (Vm.2 (n + 5)) (Vm.1 n) kz)
                              refine lv_iload hx hb dL_law_612 (lv_at hl 2 rfl) ?_
                              refine n_icmp_le (tgt := 621) hx hb (by omega) (by omega) dL_law_614 (by decide) (fun h_614 => ?_) (fun h_614 => ?_)
                              · skip
                                refine lv_iconst (v := nI 0) hx hb dL_law_621 (by decide) ?_
                                refine n_iadd hx hb dL_law_622 ?_
                                refine n_ren (b := wk) (by first | rfl | omega | simp) ?_
                                refine lv_istore (lv' := [(12, .int (nI wk)), (13, .int (nI kz)), (11, .int (nI er)), (10, .int (nI hu)), (9, .int (nI kd)), (8, .int r7), (7, .int (nI tx)), (6, .int (nI n)), (2, .ref row), (1, .ref (G 0)), (0, .ref ed)]) hx hb dL_law_623 hl (by decide) rfl (fun ls hl => ?_)
                                refine lv_iinc (v := (nI (kz + 1))) (lv' := [(13, .int (nI (kz + 1))), (12, .int (nI wk)), (11, .int (nI er)), (10, .int (nI hu)), (9, .int (nI kd)), (8, .int r7), (7, .int (nI tx)), (6, .int (nI n)), (2, .ref row), (1, .ref (G 0)), (0, .ref ed)]) hx hb dL_law_625 hl (k := 1) rfl (by rw [show Int32.ofInt 1 = nI 1 from by decide, nI_add]) (by decide) rfl (fun ls hl => ?_)
                                refine lv_goto (tgt := 595) hx hb dL_law_628 (by decide) ?_
                                exact ihloop595_40  wk (kz + 1) (by omega) S101 V105  H locs ls hP103 hT107  (Sam.trans hkp hK106) (by omega) (by rw [cnt_0 (decide_eq_false (by omega)), ← hwk]) hw (lv_sub hl [0, 1, 2, 3, 4, 5, 6, 7, 8, 9, 10] rfl)
                              · skip
                                refine lv_iconst (v := nI 1) hx hb dL_law_617 (by decide) ?_
                                refine lv_goto (tgt := 622) hx hb dL_law_618 (by decide) ?_
                                refine n_iadd hx hb dL_law_622 ?_
                                refine lv_istore (lv' := [(12, .int (nI (wk + 1))), (13, .int (nI kz)), (11, .int (nI er)), (10, .int (nI hu)), (9, .int (nI kd)), (8, .int r7), (7, .int (nI tx)), (6, .int (nI n)), (2, .ref row), (1, .ref (G 0)), (0, .ref ed)]) hx hb dL_law_623 hl (by decide) rfl (fun ls hl => ?_)
                                refine lv_iinc (v := (nI (kz + 1))) (lv' := [(13, .int (nI (kz + 1))), (12, .int (nI (wk + 1))), (11, .int (nI er)), (10, .int (nI hu)), (9, .int (nI kd)), (8, .int r7), (7, .int (nI tx)), (6, .int (nI n)), (2, .ref row), (1, .ref (G 0)), (0, .ref ed)]) hx hb dL_law_625 hl (k := 1) rfl (by rw [show Int32.ofInt 1 = nI 1 from by decide, nI_add]) (by decide) rfl (fun ls hl => ?_)
                                refine lv_goto (tgt := 595) hx hb dL_law_628 (by decide) ?_
                                exact ihloop595_40  (wk + 1) (kz + 1) (by omega) S101 V105  H locs ls hP103 hT107  (Sam.trans hkp hK106) (by omega) (by rw [cnt_1 (decide_eq_true (by omega)), ← hwk]) hw (lv_sub hl [0, 1, 2, 3, 4, 5, 6, 7, 8, 9, 10] rfl)
                        exact loop595_40 (Vm.1 n - 0 + 1) 0 0 (by omega) S27 Vm  H locs ls hPm hT29  Kp.id (Nat.zero_le _) rfl hw (lv_sub hl [0, 1, 2, 3, 4, 5, 6, 7, 8, 9, 10] rfl)
                      · skip
                        refine lv_iload hx hb dL_law_540 (lv_at hl 1 rfl) ?_
                        refine lv_aload_n hx hb dL_law_542 rfl (lv_at hl 8 rfl) ?_
                        refine lv_iload hx hb dL_law_543 (lv_at hl 0 rfl) ?_
                        refine lv_iconst (v := nI 1) hx hb dL_law_545 (by decide) ?_
                        refine p_calli (va_runV (As := [.int (nI ky), .int (nI 1)]) (rest := [.int (nI er)]) C.fix (g_X11_told1 l D cy S27 H.size hPm ky (by omega)) (cwV 2 C.2.2.2.2.1 (gU_V mw_636 mw_637 mw_638 mw_2 (subU mw_639)) rfl rfl rfl hdlaw_F_V_11 ⟨Nat.le_of_ble_eq_true rfl, Nat.le_of_ble_eq_true rfl⟩) (p_preV C hw (hPm.mem (k := 0) (by omega)) hPm.c0 rfl) rfl rfl hl.1 rfl (lv_room (Nat.le_of_ble_eq_true rfl)) dL_law_546 ⟨(Nat.le_of_ble_eq_true rfl), (Nat.le_of_ble_eq_true rfl)⟩) hw hA (fun r110 S109 H locs hpost hw => ?_)
                        obtain ⟨hr_, hS_⟩ := hpost
                        subst hr_
                        subst hS_
                        have ht1 := told_2 hPm (r := 5) ky (by omega)
                        obtain ⟨ta, eta⟩ : ∃ z, z = rg (Vm.2 5) (Vm.1 5) ky := ⟨_, rfl⟩
                        refine n_ren (b := ta) eta.symm ?_
                        refine lv_aload_n hx hb dL_law_549 rfl (lv_at hl 8 rfl) ?_
                        refine lv_iload hx hb dL_law_550 (lv_at hl 0 rfl) ?_
                        refine lv_iconst (v := nI 0) hx hb dL_law_552 (by decide) ?_
                        refine p_calli (va_runV (As := [.int (nI ky), .int (nI 0)]) (rest := [.int (nI ta), .int (nI er)]) C.fix (g_X11_told0 l D cy S27 H.size hPm ky (by omega)) (cwV 2 C.2.2.2.2.1 (gU_V mw_636 mw_637 mw_638 mw_2 (subU mw_639)) rfl rfl rfl hdlaw_F_V_11 ⟨Nat.le_of_ble_eq_true rfl, Nat.le_of_ble_eq_true rfl⟩) (p_preV C hw (hPm.mem (k := 0) (by omega)) hPm.c0 rfl) rfl rfl hl.1 rfl (lv_room (Nat.le_of_ble_eq_true rfl)) dL_law_553 ⟨(Nat.le_of_ble_eq_true rfl), (Nat.le_of_ble_eq_true rfl)⟩) hw hA (fun r114 S113 H locs hpost hw => ?_)
                        obtain ⟨hr_, hS_⟩ := hpost
                        subst hr_
                        subst hS_
                        have ht0 := told_2 hPm (r := 0) ky (by omega)
                        obtain ⟨tb, etb⟩ : ∃ z, z = rg (Vm.2 0) (Vm.1 0) ky := ⟨_, rfl⟩
                        refine n_ren (b := tb) etb.symm ?_
                        refine n_icmp_eq (tgt := 563) hx hb (by omega) (by omega) dL_law_556 (by decide) (fun h_556 => ?_) (fun h_556 => ?_)
                        · skip
                          refine lv_iconst (v := nI 0) hx hb dL_law_563 (by decide) ?_
                          refine n_iadd hx hb dL_law_564 ?_
                          refine n_ren (b := er) (by first | rfl | omega | simp) ?_
                          refine lv_istore (lv' := [(11, .int (nI er)), (12, .int (nI ky)), (10, .int (nI hu)), (9, .int (nI kd)), (8, .int r7), (7, .int (nI tx)), (6, .int (nI n)), (2, .ref row), (1, .ref (G 0)), (0, .ref ed)]) hx hb dL_law_565 hl (by decide) rfl (fun ls hl => ?_)
                          refine lv_aload_n hx hb dL_law_567 rfl (lv_at hl 8 rfl) ?_
                          refine lv_iload hx hb dL_law_568 (lv_at hl 1 rfl) ?_
                          refine lv_iconst (v := nI 0) hx hb dL_law_570 (by decide) ?_
                          refine p_calli (va_runV (As := [.int (nI ky), .int (nI 0)]) (rest := []) C.fix (g_X11_told0 l D cy S27 H.size hPm ky (by omega)) (cwV 2 C.2.2.2.2.1 (gU_V mw_636 mw_637 mw_638 mw_2 (subU mw_639)) rfl rfl rfl hdlaw_F_V_11 ⟨Nat.le_of_ble_eq_true rfl, Nat.le_of_ble_eq_true rfl⟩) (p_preV C hw (hPm.mem (k := 0) (by omega)) hPm.c0 rfl) rfl rfl hl.1 rfl (lv_room (Nat.le_of_ble_eq_true rfl)) dL_law_571 ⟨(Nat.le_of_ble_eq_true rfl), (Nat.le_of_ble_eq_true rfl)⟩) hw hA (fun r118 S117 H locs hpost hw => ?_)
                          obtain ⟨hr_, hS_⟩ := hpost
                          subst hr_
                          subst hS_
                          obtain ⟨tc, etc⟩ : ∃ z, z = rg (Vm.2 0) (Vm.1 0) ky := ⟨_, rfl⟩
                          refine n_ren (b := tc) etc.symm ?_
                          refine lv_aload_n hx hb dL_law_574 rfl (lv_at hl 7 rfl) ?_
                          refine lv_iload hx hb dL_law_575 (lv_at hl 1 rfl) ?_
                          refine p_ald C hw 0 rfl (hA_row.frm hT29 hk_row).1 (hA_row.frm hT29 hk_row).2 (by omega) (by omega) dL_law_577 ?_
                          refine x_ren (b := nI tc) ((hLIm.row h_537).trans (by rw [etc])) ?_
                          refine n_icmp_eq (tgt := 583) hx hb (by omega) (by omega) dL_law_578 (by decide) (fun h_578 => ?_) (fun h_578 => ?_)
                          · skip
                            refine lv_iinc (v := (nI (ky + 1))) (lv' := [(12, .int (nI (ky + 1))), (11, .int (nI er)), (10, .int (nI hu)), (9, .int (nI kd)), (8, .int r7), (7, .int (nI tx)), (6, .int (nI n)), (2, .ref row), (1, .ref (G 0)), (0, .ref ed)]) hx hb dL_law_583 hl (k := 1) rfl (by rw [show Int32.ofInt 1 = nI 1 from by decide, nI_add]) (by decide) rfl (fun ls hl => ?_)
                            refine lv_goto (tgt := 533) hx hb dL_law_586 (by decide) ?_
                            exact ihloop533_37  er (ky + 1) (by omega)    H locs ls   (by omega) (by rw [cnt_0 (decide_eq_false (by omega)), ← her]) hw (lv_sub hl [0, 1, 2, 3, 4, 5, 6, 7, 8, 9] rfl)
                          · omega
                        · skip
                          refine lv_iconst (v := nI 1) hx hb dL_law_559 (by decide) ?_
                          refine lv_goto (tgt := 564) hx hb dL_law_560 (by decide) ?_
                          refine n_iadd hx hb dL_law_564 ?_
                          refine lv_istore (lv' := [(11, .int (nI (er + 1))), (12, .int (nI ky)), (10, .int (nI hu)), (9, .int (nI kd)), (8, .int r7), (7, .int (nI tx)), (6, .int (nI n)), (2, .ref row), (1, .ref (G 0)), (0, .ref ed)]) hx hb dL_law_565 hl (by decide) rfl (fun ls hl => ?_)
                          refine lv_aload_n hx hb dL_law_567 rfl (lv_at hl 8 rfl) ?_
                          refine lv_iload hx hb dL_law_568 (lv_at hl 1 rfl) ?_
                          refine lv_iconst (v := nI 0) hx hb dL_law_570 (by decide) ?_
                          refine p_calli (va_runV (As := [.int (nI ky), .int (nI 0)]) (rest := []) C.fix (g_X11_told0 l D cy S27 H.size hPm ky (by omega)) (cwV 2 C.2.2.2.2.1 (gU_V mw_636 mw_637 mw_638 mw_2 (subU mw_639)) rfl rfl rfl hdlaw_F_V_11 ⟨Nat.le_of_ble_eq_true rfl, Nat.le_of_ble_eq_true rfl⟩) (p_preV C hw (hPm.mem (k := 0) (by omega)) hPm.c0 rfl) rfl rfl hl.1 rfl (lv_room (Nat.le_of_ble_eq_true rfl)) dL_law_571 ⟨(Nat.le_of_ble_eq_true rfl), (Nat.le_of_ble_eq_true rfl)⟩) hw hA (fun r122 S121 H locs hpost hw => ?_)
                          obtain ⟨hr_, hS_⟩ := hpost
                          subst hr_
                          subst hS_
                          obtain ⟨tc, etc⟩ : ∃ z, z = rg (Vm.2 0) (Vm.1 0) ky := ⟨_, rfl⟩
                          refine n_ren (b := tc) etc.symm ?_
                          refine lv_aload_n hx hb dL_law_574 rfl (lv_at hl 7 rfl) ?_
                          refine lv_iload hx hb dL_law_575 (lv_at hl 1 rfl) ?_
                          refine p_ald C hw 0 rfl (hA_row.frm hT29 hk_row).1 (hA_row.frm hT29 hk_row).2 (by omega) (by omega) dL_law_577 ?_
                          refine x_ren (b := nI tc) ((hLIm.row h_537).trans (by rw [etc])) ?_
                          refine n_icmp_eq (tgt := 583) hx hb (by omega) (by omega) dL_law_578 (by decide) (fun h_578 => ?_) (fun h_578 => ?_)
                          · skip
                            refine lv_iinc (v := (nI (ky + 1))) (lv' := [(12, .int (nI (ky + 1))), (11, .int (nI (er + 1))), (10, .int (nI hu)), (9, .int (nI kd)), (8, .int r7), (7, .int (nI tx)), (6, .int (nI n)), (2, .ref row), (1, .ref (G 0)), (0, .ref ed)]) hx hb dL_law_583 hl (k := 1) rfl (by rw [show Int32.ofInt 1 = nI 1 from by decide, nI_add]) (by decide) rfl (fun ls hl => ?_)
                            refine lv_goto (tgt := 533) hx hb dL_law_586 (by decide) ?_
                            exact ihloop533_37  (er + 1) (ky + 1) (by omega)    H locs ls   (by omega) (by rw [cnt_1 (decide_eq_true (by omega)), ← her]) hw (lv_sub hl [0, 1, 2, 3, 4, 5, 6, 7, 8, 9] rfl)
                          · omega
                  exact loop533_37 (len - 0 + 1) 0 0 (by omega)    H locs ls   (Nat.zero_le _) rfl hw (lv_sub hl [0, 1, 2, 3, 4, 5, 6, 7, 8, 9] rfl)
                · skip
                  have hcm := hLIm.come h_462
                  refine lv_aload_n hx hb dL_law_465 rfl (lv_at hl 7 rfl) ?_
                  refine lv_iload hx hb dL_law_466 (lv_at hl 0 rfl) ?_
                  refine lv_iconst (v := nI 1) hx hb dL_law_468 (by decide) ?_
                  refine p_calli (va_runV (As := [.int (nI kx), .int (nI 1)]) (rest := []) C.fix (g_X11_bit1 l D cy S27 H.size hPm kx (by omega) (hLIm.u n (Nat.le_refl _))) (cwV 2 C.2.2.2.2.1 (gU_V mw_632 mw_633 mw_634 mw_2 (subU mw_635)) rfl rfl rfl hdlaw_F_V_12 ⟨Nat.le_of_ble_eq_true rfl, Nat.le_of_ble_eq_true rfl⟩) (p_preV C hw (hPm.mem (k := 0) (by omega)) hPm.c0 rfl) rfl rfl hl.1 rfl (lv_room (Nat.le_of_ble_eq_true rfl)) dL_law_469 ⟨(Nat.le_of_ble_eq_true rfl), (Nat.le_of_ble_eq_true rfl)⟩) hw hA (fun r126 S125 H locs hpost hw => ?_)
                  obtain ⟨hr_, hS_⟩ := hpost
                  subst hr_
                  subst hS_
                  obtain ⟨bc, ebc⟩ : ∃ z, z = rg (Vm.2 (n + 5)) (Vm.1 (n + 5)) kx := ⟨_, rfl⟩
                  refine n_ren (b := bc) ebc.symm ?_
                  rw [← ebc] at hcm
                  obtain ⟨hc2, hc1⟩ := hcm
                  refine lv_istore (lv' := [(12, .int (nI bc)), (11, .int (nI kx)), (10, .int (nI hu)), (9, .int (nI kd)), (8, .int r7), (7, .int (nI tx)), (6, .int (nI n)), (2, .ref row), (1, .ref (G 0)), (0, .ref ed)]) hx hb dL_law_472 hl (by decide) rfl (fun ls hl => ?_)
                  refine lv_iload hx hb dL_law_474 (lv_at hl 2 rfl) ?_
                  refine lv_iload hx hb dL_law_476 (lv_at hl 0 rfl) ?_
                  refine lv_aload_n hx hb dL_law_478 rfl (lv_at hl 8 rfl) ?_
                  refine lv_iload hx hb dL_law_479 (lv_at hl 1 rfl) ?_
                  refine lv_iconst (v := nI 0) hx hb dL_law_481 (by decide) ?_
                  refine p_calli (va_runV (As := [.int (nI kx), .int (nI 0)]) (rest := [.int (nI bc), .int (nI hu)]) C.fix (g_X11_bit0 l D cy S27 H.size hPm kx (by omega)) (cwV 2 C.2.2.2.2.1 (gU_V mw_632 mw_633 mw_634 mw_2 (subU mw_635)) rfl rfl rfl hdlaw_F_V_12 ⟨Nat.le_of_ble_eq_true rfl, Nat.le_of_ble_eq_true rfl⟩) (p_preV C hw (hPm.mem (k := 0) (by omega)) hPm.c0 rfl) rfl rfl hl.1 rfl (lv_room (Nat.le_of_ble_eq_true rfl)) dL_law_482 ⟨(Nat.le_of_ble_eq_true rfl), (Nat.le_of_ble_eq_true rfl)⟩) hw hA (fun r130 S129 H locs hpost hw => ?_)
                  obtain ⟨hr_, hS_⟩ := hpost
                  subst hr_
                  subst hS_
                  have hb2 := (hLIm).1.1.le1 hLIm.b1 n (Nat.le_refl n) kx h_462
                  obtain ⟨bk, ebk⟩ : ∃ z, z = rg (Vm.2 n) (Vm.1 n) kx := ⟨_, rfl⟩
                  refine n_ren (b := bk) ebk.symm ?_
                  have hbk2 : bk ≤ 1 := by rw [ebk, rg_in h_462]; exact hb2
                  refine n_icmp_eq (tgt := 492) hx hb (by omega) (by omega) dL_law_485 (by decide) (fun h_485 => ?_) (fun h_485 => ?_)
                  · skip
                    refine lv_iconst (v := nI 0) hx hb dL_law_492 (by decide) ?_
                    refine n_iadd hx hb dL_law_493 ?_
                    refine n_ren (b := hu) (by first | rfl | omega | simp) ?_
                    refine lv_istore (lv' := [(10, .int (nI hu)), (12, .int (nI bc)), (11, .int (nI kx)), (9, .int (nI kd)), (8, .int r7), (7, .int (nI tx)), (6, .int (nI n)), (2, .ref row), (1, .ref (G 0)), (0, .ref ed)]) hx hb dL_law_494 hl (by decide) rfl (fun ls hl => ?_)
                    refine lv_iload hx hb dL_law_496 (lv_at hl 1 rfl) ?_
                    refine n_if_lt (tgt := 519) hx hb (by first | decide | omega) dL_law_498 (by decide) ?_
                    refine lv_iload hx hb dL_law_501 (lv_at hl 1 rfl) ?_
                    refine lv_iconst (v := nI 2) hx hb dL_law_503 (by decide) ?_
                    refine n_icmp_gt (tgt := 519) hx hb (by omega) (by decide) dL_law_504 (by decide) (fun h_504 => ?_) (fun h_504 => ?_)
                    · omega
                    · skip
                      refine lv_iload hx hb dL_law_507 (lv_at hl 1 rfl) ?_
                      refine lv_iconst (v := nI 2) hx hb dL_law_509 (by decide) ?_
                      refine n_icmp_ne (tgt := 521) hx hb (by omega) (by decide) dL_law_510 (by decide) (fun h_510 => ?_) (fun h_510 => ?_)
                      · skip
                        refine lv_iinc (v := (nI (kx + 1))) (lv' := [(11, .int (nI (kx + 1))), (10, .int (nI hu)), (12, .int (nI bc)), (9, .int (nI kd)), (8, .int r7), (7, .int (nI tx)), (6, .int (nI n)), (2, .ref row), (1, .ref (G 0)), (0, .ref ed)]) hx hb dL_law_521 hl (k := 2) rfl (by rw [show Int32.ofInt 1 = nI 1 from by decide, nI_add]) (by decide) rfl (fun ls hl => ?_)
                        refine lv_goto (tgt := 456) hx hb dL_law_524 (by decide) ?_
                        exact ihloop456_30  hu (kx + 1) (by omega)    H locs ls   (by omega) (by rw [cnt_0 (decide_eq_false (by omega)), ← hhu]) hw (lv_sub hl [0, 1, 3, 4, 5, 6, 7, 8, 9] rfl)
                      · skip
                        refine lv_iload hx hb dL_law_513 (lv_at hl 3 rfl) ?_
                        refine lv_iconst (v := nI 3) hx hb dL_law_515 (by decide) ?_
                        refine n_icmp_eq (tgt := 521) hx hb (by omega) (by decide) dL_law_516 (by decide) (fun h_516 => ?_) (fun h_516 => ?_)
                        · skip
                          refine lv_iinc (v := (nI (kx + 1))) (lv' := [(11, .int (nI (kx + 1))), (10, .int (nI hu)), (12, .int (nI bc)), (9, .int (nI kd)), (8, .int r7), (7, .int (nI tx)), (6, .int (nI n)), (2, .ref row), (1, .ref (G 0)), (0, .ref ed)]) hx hb dL_law_521 hl (k := 2) rfl (by rw [show Int32.ofInt 1 = nI 1 from by decide, nI_add]) (by decide) rfl (fun ls hl => ?_)
                          refine lv_goto (tgt := 456) hx hb dL_law_524 (by decide) ?_
                          exact ihloop456_30  hu (kx + 1) (by omega)    H locs ls   (by omega) (by rw [cnt_0 (decide_eq_false (by omega)), ← hhu]) hw (lv_sub hl [0, 1, 3, 4, 5, 6, 7, 8, 9] rfl)
                        · exact absurd (hc1 h_516) (by omega)
                  · skip
                    refine lv_iconst (v := nI 1) hx hb dL_law_488 (by decide) ?_
                    refine lv_goto (tgt := 493) hx hb dL_law_489 (by decide) ?_
                    refine n_iadd hx hb dL_law_493 ?_
                    refine lv_istore (lv' := [(10, .int (nI (hu + 1))), (12, .int (nI bc)), (11, .int (nI kx)), (9, .int (nI kd)), (8, .int r7), (7, .int (nI tx)), (6, .int (nI n)), (2, .ref row), (1, .ref (G 0)), (0, .ref ed)]) hx hb dL_law_494 hl (by decide) rfl (fun ls hl => ?_)
                    refine lv_iload hx hb dL_law_496 (lv_at hl 1 rfl) ?_
                    refine n_if_lt (tgt := 519) hx hb (by first | decide | omega) dL_law_498 (by decide) ?_
                    refine lv_iload hx hb dL_law_501 (lv_at hl 1 rfl) ?_
                    refine lv_iconst (v := nI 2) hx hb dL_law_503 (by decide) ?_
                    refine n_icmp_gt (tgt := 519) hx hb (by omega) (by decide) dL_law_504 (by decide) (fun h_504 => ?_) (fun h_504 => ?_)
                    · omega
                    · skip
                      refine lv_iload hx hb dL_law_507 (lv_at hl 1 rfl) ?_
                      refine lv_iconst (v := nI 2) hx hb dL_law_509 (by decide) ?_
                      refine n_icmp_ne (tgt := 521) hx hb (by omega) (by decide) dL_law_510 (by decide) (fun h_510 => ?_) (fun h_510 => ?_)
                      · skip
                        refine lv_iinc (v := (nI (kx + 1))) (lv' := [(11, .int (nI (kx + 1))), (10, .int (nI (hu + 1))), (12, .int (nI bc)), (9, .int (nI kd)), (8, .int r7), (7, .int (nI tx)), (6, .int (nI n)), (2, .ref row), (1, .ref (G 0)), (0, .ref ed)]) hx hb dL_law_521 hl (k := 2) rfl (by rw [show Int32.ofInt 1 = nI 1 from by decide, nI_add]) (by decide) rfl (fun ls hl => ?_)
                        refine lv_goto (tgt := 456) hx hb dL_law_524 (by decide) ?_
                        exact ihloop456_30  (hu + 1) (kx + 1) (by omega)    H locs ls   (by omega) (by rw [cnt_1 (decide_eq_true (by omega)), ← hhu]) hw (lv_sub hl [0, 1, 3, 4, 5, 6, 7, 8, 9] rfl)
                      · skip
                        refine lv_iload hx hb dL_law_513 (lv_at hl 3 rfl) ?_
                        refine lv_iconst (v := nI 3) hx hb dL_law_515 (by decide) ?_
                        refine n_icmp_eq (tgt := 521) hx hb (by omega) (by decide) dL_law_516 (by decide) (fun h_516 => ?_) (fun h_516 => ?_)
                        · skip
                          refine lv_iinc (v := (nI (kx + 1))) (lv' := [(11, .int (nI (kx + 1))), (10, .int (nI (hu + 1))), (12, .int (nI bc)), (9, .int (nI kd)), (8, .int r7), (7, .int (nI tx)), (6, .int (nI n)), (2, .ref row), (1, .ref (G 0)), (0, .ref ed)]) hx hb dL_law_521 hl (k := 2) rfl (by rw [show Int32.ofInt 1 = nI 1 from by decide, nI_add]) (by decide) rfl (fun ls hl => ?_)
                          refine lv_goto (tgt := 456) hx hb dL_law_524 (by decide) ?_
                          exact ihloop456_30  (hu + 1) (kx + 1) (by omega)    H locs ls   (by omega) (by rw [cnt_1 (decide_eq_true (by omega)), ← hhu]) hw (lv_sub hl [0, 1, 3, 4, 5, 6, 7, 8, 9] rfl)
                        · exact absurd (hc1 h_516) (by omega)
            exact loop456_30 (Vm.1 n - 0 + 1) 0 0 (by omega)    H locs ls   (Nat.zero_le _) rfl hw (lv_sub hl [0, 1, 2, 3, 4, 5, 6, 7, 8] rfl)
          refine n_icmp_ne (tgt := 411) hx hb (by omega) (by decide) dL_law_404 (by decide) (fun h_404 => ?_) (fun h_404 => ?_)
          · skip
            refine lv_iload hx hb dL_law_411 (lv_at hl 1 rfl) ?_
            refine lv_iconst (v := nI 3) hx hb dL_law_413 (by decide) ?_
            refine lv_ishr hx hb dL_law_414 ?_
            refine lv_sipush (v := nI 999) hx hb dL_law_415 (by decide) ?_
            refine p_calli (va_runS (As := [.int (r7 >>> ((nI 3) &&& 31)), .int (nI 999)]) (rest := [.int (nI xa), .int (nI kd), .ref (G 0)]) C.fix (g_L_below l D cy Sx2 H.size (r7 >>> ((nI 3) &&& 31)) 999 (by first | decide | omega) (by first | decide | omega)) (va_cwS 2 C.2.2.2.2.1 (gU_S mw_82 mw_83 mw_79 (subU mw_84)) rfl rfl rfl hdlaw_F_S_1 ⟨Nat.le_of_ble_eq_true rfl, Nat.le_of_ble_eq_true rfl⟩) (p_preS C hw) rfl rfl hl.1 rfl (lv_room (Nat.le_of_ble_eq_true rfl)) dL_law_418 ⟨(Nat.le_of_ble_eq_true rfl), (Nat.le_of_ble_eq_true rfl)⟩) hw hA (fun r134 S133 H locs hpost hw => ?_)
            obtain ⟨t135, ht135, hr_, hS_⟩ := hpost
            subst hr_
            subst hS_
            exact join421_13  t135     H locs ls   (⟨by omega, fun _ => by omega⟩) hw (lv_sub hl [0, 1, 2, 3, 4, 5, 6] rfl)
          · skip
            refine lv_iconst (v := nI 2) hx hb dL_law_407 (by decide) ?_
            refine lv_goto (tgt := 421) hx hb dL_law_408 (by decide) ?_
            exact join421_13  2     H locs ls   (⟨by omega, fun _ => by omega⟩) hw (lv_sub hl [0, 1, 2, 3, 4, 5, 6] rfl)
        refine n_icmp_ne (tgt := 391) hx hb (by omega) (by decide) dL_law_376 (by decide) (fun h_376 => ?_) (fun h_376 => ?_)
        · skip
          refine lv_iload hx hb dL_law_391 (lv_at hl 1 rfl) ?_
          refine lv_iconst (v := nI 2) hx hb dL_law_393 (by decide) ?_
          refine lv_ishr hx hb dL_law_394 ?_
          refine lv_sipush (v := nI 300) hx hb dL_law_395 (by decide) ?_
          refine p_calli (va_runS (As := [.int (r7 >>> ((nI 2) &&& 31)), .int (nI 300)]) (rest := [.int (nI kd), .ref (G 0)]) C.fix (g_L_below l D cy Sx2 H.size (r7 >>> ((nI 2) &&& 31)) 300 (by first | decide | omega) (by first | decide | omega)) (va_cwS 2 C.2.2.2.2.1 (gU_S mw_82 mw_83 mw_79 (subU mw_84)) rfl rfl rfl hdlaw_F_S_1 ⟨Nat.le_of_ble_eq_true rfl, Nat.le_of_ble_eq_true rfl⟩) (p_preS C hw) rfl rfl hl.1 rfl (lv_room (Nat.le_of_ble_eq_true rfl)) dL_law_398 ⟨(Nat.le_of_ble_eq_true rfl), (Nat.le_of_ble_eq_true rfl)⟩) hw hA (fun r137 S136 H locs hpost hw => ?_)
          obtain ⟨t138, ht138, hr_, hS_⟩ := hpost
          subst hr_
          subst hS_
          exact join401_10  t138     H locs ls   (⟨by omega, fun _ => by omega⟩) hw (lv_sub hl [0, 1, 2, 3, 4, 5, 6] rfl)
        · skip
          refine lv_iload hx hb dL_law_379 (lv_at hl 1 rfl) ?_
          refine lv_iconst (v := nI 2) hx hb dL_law_381 (by decide) ?_
          refine lv_ishr hx hb dL_law_382 ?_
          refine lv_bipush (v := nI 30) hx hb dL_law_383 (by decide) ?_
          refine p_calli (va_runS (As := [.int (r7 >>> ((nI 2) &&& 31)), .int (nI 30)]) (rest := [.int (nI kd), .ref (G 0)]) C.fix (g_L_below l D cy Sx2 H.size (r7 >>> ((nI 2) &&& 31)) 30 (by first | decide | omega) (by first | decide | omega)) (va_cwS 2 C.2.2.2.2.1 (gU_S mw_82 mw_83 mw_79 (subU mw_84)) rfl rfl rfl hdlaw_F_S_1 ⟨Nat.le_of_ble_eq_true rfl, Nat.le_of_ble_eq_true rfl⟩) (p_preS C hw) rfl rfl hl.1 rfl (lv_room (Nat.le_of_ble_eq_true rfl)) dL_law_385 ⟨(Nat.le_of_ble_eq_true rfl), (Nat.le_of_ble_eq_true rfl)⟩) hw hA (fun r140 S139 H locs hpost hw => ?_)
          obtain ⟨t141, ht141, hr_, hS_⟩ := hpost
          subst hr_
          subst hS_
          refine lv_goto (tgt := 401) hx hb dL_law_388 (by decide) ?_
          exact join401_10  t141     H locs ls   (⟨by omega, fun _ => by omega⟩) hw (lv_sub hl [0, 1, 2, 3, 4, 5, 6] rfl)
  exact loop346_1 (3 - 0 + 1) 0 k0 a0 b0 c0 k2 x2 y2 z2 (by omega) Sb V  H locs ls hP Frm.id  (by omega) hk hla hlb hlc hLI hw (lv_sub hl [0, 1, 2, 3, 4] rfl)

theorem hdlaw_G1_V_0 : yX11_drop.cls = RX11 ∧ yX11_drop.cls ≠ "java/lang/invoke/MethodHandle" ∧ yX11_drop.cls ≠ "java/lang/invoke/VarHandle" ∧ (parseMethodDescriptor yX11_drop.desc).map (fun d => d.parameters.length) = some 0 := by decide +kernel
theorem hdlaw_G1_V_1 : yX11_sent.cls = RX11 ∧ yX11_sent.cls ≠ "java/lang/invoke/MethodHandle" ∧ yX11_sent.cls ≠ "java/lang/invoke/VarHandle" ∧ (parseMethodDescriptor yX11_sent.desc).map (fun d => d.parameters.length) = some 0 := by decide +kernel
theorem hdlaw_G1_V_2 : yX11_ofStage.cls = RX11 ∧ yX11_ofStage.cls ≠ "java/lang/invoke/MethodHandle" ∧ yX11_ofStage.cls ≠ "java/lang/invoke/VarHandle" ∧ (parseMethodDescriptor yX11_ofStage.desc).map (fun d => d.parameters.length) = some 2 := by decide +kernel
set_option maxHeartbeats 8000000 in
set_option maxRecDepth 100000 in
theorem law_G1 {p : Program} {e : Env} {s : State} {m : MethodId} {below : List Frame} {meth : Method} {c : Code} (l : Launch) (D : va_G) (cy : Nat → ClassId) (ed : Nat) {Q : State → Prop} {S : pS} {cw : Cond} (C : pC p s m #[Value.ref ed] c code 15 RL (cw :: lwU) D cy) (hE : eK (pA S s.heap.size) ed s s.heap) (hA : ∀ q, s.heap.size ≤ q → pA S s.heap.size q) {G T : Nat → Nat} {n1 : Nat} {ws : Nat → WV} {V : RV} {k0 a0 b0 c0 k2 : Nat} {x2 y2 z2 : Int32} {len row : Nat} {gr : Nat → Int32} (Sb : pS) (H : Heap) (locs : List Loc) (ls : Array Slot) (hP : Pic cy Sb G T (n1 + 1) ws (.inr (5, [.int (nI k0), .int (nI a0), .int (nI b0), .int (nI c0)])) (.inr (5, [.int (nI k2), .int x2, .int y2, .int z2])) V) (hA_row : Arr cy Sb row len gr) (hk_row : ∀ k, k < 53 → row ≠ G k) (h1 : 1 ≤ len) (h8 : len ≤ 8) (hk : k0 ≤ 3) (hla : a0 < 2 ^ 30) (hlb : b0 < 2 ^ 30) (hlc : c0 < 2 ^ 30) (hLI : LI (n1 + 1) ws k0 a0 b0 c0 len gr V) (hw : pW D (pA S s.heap.size) s.heap Sb H locs) (hl : lv_has ls 15 [(6, .int (nI (n1 + 1))), (2, .ref row), (1, .ref (G 0)), (0, .ref ed)]) (kk : ∀ (S' : pS) (H' : Heap) (locs' : List Loc) (ls' : Array Slot), pW D (pA S s.heap.size) s.heap S' H' locs' → W p l e room_1 s m #[Value.ref ed] below meth c H' locs' 1942 1150027 Q (F0 m 813 ls' [.int (nI 1)])) : W p l e room_1 s m #[Value.ref ed] below meth c H locs 1942 1150027 Q (F0 m 770 ls []) := by
  have hx := C.1
  have hb := C.2.1
  obtain ⟨LL, xs, hX, hbl, hbA, hL260⟩ := id hE
  have hn4 := hP.n4
  refine lv_aload_n hx hb dL_law_770 rfl (lv_at hl 2 rfl) ?_
  refine p_calli (va_runV (As := []) (rest := []) C.fix (g_X11_drop l D cy Sb H.size hP hk hla hlb hlc (fun j hj => hLI.cz hP j (by omega))) (cwV 0 C.2.2.2.2.1 (gU_V mw_649 mw_650 mw_651 mw_2 (subU mw_652)) rfl rfl rfl hdlaw_G1_V_0 ⟨Nat.le_of_ble_eq_true rfl, Nat.le_of_ble_eq_true rfl⟩) (p_preV C hw (hP.mem (k := 0) (by omega)) hP.c0 rfl) rfl rfl hl.1 rfl (lv_room (Nat.le_of_ble_eq_true rfl)) dL_law_771 ⟨(Nat.le_of_ble_eq_true rfl), (Nat.le_of_ble_eq_true rfl)⟩) hw hA (fun r2 S1 H locs hpost hw => ?_)
  obtain ⟨V5, hr_, hP3, hF4, hK6⟩ := hpost
  subst hr_
  have hLId := hLI.nw hK6
  have hz9 := hP3.z320 n1 (Nat.le_refl n1)
  have hl0 := hLId.2.1
  refine lv_iload hx hb dL_law_774 (lv_at hl 0 rfl) ?_
  refine lv_iconst (v := nI 1) hx hb dL_law_776 (by decide) ?_
  refine n_isub hx hb (by omega) dL_law_777 ?_
  refine n_icmp_ne (tgt := 812) hx hb (by omega) (by omega) dL_law_778 (by decide) (fun h_778 => ?_) (fun h_778 => ?_)
  · omega
  · skip
    refine lv_aload_n hx hb dL_law_781 rfl (lv_at hl 2 rfl) ?_
    refine p_calli (va_runV (As := []) (rest := []) C.fix (g_X11_sent l D cy S1 H.size hP3 ) (cwV 0 C.2.2.2.2.1 (gU_V mw_374 mw_375 mw_376 mw_2 (subU mw_377)) rfl rfl rfl hdlaw_G1_V_1 ⟨Nat.le_of_ble_eq_true rfl, Nat.le_of_ble_eq_true rfl⟩) (p_preV C hw (hP3.mem (k := 0) (by omega)) hP3.c0 rfl) rfl rfl hl.1 rfl (lv_room (Nat.le_of_ble_eq_true rfl)) dL_law_782 ⟨(Nat.le_of_ble_eq_true rfl), (Nat.le_of_ble_eq_true rfl)⟩) hw hA (fun r8 S7 H locs hpost hw => ?_)
    obtain ⟨hr_, hS_⟩ := hpost
    subst hr_
    subst hS_
    refine lv_iload hx hb dL_law_785 (lv_at hl 0 rfl) ?_
    refine lv_iconst (v := nI 1) hx hb dL_law_787 (by decide) ?_
    refine n_icmp_ne (tgt := 796) hx hb (by omega) (by decide) dL_law_788 (by decide) (fun h_788 => ?_) (fun h_788 => ?_)
    · skip
      have ek : n1 + 1 - 2 + 1 = n1 := by omega
      have hz3 : V5.1 (n1 + 1 - 2 + 1) = V5.1 n1 := by rw [ek]
      refine lv_aload_n hx hb dL_law_796 rfl (lv_at hl 2 rfl) ?_
      refine lv_iload hx hb dL_law_797 (lv_at hl 0 rfl) ?_
      refine lv_iconst (v := nI 2) hx hb dL_law_799 (by decide) ?_
      refine n_isub hx hb (by omega) dL_law_800 ?_
      refine lv_iconst (v := nI 2) hx hb dL_law_801 (by decide) ?_
      refine p_calli (va_runV (As := [.int (nI ((n1 + 1) - 2)), .int (nI 2)]) (rest := [.int (nI (V5.1 n1))]) C.fix (g_X11_ofStage2 l D cy S1 H.size hP3 ((n1 + 1) - 2) (by omega)) (cwV 2 C.2.2.2.2.1 (gU_V mw_607 mw_531 mw_532 mw_2 (subU mw_533)) rfl rfl rfl hdlaw_G1_V_2 ⟨Nat.le_of_ble_eq_true rfl, Nat.le_of_ble_eq_true rfl⟩) (p_preV C hw (hP3.mem (k := 0) (by omega)) hP3.c0 rfl) rfl rfl hl.1 rfl (lv_room (Nat.le_of_ble_eq_true rfl)) dL_law_802 ⟨(Nat.le_of_ble_eq_true rfl), (Nat.le_of_ble_eq_true rfl)⟩) hw hA (fun r12 S11 H locs hpost hw => ?_)
      obtain ⟨hr_, hS_⟩ := hpost
      subst hr_
      subst hS_
      refine n_icmp_ne (tgt := 812) hx hb (by omega) (by omega) dL_law_805 (by decide) (fun h_805 => ?_) (fun h_805 => ?_)
      · omega
      · skip
        refine lv_iconst (v := nI 1) hx hb dL_law_808 (by decide) ?_
        refine lv_goto (tgt := 813) hx hb dL_law_809 (by decide) ?_
        exact kk S1 H locs ls hw
    · skip
      have hz3 : V5.1 n1 = len := by rw [show n1 = 0 by omega]; exact hl0
      refine lv_aload_n hx hb dL_law_791 rfl (lv_at hl 1 rfl) ?_
      refine n_len C hw 0 rfl (hA_row.frm hF4 hk_row).1 (hA_row.frm hF4 hk_row).2 (n := len) rfl dL_law_792 ?_
      refine lv_goto (tgt := 805) hx hb dL_law_793 (by decide) ?_
      refine n_icmp_ne (tgt := 812) hx hb (by omega) (by omega) dL_law_805 (by decide) (fun h_805 => ?_) (fun h_805 => ?_)
      · omega
      · skip
        refine lv_iconst (v := nI 1) hx hb dL_law_808 (by decide) ?_
        refine lv_goto (tgt := 813) hx hb dL_law_809 (by decide) ?_
        exact kk S1 H locs ls hw

set_option maxHeartbeats 8000000 in
set_option maxRecDepth 100000 in
theorem law_G {p : Program} {e : Env} {s : State} {m : MethodId} {below : List Frame} {meth : Method} {c : Code} (l : Launch) (D : va_G) (cy : Nat → ClassId) (ed : Nat) {Q : State → Prop} {S : pS} {cw : Cond} (C : pC p s m #[Value.ref ed] c code 15 RL (cw :: lwU) D cy) (hE : eK (pA S s.heap.size) ed s s.heap) (hA : ∀ q, s.heap.size ≤ q → pA S s.heap.size q) {G T : Nat → Nat} {n : Nat} {ws : Nat → WV} {V : RV} {k0 a0 b0 c0 k2 : Nat} {x2 y2 z2 : Int32} {len row : Nat} {gr : Nat → Int32} (Sb : pS) (H : Heap) (locs : List Loc) (ls : Array Slot) (hP : Pic cy Sb G T n ws (.inr (5, [.int (nI k0), .int (nI a0), .int (nI b0), .int (nI c0)])) (.inr (5, [.int (nI k2), .int x2, .int y2, .int z2])) V) (hA_row : Arr cy Sb row len gr) (hk_row : ∀ k, k < 53 → row ≠ G k) (h1 : 1 ≤ len) (h8 : len ≤ 8) (hk : k0 ≤ 3) (hla : a0 < 2 ^ 30) (hlb : b0 < 2 ^ 30) (hlc : c0 < 2 ^ 30) (hLI : LI n ws k0 a0 b0 c0 len gr V) (hw : pW D (pA S s.heap.size) s.heap Sb H locs) (hl : lv_has ls 15 [(6, .int (nI n)), (2, .ref row), (1, .ref (G 0)), (0, .ref ed)]) (kk : ∀ (S' : pS) (H' : Heap) (locs' : List Loc) (ls' : Array Slot), pW D (pA S s.heap.size) s.heap S' H' locs' → W p l e room_1 s m #[Value.ref ed] below meth c H' locs' 1942 1150027 Q (F0 m 813 ls' [.int (nI 1)])) : W p l e room_1 s m #[Value.ref ed] below meth c H locs 1942 1150027 Q (F0 m 765 ls []) := by
  have hx := C.1
  have hb := C.2.1
  obtain ⟨LL, xs, hX, hbl, hbA, hL260⟩ := id hE
  have hn4 := hP.n4
  refine lv_iload hx hb dL_law_765 (lv_at hl 0 rfl) ?_
  refine n_if_eq (tgt := 808) hx hb (by omega) dL_law_767 (by decide) (fun h_767 => ?_) (fun h_767 => ?_)
  · skip
    refine lv_iconst (v := nI 1) hx hb dL_law_808 (by decide) ?_
    refine lv_goto (tgt := 813) hx hb dL_law_809 (by decide) ?_
    exact kk Sb H locs ls hw
  · skip
    obtain ⟨n1, rfl⟩ : ∃ j, n = j + 1 := ⟨n - 1, by omega⟩
    exact law_G1 l D cy ed C hE hA Sb H locs ls hP hA_row hk_row h1 h8 hk hla hlb hlc hLI hw (lv_sub hl [0, 1, 2, 3] rfl) kk
