theorem gok_k4 {w : WV} (h : gok w) : w.1 ≤ 4 := by
  rcases h with ⟨h, -⟩ | ⟨h, -⟩ | ⟨h, -⟩ | ⟨h, -⟩ | ⟨h, -⟩ <;> omega
theorem brkN_le (ws : Nat → WV) (n : Nat) (V : RV) (fr : Nat) : brkN ws n V fr ≤ V.1 n - fr := by
  unfold brkN
  rcases Nat.eq_zero_or_pos (brk (fun m => eOf ws n V (trn (V.2 n) fr m)) (V.1 n - fr)) with h | h
  · omega
  · exact (brk_e (by omega)).2
theorem hdlaw_D_V_0 : yX11_sent.cls = RX11 ∧ yX11_sent.cls ≠ "java/lang/invoke/MethodHandle" ∧ yX11_sent.cls ≠ "java/lang/invoke/VarHandle" ∧ (parseMethodDescriptor yX11_sent.desc).map (fun d => d.parameters.length) = some 0 := by decide +kernel
theorem hdlaw_D_V_1 : yX11_ofStage.cls = RX11 ∧ yX11_ofStage.cls ≠ "java/lang/invoke/MethodHandle" ∧ yX11_ofStage.cls ≠ "java/lang/invoke/VarHandle" ∧ (parseMethodDescriptor yX11_ofStage.desc).map (fun d => d.parameters.length) = some 2 := by decide +kernel
theorem hdlaw_D_V_2 : yX11_hurt.cls = RX11 ∧ yX11_hurt.cls ≠ "java/lang/invoke/MethodHandle" ∧ yX11_hurt.cls ≠ "java/lang/invoke/VarHandle" ∧ (parseMethodDescriptor yX11_hurt.desc).map (fun d => d.parameters.length) = some 0 := by decide +kernel
theorem hdlaw_D_V_3 : yX11_digest.cls = RX11 ∧ yX11_digest.cls ≠ "java/lang/invoke/MethodHandle" ∧ yX11_digest.cls ≠ "java/lang/invoke/VarHandle" ∧ (parseMethodDescriptor yX11_digest.desc).map (fun d => d.parameters.length) = some 0 := by decide +kernel
theorem hdlaw_D_V_4 : yX11_errors.cls = RX11 ∧ yX11_errors.cls ≠ "java/lang/invoke/MethodHandle" ∧ yX11_errors.cls ≠ "java/lang/invoke/VarHandle" ∧ (parseMethodDescriptor yX11_errors.desc).map (fun d => d.parameters.length) = some 0 := by decide +kernel
set_option maxHeartbeats 8000000 in
set_option maxRecDepth 100000 in
theorem law_D {p : Program} {e : Env} {s : State} {m : MethodId} {below : List Frame} {meth : Method} {c : Code} (l : Launch) (D : va_G) (cy : Nat → ClassId) (ed : Nat) {Q : State → Prop} {S : pS} {cw : Cond} (C : pC p s m #[Value.ref ed] c code 15 RL (cw :: lwU) D cy) (hE : eK (pA S s.heap.size) ed s s.heap) (hA : ∀ q, s.heap.size ≤ q → pA S s.heap.size q) {G T : Nat → Nat} {n : Nat} {ws : Nat → WV} {V : RV} {k0 a0 b0 c0 k2 ap : Nat} {x2 y2 z2 : Int32} {sm : Int64} {len row : Nat} {gr : Nat → Int32} (Sb : pS) (H : Heap) (locs : List Loc) (ls : Array Slot) (hP : Pic cy Sb G T n ws (.inr (5, [.int (nI k0), .int (nI a0), .int (nI b0), .int (nI c0)])) (.inr (5, [.int (nI k2), .int x2, .int y2, .int z2])) V) (hA_row : Arr cy Sb row len gr) (hk_row : ∀ k, k < 53 → row ≠ G k) (h1 : 1 ≤ len) (h8 : len ≤ 8) (hk0 : k0 = 0) (hLI : LI n ws k0 a0 b0 c0 len gr V) (h90 : V.1 n ≤ 90) (hm15 : V.2 15 = fun _ => 0) (hsm : dgt n ws V = sm) (hap : ap = 0 ∨ ap = 1 ∧ ∀ j, j < n → 0 < sApart (ws j)) (hw : pW D (pA S s.heap.size) s.heap Sb H locs) (hl : lv_has ls 15 [(6, .int (nI n)), (4, .long sm), (3, .int (nI ap)), (2, .ref row), (1, .ref (G 0)), (0, .ref ed)]) (kk : ∀ (S' : pS) (V' : RV) (H' : Heap) (locs' : List Loc) (ls' : Array Slot), Pic cy S' G T n ws (.inr (5, [.int (nI k0), .int (nI a0), .int (nI b0), .int (nI c0)])) (.inr (5, [.int (nI k2), .int x2, .int y2, .int z2])) V' → Arr cy S' row len gr → LI n ws k0 a0 b0 c0 len gr V' → V'.1 n ≤ 90 → pW D (pA S s.heap.size) s.heap S' H' locs' → lv_has ls' 15 [(6, .int (nI n)), (2, .ref row), (1, .ref (G 0)), (0, .ref ed)] → W p l e room_1 s m #[Value.ref ed] below meth c H' locs' 1942 1150027 Q (F0 m 258 ls' [])) : W p l e room_1 s m #[Value.ref ed] below meth c H locs 1942 1150027 Q (F0 m 202 ls []) := by
  have hx := C.1
  have hb := C.2.1
  obtain ⟨LL, xs, hX, hbl, hbA, hL260⟩ := id hE
  have hn4 := hP.n4
  have hLI0 : LI n ws 0 a0 b0 c0 len gr V := by rw [hk0] at hLI; exact hLI
  have hl0 := hLI.2.1
  have hz1 := hP.z320 n (Nat.le_refl n)
  refine lv_aload_n hx hb dL_law_202 rfl (lv_at hl 4 rfl) ?_
  refine p_calli (va_runV (As := []) (rest := []) C.fix (g_X11_sent l D cy Sb H.size hP ) (cwV 0 C.2.2.2.2.1 (gU_V mw_374 mw_375 mw_376 mw_2 (subU mw_377)) rfl rfl rfl hdlaw_D_V_0 ⟨Nat.le_of_ble_eq_true rfl, Nat.le_of_ble_eq_true rfl⟩) (p_preV C hw (hP.mem (k := 0) (by omega)) hP.c0 rfl) rfl rfl hl.1 rfl (lv_room (Nat.le_of_ble_eq_true rfl)) dL_law_203 ⟨(Nat.le_of_ble_eq_true rfl), (Nat.le_of_ble_eq_true rfl)⟩) hw hA (fun r2 S1 H locs hpost hw => ?_)
  obtain ⟨hr_, hS_⟩ := hpost
  subst hr_
  subst hS_
  refine lv_iload hx hb dL_law_206 (lv_at hl 0 rfl) ?_
  refine n_if_ne (tgt := 216) hx hb (by omega) dL_law_208 (by decide) (fun h_208 => ?_) (fun h_208 => ?_)
  · skip
    have ek : n - 1 + 1 = n := by omega
    have hz3 : V.1 (n - 1 + 1) = V.1 n := by rw [ek]
    refine lv_aload_n hx hb dL_law_216 rfl (lv_at hl 4 rfl) ?_
    refine lv_iload hx hb dL_law_217 (lv_at hl 0 rfl) ?_
    refine lv_iconst (v := nI 1) hx hb dL_law_219 (by decide) ?_
    refine n_isub hx hb (by omega) dL_law_220 ?_
    refine lv_iconst (v := nI 2) hx hb dL_law_221 (by decide) ?_
    refine p_calli (va_runV (As := [.int (nI (n - 1)), .int (nI 2)]) (rest := [.int (nI (V.1 n))]) C.fix (g_X11_ofStage2 l D cy Sb H.size hP (n - 1) (by omega)) (cwV 2 C.2.2.2.2.1 (gU_V mw_607 mw_531 mw_532 mw_2 (subU mw_533)) rfl rfl rfl hdlaw_D_V_1 ⟨Nat.le_of_ble_eq_true rfl, Nat.le_of_ble_eq_true rfl⟩) (p_preV C hw (hP.mem (k := 0) (by omega)) hP.c0 rfl) rfl rfl hl.1 rfl (lv_room (Nat.le_of_ble_eq_true rfl)) dL_law_222 ⟨(Nat.le_of_ble_eq_true rfl), (Nat.le_of_ble_eq_true rfl)⟩) hw hA (fun r6 S5 H locs hpost hw => ?_)
    obtain ⟨hr_, hS_⟩ := hpost
    subst hr_
    subst hS_
    refine n_icmp_ne (tgt := 256) hx hb (by omega) (by omega) dL_law_225 (by decide) (fun h_225 => ?_) (fun h_225 => ?_)
    · omega
    · skip
      refine lv_aload_n hx hb dL_law_228 rfl (lv_at hl 4 rfl) ?_
      refine p_calli (va_runV (As := []) (rest := []) C.fix (g_X11_hurt l D cy Sb H.size hP ) (cwV 0 C.2.2.2.2.1 (gU_V mw_608 mw_511 mw_512 mw_2 (subU mw_513)) rfl rfl rfl hdlaw_D_V_2 ⟨Nat.le_of_ble_eq_true rfl, Nat.le_of_ble_eq_true rfl⟩) (p_preV C hw (hP.mem (k := 0) (by omega)) hP.c0 rfl) rfl rfl hl.1 rfl (lv_room (Nat.le_of_ble_eq_true rfl)) dL_law_229 ⟨(Nat.le_of_ble_eq_true rfl), (Nat.le_of_ble_eq_true rfl)⟩) hw hA (fun r10 S9 H locs hpost hw => ?_)
      obtain ⟨hr_, hS_⟩ := hpost
      subst hr_
      subst hS_
      refine n_ren (b := 0) (hLI0.hurt0 hm15) ?_
      refine n_if_ne (tgt := 256) hx hb (by first | decide | omega) dL_law_232 (by decide) (fun h_232 => ?_) (fun h_232 => ?_)
      · exact absurd h_232 (by first | decide | omega)
      · skip
        refine lv_iload_n hx hb dL_law_235 rfl (lv_at hl 2 rfl) ?_
        refine n_if_eq (tgt := 246) hx hb (by rcases hap with e | ⟨e, -⟩ <;> omega) dL_law_236 (by decide) (fun h_236 => ?_) (fun h_236 => ?_)
        · skip
          refine lv_aload_n hx hb dL_law_246 rfl (lv_at hl 4 rfl) ?_
          refine p_calll (va_runV (As := []) (rest := []) C.fix (g_X11_digest l D cy Sb H.size hP hLI.s hLI.u) (cwV 0 C.2.2.2.2.1 (gU_V mw_498 mw_499 mw_500 mw_2 (subU mw_501)) rfl rfl rfl hdlaw_D_V_3 ⟨Nat.le_of_ble_eq_true rfl, Nat.le_of_ble_eq_true rfl⟩) (p_preV C hw (hP.mem (k := 0) (by omega)) hP.c0 rfl) rfl rfl hl.1 rfl (lv_room (Nat.le_of_ble_eq_true rfl)) dL_law_247 ⟨(Nat.le_of_ble_eq_true rfl), (Nat.le_of_ble_eq_true rfl)⟩) hw hA (fun r14 S13 H locs hpost hw => ?_)
          obtain ⟨V17, hr_, hP15, hF16, hK18⟩ := hpost
          subst hr_
          have hLI19 := hLI.kp hP15.n4 hK18
          refine l_rn (b := sm) hsm ?_
          refine lv_lload hx hb dL_law_250 (lv_at hl 1 rfl) ?_
          refine W.lcmp hx hb dL_law_252 ?_
          refine x_ren (b := 0) (lc_self _) ?_
          refine z_if_eq (tgt := 258) hx hb (show (0 : Int32).toInt = 0 from by decide) dL_law_253 (by decide) (fun h_253 => ?_) (fun h_253 => ?_)
          · skip
            exact kk S13 V17 H locs ls hP15 (hA_row.frm hF16 hk_row) hLI19 (by rw [(hK18 n (by omega)).1]; exact h90) hw (lv_sub hl [0, 3, 4, 5] rfl)
          · exact absurd h_253 (by first | decide | omega)
        · skip
          refine lv_aload_n hx hb dL_law_239 rfl (lv_at hl 4 rfl) ?_
          refine p_calli (va_runV (As := []) (rest := []) C.fix (g_X11_errors l D cy Sb H.size hP ) (cwV 0 C.2.2.2.2.1 (gU_V mw_609 mw_519 mw_520 mw_2 (subU mw_521)) rfl rfl rfl hdlaw_D_V_4 ⟨Nat.le_of_ble_eq_true rfl, Nat.le_of_ble_eq_true rfl⟩) (p_preV C hw (hP.mem (k := 0) (by omega)) hP.c0 rfl) rfl rfl hl.1 rfl (lv_room (Nat.le_of_ble_eq_true rfl)) dL_law_240 ⟨(Nat.le_of_ble_eq_true rfl), (Nat.le_of_ble_eq_true rfl)⟩) hw hA (fun r21 S20 H locs hpost hw => ?_)
          obtain ⟨hr_, hS_⟩ := hpost
          subst hr_
          subst hS_
          refine n_ren (b := 0) (hLI0.err0 hP hm15 (hap.elim (fun e => absurd e (by omega)) (fun h => h.2))) ?_
          refine n_if_ne (tgt := 256) hx hb (by first | decide | omega) dL_law_243 (by decide) (fun h_243 => ?_) (fun h_243 => ?_)
          · exact absurd h_243 (by first | decide | omega)
          · skip
            refine lv_aload_n hx hb dL_law_246 rfl (lv_at hl 4 rfl) ?_
            refine p_calll (va_runV (As := []) (rest := []) C.fix (g_X11_digest l D cy Sb H.size hP hLI.s hLI.u) (cwV 0 C.2.2.2.2.1 (gU_V mw_498 mw_499 mw_500 mw_2 (subU mw_501)) rfl rfl rfl hdlaw_D_V_3 ⟨Nat.le_of_ble_eq_true rfl, Nat.le_of_ble_eq_true rfl⟩) (p_preV C hw (hP.mem (k := 0) (by omega)) hP.c0 rfl) rfl rfl hl.1 rfl (lv_room (Nat.le_of_ble_eq_true rfl)) dL_law_247 ⟨(Nat.le_of_ble_eq_true rfl), (Nat.le_of_ble_eq_true rfl)⟩) hw hA (fun r25 S24 H locs hpost hw => ?_)
            obtain ⟨V28, hr_, hP26, hF27, hK29⟩ := hpost
            subst hr_
            have hLI30 := hLI.kp hP26.n4 hK29
            refine l_rn (b := sm) hsm ?_
            refine lv_lload hx hb dL_law_250 (lv_at hl 1 rfl) ?_
            refine W.lcmp hx hb dL_law_252 ?_
            refine x_ren (b := 0) (lc_self _) ?_
            refine z_if_eq (tgt := 258) hx hb (show (0 : Int32).toInt = 0 from by decide) dL_law_253 (by decide) (fun h_253 => ?_) (fun h_253 => ?_)
            · skip
              exact kk S24 V28 H locs ls hP26 (hA_row.frm hF27 hk_row) hLI30 (by rw [(hK29 n (by omega)).1]; exact h90) hw (lv_sub hl [0, 3, 4, 5] rfl)
            · exact absurd h_253 (by first | decide | omega)
  · skip
    have hz3 : V.1 n = len := by rw [h_208]; exact hl0
    refine lv_aload_n hx hb dL_law_211 rfl (lv_at hl 3 rfl) ?_
    refine n_len C hw 0 rfl hA_row.1 hA_row.2 (n := len) rfl dL_law_212 ?_
    refine lv_goto (tgt := 225) hx hb dL_law_213 (by decide) ?_
    refine n_icmp_ne (tgt := 256) hx hb (by omega) (by omega) dL_law_225 (by decide) (fun h_225 => ?_) (fun h_225 => ?_)
    · omega
    · skip
      refine lv_aload_n hx hb dL_law_228 rfl (lv_at hl 4 rfl) ?_
      refine p_calli (va_runV (As := []) (rest := []) C.fix (g_X11_hurt l D cy Sb H.size hP ) (cwV 0 C.2.2.2.2.1 (gU_V mw_608 mw_511 mw_512 mw_2 (subU mw_513)) rfl rfl rfl hdlaw_D_V_2 ⟨Nat.le_of_ble_eq_true rfl, Nat.le_of_ble_eq_true rfl⟩) (p_preV C hw (hP.mem (k := 0) (by omega)) hP.c0 rfl) rfl rfl hl.1 rfl (lv_room (Nat.le_of_ble_eq_true rfl)) dL_law_229 ⟨(Nat.le_of_ble_eq_true rfl), (Nat.le_of_ble_eq_true rfl)⟩) hw hA (fun r32 S31 H locs hpost hw => ?_)
      obtain ⟨hr_, hS_⟩ := hpost
      subst hr_
      subst hS_
      refine n_ren (b := 0) (hLI0.hurt0 hm15) ?_
      refine n_if_ne (tgt := 256) hx hb (by first | decide | omega) dL_law_232 (by decide) (fun h_232 => ?_) (fun h_232 => ?_)
      · exact absurd h_232 (by first | decide | omega)
      · skip
        refine lv_iload_n hx hb dL_law_235 rfl (lv_at hl 2 rfl) ?_
        refine n_if_eq (tgt := 246) hx hb (by rcases hap with e | ⟨e, -⟩ <;> omega) dL_law_236 (by decide) (fun h_236 => ?_) (fun h_236 => ?_)
        · skip
          refine lv_aload_n hx hb dL_law_246 rfl (lv_at hl 4 rfl) ?_
          refine p_calll (va_runV (As := []) (rest := []) C.fix (g_X11_digest l D cy Sb H.size hP hLI.s hLI.u) (cwV 0 C.2.2.2.2.1 (gU_V mw_498 mw_499 mw_500 mw_2 (subU mw_501)) rfl rfl rfl hdlaw_D_V_3 ⟨Nat.le_of_ble_eq_true rfl, Nat.le_of_ble_eq_true rfl⟩) (p_preV C hw (hP.mem (k := 0) (by omega)) hP.c0 rfl) rfl rfl hl.1 rfl (lv_room (Nat.le_of_ble_eq_true rfl)) dL_law_247 ⟨(Nat.le_of_ble_eq_true rfl), (Nat.le_of_ble_eq_true rfl)⟩) hw hA (fun r36 S35 H locs hpost hw => ?_)
          obtain ⟨V39, hr_, hP37, hF38, hK40⟩ := hpost
          subst hr_
          have hLI41 := hLI.kp hP37.n4 hK40
          refine l_rn (b := sm) hsm ?_
          refine lv_lload hx hb dL_law_250 (lv_at hl 1 rfl) ?_
          refine W.lcmp hx hb dL_law_252 ?_
          refine x_ren (b := 0) (lc_self _) ?_
          refine z_if_eq (tgt := 258) hx hb (show (0 : Int32).toInt = 0 from by decide) dL_law_253 (by decide) (fun h_253 => ?_) (fun h_253 => ?_)
          · skip
            exact kk S35 V39 H locs ls hP37 (hA_row.frm hF38 hk_row) hLI41 (by rw [(hK40 n (by omega)).1]; exact h90) hw (lv_sub hl [0, 3, 4, 5] rfl)
          · exact absurd h_253 (by first | decide | omega)
        · skip
          refine lv_aload_n hx hb dL_law_239 rfl (lv_at hl 4 rfl) ?_
          refine p_calli (va_runV (As := []) (rest := []) C.fix (g_X11_errors l D cy Sb H.size hP ) (cwV 0 C.2.2.2.2.1 (gU_V mw_609 mw_519 mw_520 mw_2 (subU mw_521)) rfl rfl rfl hdlaw_D_V_4 ⟨Nat.le_of_ble_eq_true rfl, Nat.le_of_ble_eq_true rfl⟩) (p_preV C hw (hP.mem (k := 0) (by omega)) hP.c0 rfl) rfl rfl hl.1 rfl (lv_room (Nat.le_of_ble_eq_true rfl)) dL_law_240 ⟨(Nat.le_of_ble_eq_true rfl), (Nat.le_of_ble_eq_true rfl)⟩) hw hA (fun r43 S42 H locs hpost hw => ?_)
          obtain ⟨hr_, hS_⟩ := hpost
          subst hr_
          subst hS_
          refine n_ren (b := 0) (hLI0.err0 hP hm15 (hap.elim (fun e => absurd e (by omega)) (fun h => h.2))) ?_
          refine n_if_ne (tgt := 256) hx hb (by first | decide | omega) dL_law_243 (by decide) (fun h_243 => ?_) (fun h_243 => ?_)
          · exact absurd h_243 (by first | decide | omega)
          · skip
            refine lv_aload_n hx hb dL_law_246 rfl (lv_at hl 4 rfl) ?_
            refine p_calll (va_runV (As := []) (rest := []) C.fix (g_X11_digest l D cy Sb H.size hP hLI.s hLI.u) (cwV 0 C.2.2.2.2.1 (gU_V mw_498 mw_499 mw_500 mw_2 (subU mw_501)) rfl rfl rfl hdlaw_D_V_3 ⟨Nat.le_of_ble_eq_true rfl, Nat.le_of_ble_eq_true rfl⟩) (p_preV C hw (hP.mem (k := 0) (by omega)) hP.c0 rfl) rfl rfl hl.1 rfl (lv_room (Nat.le_of_ble_eq_true rfl)) dL_law_247 ⟨(Nat.le_of_ble_eq_true rfl), (Nat.le_of_ble_eq_true rfl)⟩) hw hA (fun r47 S46 H locs hpost hw => ?_)
            obtain ⟨V50, hr_, hP48, hF49, hK51⟩ := hpost
            subst hr_
            have hLI52 := hLI.kp hP48.n4 hK51
            refine l_rn (b := sm) hsm ?_
            refine lv_lload hx hb dL_law_250 (lv_at hl 1 rfl) ?_
            refine W.lcmp hx hb dL_law_252 ?_
            refine x_ren (b := 0) (lc_self _) ?_
            refine z_if_eq (tgt := 258) hx hb (show (0 : Int32).toInt = 0 from by decide) dL_law_253 (by decide) (fun h_253 => ?_) (fun h_253 => ?_)
            · skip
              exact kk S46 V50 H locs ls hP48 (hA_row.frm hF49 hk_row) hLI52 (by rw [(hK51 n (by omega)).1]; exact h90) hw (lv_sub hl [0, 3, 4, 5] rfl)
            · exact absurd h_253 (by first | decide | omega)

theorem hdlaw_E1_V_0 : yX11_ofStage.cls = RX11 ∧ yX11_ofStage.cls ≠ "java/lang/invoke/MethodHandle" ∧ yX11_ofStage.cls ≠ "java/lang/invoke/VarHandle" ∧ (parseMethodDescriptor yX11_ofStage.desc).map (fun d => d.parameters.length) = some 2 := by decide +kernel
theorem hdlaw_E1_V_1 : yX11_distance.cls = RX11 ∧ yX11_distance.cls ≠ "java/lang/invoke/MethodHandle" ∧ yX11_distance.cls ≠ "java/lang/invoke/VarHandle" ∧ (parseMethodDescriptor yX11_distance.desc).map (fun d => d.parameters.length) = some 1 := by decide +kernel
theorem hdlaw_E1_V_2 : yX11_sent.cls = RX11 ∧ yX11_sent.cls ≠ "java/lang/invoke/MethodHandle" ∧ yX11_sent.cls ≠ "java/lang/invoke/VarHandle" ∧ (parseMethodDescriptor yX11_sent.desc).map (fun d => d.parameters.length) = some 0 := by decide +kernel
theorem hdlaw_E1_V_3 : yX11_breaks.cls = RX11 ∧ yX11_breaks.cls ≠ "java/lang/invoke/MethodHandle" ∧ yX11_breaks.cls ≠ "java/lang/invoke/VarHandle" ∧ (parseMethodDescriptor yX11_breaks.desc).map (fun d => d.parameters.length) = some 1 := by decide +kernel
set_option maxHeartbeats 8000000 in
set_option maxRecDepth 100000 in
theorem law_E1 {p : Program} {e : Env} {s : State} {m : MethodId} {below : List Frame} {meth : Method} {c : Code} (l : Launch) (D : va_G) (cy : Nat → ClassId) (ed : Nat) {Q : State → Prop} {S : pS} {cw : Cond} (C : pC p s m #[Value.ref ed] c code 15 RL (cw :: lwU) D cy) (hE : eK (pA S s.heap.size) ed s s.heap) (hA : ∀ q, s.heap.size ≤ q → pA S s.heap.size q) {G T : Nat → Nat} {ws : Nat → WV} {V : RV} {k0 a0 b0 c0 k2 : Nat} {x2 y2 z2 : Int32} {len row : Nat} {gr : Nat → Int32} (Sb : pS) (H : Heap) (locs : List Loc) (ls : Array Slot) (hP : Pic cy Sb G T 1 ws (.inr (5, [.int (nI k0), .int (nI a0), .int (nI b0), .int (nI c0)])) (.inr (5, [.int (nI k2), .int x2, .int y2, .int z2])) V) (hA_row : Arr cy Sb row len gr) (hk_row : ∀ k, k < 53 → row ≠ G k) (h1 : 1 ≤ len) (h8 : len ≤ 8) (hLI : LI 1 ws k0 a0 b0 c0 len gr V) (h90 : V.1 1 ≤ 90) (hw : pW D (pA S s.heap.size) s.heap Sb H locs) (hl : lv_has ls 15 [(6, .int (nI 1)), (2, .ref row), (1, .ref (G 0)), (0, .ref ed)]) (kk : ∀ (S' : pS) (V' : RV) (H' : Heap) (locs' : List Loc) (ls' : Array Slot), Pic cy S' G T 1 ws (.inr (5, [.int (nI k0), .int (nI a0), .int (nI b0), .int (nI c0)])) (.inr (5, [.int (nI k2), .int x2, .int y2, .int z2])) V' → Arr cy S' row len gr → LI 1 ws k0 a0 b0 c0 len gr V' → V'.1 1 ≤ 90 → pW D (pA S s.heap.size) s.heap S' H' locs' → lv_has ls' 15 [(6, .int (nI 1)), (2, .ref row), (1, .ref (G 0)), (0, .ref ed)] → W p l e room_1 s m #[Value.ref ed] below meth c H' locs' 1942 1150027 Q (F0 m 343 ls' [])) : W p l e room_1 s m #[Value.ref ed] below meth c H locs 1942 1150027 Q (F0 m 264 ls []) := by
  have hx := C.1
  have hb := C.2.1
  obtain ⟨LL, xs, hX, hbl, hbA, hL260⟩ := id hE
  have hn4 := hP.n4
  have hkd : (ws 0).1 ≤ 4 := gok_k4 (hP.gk 0 (by omega))
  have hsa := sApart_lt (hP.gk 0 (by omega))
  refine lv_aload_n hx hb dL_law_264 rfl (lv_at hl 2 rfl) ?_
  refine lv_iconst (v := nI 0) hx hb dL_law_265 (by decide) ?_
  refine lv_iconst (v := nI 0) hx hb dL_law_266 (by decide) ?_
  refine p_calli (va_runV (As := [.int (nI 0), .int (nI 0)]) (rest := []) C.fix (g_X11_ofStage0 l D cy Sb H.size hP 0 (by omega)) (cwV 2 C.2.2.2.2.1 (gU_V mw_607 mw_531 mw_532 mw_2 (subU mw_533)) rfl rfl rfl hdlaw_E1_V_0 ⟨Nat.le_of_ble_eq_true rfl, Nat.le_of_ble_eq_true rfl⟩) (p_preV C hw (hP.mem (k := 0) (by omega)) hP.c0 rfl) rfl rfl hl.1 rfl (lv_room (Nat.le_of_ble_eq_true rfl)) dL_law_267 ⟨(Nat.le_of_ble_eq_true rfl), (Nat.le_of_ble_eq_true rfl)⟩) hw hA (fun r2 S1 H locs hpost hw => ?_)
  obtain ⟨hr_, hS_⟩ := hpost
  subst hr_
  subst hS_
  refine lv_iconst (v := nI 2) hx hb dL_law_270 (by decide) ?_
  refine n_icmp_eq (tgt := 343) hx hb (by omega) (by decide) dL_law_271 (by decide) (fun h_271 => ?_) (fun h_271 => ?_)
  · skip
    exact kk Sb V H locs ls hP hA_row hLI h90 hw (lv_sub hl [0, 1, 2, 3] rfl)
  · skip
    refine lv_aload_n hx hb dL_law_274 rfl (lv_at hl 2 rfl) ?_
    refine lv_iconst (v := nI 0) hx hb dL_law_275 (by decide) ?_
    refine lv_iconst (v := nI 0) hx hb dL_law_276 (by decide) ?_
    refine p_calli (va_runV (As := [.int (nI 0), .int (nI 0)]) (rest := []) C.fix (g_X11_ofStage0 l D cy Sb H.size hP 0 (by omega)) (cwV 2 C.2.2.2.2.1 (gU_V mw_607 mw_531 mw_532 mw_2 (subU mw_533)) rfl rfl rfl hdlaw_E1_V_0 ⟨Nat.le_of_ble_eq_true rfl, Nat.le_of_ble_eq_true rfl⟩) (p_preV C hw (hP.mem (k := 0) (by omega)) hP.c0 rfl) rfl rfl hl.1 rfl (lv_room (Nat.le_of_ble_eq_true rfl)) dL_law_277 ⟨(Nat.le_of_ble_eq_true rfl), (Nat.le_of_ble_eq_true rfl)⟩) hw hA (fun r6 S5 H locs hpost hw => ?_)
    obtain ⟨hr_, hS_⟩ := hpost
    subst hr_
    subst hS_
    refine lv_iconst (v := nI 4) hx hb dL_law_280 (by decide) ?_
    refine n_icmp_eq (tgt := 343) hx hb (by omega) (by decide) dL_law_281 (by decide) (fun h_281 => ?_) (fun h_281 => ?_)
    · skip
      exact kk Sb V H locs ls hP hA_row hLI h90 hw (lv_sub hl [0, 1, 2, 3] rfl)
    · skip
      refine lv_aload_n hx hb dL_law_284 rfl (lv_at hl 2 rfl) ?_
      refine lv_iconst (v := nI 0) hx hb dL_law_285 (by decide) ?_
      refine p_calli (va_runV (As := [.int (nI 0)]) (rest := []) C.fix (g_X11_distance l D cy Sb H.size hP 0 (by omega)) (cwV 1 C.2.2.2.2.1 (gU_V mw_470 mw_471 mw_472 mw_2 (subU mw_473)) rfl rfl rfl hdlaw_E1_V_1 ⟨Nat.le_of_ble_eq_true rfl, Nat.le_of_ble_eq_true rfl⟩) (p_preV C hw (hP.mem (k := 0) (by omega)) hP.c0 rfl) rfl rfl hl.1 rfl (lv_room (Nat.le_of_ble_eq_true rfl)) dL_law_286 ⟨(Nat.le_of_ble_eq_true rfl), (Nat.le_of_ble_eq_true rfl)⟩) hw hA (fun r10 S9 H locs hpost hw => ?_)
      obtain ⟨hr_, hP11, hF12⟩ := hpost
      subst hr_
      obtain ⟨sd, esd⟩ : ∃ z, z = sApart (ws 0) := ⟨_, rfl⟩
      refine n_ren (b := sd) esd.symm ?_
      obtain rfl | ⟨d, rfl⟩ : sd = 0 ∨ ∃ d, sd = d + 1 := by rcases sd with _ | d; exact Or.inl rfl; exact Or.inr ⟨d, rfl⟩
      · skip
        refine lv_iconst (v := nI 1) hx hb dL_law_289 (by decide) ?_
        refine lv_isub hx hb dL_law_290 ?_
        refine x_ren (b := (-1)) (by decide) ?_
        refine lv_iconst (v := nI 2) hx hb dL_law_291 (by decide) ?_
        refine lv_idiv hx hb dL_law_292 (by decide) ?_
        refine lv_istore (lv' := [(7, .int ((-1) / (nI 2))), (6, .int (nI 1)), (2, .ref row), (1, .ref (G 0)), (0, .ref ed)]) hx hb dL_law_293 hl (by decide) rfl (fun ls hl => ?_)
        refine lv_iconst (v := nI 0) hx hb dL_law_295 (by decide) ?_
        refine lv_istore (lv' := [(8, .int (nI 0)), (7, .int ((-1) / (nI 2))), (6, .int (nI 1)), (2, .ref row), (1, .ref (G 0)), (0, .ref ed)]) hx hb dL_law_296 hl (by decide) rfl (fun ls hl => ?_)
        have loop298_13 : ∀ (kf : Nat) (fr : Nat), V.1 1 - fr < kf → ∀ (Sx14 : pS) (Vx15 : RV)  (H : Heap) (locs : List Loc) (ls : Array Slot), Pic cy Sx14 G T 1 ws (.inr (5, [.int (nI k0), .int (nI a0), .int (nI b0), .int (nI c0)])) (.inr (5, [.int (nI k2), .int x2, .int y2, .int z2])) Vx15 → Frm G Sb Sx14 → (LI 1 ws k0 a0 b0 c0 len gr Vx15) → (Vx15.1 1 = V.1 1) → (fr ≤ V.1 1) → pW D (pA S s.heap.size) s.heap Sx14 H locs → lv_has ls 15 [(8, .int (nI fr)), (7, .int ((-1) / (nI 2))), (6, .int (nI 1)), (2, .ref row), (1, .ref (G 0)), (0, .ref ed)] → W p l e room_1 s m #[Value.ref ed] below meth c H locs 1942 1150027 Q (F0 m 298 ls []) := by
          intro kf
          induction kf with
          | zero => intro fr hm; exact absurd hm (Nat.not_lt_zero _)
          | succ kf ihloop298_13 =>
            intro fr hm Sx14 Vx15  H locs ls hP16 hF17 hLIx hV1 hfr hw hl
            have hx320 := hP16.z320 1 (Nat.le_refl 1)
            refine lv_iload hx hb dL_law_298 (lv_at hl 0 rfl) ?_
            refine lv_aload_n hx hb dL_law_300 rfl (lv_at hl 4 rfl) ?_
            refine p_calli (va_runV (As := []) (rest := [.int (nI fr)]) C.fix (g_X11_sent l D cy Sx14 H.size hP16 ) (cwV 0 C.2.2.2.2.1 (gU_V mw_374 mw_375 mw_376 mw_2 (subU mw_377)) rfl rfl rfl hdlaw_E1_V_2 ⟨Nat.le_of_ble_eq_true rfl, Nat.le_of_ble_eq_true rfl⟩) (p_preV C hw (hP16.mem (k := 0) (by omega)) hP16.c0 rfl) rfl rfl hl.1 rfl (lv_room (Nat.le_of_ble_eq_true rfl)) dL_law_301 ⟨(Nat.le_of_ble_eq_true rfl), (Nat.le_of_ble_eq_true rfl)⟩) hw hA (fun r19 S18 H locs hpost hw => ?_)
            obtain ⟨hr_, hS_⟩ := hpost
            subst hr_
            subst hS_
            refine n_icmp_ge (tgt := 343) hx hb (by omega) (by omega) dL_law_304 (by decide) (fun h_304 => ?_) (fun h_304 => ?_)
            · skip
              exact kk Sx14 Vx15 H locs ls hP16 (hA_row.frm hF17 hk_row) hLIx (by rw [hV1]; exact h90) hw (lv_sub hl [2, 3, 4, 5] rfl)
            · skip
              refine lv_aload_n hx hb dL_law_307 rfl (lv_at hl 4 rfl) ?_
              refine lv_iconst (v := nI 0) hx hb dL_law_308 (by decide) ?_
              refine p_calli (va_runV (As := [.int (nI 0)]) (rest := []) C.fix (g_X11_distance l D cy Sx14 H.size hP16 0 (by omega)) (cwV 1 C.2.2.2.2.1 (gU_V mw_470 mw_471 mw_472 mw_2 (subU mw_473)) rfl rfl rfl hdlaw_E1_V_1 ⟨Nat.le_of_ble_eq_true rfl, Nat.le_of_ble_eq_true rfl⟩) (p_preV C hw (hP16.mem (k := 0) (by omega)) hP16.c0 rfl) rfl rfl hl.1 rfl (lv_room (Nat.le_of_ble_eq_true rfl)) dL_law_309 ⟨(Nat.le_of_ble_eq_true rfl), (Nat.le_of_ble_eq_true rfl)⟩) hw hA (fun r23 S22 H locs hpost hw => ?_)
              obtain ⟨hr_, hP24, hF25⟩ := hpost
              subst hr_
              have hT26 := hF17.trans hF25
              refine n_if_le (tgt := 337) hx hb hsa dL_law_312 (by decide) (fun h_312 => ?_) (fun h_312 => ?_)
              · skip
                refine lv_iinc (v := (nI (fr + 1))) (lv' := [(8, .int (nI (fr + 1))), (7, .int ((-1) / (nI 2))), (6, .int (nI 1)), (2, .ref row), (1, .ref (G 0)), (0, .ref ed)]) hx hb dL_law_337 hl (k := 0) rfl (by rw [show Int32.ofInt 1 = nI 1 from by decide, nI_add]) (by decide) rfl (fun ls hl => ?_)
                refine lv_goto (tgt := 298) hx hb dL_law_340 (by decide) ?_
                exact ihloop298_13  (fr + 1) (by omega) S22 Vx15  H locs ls hP24 hT26  hLIx hV1 (by omega) hw (lv_sub hl [0, 1, 2, 3, 4, 5] rfl)
              · omega
        exact loop298_13 (V.1 1 - 0 + 1) 0 (by omega) S9 V  H locs ls hP11 hF12  hLI rfl (Nat.zero_le _) hw (lv_sub hl [0, 1, 2, 3, 4, 5] rfl)
      · skip
        refine lv_iconst (v := nI 1) hx hb dL_law_289 (by decide) ?_
        refine n_isub hx hb (by omega) dL_law_290 ?_
        refine lv_iconst (v := nI 2) hx hb dL_law_291 (by decide) ?_
        refine n_idiv hx hb (by omega) (by omega) (by omega) dL_law_292 ?_
        refine lv_istore (lv' := [(7, .int (nI (((d + 1) - 1) / 2))), (6, .int (nI 1)), (2, .ref row), (1, .ref (G 0)), (0, .ref ed)]) hx hb dL_law_293 hl (by decide) rfl (fun ls hl => ?_)
        refine lv_iconst (v := nI 0) hx hb dL_law_295 (by decide) ?_
        refine lv_istore (lv' := [(8, .int (nI 0)), (7, .int (nI (((d + 1) - 1) / 2))), (6, .int (nI 1)), (2, .ref row), (1, .ref (G 0)), (0, .ref ed)]) hx hb dL_law_296 hl (by decide) rfl (fun ls hl => ?_)
        have loop298_27 : ∀ (kf : Nat) (fr : Nat), V.1 1 - fr < kf → ∀ (Sx28 : pS) (Vx29 : RV)  (H : Heap) (locs : List Loc) (ls : Array Slot), Pic cy Sx28 G T 1 ws (.inr (5, [.int (nI k0), .int (nI a0), .int (nI b0), .int (nI c0)])) (.inr (5, [.int (nI k2), .int x2, .int y2, .int z2])) Vx29 → Frm G Sb Sx28 → (LI 1 ws k0 a0 b0 c0 len gr Vx29) → (Vx29.1 1 = V.1 1) → (fr ≤ V.1 1) → pW D (pA S s.heap.size) s.heap Sx28 H locs → lv_has ls 15 [(8, .int (nI fr)), (7, .int (nI (((d + 1) - 1) / 2))), (6, .int (nI 1)), (2, .ref row), (1, .ref (G 0)), (0, .ref ed)] → W p l e room_1 s m #[Value.ref ed] below meth c H locs 1942 1150027 Q (F0 m 298 ls []) := by
          intro kf
          induction kf with
          | zero => intro fr hm; exact absurd hm (Nat.not_lt_zero _)
          | succ kf ihloop298_27 =>
            intro fr hm Sx28 Vx29  H locs ls hP30 hF31 hLIx hV1 hfr hw hl
            have hx320 := hP30.z320 1 (Nat.le_refl 1)
            refine lv_iload hx hb dL_law_298 (lv_at hl 0 rfl) ?_
            refine lv_aload_n hx hb dL_law_300 rfl (lv_at hl 4 rfl) ?_
            refine p_calli (va_runV (As := []) (rest := [.int (nI fr)]) C.fix (g_X11_sent l D cy Sx28 H.size hP30 ) (cwV 0 C.2.2.2.2.1 (gU_V mw_374 mw_375 mw_376 mw_2 (subU mw_377)) rfl rfl rfl hdlaw_E1_V_2 ⟨Nat.le_of_ble_eq_true rfl, Nat.le_of_ble_eq_true rfl⟩) (p_preV C hw (hP30.mem (k := 0) (by omega)) hP30.c0 rfl) rfl rfl hl.1 rfl (lv_room (Nat.le_of_ble_eq_true rfl)) dL_law_301 ⟨(Nat.le_of_ble_eq_true rfl), (Nat.le_of_ble_eq_true rfl)⟩) hw hA (fun r33 S32 H locs hpost hw => ?_)
            obtain ⟨hr_, hS_⟩ := hpost
            subst hr_
            subst hS_
            refine n_icmp_ge (tgt := 343) hx hb (by omega) (by omega) dL_law_304 (by decide) (fun h_304 => ?_) (fun h_304 => ?_)
            · skip
              exact kk Sx28 Vx29 H locs ls hP30 (hA_row.frm hF31 hk_row) hLIx (by rw [hV1]; exact h90) hw (lv_sub hl [2, 3, 4, 5] rfl)
            · skip
              refine lv_aload_n hx hb dL_law_307 rfl (lv_at hl 4 rfl) ?_
              refine lv_iconst (v := nI 0) hx hb dL_law_308 (by decide) ?_
              refine p_calli (va_runV (As := [.int (nI 0)]) (rest := []) C.fix (g_X11_distance l D cy Sx28 H.size hP30 0 (by omega)) (cwV 1 C.2.2.2.2.1 (gU_V mw_470 mw_471 mw_472 mw_2 (subU mw_473)) rfl rfl rfl hdlaw_E1_V_1 ⟨Nat.le_of_ble_eq_true rfl, Nat.le_of_ble_eq_true rfl⟩) (p_preV C hw (hP30.mem (k := 0) (by omega)) hP30.c0 rfl) rfl rfl hl.1 rfl (lv_room (Nat.le_of_ble_eq_true rfl)) dL_law_309 ⟨(Nat.le_of_ble_eq_true rfl), (Nat.le_of_ble_eq_true rfl)⟩) hw hA (fun r37 S36 H locs hpost hw => ?_)
              obtain ⟨hr_, hP38, hF39⟩ := hpost
              subst hr_
              have hT40 := hF31.trans hF39
              refine n_if_le (tgt := 337) hx hb hsa dL_law_312 (by decide) (fun h_312 => ?_) (fun h_312 => ?_)
              · skip
                refine lv_iinc (v := (nI (fr + 1))) (lv' := [(8, .int (nI (fr + 1))), (7, .int (nI (((d + 1) - 1) / 2))), (6, .int (nI 1)), (2, .ref row), (1, .ref (G 0)), (0, .ref ed)]) hx hb dL_law_337 hl (k := 0) rfl (by rw [show Int32.ofInt 1 = nI 1 from by decide, nI_add]) (by decide) rfl (fun ls hl => ?_)
                refine lv_goto (tgt := 298) hx hb dL_law_340 (by decide) ?_
                exact ihloop298_27  (fr + 1) (by omega) S36 Vx29  H locs ls hP38 hT40  hLIx hV1 (by omega) hw (lv_sub hl [0, 1, 2, 3, 4, 5] rfl)
              · skip
                refine lv_aload_n hx hb dL_law_315 rfl (lv_at hl 4 rfl) ?_
                refine lv_iload hx hb dL_law_316 (lv_at hl 0 rfl) ?_
                refine p_calli (va_runV (As := [.int (nI fr)]) (rest := []) C.fix (g_X11_breaks l D cy S36 H.size hP38 fr (by omega) hLIx.s hLIx.u) (cwV 1 C.2.2.2.2.1 (gU_V mw_610 mw_595 mw_596 mw_2 (subU mw_597)) rfl rfl rfl hdlaw_E1_V_3 ⟨Nat.le_of_ble_eq_true rfl, Nat.le_of_ble_eq_true rfl⟩) (p_preV C hw (hP38.mem (k := 0) (by omega)) hP38.c0 rfl) rfl rfl hl.1 rfl (lv_room (Nat.le_of_ble_eq_true rfl)) dL_law_318 ⟨(Nat.le_of_ble_eq_true rfl), (Nat.le_of_ble_eq_true rfl)⟩) hw hA (fun r42 S41 H locs hpost hw => ?_)
                obtain ⟨V45, hr_, hP43, hF44, hK46⟩ := hpost
                subst hr_
                have hT47 := hT40.trans hF44
                have hLI48 := hLIx.kp hP43.n4 hK46
                have hb1 := brkN_le ws 1 Vx29 fr
                have hV2 := ((hK46 1 (by omega)).1).trans hV1
                have he1 := Kp.brks hP38 hLIx.s hK46 fr
                refine n_if_le (tgt := 337) hx hb (by omega) dL_law_321 (by decide) (fun h_321 => ?_) (fun h_321 => ?_)
                · skip
                  refine lv_iinc (v := (nI (fr + 1))) (lv' := [(8, .int (nI (fr + 1))), (7, .int (nI (((d + 1) - 1) / 2))), (6, .int (nI 1)), (2, .ref row), (1, .ref (G 0)), (0, .ref ed)]) hx hb dL_law_337 hl (k := 0) rfl (by rw [show Int32.ofInt 1 = nI 1 from by decide, nI_add]) (by decide) rfl (fun ls hl => ?_)
                  refine lv_goto (tgt := 298) hx hb dL_law_340 (by decide) ?_
                  exact ihloop298_27  (fr + 1) (by omega) S41 V45  H locs ls hP43 hT47  hLI48 hV2 (by omega) hw (lv_sub hl [0, 1, 2, 3, 4, 5] rfl)
                · skip
                  refine lv_aload_n hx hb dL_law_324 rfl (lv_at hl 4 rfl) ?_
                  refine lv_iload hx hb dL_law_325 (lv_at hl 0 rfl) ?_
                  refine p_calli (va_runV (As := [.int (nI fr)]) (rest := []) C.fix (g_X11_breaks l D cy S41 H.size hP43 fr (by omega) hLI48.s hLI48.u) (cwV 1 C.2.2.2.2.1 (gU_V mw_610 mw_595 mw_596 mw_2 (subU mw_597)) rfl rfl rfl hdlaw_E1_V_3 ⟨Nat.le_of_ble_eq_true rfl, Nat.le_of_ble_eq_true rfl⟩) (p_preV C hw (hP43.mem (k := 0) (by omega)) hP43.c0 rfl) rfl rfl hl.1 rfl (lv_room (Nat.le_of_ble_eq_true rfl)) dL_law_327 ⟨(Nat.le_of_ble_eq_true rfl), (Nat.le_of_ble_eq_true rfl)⟩) hw hA (fun r50 S49 H locs hpost hw => ?_)
                  obtain ⟨V53, hr_, hP51, hF52, hK54⟩ := hpost
                  subst hr_
                  have hT55 := hT47.trans hF52
                  have hLI56 := hLI48.kp hP51.n4 hK54
                  have hb2 := brkN_le ws 1 V45 fr
                  have hV3 := ((hK54 1 (by omega)).1).trans hV2
                  have he2 := Kp.brks hP43 hLI48.s hK54 fr
                  have h9 := brk_ok (ws := ws) (V := V53) (fr := fr) (hP.gk 0 (by omega)) (by omega) (by rw [(hLI56).2.1]; exact h8) (hP51.z320 1 (Nat.le_refl 1)) (hLI56).1.1 (hLI56).b1 (by omega) (by omega)
                  have hb3 := brkN_le ws 1 V53 fr
                  refine lv_iload hx hb dL_law_330 (lv_at hl 1 rfl) ?_
                  refine n_icmp_gt (tgt := 337) hx hb (by omega) (by omega) dL_law_332 (by decide) (fun h_332 => ?_) (fun h_332 => ?_)
                  · skip
                    refine lv_iinc (v := (nI (fr + 1))) (lv' := [(8, .int (nI (fr + 1))), (7, .int (nI (((d + 1) - 1) / 2))), (6, .int (nI 1)), (2, .ref row), (1, .ref (G 0)), (0, .ref ed)]) hx hb dL_law_337 hl (k := 0) rfl (by rw [show Int32.ofInt 1 = nI 1 from by decide, nI_add]) (by decide) rfl (fun ls hl => ?_)
                    refine lv_goto (tgt := 298) hx hb dL_law_340 (by decide) ?_
                    exact ihloop298_27  (fr + 1) (by omega) S49 V53  H locs ls hP51 hT55  hLI56 hV3 (by omega) hw (lv_sub hl [0, 1, 2, 3, 4, 5] rfl)
                  · omega
        exact loop298_27 (V.1 1 - 0 + 1) 0 (by omega) S9 V  H locs ls hP11 hF12  hLI rfl (Nat.zero_le _) hw (lv_sub hl [0, 1, 2, 3, 4, 5] rfl)

set_option maxHeartbeats 8000000 in
set_option maxRecDepth 100000 in
theorem law_E {p : Program} {e : Env} {s : State} {m : MethodId} {below : List Frame} {meth : Method} {c : Code} (l : Launch) (D : va_G) (cy : Nat → ClassId) (ed : Nat) {Q : State → Prop} {S : pS} {cw : Cond} (C : pC p s m #[Value.ref ed] c code 15 RL (cw :: lwU) D cy) (hE : eK (pA S s.heap.size) ed s s.heap) (hA : ∀ q, s.heap.size ≤ q → pA S s.heap.size q) {G T : Nat → Nat} {n : Nat} {ws : Nat → WV} {V : RV} {k0 a0 b0 c0 k2 : Nat} {x2 y2 z2 : Int32} {len row : Nat} {gr : Nat → Int32} (Sb : pS) (H : Heap) (locs : List Loc) (ls : Array Slot) (hP : Pic cy Sb G T n ws (.inr (5, [.int (nI k0), .int (nI a0), .int (nI b0), .int (nI c0)])) (.inr (5, [.int (nI k2), .int x2, .int y2, .int z2])) V) (hA_row : Arr cy Sb row len gr) (hk_row : ∀ k, k < 53 → row ≠ G k) (h1 : 1 ≤ len) (h8 : len ≤ 8) (hLI : LI n ws k0 a0 b0 c0 len gr V) (h90 : V.1 n ≤ 90) (hw : pW D (pA S s.heap.size) s.heap Sb H locs) (hl : lv_has ls 15 [(6, .int (nI n)), (2, .ref row), (1, .ref (G 0)), (0, .ref ed)]) (kk : ∀ (S' : pS) (V' : RV) (H' : Heap) (locs' : List Loc) (ls' : Array Slot), Pic cy S' G T n ws (.inr (5, [.int (nI k0), .int (nI a0), .int (nI b0), .int (nI c0)])) (.inr (5, [.int (nI k2), .int x2, .int y2, .int z2])) V' → Arr cy S' row len gr → LI n ws k0 a0 b0 c0 len gr V' → V'.1 n ≤ 90 → pW D (pA S s.heap.size) s.heap S' H' locs' → lv_has ls' 15 [(6, .int (nI n)), (2, .ref row), (1, .ref (G 0)), (0, .ref ed)] → W p l e room_1 s m #[Value.ref ed] below meth c H' locs' 1942 1150027 Q (F0 m 343 ls' [])) : W p l e room_1 s m #[Value.ref ed] below meth c H locs 1942 1150027 Q (F0 m 258 ls []) := by
  have hx := C.1
  have hb := C.2.1
  obtain ⟨LL, xs, hX, hbl, hbA, hL260⟩ := id hE
  have hn4 := hP.n4
  refine lv_iload hx hb dL_law_258 (lv_at hl 0 rfl) ?_
  refine lv_iconst (v := nI 1) hx hb dL_law_260 (by decide) ?_
  refine n_icmp_ne (tgt := 343) hx hb (by omega) (by decide) dL_law_261 (by decide) (fun h_261 => ?_) (fun h_261 => ?_)
  · skip
    exact kk Sb V H locs ls hP hA_row hLI h90 hw (lv_sub hl [0, 1, 2, 3] rfl)
  · skip
    obtain rfl : n = 1 := h_261
    exact law_E1 l D cy ed C hE hA Sb H locs ls hP hA_row hk_row h1 h8 hLI h90 hw (lv_sub hl [0, 1, 2, 3] rfl) kk
