
theorem hdlaw_A_S_0 : yL_cell.cls ≠ "java/lang/invoke/MethodHandle" ∧ yL_cell.cls ≠ "java/lang/invoke/VarHandle" ∧ (parseMethodDescriptor yL_cell.desc).map (fun d => d.parameters.length) = some 2 := by decide +kernel
theorem hdlaw_A_S_1 : yL_below.cls ≠ "java/lang/invoke/MethodHandle" ∧ yL_below.cls ≠ "java/lang/invoke/VarHandle" ∧ (parseMethodDescriptor yL_below.desc).map (fun d => d.parameters.length) = some 2 := by decide +kernel
theorem hdlaw_A_S_2 : yL_message.cls ≠ "java/lang/invoke/MethodHandle" ∧ yL_message.cls ≠ "java/lang/invoke/VarHandle" ∧ (parseMethodDescriptor yL_message.desc).map (fun d => d.parameters.length) = some 3 := by decide +kernel
set_option maxHeartbeats 8000000 in
set_option maxRecDepth 100000 in
theorem law_A {p : Program} {e : Env} {s : State} {m : MethodId} {below : List Frame} {meth : Method} {c : Code} (l : Launch) (D : va_G) (cy : Nat → ClassId) (ed : Nat) {Q : State → Prop} {S : pS} {cw : Cond} (C : pC p s m #[Value.ref ed] c code 15 RL (cw :: lwU) D cy) (hE : eK (pA S s.heap.size) ed s s.heap) (hA : ∀ q, s.heap.size ≤ q → pA S s.heap.size q) {G T : Nat → Nat} {ws : Nat → WV} {V : RV} {k0 a0 b0 c0 k2 : Nat} {x2 y2 z2 : Int32} (Sb : pS) (H : Heap) (locs : List Loc) (ls : Array Slot) (hP : Pic cy Sb G T 0 ws (.inr (5, [.int (nI k0), .int (nI a0), .int (nI b0), .int (nI c0)])) (.inr (5, [.int (nI k2), .int x2, .int y2, .int z2])) V)  (hk : k0 ≤ 3) (hla : a0 < 2 ^ 30) (hlb : b0 < 2 ^ 30) (hlc : c0 < 2 ^ 30) (h00 : V.1 0 = 0) (hs0 : Stl 0 ws k0 a0 b0 c0 V) (hw : pW D (pA S s.heap.size) s.heap Sb H locs) (hl : lv_has ls 15 [(0, .ref ed)]) (kk : ∀ (S' : pS) (V' : RV) (row len : Nat) (gr : Nat → Int32) (H' : Heap) (locs' : List Loc) (ls' : Array Slot), Pic cy S' G T 0 ws (.inr (5, [.int (nI k0), .int (nI a0), .int (nI b0), .int (nI c0)])) (.inr (5, [.int (nI k2), .int x2, .int y2, .int z2])) V' → Arr cy S' row len gr → (∀ k, k < 53 → row ≠ G k) → 1 ≤ len → len ≤ 8 → LI 0 ws k0 a0 b0 c0 len gr V' → V'.2 15 = V.2 15 → pW D (pA S s.heap.size) s.heap S' H' locs' → lv_has ls' 15 [(2, .ref row), (1, .ref (G 0)), (0, .ref ed)] → W p l e room_1 s m #[Value.ref ed] below meth c H' locs' 70 9628 Q (F0 m 32 ls' [])) : W p l e room_1 s m #[Value.ref ed] below meth c H locs 53 4692 Q (F0 m 7 ls [.ref (G 0)]) := by
  have hx := C.1
  have hb := C.2.1
  obtain ⟨LL, xs, hX, hbl, hbA, hL260⟩ := id hE
  have hn4 := hP.n4
  refine lv_astore_n (lv' := [(1, .ref (G 0)), (0, .ref ed)]) hx hb dL_law_7 rfl hl (by decide) rfl (fun ls hl => ?_)
  refine lv_aload_n hx hb dL_law_8 rfl (lv_at hl 0 rfl) ?_
  refine lv_aload_n hx hb dL_law_9 rfl (lv_at hl 1 rfl) ?_
  refine lv_iconst (v := nI 1) hx hb dL_law_10 (by decide) ?_
  refine lv_aload_n hx hb dL_law_11 rfl (lv_at hl 1 rfl) ?_
  refine lv_iconst (v := nI 0) hx hb dL_law_12 (by decide) ?_
  refine p_calli (va_runS (As := [.ref ed, .int (nI 0)]) (rest := [.int (nI 1), .ref ed, .ref (G 0)]) C.fix (g_L_cell l D cy ed Sb H.size 0 (by omega)) (va_cwS 2 C.2.2.2.2.1 (gU_S mw_77 mw_78 mw_79 (subU mw_80)) rfl rfl rfl hdlaw_A_S_0 ⟨Nat.le_of_ble_eq_true rfl, Nat.le_of_ble_eq_true rfl⟩) (e_preS C hw hA hE) rfl rfl hl.1 rfl (lv_room (Nat.le_of_ble_eq_true rfl)) dL_law_13 ⟨(Nat.le_of_ble_eq_true rfl), (Nat.le_of_ble_eq_true rfl)⟩) hw hA (fun r2 S1 H locs hpost hw => ?_)
  subst hpost
  refine lv_bipush (v := nI 8) hx hb dL_law_16 (by decide) ?_
  refine p_calli (va_runS (As := [.int r2, .int (nI 8)]) (rest := [.int (nI 1), .ref ed, .ref (G 0)]) C.fix (g_L_below l D cy Sb H.size r2 8 (by first | decide | omega) (by first | decide | omega)) (va_cwS 2 C.2.2.2.2.1 (gU_S mw_82 mw_83 mw_79 (subU mw_84)) rfl rfl rfl hdlaw_A_S_1 ⟨Nat.le_of_ble_eq_true rfl, Nat.le_of_ble_eq_true rfl⟩) (p_preS C hw) rfl rfl hl.1 rfl (lv_room (Nat.le_of_ble_eq_true rfl)) dL_law_18 ⟨(Nat.le_of_ble_eq_true rfl), (Nat.le_of_ble_eq_true rfl)⟩) hw hA (fun r4 S3 H locs hpost hw => ?_)
  obtain ⟨t8, ht8, hr_, hS_⟩ := hpost
  subst hr_
  subst hS_
  refine n_iadd hx hb dL_law_21 ?_
  refine p_callq (va_runS (As := [.ref (G 0), .ref ed, .int (nI (1 + t8))]) (rest := []) C.fix (g_L_message l D cy ed Sb H.size hP hk hla hlb hlc (1 + t8) (by omega) (by omega) h00 hs0) (va_cwS 3 C.2.2.2.2.1 (gU_S mw_86 mw_87 mw_79 (subU mw_88)) rfl rfl rfl hdlaw_A_S_2 ⟨Nat.le_of_ble_eq_true rfl, Nat.le_of_ble_eq_true rfl⟩) (e_preS C hw hA hE) rfl rfl hl.1 rfl (lv_room (Nat.le_of_ble_eq_true rfl)) dL_law_22 ⟨(Nat.le_of_ble_eq_true rfl), (Nat.le_of_ble_eq_true rfl)⟩) hw hA (fun r6 S5 H locs hpost hw => ?_)
  obtain ⟨row, gr, Vm, hr_, hkrow, hPm, hFm, hSm, hVm, hArow, hgr, hb1, h15m⟩ := hpost
  subst hr_
  have hLIm : LI 0 ws k0 a0 b0 c0 (1 + t8) gr Vm := ⟨hSm, hVm, hgr, hb1⟩
  refine lv_astore_n (lv' := [(2, .ref row), (1, .ref (G 0)), (0, .ref ed)]) hx hb dL_law_25 rfl hl (by decide) rfl (fun ls hl => ?_)
  refine lv_aload_n hx hb dL_law_26 rfl (lv_at hl 0 rfl) ?_
  refine lv_ifnonnull (tgt := 32) hx hb dL_law_27 (by decide) ?_
  exact kk S5 Vm row _ _ H locs ls hPm hArow hkrow (by omega) (by omega) hLIm h15m hw (lv_sub hl [0, 1, 2] rfl)

theorem hdlaw_C_V_0 : yX11_digest.cls = RX11 ∧ yX11_digest.cls ≠ "java/lang/invoke/MethodHandle" ∧ yX11_digest.cls ≠ "java/lang/invoke/VarHandle" ∧ (parseMethodDescriptor yX11_digest.desc).map (fun d => d.parameters.length) = some 0 := by decide +kernel
theorem hdlaw_C_V_1 : yX11_stages.cls = RX11 ∧ yX11_stages.cls ≠ "java/lang/invoke/MethodHandle" ∧ yX11_stages.cls ≠ "java/lang/invoke/VarHandle" ∧ (parseMethodDescriptor yX11_stages.desc).map (fun d => d.parameters.length) = some 0 := by decide +kernel
theorem hdlaw_C_V_2 : yX11_ofStage.cls = RX11 ∧ yX11_ofStage.cls ≠ "java/lang/invoke/MethodHandle" ∧ yX11_ofStage.cls ≠ "java/lang/invoke/VarHandle" ∧ (parseMethodDescriptor yX11_ofStage.desc).map (fun d => d.parameters.length) = some 2 := by decide +kernel
set_option maxHeartbeats 8000000 in
set_option maxRecDepth 100000 in
theorem law_C {p : Program} {e : Env} {s : State} {m : MethodId} {below : List Frame} {meth : Method} {c : Code} (l : Launch) (D : va_G) (cy : Nat → ClassId) (ed : Nat) {Q : State → Prop} {S : pS} {cw : Cond} (C : pC p s m #[Value.ref ed] c code 15 RL (cw :: lwU) D cy) (hE : eK (pA S s.heap.size) ed s s.heap) (hA : ∀ q, s.heap.size ≤ q → pA S s.heap.size q) {G T : Nat → Nat} {n : Nat} {ws : Nat → WV} {V : RV} {k0 a0 b0 c0 k2 ap : Nat} {x2 y2 z2 : Int32} {len row : Nat} {gr : Nat → Int32} (Sb : pS) (H : Heap) (locs : List Loc) (ls : Array Slot) (hP : Pic cy Sb G T n ws (.inr (5, [.int (nI k0), .int (nI a0), .int (nI b0), .int (nI c0)])) (.inr (5, [.int (nI k2), .int x2, .int y2, .int z2])) V) (hA_row : Arr cy Sb row len gr) (hk_row : ∀ k, k < 53 → row ≠ G k) (h1 : 1 ≤ len) (h8 : len ≤ 8) (hLI : LI n ws k0 a0 b0 c0 len gr V) (h90 : V.1 n ≤ 90) (hw : pW D (pA S s.heap.size) s.heap Sb H locs) (hl : lv_has ls 15 [(3, .int (nI ap)), (2, .ref row), (1, .ref (G 0)), (0, .ref ed)]) (kk : ∀ (S' : pS) (V' : RV) (sm : Int64) (H' : Heap) (locs' : List Loc) (ls' : Array Slot), Pic cy S' G T n ws (.inr (5, [.int (nI k0), .int (nI a0), .int (nI b0), .int (nI c0)])) (.inr (5, [.int (nI k2), .int x2, .int y2, .int z2])) V' → Arr cy S' row len gr → LI n ws k0 a0 b0 c0 len gr V' → V'.1 n ≤ 90 → V'.2 15 = V.2 15 → dgt n ws V' = sm → pW D (pA S s.heap.size) s.heap S' H' locs' → lv_has ls' 15 [(6, .int (nI n)), (4, .long sm), (3, .int (nI ap)), (2, .ref row), (1, .ref (G 0)), (0, .ref ed)] → W p l e room_1 s m #[Value.ref ed] below meth c H' locs' 1942 1150027 Q (F0 m 202 ls' [])) : W p l e room_1 s m #[Value.ref ed] below meth c H locs 1942 1150027 Q (F0 m 126 ls []) := by
  have hx := C.1
  have hb := C.2.1
  obtain ⟨LL, xs, hX, hbl, hbA, hL260⟩ := id hE
  have hn4 := hP.n4
  refine lv_aload_n hx hb dL_law_126 rfl (lv_at hl 2 rfl) ?_
  refine p_calll (va_runV (As := []) (rest := []) C.fix (g_X11_digest l D cy Sb H.size hP hLI.s hLI.u) (cwV 0 C.2.2.2.2.1 (gU_V mw_498 mw_499 mw_500 mw_2 (subU mw_501)) rfl rfl rfl hdlaw_C_V_0 ⟨Nat.le_of_ble_eq_true rfl, Nat.le_of_ble_eq_true rfl⟩) (p_preV C hw (hP.mem (k := 0) (by omega)) hP.c0 rfl) rfl rfl hl.1 rfl (lv_room (Nat.le_of_ble_eq_true rfl)) dL_law_127 ⟨(Nat.le_of_ble_eq_true rfl), (Nat.le_of_ble_eq_true rfl)⟩) hw hA (fun r2 S1 H locs hpost hw => ?_)
  obtain ⟨V5, hr_, hP3, hF4, hK6⟩ := hpost
  subst hr_
  have hLI7 := hLI.kp hP3.n4 hK6
  have h90c : V5.1 n ≤ 90 := by rw [(hK6 n (by omega)).1]; exact h90
  have h15c : V5.2 15 = V.2 15 := (hK6 15 (Or.inr rfl)).2
  have hdg := dgt_kp hP hLI.s hK6
  obtain ⟨sm, esm⟩ : ∃ z, z = dgt n ws V := ⟨_, rfl⟩
  rw [← esm] at hdg
  refine l_rn (b := sm) esm.symm ?_
  refine lv_lstore (lv' := [(4, .long sm), (3, .int (nI ap)), (2, .ref row), (1, .ref (G 0)), (0, .ref ed)]) hx hb dL_law_130 hl (by decide) rfl (fun ls hl => ?_)
  refine lv_aload_n hx hb dL_law_132 rfl (lv_at hl 3 rfl) ?_
  refine p_calli (va_runV (As := []) (rest := []) C.fix (g_X11_stages l D cy S1 H.size hP3 ) (cwV 0 C.2.2.2.2.1 (gU_V mw_396 mw_397 mw_398 mw_2 (subU mw_399)) rfl rfl rfl hdlaw_C_V_1 ⟨Nat.le_of_ble_eq_true rfl, Nat.le_of_ble_eq_true rfl⟩) (p_preV C hw (hP3.mem (k := 0) (by omega)) hP3.c0 rfl) rfl rfl hl.1 rfl (lv_room (Nat.le_of_ble_eq_true rfl)) dL_law_133 ⟨(Nat.le_of_ble_eq_true rfl), (Nat.le_of_ble_eq_true rfl)⟩) hw hA (fun r9 S8 H locs hpost hw => ?_)
  obtain ⟨hr_, hS_⟩ := hpost
  subst hr_
  subst hS_
  refine lv_istore (lv' := [(6, .int (nI n)), (4, .long sm), (3, .int (nI ap)), (2, .ref row), (1, .ref (G 0)), (0, .ref ed)]) hx hb dL_law_136 hl (by decide) rfl (fun ls hl => ?_)
  refine lv_iconst (v := nI 0) hx hb dL_law_138 (by decide) ?_
  refine lv_istore (lv' := [(7, .int (nI 0)), (6, .int (nI n)), (4, .long sm), (3, .int (nI ap)), (2, .ref row), (1, .ref (G 0)), (0, .ref ed)]) hx hb dL_law_139 hl (by decide) rfl (fun ls hl => ?_)
  have loop141_12 : ∀ (kf : Nat) (kx : Nat), n - kx < kf → ∀ (H : Heap) (locs : List Loc) (ls : Array Slot), (kx ≤ n) → pW D (pA S s.heap.size) s.heap S1 H locs → lv_has ls 15 [(7, .int (nI kx)), (6, .int (nI n)), (4, .long sm), (3, .int (nI ap)), (2, .ref row), (1, .ref (G 0)), (0, .ref ed)] → W p l e room_1 s m #[Value.ref ed] below meth c H locs 1942 1150027 Q (F0 m 141 ls []) := by
    intro kf
    induction kf with
    | zero => intro kx hm; exact absurd hm (Nat.not_lt_zero _)
    | succ kf ihloop141_12 =>
      intro kx hm    H locs ls hkx hw hl
      refine lv_iload hx hb dL_law_141 (lv_at hl 0 rfl) ?_
      refine lv_iload hx hb dL_law_143 (lv_at hl 1 rfl) ?_
      refine n_icmp_ge (tgt := 202) hx hb (by omega) (by omega) dL_law_145 (by decide) (fun h_145 => ?_) (fun h_145 => ?_)
      · skip
        exact kk S1 V5 sm H locs ls hP3 (hA_row.frm hF4 hk_row) hLI7 h90c h15c hdg hw (lv_sub hl [1, 2, 3, 4, 5, 6] rfl)
      · skip
        have hz1 := hP3.z320 kx (by omega)
        have hz2 := hP3.z320 (kx + 1) (by omega)
        have hge := hLI7.ge hP3 h_145
        have hl0 := (hLI7).2.1
        refine lv_aload_n hx hb dL_law_148 rfl (lv_at hl 5 rfl) ?_
        refine lv_iload hx hb dL_law_149 (lv_at hl 0 rfl) ?_
        refine lv_iconst (v := nI 1) hx hb dL_law_151 (by decide) ?_
        refine p_calli (va_runV (As := [.int (nI kx), .int (nI 1)]) (rest := []) C.fix (g_X11_ofStage1 l D cy S1 H.size hP3 kx (by omega)) (cwV 2 C.2.2.2.2.1 (gU_V mw_607 mw_531 mw_532 mw_2 (subU mw_533)) rfl rfl rfl hdlaw_C_V_2 ⟨Nat.le_of_ble_eq_true rfl, Nat.le_of_ble_eq_true rfl⟩) (p_preV C hw (hP3.mem (k := 0) (by omega)) hP3.c0 rfl) rfl rfl hl.1 rfl (lv_room (Nat.le_of_ble_eq_true rfl)) dL_law_152 ⟨(Nat.le_of_ble_eq_true rfl), (Nat.le_of_ble_eq_true rfl)⟩) hw hA (fun r16 S15 H locs hpost hw => ?_)
        obtain ⟨hr_, hS_⟩ := hpost
        subst hr_
        subst hS_
        refine lv_iload hx hb dL_law_155 (lv_at hl 0 rfl) ?_
        refine n_if_ne (tgt := 165) hx hb (by omega) dL_law_157 (by decide) (fun h_157 => ?_) (fun h_157 => ?_)
        · skip
          have ek : kx - 1 + 1 = kx := by omega
          have hz3 : V5.1 (kx - 1 + 1) = V5.1 kx := by rw [ek]
          refine lv_aload_n hx hb dL_law_165 rfl (lv_at hl 5 rfl) ?_
          refine lv_iload hx hb dL_law_166 (lv_at hl 0 rfl) ?_
          refine lv_iconst (v := nI 1) hx hb dL_law_168 (by decide) ?_
          refine n_isub hx hb (by omega) dL_law_169 ?_
          refine lv_iconst (v := nI 2) hx hb dL_law_170 (by decide) ?_
          refine p_calli (va_runV (As := [.int (nI (kx - 1)), .int (nI 2)]) (rest := [.int (nI (V5.1 kx))]) C.fix (g_X11_ofStage2 l D cy S1 H.size hP3 (kx - 1) (by omega)) (cwV 2 C.2.2.2.2.1 (gU_V mw_607 mw_531 mw_532 mw_2 (subU mw_533)) rfl rfl rfl hdlaw_C_V_2 ⟨Nat.le_of_ble_eq_true rfl, Nat.le_of_ble_eq_true rfl⟩) (p_preV C hw (hP3.mem (k := 0) (by omega)) hP3.c0 rfl) rfl rfl hl.1 rfl (lv_room (Nat.le_of_ble_eq_true rfl)) dL_law_171 ⟨(Nat.le_of_ble_eq_true rfl), (Nat.le_of_ble_eq_true rfl)⟩) hw hA (fun r20 S19 H locs hpost hw => ?_)
          obtain ⟨hr_, hS_⟩ := hpost
          subst hr_
          subst hS_
          refine n_icmp_ne (tgt := 194) hx hb (by omega) (by omega) dL_law_174 (by decide) (fun h_174 => ?_) (fun h_174 => ?_)
          · omega
          · skip
            refine lv_aload_n hx hb dL_law_177 rfl (lv_at hl 5 rfl) ?_
            refine lv_iload hx hb dL_law_178 (lv_at hl 0 rfl) ?_
            refine lv_iconst (v := nI 2) hx hb dL_law_180 (by decide) ?_
            refine p_calli (va_runV (As := [.int (nI kx), .int (nI 2)]) (rest := []) C.fix (g_X11_ofStage2 l D cy S1 H.size hP3 kx (by omega)) (cwV 2 C.2.2.2.2.1 (gU_V mw_607 mw_531 mw_532 mw_2 (subU mw_533)) rfl rfl rfl hdlaw_C_V_2 ⟨Nat.le_of_ble_eq_true rfl, Nat.le_of_ble_eq_true rfl⟩) (p_preV C hw (hP3.mem (k := 0) (by omega)) hP3.c0 rfl) rfl rfl hl.1 rfl (lv_room (Nat.le_of_ble_eq_true rfl)) dL_law_181 ⟨(Nat.le_of_ble_eq_true rfl), (Nat.le_of_ble_eq_true rfl)⟩) hw hA (fun r24 S23 H locs hpost hw => ?_)
            obtain ⟨hr_, hS_⟩ := hpost
            subst hr_
            subst hS_
            refine lv_aload_n hx hb dL_law_184 rfl (lv_at hl 5 rfl) ?_
            refine lv_iload hx hb dL_law_185 (lv_at hl 0 rfl) ?_
            refine lv_iconst (v := nI 1) hx hb dL_law_187 (by decide) ?_
            refine p_calli (va_runV (As := [.int (nI kx), .int (nI 1)]) (rest := [.int (nI (V5.1 (kx + 1)))]) C.fix (g_X11_ofStage1 l D cy S1 H.size hP3 kx (by omega)) (cwV 2 C.2.2.2.2.1 (gU_V mw_607 mw_531 mw_532 mw_2 (subU mw_533)) rfl rfl rfl hdlaw_C_V_2 ⟨Nat.le_of_ble_eq_true rfl, Nat.le_of_ble_eq_true rfl⟩) (p_preV C hw (hP3.mem (k := 0) (by omega)) hP3.c0 rfl) rfl rfl hl.1 rfl (lv_room (Nat.le_of_ble_eq_true rfl)) dL_law_188 ⟨(Nat.le_of_ble_eq_true rfl), (Nat.le_of_ble_eq_true rfl)⟩) hw hA (fun r28 S27 H locs hpost hw => ?_)
            obtain ⟨hr_, hS_⟩ := hpost
            subst hr_
            subst hS_
            refine n_icmp_ge (tgt := 196) hx hb (by omega) (by omega) dL_law_191 (by decide) (fun h_191 => ?_) (fun h_191 => ?_)
            · skip
              refine lv_iinc (v := (nI (kx + 1))) (lv' := [(7, .int (nI (kx + 1))), (6, .int (nI n)), (4, .long sm), (3, .int (nI ap)), (2, .ref row), (1, .ref (G 0)), (0, .ref ed)]) hx hb dL_law_196 hl (k := 0) rfl (by rw [show Int32.ofInt 1 = nI 1 from by decide, nI_add]) (by decide) rfl (fun ls hl => ?_)
              refine lv_goto (tgt := 141) hx hb dL_law_199 (by decide) ?_
              exact ihloop141_12  (kx + 1) (by omega)    H locs ls   (by omega) hw (lv_sub hl [0, 1, 2, 3, 4, 5, 6] rfl)
            · omega
        · skip
          have hz3 : V5.1 kx = len := by rw [h_157]; exact hl0
          refine lv_aload_n hx hb dL_law_160 rfl (lv_at hl 4 rfl) ?_
          refine n_len C hw 0 rfl (hA_row.frm hF4 hk_row).1 (hA_row.frm hF4 hk_row).2 (n := len) rfl dL_law_161 ?_
          refine lv_goto (tgt := 174) hx hb dL_law_162 (by decide) ?_
          refine n_icmp_ne (tgt := 194) hx hb (by omega) (by omega) dL_law_174 (by decide) (fun h_174 => ?_) (fun h_174 => ?_)
          · omega
          · skip
            refine lv_aload_n hx hb dL_law_177 rfl (lv_at hl 5 rfl) ?_
            refine lv_iload hx hb dL_law_178 (lv_at hl 0 rfl) ?_
            refine lv_iconst (v := nI 2) hx hb dL_law_180 (by decide) ?_
            refine p_calli (va_runV (As := [.int (nI kx), .int (nI 2)]) (rest := []) C.fix (g_X11_ofStage2 l D cy S1 H.size hP3 kx (by omega)) (cwV 2 C.2.2.2.2.1 (gU_V mw_607 mw_531 mw_532 mw_2 (subU mw_533)) rfl rfl rfl hdlaw_C_V_2 ⟨Nat.le_of_ble_eq_true rfl, Nat.le_of_ble_eq_true rfl⟩) (p_preV C hw (hP3.mem (k := 0) (by omega)) hP3.c0 rfl) rfl rfl hl.1 rfl (lv_room (Nat.le_of_ble_eq_true rfl)) dL_law_181 ⟨(Nat.le_of_ble_eq_true rfl), (Nat.le_of_ble_eq_true rfl)⟩) hw hA (fun r32 S31 H locs hpost hw => ?_)
            obtain ⟨hr_, hS_⟩ := hpost
            subst hr_
            subst hS_
            refine lv_aload_n hx hb dL_law_184 rfl (lv_at hl 5 rfl) ?_
            refine lv_iload hx hb dL_law_185 (lv_at hl 0 rfl) ?_
            refine lv_iconst (v := nI 1) hx hb dL_law_187 (by decide) ?_
            refine p_calli (va_runV (As := [.int (nI kx), .int (nI 1)]) (rest := [.int (nI (V5.1 (kx + 1)))]) C.fix (g_X11_ofStage1 l D cy S1 H.size hP3 kx (by omega)) (cwV 2 C.2.2.2.2.1 (gU_V mw_607 mw_531 mw_532 mw_2 (subU mw_533)) rfl rfl rfl hdlaw_C_V_2 ⟨Nat.le_of_ble_eq_true rfl, Nat.le_of_ble_eq_true rfl⟩) (p_preV C hw (hP3.mem (k := 0) (by omega)) hP3.c0 rfl) rfl rfl hl.1 rfl (lv_room (Nat.le_of_ble_eq_true rfl)) dL_law_188 ⟨(Nat.le_of_ble_eq_true rfl), (Nat.le_of_ble_eq_true rfl)⟩) hw hA (fun r36 S35 H locs hpost hw => ?_)
            obtain ⟨hr_, hS_⟩ := hpost
            subst hr_
            subst hS_
            refine n_icmp_ge (tgt := 196) hx hb (by omega) (by omega) dL_law_191 (by decide) (fun h_191 => ?_) (fun h_191 => ?_)
            · skip
              refine lv_iinc (v := (nI (kx + 1))) (lv' := [(7, .int (nI (kx + 1))), (6, .int (nI n)), (4, .long sm), (3, .int (nI ap)), (2, .ref row), (1, .ref (G 0)), (0, .ref ed)]) hx hb dL_law_196 hl (k := 0) rfl (by rw [show Int32.ofInt 1 = nI 1 from by decide, nI_add]) (by decide) rfl (fun ls hl => ?_)
              refine lv_goto (tgt := 141) hx hb dL_law_199 (by decide) ?_
              exact ihloop141_12  (kx + 1) (by omega)    H locs ls   (by omega) hw (lv_sub hl [0, 1, 2, 3, 4, 5, 6] rfl)
            · omega
  exact loop141_12 (n - 0 + 1) 0 (by omega)    H locs ls   (Nat.zero_le _) hw (lv_sub hl [0, 1, 2, 3, 4, 5, 6] rfl)
