theorem hdg_X11_breaks_V_0 : yX11_last.cls = RX11 ∧ yX11_last.cls ≠ "java/lang/invoke/MethodHandle" ∧ yX11_last.cls ≠ "java/lang/invoke/VarHandle" ∧ (parseMethodDescriptor yX11_last.desc).map (fun d => d.parameters.length) = some 1 := by decide +kernel
theorem hdg_X11_breaks_V_1 : yX7_copy.cls = RX7 ∧ yX7_copy.cls ≠ "java/lang/invoke/MethodHandle" ∧ yX7_copy.cls ≠ "java/lang/invoke/VarHandle" ∧ (parseMethodDescriptor yX7_copy.desc).map (fun d => d.parameters.length) = some 1 := by decide +kernel
theorem hdg_X11_breaks_V_2 : yX7_size.cls = RX7 ∧ yX7_size.cls ≠ "java/lang/invoke/MethodHandle" ∧ yX7_size.cls ≠ "java/lang/invoke/VarHandle" ∧ (parseMethodDescriptor yX7_size.desc).map (fun d => d.parameters.length) = some 0 := by decide +kernel
theorem hdg_X11_breaks_V_3 : yX7_turn.cls = RX7 ∧ yX7_turn.cls ≠ "java/lang/invoke/MethodHandle" ∧ yX7_turn.cls ≠ "java/lang/invoke/VarHandle" ∧ (parseMethodDescriptor yX7_turn.desc).map (fun d => d.parameters.length) = some 1 := by decide +kernel
theorem hdg_X11_breaks_V_4 : yX1_decode.cls = RX1 ∧ yX1_decode.cls ≠ "java/lang/invoke/MethodHandle" ∧ yX1_decode.cls ≠ "java/lang/invoke/VarHandle" ∧ (parseMethodDescriptor yX1_decode.desc).map (fun d => d.parameters.length) = some 2 := by decide +kernel
theorem hdg_X11_breaks_V_5 : yX11_errorsIn.cls = RX11 ∧ yX11_errorsIn.cls ≠ "java/lang/invoke/MethodHandle" ∧ yX11_errorsIn.cls ≠ "java/lang/invoke/VarHandle" ∧ (parseMethodDescriptor yX11_errorsIn.desc).map (fun d => d.parameters.length) = some 1 := by decide +kernel
set_option maxHeartbeats 4000000 in
set_option maxRecDepth 100000 in
theorem g_X11_breaks (l : Launch) (D : va_G) (cy : Nat → ClassId) (S : pS) (sz : Nat) {G T : Nat → Nat} {n : Nat} {ws : Nat → WV} {l1 l2 : va_E} {V : RV} (hP : Pic cy S G T n ws l1 l2 V) (fr : Nat) (hfr : fr < 320) (hs : ∀ j, j < n → V.1 (j + 1) = sSize (ws j) (V.1 j)) (hu : ∀ j, j ≤ n → V.1 (j + 5) = V.1 j) : Met l yX11_breaks (Cond.code yX11_breaks cX11_breaks 5 (some .int) :: lwU) ({ frames := 5, cells := 0, slots := 0, locals := 124 }) (pPc D cy S sz [.ref (G 0), .int (nI fr)]) (pQi D cy S sz (fun r S' => ∃ V', r = nI (brkN ws n V fr) ∧ Pic cy S' G T n ws l1 l2 V' ∧ Frm G S S' ∧ Kp V V')) 0 0 (pA S sz) := by
  refine Met.ofW (cc := cX11_breaks) (maxL := 5) (ret := (some .int)) (by decide) rfl ?_
  intro p e s m args below meth c s₁ B hml hv
  obtain ⟨rfl, rfl, C, hw, hA, hr, hlocks⟩ := p_start B hml hv
  have hx := C.1
  have hb := C.2.1
  have hl := lv_entry ([.ref (G 0), .int (nI fr)]) (n := 5) (Nat.le_of_ble_eq_true rfl)
  rw [lg_entry_eq]
  generalize (lg_sl ([.ref (G 0), .int (nI fr)]) ++ List.replicate (5 - (lg_sl ([.ref (G 0), .int (nI fr)])).length) Slot.unset).toArray = ls at hl ⊢
  have hl : lv_has ls 5 [(0, .ref (G 0)), (1, .int (nI fr))] := hl
  have hin_RX11 : ∀ w ∈ u_ws RX11 TX11 8, w ∈ (Cond.code yX11_breaks cX11_breaks 5 (some .int) :: lwU) := fun w h => mU (sub_RX11 w h)
  have hn4 := hP.n4
  have h320 := hP.r320 (r := n) (by omega)
  have hcn := hP.rn (r := n) (by omega)
  have h3200 := hP.r320 (r := 0) (by omega)
  refine lv_iload_n hx hb dX11_breaks_0 rfl (lv_at hl 1 rfl) ?_
  refine n_if_lt (tgt := 11) hx hb (by omega) dX11_breaks_1 (by decide) ?_
  refine lv_iload_n hx hb dX11_breaks_4 rfl (lv_at hl 1 rfl) ?_
  refine lv_sipush (v := nI 320) hx hb dX11_breaks_5 (by decide) ?_
  refine n_icmp_lt (tgt := 21) hx hb (by omega) (by omega) dX11_breaks_8 (by decide) (fun h_8 => ?_) (fun h_8 => ?_)
  · skip
    refine lv_aload_n hx hb dX11_breaks_21 rfl (lv_at hl 0 rfl) ?_
    refine lv_aload_n hx hb dX11_breaks_22 rfl (lv_at hl 0 rfl) ?_
    refine p_get C hw (ci := 10) (Cn := RX11) (T := TX11) (N := 8) (hP.mem (k := 0) (by omega)) hP.c0 rfl hin_RX11 6 (by decide) (mU mw_28) rfl rfl dX11_breaks_23 ?_
    refine p_callq (va_runV (As := [.ref (G 11)]) (rest := []) C.fix (g_X11_last2 l D cy S s.heap.size hP) (cwV 1 C.2.2.2.2.1 (gU_V mw_241 mw_242 mw_243 mw_2 (subU mw_244)) rfl rfl rfl hdg_X11_breaks_V_0 ⟨Nat.le_of_ble_eq_true rfl, Nat.le_of_ble_eq_true rfl⟩) (p_preV C hw (hP.mem (k := 0) (by omega)) hP.c0 rfl) rfl rfl hl.1 rfl (lv_room (Nat.le_of_ble_eq_true rfl)) dX11_breaks_26 ⟨(Nat.le_of_ble_eq_true rfl), (Nat.le_of_ble_eq_true rfl)⟩) hw hA (fun r2 S1 H locs hpost hw => ?_)
    obtain ⟨hr_, hS_⟩ := hpost
    subst hr_
    subst hS_
    refine lv_astore_n (lv' := [(2, .ref (G (21 + (n + 10)))), (0, .ref (G 0)), (1, .int (nI fr))]) hx hb dX11_breaks_29 rfl hl (by decide) rfl (fun ls hl => ?_)
    refine lv_aload_n hx hb dX11_breaks_30 rfl (lv_at hl 0 rfl) ?_
    refine lv_aload_n hx hb dX11_breaks_31 rfl (lv_at hl 1 rfl) ?_
    refine lv_aload_n hx hb dX11_breaks_32 rfl (lv_at hl 1 rfl) ?_
    refine p_get C hw (ci := 10) (Cn := RX11) (T := TX11) (N := 8) (hP.mem (k := 0) (by omega)) hP.c0 rfl hin_RX11 4 (by decide) (mU mw_26) rfl rfl dX11_breaks_33 ?_
    refine p_callq (va_runV (As := [.ref (G 9)]) (rest := [.ref (G (21 + (n + 10)))]) C.fix (g_X11_last0 l D cy S H.size hP) (cwV 1 C.2.2.2.2.1 (gU_V mw_241 mw_242 mw_243 mw_2 (subU mw_244)) rfl rfl rfl hdg_X11_breaks_V_0 ⟨Nat.le_of_ble_eq_true rfl, Nat.le_of_ble_eq_true rfl⟩) (p_preV C hw (hP.mem (k := 0) (by omega)) hP.c0 rfl) rfl rfl hl.1 rfl (lv_room (Nat.le_of_ble_eq_true rfl)) dX11_breaks_36 ⟨(Nat.le_of_ble_eq_true rfl), (Nat.le_of_ble_eq_true rfl)⟩) hw hA (fun r6 S5 H locs hpost hw => ?_)
    obtain ⟨hr_, hS_⟩ := hpost
    subst hr_
    subst hS_
    refine p_callv (va_runV (As := [.ref (G (21 + n))]) (rest := []) C.fix (q_copy l D cy S H.size hP (n + 10) n (by omega) (by omega) (by omega)) (cwV 1 C.2.2.2.2.1 (gU_V mw_249 mw_250 mw_251 mw_21 sub_X7_copy) rfl rfl rfl hdg_X11_breaks_V_1 ⟨Nat.le_of_ble_eq_true rfl, Nat.le_of_ble_eq_true rfl⟩) (p_preV C hw (hP.mem (k := 21 + (n + 10)) (by omega)) (hP.rh (r := (n + 10)) (by omega)) rfl) rfl rfl hl.1 rfl (lv_room (Nat.le_of_ble_eq_true rfl)) dX11_breaks_39 ⟨(Nat.le_of_ble_eq_true rfl), (Nat.le_of_ble_eq_true rfl)⟩) hw hA (fun S9 H locs hpost hw => ?_)
    obtain ⟨hP11, hF12⟩ := hpost
    obtain ⟨V13, hV13⟩ : ∃ z : RV, z = (va_up V.1 (n + 10) (min (V.1 n) (gcap (n + 10))), va_up V.2 (n + 10) (rcop (V.2 (n + 10)) (V.2 n) (V.1 n) (min (V.1 n) (gcap (n + 10))))) := ⟨_, rfl⟩
    rw [← hV13] at hP11
    have hb0 := brk_0row (fr := fr) hn4 hcn hV13
    refine lv_aload_n hx hb dX11_breaks_42 rfl (lv_at hl 0 rfl) ?_
    refine p_calli (va_runV (As := []) (rest := []) C.fix (c_X7_size l D cy S9 H.size (G (21 + (n + 10))) (G (37 + (n + 10))) (V13.1 (n + 10)) (hP11.mem (by omega)) (hP11.rh (r := (n + 10)) (by omega))) (cwV 0 C.2.2.2.2.1 (gU_V mw_115 mw_116 mw_117 mw_21 sub_X7_size) rfl rfl rfl hdg_X11_breaks_V_2 ⟨Nat.le_of_ble_eq_true rfl, Nat.le_of_ble_eq_true rfl⟩) (p_preV C hw (hP11.mem (k := 21 + (n + 10)) (by omega)) (hP11.rh (r := (n + 10)) (by omega)) rfl) rfl rfl hl.1 rfl (lv_room (Nat.le_of_ble_eq_true rfl)) dX11_breaks_43 ⟨(Nat.le_of_ble_eq_true rfl), (Nat.le_of_ble_eq_true rfl)⟩) hw hA (fun r15 S14 H locs hpost hw => ?_)
    obtain ⟨hr_, hS_⟩ := hpost
    subst hr_
    subst hS_
    refine n_ren (b := V.1 n) hb0.1 ?_
    refine lv_istore_n (lv' := [(3, .int (nI (V.1 n))), (2, .ref (G (21 + (n + 10)))), (0, .ref (G 0)), (1, .int (nI fr))]) hx hb dX11_breaks_46 rfl hl (by decide) rfl (fun ls hl => ?_)
    refine lv_iload_n hx hb dX11_breaks_47 rfl (lv_at hl 3 rfl) ?_
    refine lv_istore (lv' := [(4, .int (nI fr)), (3, .int (nI (V.1 n))), (2, .ref (G (21 + (n + 10)))), (0, .ref (G 0)), (1, .int (nI fr))]) hx hb dX11_breaks_48 hl (by decide) rfl (fun ls hl => ?_)
    have loop50_18 : ∀ (kf : Nat) (mt : Nat), V.1 n - mt < kf → ∀ (Sx19 : pS) (Vx20 : RV) (H : Heap) (locs : List Loc) (ls : Array Slot), Pic cy Sx19 G T n ws l1 l2 Vx20 → Frm G S Sx19 → (mt ≤ V.1 n) → (Vx20.1 (n + 10) = V.1 n) → (∀ q, q < V.1 n → Vx20.2 (n + 10) q = trn (V.2 n) fr mt q) → (Kp V Vx20) → (∀ i, 1 ≤ i → i ≤ mt → eOf ws n V (trn (V.2 n) fr i) = 0) → pW D (pA S s.heap.size) s.heap Sx19 H locs → lv_has ls 5 [(4, .int (nI (fr + mt))), (3, .int (nI (V.1 n))), (2, .ref (G (21 + (n + 10)))), (0, .ref (G 0)), (1, .int (nI fr))] → W p l e (headSpec (Cond.code yX11_breaks cX11_breaks 5 (some .int) :: lwU) ({ frames := 5, cells := 0, slots := 0, locals := 124 } : Room)).room s m ([.ref (G 0), .int (nI fr)]).toArray below meth c H locs 0 0 (MQ below (pQi D cy S s.heap.size (fun r S' => ∃ V', r = nI (brkN ws n V fr) ∧ Pic cy S' G T n ws l1 l2 V' ∧ Frm G S S' ∧ Kp V V')) ([.ref (G 0), .int (nI fr)]).toArray s 0 0 (pA S s.heap.size)) (F0 m 50 ls []) := by
      intro kf
      induction kf with
      | zero => intro mt hm; exact absurd hm (Nat.not_lt_zero _)
      | succ kf ihloop50_18 =>
        intro mt hm Sx19 Vx20 H locs ls hP21 hF22 hmb hrow hq hk he hw hl
        refine lv_iload hx hb dX11_breaks_50 (lv_at hl 0 rfl) ?_
        refine lv_iload_n hx hb dX11_breaks_52 rfl (lv_at hl 1 rfl) ?_
        refine n_icmp_ge (tgt := 101) hx hb (by omega) (by omega) dX11_breaks_53 (by decide) (fun h_53 => ?_) (fun h_53 => ?_)
        · skip
          refine lv_iconst (v := nI 0) hx hb dX11_breaks_101 (by decide) ?_
          exact (p_iret C hw ⟨Vx20, (by rw [show brkN ws n V fr = 0 from brk_z (fun i h1 h2 => he i h1 (by omega))]), hP21, hF22, hk⟩ hr hlocks dX11_breaks_102)
        · skip
          refine lv_aload_n hx hb dX11_breaks_56 rfl (lv_at hl 2 rfl) ?_
          refine lv_iload hx hb dX11_breaks_57 (lv_at hl 0 rfl) ?_
          refine p_callv (va_runV (As := [.int (nI (fr + mt))]) (rest := []) C.fix (q_turn l D cy Sx19 H.size hP21 (n + 10) (fr + mt) (by omega) (by omega)) (cwV 1 C.2.2.2.2.1 (gU_V mw_598 mw_266 mw_267 mw_21 sub_X7_turn) rfl rfl rfl hdg_X11_breaks_V_3 ⟨Nat.le_of_ble_eq_true rfl, Nat.le_of_ble_eq_true rfl⟩) (p_preV C hw (hP21.mem (k := 21 + (n + 10)) (by omega)) (hP21.rh (r := (n + 10)) (by omega)) rfl) rfl rfl hl.1 rfl (lv_room (Nat.le_of_ble_eq_true rfl)) dX11_breaks_59 ⟨(Nat.le_of_ble_eq_true rfl), (Nat.le_of_ble_eq_true rfl)⟩) hw hA (fun S23 H locs hpost hw => ?_)
          obtain ⟨hP25, hF26⟩ := hpost
          obtain ⟨V27, hV27⟩ : ∃ z : RV, z = (Vx20.1, va_up Vx20.2 (n + 10) (rturn (Vx20.2 (n + 10)) (Vx20.1 (n + 10)) (fr + mt))) := ⟨_, rfl⟩
          rw [← hV27] at hP25
          have hT28 := hF22.trans hF26
          refine lv_aload_n hx hb dX11_breaks_62 rfl (lv_at hl 3 rfl) ?_
          refine p_get C hw (ci := 10) (Cn := RX11) (T := TX11) (N := 8) (hP25.mem (k := 0) (by omega)) hP25.c0 rfl hin_RX11 0 (by decide) (mU mw_13) rfl rfl dX11_breaks_63 ?_
          refine lv_aload_n hx hb dX11_breaks_66 rfl (lv_at hl 3 rfl) ?_
          refine p_get C hw (ci := 10) (Cn := RX11) (T := TX11) (N := 8) (hP25.mem (k := 0) (by omega)) hP25.c0 rfl hin_RX11 6 (by decide) (mU mw_28) rfl rfl dX11_breaks_67 ?_
          refine lv_aload_n hx hb dX11_breaks_70 rfl (lv_at hl 3 rfl) ?_
          refine p_get C hw (ci := 10) (Cn := RX11) (T := TX11) (N := 8) (hP25.mem (k := 0) (by omega)) hP25.c0 rfl hin_RX11 4 (by decide) (mU mw_26) rfl rfl dX11_breaks_71 ?_
          refine p_callv (va_runV (As := [.ref (G 11), .ref (G 9)]) (rest := []) C.fix (g_X1_decode2 l D cy S23 H.size hP25 (fun j hj => by rw [hV27]; show _ = sSize (ws j) _; rw [(hk (j + 1) (by omega)).1, (hk j (by omega)).1]; exact hs j hj) (by rw [hV27]; exact hrow.trans (hk n (by omega)).1.symm)) (cwV 2 C.2.2.2.2.1 (gU_V mw_284 mw_285 mw_286 mw_12 (subU mw_287)) rfl rfl rfl hdg_X11_breaks_V_4 ⟨Nat.le_of_ble_eq_true rfl, Nat.le_of_ble_eq_true rfl⟩) (p_preV C hw (hP25.mem (k := 1) (by omega)) hP25.c1 rfl) rfl rfl hl.1 rfl (lv_room (Nat.le_of_ble_eq_true rfl)) dX11_breaks_74 ⟨(Nat.le_of_ble_eq_true rfl), (Nat.le_of_ble_eq_true rfl)⟩) hw hA (fun S29 H locs hpost hw => ?_)
          obtain ⟨V33, hP31, hF32, hK34⟩ := hpost
          have hT35 := hT28.trans hF32
          have hb9 := brk_st hP hs h_53 hrow hq hk hV27 hK34
          refine lv_aload_n hx hb dX11_breaks_77 rfl (lv_at hl 3 rfl) ?_
          refine lv_aload_n hx hb dX11_breaks_78 rfl (lv_at hl 3 rfl) ?_
          refine p_get C hw (ci := 10) (Cn := RX11) (T := TX11) (N := 8) (hP31.mem (k := 0) (by omega)) hP31.c0 rfl hin_RX11 6 (by decide) (mU mw_28) rfl rfl dX11_breaks_79 ?_
          refine p_calli (va_runV (As := [.ref (G 11)]) (rest := []) C.fix (g_X11_errorsIn2 l D cy S29 H.size hP31) (cwV 1 C.2.2.2.2.1 (gU_V mw_522 mw_523 mw_524 mw_2 (subU mw_525)) rfl rfl rfl hdg_X11_breaks_V_5 ⟨Nat.le_of_ble_eq_true rfl, Nat.le_of_ble_eq_true rfl⟩) (p_preV C hw (hP31.mem (k := 0) (by omega)) hP31.c0 rfl) rfl rfl hl.1 rfl (lv_room (Nat.le_of_ble_eq_true rfl)) dX11_breaks_82 ⟨(Nat.le_of_ble_eq_true rfl), (Nat.le_of_ble_eq_true rfl)⟩) hw hA (fun r37 S36 H locs hpost hw => ?_)
          obtain ⟨hr_, hS_⟩ := hpost
          subst hr_
          subst hS_
          have hle9 := cnt_le (isOther (V33.2 0) (V33.1 0) (V33.2 10) (V33.1 10)) (V33.1 0)
          have h09 := (hb9.2.2.1 0 (by omega)).1
          refine n_if_le (tgt := 95) hx hb (by omega) dX11_breaks_85 (by decide) (fun h_85 => ?_) (fun h_85 => ?_)
          · skip
            have hz9 : eOf ws n V (trn (V.2 n) fr (mt + 1)) = 0 := hb9.2.2.2.symm.trans h_85
            refine lv_iinc (v := (nI ((fr + mt) + 1))) (lv' := [(4, .int (nI ((fr + mt) + 1))), (3, .int (nI (V.1 n))), (2, .ref (G (21 + (n + 10)))), (0, .ref (G 0)), (1, .int (nI fr))]) hx hb dX11_breaks_95 hl (k := 0) rfl (by rw [show Int32.ofInt 1 = nI 1 from by decide, nI_add]) (by decide) rfl (fun ls hl => ?_)
            refine lv_goto (tgt := 50) hx hb dX11_breaks_98 (by decide) ?_
            exact ihloop50_18 (mt + 1) (by omega) S29 V33 H locs ls hP31 hT35 (by omega) hb9.1 hb9.2.1 hb9.2.2.1 (fun i h1 h2 => dite (i = mt + 1) (fun e => by rw [e]; exact hz9) (fun e => he i h1 (by omega))) hw (lv_sub hl [0, 1, 2, 3, 4] rfl)
          · skip
            have hz9 : 0 < eOf ws n V (trn (V.2 n) fr (mt + 1)) := by rw [← hb9.2.2.2]; exact h_85
            refine lv_iload hx hb dX11_breaks_88 (lv_at hl 0 rfl) ?_
            refine lv_iload_n hx hb dX11_breaks_90 rfl (lv_at hl 4 rfl) ?_
            refine n_isub hx hb (by omega) dX11_breaks_91 ?_
            refine lv_iconst (v := nI 1) hx hb dX11_breaks_92 (by decide) ?_
            refine n_iadd hx hb dX11_breaks_93 ?_
            refine n_ren (b := mt + 1) (by omega) ?_
            exact (p_iret C hw ⟨V33, (by rw [show brkN ws n V fr = mt + 1 from brk_at (fun i h1 h2 => he i h1 (by omega)) hz9 (by omega) (by omega)]), hP31, hT35, hb9.2.2.1⟩ hr hlocks dX11_breaks_94)
    exact loop50_18 (V.1 n - 0 + 1) 0 (by omega) S9 V13 H locs ls hP11 hF12 (Nat.zero_le _) hb0.1 hb0.2.1 hb0.2.2 (fun i h1 h2 => absurd h2 (by omega)) hw (lv_sub hl [0, 1, 2, 3, 4] rfl)
  · exact absurd h_8 (by first | decide | omega)

theorem hdg_X11_meanErrors_V_0 : yX5_become.cls = RX5 ∧ yX5_become.cls ≠ "java/lang/invoke/MethodHandle" ∧ yX5_become.cls ≠ "java/lang/invoke/VarHandle" ∧ (parseMethodDescriptor yX5_become.desc).map (fun d => d.parameters.length) = some 4 := by decide +kernel
theorem hdg_X11_meanErrors_V_1 : yX11_send.cls = RX11 ∧ yX11_send.cls ≠ "java/lang/invoke/MethodHandle" ∧ yX11_send.cls ≠ "java/lang/invoke/VarHandle" ∧ (parseMethodDescriptor yX11_send.desc).map (fun d => d.parameters.length) = some 2 := by decide +kernel
theorem hdg_X11_meanErrors_V_2 : yX1_decode.cls = RX1 ∧ yX1_decode.cls ≠ "java/lang/invoke/MethodHandle" ∧ yX1_decode.cls ≠ "java/lang/invoke/VarHandle" ∧ (parseMethodDescriptor yX1_decode.desc).map (fun d => d.parameters.length) = some 2 := by decide +kernel
theorem hdg_X11_meanErrors_V_3 : yX11_errorsIn.cls = RX11 ∧ yX11_errorsIn.cls ≠ "java/lang/invoke/MethodHandle" ∧ yX11_errorsIn.cls ≠ "java/lang/invoke/VarHandle" ∧ (parseMethodDescriptor yX11_errorsIn.desc).map (fun d => d.parameters.length) = some 1 := by decide +kernel
set_option maxHeartbeats 4000000 in
set_option maxRecDepth 100000 in
theorem g_X11_meanErrors (l : Launch) (D : va_G) (cy : Nat → ClassId) (S : pS) (sz : Nat) {G T : Nat → Nat} {n : Nat} {ws : Nat → WV} {l1 : va_E} {V : RV} {k2 : Nat} {x2 y2 z2 : Int32} (hP : Pic cy S G T n ws l1 (.inr (5, [.int (nI k2), .int x2, .int y2, .int z2])) V) (hs : ∀ j, j < n → V.1 (j + 1) = sSize (ws j) (V.1 j)) (hu : ∀ j, j ≤ n → V.1 (j + 5) = V.1 j) : Met l yX11_meanErrors (Cond.code yX11_meanErrors cX11_meanErrors 5 (some .double) :: lwU) ({ frames := 5, cells := 0, slots := 0, locals := 124 }) (pPc D cy S sz [.ref (G 0), .int (nI 0), .int (nI 5)]) (pQd D cy S sz (fun r S' => ∃ (sm : Nat) (V' : RV), sm ≤ 5 * V.1 0 ∧ r = FP.ddiv (FP.i2d (nI sm)) (FP.i2d (nI 5)) ∧ Pic cy S' G T n ws l1 (.inr (5, [.int (nI 1), .int (nI 0), .int (nI 5), .int (nI 0)])) V' ∧ Frm G S S' ∧ Kp V V')) 0 0 (pA S sz) := by
  refine Met.ofW (cc := cX11_meanErrors) (maxL := 5) (ret := (some .double)) (by decide) rfl ?_
  intro p e s m args below meth c s₁ B hml hv
  obtain ⟨rfl, rfl, C, hw, hA, hr, hlocks⟩ := p_start B hml hv
  have hx := C.1
  have hb := C.2.1
  have hl := lv_entry ([.ref (G 0), .int (nI 0), .int (nI 5)]) (n := 5) (Nat.le_of_ble_eq_true rfl)
  rw [lg_entry_eq]
  generalize (lg_sl ([.ref (G 0), .int (nI 0), .int (nI 5)]) ++ List.replicate (5 - (lg_sl ([.ref (G 0), .int (nI 0), .int (nI 5)])).length) Slot.unset).toArray = ls at hl ⊢
  have hl : lv_has ls 5 [(0, .ref (G 0)), (1, .int (nI 0)), (2, .int (nI 5))] := hl
  have hin_RX11 : ∀ w ∈ u_ws RX11 TX11 8, w ∈ (Cond.code yX11_meanErrors cX11_meanErrors 5 (some .double) :: lwU) := fun w h => mU (sub_RX11 w h)
  have hn4 := hP.n4
  have h3200 := hP.rn (r := 0) (by omega)
  have hcap0 : gcap 0 = 32 := by decide
  have hkk : Kp V V := Kp.id
  refine lv_iload_n hx hb dX11_meanErrors_0 rfl (lv_at hl 1 rfl) ?_
  refine n_if_lt (tgt := 11) hx hb (by first | decide | omega) dX11_meanErrors_1 (by decide) ?_
  refine lv_iload_n hx hb dX11_meanErrors_4 rfl (lv_at hl 1 rfl) ?_
  refine lv_sipush (v := nI 1000) hx hb dX11_meanErrors_5 (by decide) ?_
  refine n_icmp_le (tgt := 21) hx hb (by first | decide | omega) (by first | decide | omega) dX11_meanErrors_8 (by decide) (fun h_8 => ?_) (fun h_8 => ?_)
  · skip
    refine lv_iload_n hx hb dX11_meanErrors_21 rfl (lv_at hl 2 rfl) ?_
    refine lv_iconst (v := nI 1) hx hb dX11_meanErrors_22 (by decide) ?_
    refine n_icmp_lt (tgt := 32) hx hb (by first | decide | omega) (by first | decide | omega) dX11_meanErrors_23 (by decide) (fun h_23 => ?_) (fun h_23 => ?_)
    · exact absurd h_23 (by first | decide | omega)
    · skip
      refine lv_iload_n hx hb dX11_meanErrors_26 rfl (lv_at hl 2 rfl) ?_
      refine lv_bipush (v := nI 20) hx hb dX11_meanErrors_27 (by decide) ?_
      refine n_icmp_le (tgt := 42) hx hb (by first | decide | omega) (by first | decide | omega) dX11_meanErrors_29 (by decide) (fun h_29 => ?_) (fun h_29 => ?_)
      · skip
        refine lv_iconst (v := nI 0) hx hb dX11_meanErrors_42 (by decide) ?_
        refine lv_istore_n (lv' := [(3, .int (nI 0)), (0, .ref (G 0)), (1, .int (nI 0)), (2, .int (nI 5))]) hx hb dX11_meanErrors_43 rfl hl (by decide) rfl (fun ls hl => ?_)
        refine lv_iconst (v := nI 1) hx hb dX11_meanErrors_44 (by decide) ?_
        refine lv_istore (lv' := [(4, .int (nI 1)), (3, .int (nI 0)), (0, .ref (G 0)), (1, .int (nI 0)), (2, .int (nI 5))]) hx hb dX11_meanErrors_45 hl (by decide) rfl (fun ls hl => ?_)
        refine lv_iload hx hb dX11_meanErrors_47 (lv_at hl 0 rfl) ?_
        refine lv_iload_n hx hb dX11_meanErrors_49 rfl (lv_at hl 4 rfl) ?_
        refine n_icmp_gt (tgt := 109) hx hb (by first | decide | omega) (by first | decide | omega) dX11_meanErrors_50 (by decide) (fun h_50 => ?_) (fun h_50 => ?_)
        · exact absurd h_50 (by first | decide | omega)
        · skip
          refine lv_aload_n hx hb dX11_meanErrors_53 rfl (lv_at hl 2 rfl) ?_
          refine p_get C hw (ci := 10) (Cn := RX11) (T := TX11) (N := 8) (hP.mem (k := 0) (by omega)) hP.c0 rfl hin_RX11 2 (by decide) (mU mw_18) rfl rfl dX11_meanErrors_54 ?_
          refine lv_iconst (v := nI 1) hx hb dX11_meanErrors_57 (by decide) ?_
          refine lv_iload_n hx hb dX11_meanErrors_58 rfl (lv_at hl 3 rfl) ?_
          refine lv_iload hx hb dX11_meanErrors_59 (lv_at hl 0 rfl) ?_
          refine lv_iconst (v := nI 0) hx hb dX11_meanErrors_61 (by decide) ?_
          refine p_callv (va_runV (As := [.int (nI 1), .int (nI 0), .int (nI 1), .int (nI 0)]) (rest := []) C.fix (q_become2 l D cy S s.heap.size hP k2 x2 y2 z2 1 (nI 0) (nI 1) (nI 0) hP.c4) (cwV 4 C.2.2.2.2.1 (gU_V mw_620 mw_621 mw_622 mw_16 sub_X5_become) rfl rfl rfl hdg_X11_meanErrors_V_0 ⟨Nat.le_of_ble_eq_true rfl, Nat.le_of_ble_eq_true rfl⟩) (p_preV C hw (hP.mem (k := 4) (by omega)) hP.c4 rfl) rfl rfl hl.1 rfl (lv_room (Nat.le_of_ble_eq_true rfl)) dX11_meanErrors_62 ⟨(Nat.le_of_ble_eq_true rfl), (Nat.le_of_ble_eq_true rfl)⟩) hw hA (fun S1 H locs hpost hw => ?_)
          obtain ⟨hP3, hF4⟩ := hpost
          refine lv_aload_n hx hb dX11_meanErrors_65 rfl (lv_at hl 2 rfl) ?_
          refine lv_aload_n hx hb dX11_meanErrors_66 rfl (lv_at hl 2 rfl) ?_
          refine p_get C hw (ci := 10) (Cn := RX11) (T := TX11) (N := 8) (hP3.mem (k := 0) (by omega)) hP3.c0 rfl hin_RX11 2 (by decide) (mU mw_18) rfl rfl dX11_meanErrors_67 ?_
          refine lv_aload_n hx hb dX11_meanErrors_70 rfl (lv_at hl 2 rfl) ?_
          refine p_get C hw (ci := 10) (Cn := RX11) (T := TX11) (N := 8) (hP3.mem (k := 0) (by omega)) hP3.c0 rfl hin_RX11 6 (by decide) (mU mw_28) rfl rfl dX11_meanErrors_71 ?_
          refine p_callv (va_runV (As := [.ref (G 4), .ref (G 11)]) (rest := []) C.fix (g_X11_send2 l D cy S1 H.size hP3 0 1 0 (by decide) (by decide) (by decide) (by decide) (fun h => absurd h (by decide)) (fun _ => ⟨rfl, rfl⟩)) (cwV 2 C.2.2.2.2.1 (gU_V mw_237 mw_238 mw_239 mw_2 (subU mw_240)) rfl rfl rfl hdg_X11_meanErrors_V_1 ⟨Nat.le_of_ble_eq_true rfl, Nat.le_of_ble_eq_true rfl⟩) (p_preV C hw (hP3.mem (k := 0) (by omega)) hP3.c0 rfl) rfl rfl hl.1 rfl (lv_room (Nat.le_of_ble_eq_true rfl)) dX11_meanErrors_74 ⟨(Nat.le_of_ble_eq_true rfl), (Nat.le_of_ble_eq_true rfl)⟩) hw hA (fun S5 H locs hpost hw => ?_)
          obtain ⟨V9, hP7, hF8, hK10⟩ := hpost
          have hT11 := hF4.trans hF8
          have hsd := hK10
          refine lv_aload_n hx hb dX11_meanErrors_77 rfl (lv_at hl 2 rfl) ?_
          refine p_get C hw (ci := 10) (Cn := RX11) (T := TX11) (N := 8) (hP7.mem (k := 0) (by omega)) hP7.c0 rfl hin_RX11 0 (by decide) (mU mw_13) rfl rfl dX11_meanErrors_78 ?_
          refine lv_aload_n hx hb dX11_meanErrors_81 rfl (lv_at hl 2 rfl) ?_
          refine p_get C hw (ci := 10) (Cn := RX11) (T := TX11) (N := 8) (hP7.mem (k := 0) (by omega)) hP7.c0 rfl hin_RX11 6 (by decide) (mU mw_28) rfl rfl dX11_meanErrors_82 ?_
          refine lv_aload_n hx hb dX11_meanErrors_85 rfl (lv_at hl 2 rfl) ?_
          refine p_get C hw (ci := 10) (Cn := RX11) (T := TX11) (N := 8) (hP7.mem (k := 0) (by omega)) hP7.c0 rfl hin_RX11 4 (by decide) (mU mw_26) rfl rfl dX11_meanErrors_86 ?_
          refine p_callv (va_runV (As := [.ref (G 11), .ref (G 9)]) (rest := []) C.fix (g_X1_decode2 l D cy S5 H.size hP7 (fun j hj => by rw [(hsd.2.2 (j + 1) (by omega)).1, (hsd.2.2 j (by omega)).1, (hkk (j + 1) (by omega)).1, (hkk j (by omega)).1]; exact hs j hj) (by rw [hsd.1, (hsd.2.2 n (by omega)).1])) (cwV 2 C.2.2.2.2.1 (gU_V mw_284 mw_285 mw_286 mw_12 (subU mw_287)) rfl rfl rfl hdg_X11_meanErrors_V_2 ⟨Nat.le_of_ble_eq_true rfl, Nat.le_of_ble_eq_true rfl⟩) (p_preV C hw (hP7.mem (k := 1) (by omega)) hP7.c1 rfl) rfl rfl hl.1 rfl (lv_room (Nat.le_of_ble_eq_true rfl)) dX11_meanErrors_89 ⟨(Nat.le_of_ble_eq_true rfl), (Nat.le_of_ble_eq_true rfl)⟩) hw hA (fun S12 H locs hpost hw => ?_)
          obtain ⟨V16, hP14, hF15, hK17⟩ := hpost
          have hT18 := hT11.trans hF15
          have hkk : Kp V V16 := fun r hr => ⟨(hK17.2 r (by omega)).1.trans ((hsd.2.2 r (by omega)).1.trans (hkk r hr).1), (hK17.2 r (by omega)).2.trans ((hsd.2.2 r (by omega)).2.trans (hkk r hr).2)⟩
          refine lv_iload_n hx hb dX11_meanErrors_92 rfl (lv_at hl 1 rfl) ?_
          refine lv_aload_n hx hb dX11_meanErrors_93 rfl (lv_at hl 2 rfl) ?_
          refine lv_aload_n hx hb dX11_meanErrors_94 rfl (lv_at hl 2 rfl) ?_
          refine p_get C hw (ci := 10) (Cn := RX11) (T := TX11) (N := 8) (hP14.mem (k := 0) (by omega)) hP14.c0 rfl hin_RX11 6 (by decide) (mU mw_28) rfl rfl dX11_meanErrors_95 ?_
          refine p_calli (va_runV (As := [.ref (G 11)]) (rest := [.int (nI 0)]) C.fix (g_X11_errorsIn2 l D cy S12 H.size hP14) (cwV 1 C.2.2.2.2.1 (gU_V mw_522 mw_523 mw_524 mw_2 (subU mw_525)) rfl rfl rfl hdg_X11_meanErrors_V_3 ⟨Nat.le_of_ble_eq_true rfl, Nat.le_of_ble_eq_true rfl⟩) (p_preV C hw (hP14.mem (k := 0) (by omega)) hP14.c0 rfl) rfl rfl hl.1 rfl (lv_room (Nat.le_of_ble_eq_true rfl)) dX11_meanErrors_98 ⟨(Nat.le_of_ble_eq_true rfl), (Nat.le_of_ble_eq_true rfl)⟩) hw hA (fun r20 S19 H locs hpost hw => ?_)
          obtain ⟨hr_, hS_⟩ := hpost
          subst hr_
          subst hS_
          obtain ⟨er23, eer23⟩ : ∃ z : Nat, z = cnt (isOther (V16.2 0) (V16.1 0) (V16.2 10) (V16.1 10)) (V16.1 0) := ⟨_, rfl⟩
          refine n_ren (b := er23) eer23.symm ?_
          have her23 : er23 ≤ V.1 0 := by rw [← (hkk 0 (by omega)).1, eer23]; exact cnt_le _ _
          refine n_iadd hx hb dX11_meanErrors_101 ?_
          refine n_ren (b := er23) (by first | rfl | omega | simp) ?_
          refine lv_istore_n (lv' := [(3, .int (nI er23)), (4, .int (nI 1)), (0, .ref (G 0)), (1, .int (nI 0)), (2, .int (nI 5))]) hx hb dX11_meanErrors_102 rfl hl (by decide) rfl (fun ls hl => ?_)
          refine lv_iinc (v := (nI 2)) (lv' := [(4, .int (nI 2)), (3, .int (nI er23)), (0, .ref (G 0)), (1, .int (nI 0)), (2, .int (nI 5))]) hx hb dX11_meanErrors_103 hl (k := 1) rfl (by decide) (by decide) rfl (fun ls hl => ?_)
          refine lv_goto (tgt := 47) hx hb dX11_meanErrors_106 (by decide) ?_
          refine lv_iload hx hb dX11_meanErrors_47 (lv_at hl 0 rfl) ?_
          refine lv_iload_n hx hb dX11_meanErrors_49 rfl (lv_at hl 4 rfl) ?_
          refine n_icmp_gt (tgt := 109) hx hb (by first | decide | omega) (by first | decide | omega) dX11_meanErrors_50 (by decide) (fun h_50 => ?_) (fun h_50 => ?_)
          · exact absurd h_50 (by first | decide | omega)
          · skip
            refine lv_aload_n hx hb dX11_meanErrors_53 rfl (lv_at hl 2 rfl) ?_
            refine p_get C hw (ci := 10) (Cn := RX11) (T := TX11) (N := 8) (hP14.mem (k := 0) (by omega)) hP14.c0 rfl hin_RX11 2 (by decide) (mU mw_18) rfl rfl dX11_meanErrors_54 ?_
            refine lv_iconst (v := nI 1) hx hb dX11_meanErrors_57 (by decide) ?_
            refine lv_iload_n hx hb dX11_meanErrors_58 rfl (lv_at hl 3 rfl) ?_
            refine lv_iload hx hb dX11_meanErrors_59 (lv_at hl 0 rfl) ?_
            refine lv_iconst (v := nI 0) hx hb dX11_meanErrors_61 (by decide) ?_
            refine p_callv (va_runV (As := [.int (nI 1), .int (nI 0), .int (nI 2), .int (nI 0)]) (rest := []) C.fix (q_become2 l D cy S12 H.size hP14 1 (nI 0) (nI 1) (nI 0) 1 (nI 0) (nI 2) (nI 0) hP14.c4) (cwV 4 C.2.2.2.2.1 (gU_V mw_620 mw_621 mw_622 mw_16 sub_X5_become) rfl rfl rfl hdg_X11_meanErrors_V_0 ⟨Nat.le_of_ble_eq_true rfl, Nat.le_of_ble_eq_true rfl⟩) (p_preV C hw (hP14.mem (k := 4) (by omega)) hP14.c4 rfl) rfl rfl hl.1 rfl (lv_room (Nat.le_of_ble_eq_true rfl)) dX11_meanErrors_62 ⟨(Nat.le_of_ble_eq_true rfl), (Nat.le_of_ble_eq_true rfl)⟩) hw hA (fun S24 H locs hpost hw => ?_)
            obtain ⟨hP26, hF27⟩ := hpost
            have hT28 := hT18.trans hF27
            refine lv_aload_n hx hb dX11_meanErrors_65 rfl (lv_at hl 2 rfl) ?_
            refine lv_aload_n hx hb dX11_meanErrors_66 rfl (lv_at hl 2 rfl) ?_
            refine p_get C hw (ci := 10) (Cn := RX11) (T := TX11) (N := 8) (hP26.mem (k := 0) (by omega)) hP26.c0 rfl hin_RX11 2 (by decide) (mU mw_18) rfl rfl dX11_meanErrors_67 ?_
            refine lv_aload_n hx hb dX11_meanErrors_70 rfl (lv_at hl 2 rfl) ?_
            refine p_get C hw (ci := 10) (Cn := RX11) (T := TX11) (N := 8) (hP26.mem (k := 0) (by omega)) hP26.c0 rfl hin_RX11 6 (by decide) (mU mw_28) rfl rfl dX11_meanErrors_71 ?_
            refine p_callv (va_runV (As := [.ref (G 4), .ref (G 11)]) (rest := []) C.fix (g_X11_send2 l D cy S24 H.size hP26 0 2 0 (by decide) (by decide) (by decide) (by decide) (fun h => absurd h (by decide)) (fun _ => ⟨rfl, rfl⟩)) (cwV 2 C.2.2.2.2.1 (gU_V mw_237 mw_238 mw_239 mw_2 (subU mw_240)) rfl rfl rfl hdg_X11_meanErrors_V_1 ⟨Nat.le_of_ble_eq_true rfl, Nat.le_of_ble_eq_true rfl⟩) (p_preV C hw (hP26.mem (k := 0) (by omega)) hP26.c0 rfl) rfl rfl hl.1 rfl (lv_room (Nat.le_of_ble_eq_true rfl)) dX11_meanErrors_74 ⟨(Nat.le_of_ble_eq_true rfl), (Nat.le_of_ble_eq_true rfl)⟩) hw hA (fun S29 H locs hpost hw => ?_)
            obtain ⟨V33, hP31, hF32, hK34⟩ := hpost
            have hT35 := hT28.trans hF32
            have hsd := hK34
            refine lv_aload_n hx hb dX11_meanErrors_77 rfl (lv_at hl 2 rfl) ?_
            refine p_get C hw (ci := 10) (Cn := RX11) (T := TX11) (N := 8) (hP31.mem (k := 0) (by omega)) hP31.c0 rfl hin_RX11 0 (by decide) (mU mw_13) rfl rfl dX11_meanErrors_78 ?_
            refine lv_aload_n hx hb dX11_meanErrors_81 rfl (lv_at hl 2 rfl) ?_
            refine p_get C hw (ci := 10) (Cn := RX11) (T := TX11) (N := 8) (hP31.mem (k := 0) (by omega)) hP31.c0 rfl hin_RX11 6 (by decide) (mU mw_28) rfl rfl dX11_meanErrors_82 ?_
            refine lv_aload_n hx hb dX11_meanErrors_85 rfl (lv_at hl 2 rfl) ?_
            refine p_get C hw (ci := 10) (Cn := RX11) (T := TX11) (N := 8) (hP31.mem (k := 0) (by omega)) hP31.c0 rfl hin_RX11 4 (by decide) (mU mw_26) rfl rfl dX11_meanErrors_86 ?_
            refine p_callv (va_runV (As := [.ref (G 11), .ref (G 9)]) (rest := []) C.fix (g_X1_decode2 l D cy S29 H.size hP31 (fun j hj => by rw [(hsd.2.2 (j + 1) (by omega)).1, (hsd.2.2 j (by omega)).1, (hkk (j + 1) (by omega)).1, (hkk j (by omega)).1]; exact hs j hj) (by rw [hsd.1, (hsd.2.2 n (by omega)).1])) (cwV 2 C.2.2.2.2.1 (gU_V mw_284 mw_285 mw_286 mw_12 (subU mw_287)) rfl rfl rfl hdg_X11_meanErrors_V_2 ⟨Nat.le_of_ble_eq_true rfl, Nat.le_of_ble_eq_true rfl⟩) (p_preV C hw (hP31.mem (k := 1) (by omega)) hP31.c1 rfl) rfl rfl hl.1 rfl (lv_room (Nat.le_of_ble_eq_true rfl)) dX11_meanErrors_89 ⟨(Nat.le_of_ble_eq_true rfl), (Nat.le_of_ble_eq_true rfl)⟩) hw hA (fun S36 H locs hpost hw => ?_)
            obtain ⟨V40, hP38, hF39, hK41⟩ := hpost
            have hT42 := hT35.trans hF39
            have hkk : Kp V V40 := fun r hr => ⟨(hK41.2 r (by omega)).1.trans ((hsd.2.2 r (by omega)).1.trans (hkk r hr).1), (hK41.2 r (by omega)).2.trans ((hsd.2.2 r (by omega)).2.trans (hkk r hr).2)⟩
            refine lv_iload_n hx hb dX11_meanErrors_92 rfl (lv_at hl 1 rfl) ?_
            refine lv_aload_n hx hb dX11_meanErrors_93 rfl (lv_at hl 2 rfl) ?_
            refine lv_aload_n hx hb dX11_meanErrors_94 rfl (lv_at hl 2 rfl) ?_
            refine p_get C hw (ci := 10) (Cn := RX11) (T := TX11) (N := 8) (hP38.mem (k := 0) (by omega)) hP38.c0 rfl hin_RX11 6 (by decide) (mU mw_28) rfl rfl dX11_meanErrors_95 ?_
            refine p_calli (va_runV (As := [.ref (G 11)]) (rest := [.int (nI er23)]) C.fix (g_X11_errorsIn2 l D cy S36 H.size hP38) (cwV 1 C.2.2.2.2.1 (gU_V mw_522 mw_523 mw_524 mw_2 (subU mw_525)) rfl rfl rfl hdg_X11_meanErrors_V_3 ⟨Nat.le_of_ble_eq_true rfl, Nat.le_of_ble_eq_true rfl⟩) (p_preV C hw (hP38.mem (k := 0) (by omega)) hP38.c0 rfl) rfl rfl hl.1 rfl (lv_room (Nat.le_of_ble_eq_true rfl)) dX11_meanErrors_98 ⟨(Nat.le_of_ble_eq_true rfl), (Nat.le_of_ble_eq_true rfl)⟩) hw hA (fun r44 S43 H locs hpost hw => ?_)
            obtain ⟨hr_, hS_⟩ := hpost
            subst hr_
            subst hS_
            obtain ⟨er47, eer47⟩ : ∃ z : Nat, z = cnt (isOther (V40.2 0) (V40.1 0) (V40.2 10) (V40.1 10)) (V40.1 0) := ⟨_, rfl⟩
            refine n_ren (b := er47) eer47.symm ?_
            have her47 : er47 ≤ V.1 0 := by rw [← (hkk 0 (by omega)).1, eer47]; exact cnt_le _ _
            refine n_iadd hx hb dX11_meanErrors_101 ?_
            refine lv_istore_n (lv' := [(3, .int (nI (er23 + er47))), (4, .int (nI 2)), (0, .ref (G 0)), (1, .int (nI 0)), (2, .int (nI 5))]) hx hb dX11_meanErrors_102 rfl hl (by decide) rfl (fun ls hl => ?_)
            refine lv_iinc (v := (nI 3)) (lv' := [(4, .int (nI 3)), (3, .int (nI (er23 + er47))), (0, .ref (G 0)), (1, .int (nI 0)), (2, .int (nI 5))]) hx hb dX11_meanErrors_103 hl (k := 1) rfl (by decide) (by decide) rfl (fun ls hl => ?_)
            refine lv_goto (tgt := 47) hx hb dX11_meanErrors_106 (by decide) ?_
            refine lv_iload hx hb dX11_meanErrors_47 (lv_at hl 0 rfl) ?_
            refine lv_iload_n hx hb dX11_meanErrors_49 rfl (lv_at hl 4 rfl) ?_
            refine n_icmp_gt (tgt := 109) hx hb (by first | decide | omega) (by first | decide | omega) dX11_meanErrors_50 (by decide) (fun h_50 => ?_) (fun h_50 => ?_)
            · exact absurd h_50 (by first | decide | omega)
            · skip
              refine lv_aload_n hx hb dX11_meanErrors_53 rfl (lv_at hl 2 rfl) ?_
              refine p_get C hw (ci := 10) (Cn := RX11) (T := TX11) (N := 8) (hP38.mem (k := 0) (by omega)) hP38.c0 rfl hin_RX11 2 (by decide) (mU mw_18) rfl rfl dX11_meanErrors_54 ?_
              refine lv_iconst (v := nI 1) hx hb dX11_meanErrors_57 (by decide) ?_
              refine lv_iload_n hx hb dX11_meanErrors_58 rfl (lv_at hl 3 rfl) ?_
              refine lv_iload hx hb dX11_meanErrors_59 (lv_at hl 0 rfl) ?_
              refine lv_iconst (v := nI 0) hx hb dX11_meanErrors_61 (by decide) ?_
              refine p_callv (va_runV (As := [.int (nI 1), .int (nI 0), .int (nI 3), .int (nI 0)]) (rest := []) C.fix (q_become2 l D cy S36 H.size hP38 1 (nI 0) (nI 2) (nI 0) 1 (nI 0) (nI 3) (nI 0) hP38.c4) (cwV 4 C.2.2.2.2.1 (gU_V mw_620 mw_621 mw_622 mw_16 sub_X5_become) rfl rfl rfl hdg_X11_meanErrors_V_0 ⟨Nat.le_of_ble_eq_true rfl, Nat.le_of_ble_eq_true rfl⟩) (p_preV C hw (hP38.mem (k := 4) (by omega)) hP38.c4 rfl) rfl rfl hl.1 rfl (lv_room (Nat.le_of_ble_eq_true rfl)) dX11_meanErrors_62 ⟨(Nat.le_of_ble_eq_true rfl), (Nat.le_of_ble_eq_true rfl)⟩) hw hA (fun S48 H locs hpost hw => ?_)
              obtain ⟨hP50, hF51⟩ := hpost
              have hT52 := hT42.trans hF51
              refine lv_aload_n hx hb dX11_meanErrors_65 rfl (lv_at hl 2 rfl) ?_
              refine lv_aload_n hx hb dX11_meanErrors_66 rfl (lv_at hl 2 rfl) ?_
              refine p_get C hw (ci := 10) (Cn := RX11) (T := TX11) (N := 8) (hP50.mem (k := 0) (by omega)) hP50.c0 rfl hin_RX11 2 (by decide) (mU mw_18) rfl rfl dX11_meanErrors_67 ?_
              refine lv_aload_n hx hb dX11_meanErrors_70 rfl (lv_at hl 2 rfl) ?_
              refine p_get C hw (ci := 10) (Cn := RX11) (T := TX11) (N := 8) (hP50.mem (k := 0) (by omega)) hP50.c0 rfl hin_RX11 6 (by decide) (mU mw_28) rfl rfl dX11_meanErrors_71 ?_
              refine p_callv (va_runV (As := [.ref (G 4), .ref (G 11)]) (rest := []) C.fix (g_X11_send2 l D cy S48 H.size hP50 0 3 0 (by decide) (by decide) (by decide) (by decide) (fun h => absurd h (by decide)) (fun _ => ⟨rfl, rfl⟩)) (cwV 2 C.2.2.2.2.1 (gU_V mw_237 mw_238 mw_239 mw_2 (subU mw_240)) rfl rfl rfl hdg_X11_meanErrors_V_1 ⟨Nat.le_of_ble_eq_true rfl, Nat.le_of_ble_eq_true rfl⟩) (p_preV C hw (hP50.mem (k := 0) (by omega)) hP50.c0 rfl) rfl rfl hl.1 rfl (lv_room (Nat.le_of_ble_eq_true rfl)) dX11_meanErrors_74 ⟨(Nat.le_of_ble_eq_true rfl), (Nat.le_of_ble_eq_true rfl)⟩) hw hA (fun S53 H locs hpost hw => ?_)
              obtain ⟨V57, hP55, hF56, hK58⟩ := hpost
              have hT59 := hT52.trans hF56
              have hsd := hK58
              refine lv_aload_n hx hb dX11_meanErrors_77 rfl (lv_at hl 2 rfl) ?_
              refine p_get C hw (ci := 10) (Cn := RX11) (T := TX11) (N := 8) (hP55.mem (k := 0) (by omega)) hP55.c0 rfl hin_RX11 0 (by decide) (mU mw_13) rfl rfl dX11_meanErrors_78 ?_
              refine lv_aload_n hx hb dX11_meanErrors_81 rfl (lv_at hl 2 rfl) ?_
              refine p_get C hw (ci := 10) (Cn := RX11) (T := TX11) (N := 8) (hP55.mem (k := 0) (by omega)) hP55.c0 rfl hin_RX11 6 (by decide) (mU mw_28) rfl rfl dX11_meanErrors_82 ?_
              refine lv_aload_n hx hb dX11_meanErrors_85 rfl (lv_at hl 2 rfl) ?_
              refine p_get C hw (ci := 10) (Cn := RX11) (T := TX11) (N := 8) (hP55.mem (k := 0) (by omega)) hP55.c0 rfl hin_RX11 4 (by decide) (mU mw_26) rfl rfl dX11_meanErrors_86 ?_
              refine p_callv (va_runV (As := [.ref (G 11), .ref (G 9)]) (rest := []) C.fix (g_X1_decode2 l D cy S53 H.size hP55 (fun j hj => by rw [(hsd.2.2 (j + 1) (by omega)).1, (hsd.2.2 j (by omega)).1, (hkk (j + 1) (by omega)).1, (hkk j (by omega)).1]; exact hs j hj) (by rw [hsd.1, (hsd.2.2 n (by omega)).1])) (cwV 2 C.2.2.2.2.1 (gU_V mw_284 mw_285 mw_286 mw_12 (subU mw_287)) rfl rfl rfl hdg_X11_meanErrors_V_2 ⟨Nat.le_of_ble_eq_true rfl, Nat.le_of_ble_eq_true rfl⟩) (p_preV C hw (hP55.mem (k := 1) (by omega)) hP55.c1 rfl) rfl rfl hl.1 rfl (lv_room (Nat.le_of_ble_eq_true rfl)) dX11_meanErrors_89 ⟨(Nat.le_of_ble_eq_true rfl), (Nat.le_of_ble_eq_true rfl)⟩) hw hA (fun S60 H locs hpost hw => ?_)
              obtain ⟨V64, hP62, hF63, hK65⟩ := hpost
              have hT66 := hT59.trans hF63
              have hkk : Kp V V64 := fun r hr => ⟨(hK65.2 r (by omega)).1.trans ((hsd.2.2 r (by omega)).1.trans (hkk r hr).1), (hK65.2 r (by omega)).2.trans ((hsd.2.2 r (by omega)).2.trans (hkk r hr).2)⟩
              refine lv_iload_n hx hb dX11_meanErrors_92 rfl (lv_at hl 1 rfl) ?_
              refine lv_aload_n hx hb dX11_meanErrors_93 rfl (lv_at hl 2 rfl) ?_
              refine lv_aload_n hx hb dX11_meanErrors_94 rfl (lv_at hl 2 rfl) ?_
              refine p_get C hw (ci := 10) (Cn := RX11) (T := TX11) (N := 8) (hP62.mem (k := 0) (by omega)) hP62.c0 rfl hin_RX11 6 (by decide) (mU mw_28) rfl rfl dX11_meanErrors_95 ?_
              refine p_calli (va_runV (As := [.ref (G 11)]) (rest := [.int (nI (er23 + er47))]) C.fix (g_X11_errorsIn2 l D cy S60 H.size hP62) (cwV 1 C.2.2.2.2.1 (gU_V mw_522 mw_523 mw_524 mw_2 (subU mw_525)) rfl rfl rfl hdg_X11_meanErrors_V_3 ⟨Nat.le_of_ble_eq_true rfl, Nat.le_of_ble_eq_true rfl⟩) (p_preV C hw (hP62.mem (k := 0) (by omega)) hP62.c0 rfl) rfl rfl hl.1 rfl (lv_room (Nat.le_of_ble_eq_true rfl)) dX11_meanErrors_98 ⟨(Nat.le_of_ble_eq_true rfl), (Nat.le_of_ble_eq_true rfl)⟩) hw hA (fun r68 S67 H locs hpost hw => ?_)
              obtain ⟨hr_, hS_⟩ := hpost
              subst hr_
              subst hS_
              obtain ⟨er71, eer71⟩ : ∃ z : Nat, z = cnt (isOther (V64.2 0) (V64.1 0) (V64.2 10) (V64.1 10)) (V64.1 0) := ⟨_, rfl⟩
              refine n_ren (b := er71) eer71.symm ?_
              have her71 : er71 ≤ V.1 0 := by rw [← (hkk 0 (by omega)).1, eer71]; exact cnt_le _ _
              refine n_iadd hx hb dX11_meanErrors_101 ?_
              refine lv_istore_n (lv' := [(3, .int (nI ((er23 + er47) + er71))), (4, .int (nI 3)), (0, .ref (G 0)), (1, .int (nI 0)), (2, .int (nI 5))]) hx hb dX11_meanErrors_102 rfl hl (by decide) rfl (fun ls hl => ?_)
              refine lv_iinc (v := (nI 4)) (lv' := [(4, .int (nI 4)), (3, .int (nI ((er23 + er47) + er71))), (0, .ref (G 0)), (1, .int (nI 0)), (2, .int (nI 5))]) hx hb dX11_meanErrors_103 hl (k := 1) rfl (by decide) (by decide) rfl (fun ls hl => ?_)
              refine lv_goto (tgt := 47) hx hb dX11_meanErrors_106 (by decide) ?_
              refine lv_iload hx hb dX11_meanErrors_47 (lv_at hl 0 rfl) ?_
              refine lv_iload_n hx hb dX11_meanErrors_49 rfl (lv_at hl 4 rfl) ?_
              refine n_icmp_gt (tgt := 109) hx hb (by first | decide | omega) (by first | decide | omega) dX11_meanErrors_50 (by decide) (fun h_50 => ?_) (fun h_50 => ?_)
              · exact absurd h_50 (by first | decide | omega)
              · skip
                refine lv_aload_n hx hb dX11_meanErrors_53 rfl (lv_at hl 2 rfl) ?_
                refine p_get C hw (ci := 10) (Cn := RX11) (T := TX11) (N := 8) (hP62.mem (k := 0) (by omega)) hP62.c0 rfl hin_RX11 2 (by decide) (mU mw_18) rfl rfl dX11_meanErrors_54 ?_
                refine lv_iconst (v := nI 1) hx hb dX11_meanErrors_57 (by decide) ?_
                refine lv_iload_n hx hb dX11_meanErrors_58 rfl (lv_at hl 3 rfl) ?_
                refine lv_iload hx hb dX11_meanErrors_59 (lv_at hl 0 rfl) ?_
                refine lv_iconst (v := nI 0) hx hb dX11_meanErrors_61 (by decide) ?_
                refine p_callv (va_runV (As := [.int (nI 1), .int (nI 0), .int (nI 4), .int (nI 0)]) (rest := []) C.fix (q_become2 l D cy S60 H.size hP62 1 (nI 0) (nI 3) (nI 0) 1 (nI 0) (nI 4) (nI 0) hP62.c4) (cwV 4 C.2.2.2.2.1 (gU_V mw_620 mw_621 mw_622 mw_16 sub_X5_become) rfl rfl rfl hdg_X11_meanErrors_V_0 ⟨Nat.le_of_ble_eq_true rfl, Nat.le_of_ble_eq_true rfl⟩) (p_preV C hw (hP62.mem (k := 4) (by omega)) hP62.c4 rfl) rfl rfl hl.1 rfl (lv_room (Nat.le_of_ble_eq_true rfl)) dX11_meanErrors_62 ⟨(Nat.le_of_ble_eq_true rfl), (Nat.le_of_ble_eq_true rfl)⟩) hw hA (fun S72 H locs hpost hw => ?_)
                obtain ⟨hP74, hF75⟩ := hpost
                have hT76 := hT66.trans hF75
                refine lv_aload_n hx hb dX11_meanErrors_65 rfl (lv_at hl 2 rfl) ?_
                refine lv_aload_n hx hb dX11_meanErrors_66 rfl (lv_at hl 2 rfl) ?_
                refine p_get C hw (ci := 10) (Cn := RX11) (T := TX11) (N := 8) (hP74.mem (k := 0) (by omega)) hP74.c0 rfl hin_RX11 2 (by decide) (mU mw_18) rfl rfl dX11_meanErrors_67 ?_
                refine lv_aload_n hx hb dX11_meanErrors_70 rfl (lv_at hl 2 rfl) ?_
                refine p_get C hw (ci := 10) (Cn := RX11) (T := TX11) (N := 8) (hP74.mem (k := 0) (by omega)) hP74.c0 rfl hin_RX11 6 (by decide) (mU mw_28) rfl rfl dX11_meanErrors_71 ?_
                refine p_callv (va_runV (As := [.ref (G 4), .ref (G 11)]) (rest := []) C.fix (g_X11_send2 l D cy S72 H.size hP74 0 4 0 (by decide) (by decide) (by decide) (by decide) (fun h => absurd h (by decide)) (fun _ => ⟨rfl, rfl⟩)) (cwV 2 C.2.2.2.2.1 (gU_V mw_237 mw_238 mw_239 mw_2 (subU mw_240)) rfl rfl rfl hdg_X11_meanErrors_V_1 ⟨Nat.le_of_ble_eq_true rfl, Nat.le_of_ble_eq_true rfl⟩) (p_preV C hw (hP74.mem (k := 0) (by omega)) hP74.c0 rfl) rfl rfl hl.1 rfl (lv_room (Nat.le_of_ble_eq_true rfl)) dX11_meanErrors_74 ⟨(Nat.le_of_ble_eq_true rfl), (Nat.le_of_ble_eq_true rfl)⟩) hw hA (fun S77 H locs hpost hw => ?_)
                obtain ⟨V81, hP79, hF80, hK82⟩ := hpost
                have hT83 := hT76.trans hF80
                have hsd := hK82
                refine lv_aload_n hx hb dX11_meanErrors_77 rfl (lv_at hl 2 rfl) ?_
                refine p_get C hw (ci := 10) (Cn := RX11) (T := TX11) (N := 8) (hP79.mem (k := 0) (by omega)) hP79.c0 rfl hin_RX11 0 (by decide) (mU mw_13) rfl rfl dX11_meanErrors_78 ?_
                refine lv_aload_n hx hb dX11_meanErrors_81 rfl (lv_at hl 2 rfl) ?_
                refine p_get C hw (ci := 10) (Cn := RX11) (T := TX11) (N := 8) (hP79.mem (k := 0) (by omega)) hP79.c0 rfl hin_RX11 6 (by decide) (mU mw_28) rfl rfl dX11_meanErrors_82 ?_
                refine lv_aload_n hx hb dX11_meanErrors_85 rfl (lv_at hl 2 rfl) ?_
                refine p_get C hw (ci := 10) (Cn := RX11) (T := TX11) (N := 8) (hP79.mem (k := 0) (by omega)) hP79.c0 rfl hin_RX11 4 (by decide) (mU mw_26) rfl rfl dX11_meanErrors_86 ?_
                refine p_callv (va_runV (As := [.ref (G 11), .ref (G 9)]) (rest := []) C.fix (g_X1_decode2 l D cy S77 H.size hP79 (fun j hj => by rw [(hsd.2.2 (j + 1) (by omega)).1, (hsd.2.2 j (by omega)).1, (hkk (j + 1) (by omega)).1, (hkk j (by omega)).1]; exact hs j hj) (by rw [hsd.1, (hsd.2.2 n (by omega)).1])) (cwV 2 C.2.2.2.2.1 (gU_V mw_284 mw_285 mw_286 mw_12 (subU mw_287)) rfl rfl rfl hdg_X11_meanErrors_V_2 ⟨Nat.le_of_ble_eq_true rfl, Nat.le_of_ble_eq_true rfl⟩) (p_preV C hw (hP79.mem (k := 1) (by omega)) hP79.c1 rfl) rfl rfl hl.1 rfl (lv_room (Nat.le_of_ble_eq_true rfl)) dX11_meanErrors_89 ⟨(Nat.le_of_ble_eq_true rfl), (Nat.le_of_ble_eq_true rfl)⟩) hw hA (fun S84 H locs hpost hw => ?_)
                obtain ⟨V88, hP86, hF87, hK89⟩ := hpost
                have hT90 := hT83.trans hF87
                have hkk : Kp V V88 := fun r hr => ⟨(hK89.2 r (by omega)).1.trans ((hsd.2.2 r (by omega)).1.trans (hkk r hr).1), (hK89.2 r (by omega)).2.trans ((hsd.2.2 r (by omega)).2.trans (hkk r hr).2)⟩
                refine lv_iload_n hx hb dX11_meanErrors_92 rfl (lv_at hl 1 rfl) ?_
                refine lv_aload_n hx hb dX11_meanErrors_93 rfl (lv_at hl 2 rfl) ?_
                refine lv_aload_n hx hb dX11_meanErrors_94 rfl (lv_at hl 2 rfl) ?_
                refine p_get C hw (ci := 10) (Cn := RX11) (T := TX11) (N := 8) (hP86.mem (k := 0) (by omega)) hP86.c0 rfl hin_RX11 6 (by decide) (mU mw_28) rfl rfl dX11_meanErrors_95 ?_
                refine p_calli (va_runV (As := [.ref (G 11)]) (rest := [.int (nI ((er23 + er47) + er71))]) C.fix (g_X11_errorsIn2 l D cy S84 H.size hP86) (cwV 1 C.2.2.2.2.1 (gU_V mw_522 mw_523 mw_524 mw_2 (subU mw_525)) rfl rfl rfl hdg_X11_meanErrors_V_3 ⟨Nat.le_of_ble_eq_true rfl, Nat.le_of_ble_eq_true rfl⟩) (p_preV C hw (hP86.mem (k := 0) (by omega)) hP86.c0 rfl) rfl rfl hl.1 rfl (lv_room (Nat.le_of_ble_eq_true rfl)) dX11_meanErrors_98 ⟨(Nat.le_of_ble_eq_true rfl), (Nat.le_of_ble_eq_true rfl)⟩) hw hA (fun r92 S91 H locs hpost hw => ?_)
                obtain ⟨hr_, hS_⟩ := hpost
                subst hr_
                subst hS_
                obtain ⟨er95, eer95⟩ : ∃ z : Nat, z = cnt (isOther (V88.2 0) (V88.1 0) (V88.2 10) (V88.1 10)) (V88.1 0) := ⟨_, rfl⟩
                refine n_ren (b := er95) eer95.symm ?_
                have her95 : er95 ≤ V.1 0 := by rw [← (hkk 0 (by omega)).1, eer95]; exact cnt_le _ _
                refine n_iadd hx hb dX11_meanErrors_101 ?_
                refine lv_istore_n (lv' := [(3, .int (nI (((er23 + er47) + er71) + er95))), (4, .int (nI 4)), (0, .ref (G 0)), (1, .int (nI 0)), (2, .int (nI 5))]) hx hb dX11_meanErrors_102 rfl hl (by decide) rfl (fun ls hl => ?_)
                refine lv_iinc (v := (nI 5)) (lv' := [(4, .int (nI 5)), (3, .int (nI (((er23 + er47) + er71) + er95))), (0, .ref (G 0)), (1, .int (nI 0)), (2, .int (nI 5))]) hx hb dX11_meanErrors_103 hl (k := 1) rfl (by decide) (by decide) rfl (fun ls hl => ?_)
                refine lv_goto (tgt := 47) hx hb dX11_meanErrors_106 (by decide) ?_
                refine lv_iload hx hb dX11_meanErrors_47 (lv_at hl 0 rfl) ?_
                refine lv_iload_n hx hb dX11_meanErrors_49 rfl (lv_at hl 4 rfl) ?_
                refine n_icmp_gt (tgt := 109) hx hb (by first | decide | omega) (by first | decide | omega) dX11_meanErrors_50 (by decide) (fun h_50 => ?_) (fun h_50 => ?_)
                · exact absurd h_50 (by first | decide | omega)
                · skip
                  refine lv_aload_n hx hb dX11_meanErrors_53 rfl (lv_at hl 2 rfl) ?_
                  refine p_get C hw (ci := 10) (Cn := RX11) (T := TX11) (N := 8) (hP86.mem (k := 0) (by omega)) hP86.c0 rfl hin_RX11 2 (by decide) (mU mw_18) rfl rfl dX11_meanErrors_54 ?_
                  refine lv_iconst (v := nI 1) hx hb dX11_meanErrors_57 (by decide) ?_
                  refine lv_iload_n hx hb dX11_meanErrors_58 rfl (lv_at hl 3 rfl) ?_
                  refine lv_iload hx hb dX11_meanErrors_59 (lv_at hl 0 rfl) ?_
                  refine lv_iconst (v := nI 0) hx hb dX11_meanErrors_61 (by decide) ?_
                  refine p_callv (va_runV (As := [.int (nI 1), .int (nI 0), .int (nI 5), .int (nI 0)]) (rest := []) C.fix (q_become2 l D cy S84 H.size hP86 1 (nI 0) (nI 4) (nI 0) 1 (nI 0) (nI 5) (nI 0) hP86.c4) (cwV 4 C.2.2.2.2.1 (gU_V mw_620 mw_621 mw_622 mw_16 sub_X5_become) rfl rfl rfl hdg_X11_meanErrors_V_0 ⟨Nat.le_of_ble_eq_true rfl, Nat.le_of_ble_eq_true rfl⟩) (p_preV C hw (hP86.mem (k := 4) (by omega)) hP86.c4 rfl) rfl rfl hl.1 rfl (lv_room (Nat.le_of_ble_eq_true rfl)) dX11_meanErrors_62 ⟨(Nat.le_of_ble_eq_true rfl), (Nat.le_of_ble_eq_true rfl)⟩) hw hA (fun S96 H locs hpost hw => ?_)
                  obtain ⟨hP98, hF99⟩ := hpost
                  have hT100 := hT90.trans hF99
                  refine lv_aload_n hx hb dX11_meanErrors_65 rfl (lv_at hl 2 rfl) ?_
                  refine lv_aload_n hx hb dX11_meanErrors_66 rfl (lv_at hl 2 rfl) ?_
                  refine p_get C hw (ci := 10) (Cn := RX11) (T := TX11) (N := 8) (hP98.mem (k := 0) (by omega)) hP98.c0 rfl hin_RX11 2 (by decide) (mU mw_18) rfl rfl dX11_meanErrors_67 ?_
                  refine lv_aload_n hx hb dX11_meanErrors_70 rfl (lv_at hl 2 rfl) ?_
                  refine p_get C hw (ci := 10) (Cn := RX11) (T := TX11) (N := 8) (hP98.mem (k := 0) (by omega)) hP98.c0 rfl hin_RX11 6 (by decide) (mU mw_28) rfl rfl dX11_meanErrors_71 ?_
                  refine p_callv (va_runV (As := [.ref (G 4), .ref (G 11)]) (rest := []) C.fix (g_X11_send2 l D cy S96 H.size hP98 0 5 0 (by decide) (by decide) (by decide) (by decide) (fun h => absurd h (by decide)) (fun _ => ⟨rfl, rfl⟩)) (cwV 2 C.2.2.2.2.1 (gU_V mw_237 mw_238 mw_239 mw_2 (subU mw_240)) rfl rfl rfl hdg_X11_meanErrors_V_1 ⟨Nat.le_of_ble_eq_true rfl, Nat.le_of_ble_eq_true rfl⟩) (p_preV C hw (hP98.mem (k := 0) (by omega)) hP98.c0 rfl) rfl rfl hl.1 rfl (lv_room (Nat.le_of_ble_eq_true rfl)) dX11_meanErrors_74 ⟨(Nat.le_of_ble_eq_true rfl), (Nat.le_of_ble_eq_true rfl)⟩) hw hA (fun S101 H locs hpost hw => ?_)
                  obtain ⟨V105, hP103, hF104, hK106⟩ := hpost
                  have hT107 := hT100.trans hF104
                  have hsd := hK106
                  refine lv_aload_n hx hb dX11_meanErrors_77 rfl (lv_at hl 2 rfl) ?_
                  refine p_get C hw (ci := 10) (Cn := RX11) (T := TX11) (N := 8) (hP103.mem (k := 0) (by omega)) hP103.c0 rfl hin_RX11 0 (by decide) (mU mw_13) rfl rfl dX11_meanErrors_78 ?_
                  refine lv_aload_n hx hb dX11_meanErrors_81 rfl (lv_at hl 2 rfl) ?_
                  refine p_get C hw (ci := 10) (Cn := RX11) (T := TX11) (N := 8) (hP103.mem (k := 0) (by omega)) hP103.c0 rfl hin_RX11 6 (by decide) (mU mw_28) rfl rfl dX11_meanErrors_82 ?_
                  refine lv_aload_n hx hb dX11_meanErrors_85 rfl (lv_at hl 2 rfl) ?_
                  refine p_get C hw (ci := 10) (Cn := RX11) (T := TX11) (N := 8) (hP103.mem (k := 0) (by omega)) hP103.c0 rfl hin_RX11 4 (by decide) (mU mw_26) rfl rfl dX11_meanErrors_86 ?_
                  refine p_callv (va_runV (As := [.ref (G 11), .ref (G 9)]) (rest := []) C.fix (g_X1_decode2 l D cy S101 H.size hP103 (fun j hj => by rw [(hsd.2.2 (j + 1) (by omega)).1, (hsd.2.2 j (by omega)).1, (hkk (j + 1) (by omega)).1, (hkk j (by omega)).1]; exact hs j hj) (by rw [hsd.1, (hsd.2.2 n (by omega)).1])) (cwV 2 C.2.2.2.2.1 (gU_V mw_284 mw_285 mw_286 mw_12 (subU mw_287)) rfl rfl rfl hdg_X11_meanErrors_V_2 ⟨Nat.le_of_ble_eq_true rfl, Nat.le_of_ble_eq_true rfl⟩) (p_preV C hw (hP103.mem (k := 1) (by omega)) hP103.c1 rfl) rfl rfl hl.1 rfl (lv_room (Nat.le_of_ble_eq_true rfl)) dX11_meanErrors_89 ⟨(Nat.le_of_ble_eq_true rfl), (Nat.le_of_ble_eq_true rfl)⟩) hw hA (fun S108 H locs hpost hw => ?_)
                  obtain ⟨V112, hP110, hF111, hK113⟩ := hpost
                  have hT114 := hT107.trans hF111
                  have hkk : Kp V V112 := fun r hr => ⟨(hK113.2 r (by omega)).1.trans ((hsd.2.2 r (by omega)).1.trans (hkk r hr).1), (hK113.2 r (by omega)).2.trans ((hsd.2.2 r (by omega)).2.trans (hkk r hr).2)⟩
                  refine lv_iload_n hx hb dX11_meanErrors_92 rfl (lv_at hl 1 rfl) ?_
                  refine lv_aload_n hx hb dX11_meanErrors_93 rfl (lv_at hl 2 rfl) ?_
                  refine lv_aload_n hx hb dX11_meanErrors_94 rfl (lv_at hl 2 rfl) ?_
                  refine p_get C hw (ci := 10) (Cn := RX11) (T := TX11) (N := 8) (hP110.mem (k := 0) (by omega)) hP110.c0 rfl hin_RX11 6 (by decide) (mU mw_28) rfl rfl dX11_meanErrors_95 ?_
                  refine p_calli (va_runV (As := [.ref (G 11)]) (rest := [.int (nI (((er23 + er47) + er71) + er95))]) C.fix (g_X11_errorsIn2 l D cy S108 H.size hP110) (cwV 1 C.2.2.2.2.1 (gU_V mw_522 mw_523 mw_524 mw_2 (subU mw_525)) rfl rfl rfl hdg_X11_meanErrors_V_3 ⟨Nat.le_of_ble_eq_true rfl, Nat.le_of_ble_eq_true rfl⟩) (p_preV C hw (hP110.mem (k := 0) (by omega)) hP110.c0 rfl) rfl rfl hl.1 rfl (lv_room (Nat.le_of_ble_eq_true rfl)) dX11_meanErrors_98 ⟨(Nat.le_of_ble_eq_true rfl), (Nat.le_of_ble_eq_true rfl)⟩) hw hA (fun r116 S115 H locs hpost hw => ?_)
                  obtain ⟨hr_, hS_⟩ := hpost
                  subst hr_
                  subst hS_
                  obtain ⟨er119, eer119⟩ : ∃ z : Nat, z = cnt (isOther (V112.2 0) (V112.1 0) (V112.2 10) (V112.1 10)) (V112.1 0) := ⟨_, rfl⟩
                  refine n_ren (b := er119) eer119.symm ?_
                  have her119 : er119 ≤ V.1 0 := by rw [← (hkk 0 (by omega)).1, eer119]; exact cnt_le _ _
                  refine n_iadd hx hb dX11_meanErrors_101 ?_
                  refine lv_istore_n (lv' := [(3, .int (nI ((((er23 + er47) + er71) + er95) + er119))), (4, .int (nI 5)), (0, .ref (G 0)), (1, .int (nI 0)), (2, .int (nI 5))]) hx hb dX11_meanErrors_102 rfl hl (by decide) rfl (fun ls hl => ?_)
                  refine lv_iinc (v := (nI 6)) (lv' := [(4, .int (nI 6)), (3, .int (nI ((((er23 + er47) + er71) + er95) + er119))), (0, .ref (G 0)), (1, .int (nI 0)), (2, .int (nI 5))]) hx hb dX11_meanErrors_103 hl (k := 1) rfl (by decide) (by decide) rfl (fun ls hl => ?_)
                  refine lv_goto (tgt := 47) hx hb dX11_meanErrors_106 (by decide) ?_
                  refine lv_iload hx hb dX11_meanErrors_47 (lv_at hl 0 rfl) ?_
                  refine lv_iload_n hx hb dX11_meanErrors_49 rfl (lv_at hl 4 rfl) ?_
                  refine n_icmp_gt (tgt := 109) hx hb (by first | decide | omega) (by first | decide | omega) dX11_meanErrors_50 (by decide) (fun h_50 => ?_) (fun h_50 => ?_)
                  · skip
                    refine lv_iload_n hx hb dX11_meanErrors_109 rfl (lv_at hl 1 rfl) ?_
                    refine lv_i2d hx hb dX11_meanErrors_110 ?_
                    refine lv_iload_n hx hb dX11_meanErrors_111 rfl (lv_at hl 4 rfl) ?_
                    refine lv_i2d hx hb dX11_meanErrors_112 ?_
                    refine lv_ddiv hx hb dX11_meanErrors_113 (mean_nan (by omega)) ?_
                    exact (p_dret C hw ⟨_, V112, (by omega), rfl, hP110, hT114, hkk⟩ hr hlocks dX11_meanErrors_114)
                  · exact absurd h_50 (by first | decide | omega)
      · exact absurd h_29 (by first | decide | omega)
  · exact absurd h_8 (by first | decide | omega)

theorem hdg_X11_withPlaces_V_0 : yX7_size.cls = RX7 ∧ yX7_size.cls ≠ "java/lang/invoke/MethodHandle" ∧ yX7_size.cls ≠ "java/lang/invoke/VarHandle" ∧ (parseMethodDescriptor yX7_size.desc).map (fun d => d.parameters.length) = some 0 := by decide +kernel
theorem hdg_X11_withPlaces_V_1 : yX7_get.cls = RX7 ∧ yX7_get.cls ≠ "java/lang/invoke/MethodHandle" ∧ yX7_get.cls ≠ "java/lang/invoke/VarHandle" ∧ (parseMethodDescriptor yX7_get.desc).map (fun d => d.parameters.length) = some 1 := by decide +kernel
set_option maxHeartbeats 4000000 in
set_option maxRecDepth 100000 in
theorem g_X11_withPlaces (l : Launch) (D : va_G) (cy : Nat → ClassId) (S : pS) (sz : Nat) {G T : Nat → Nat} {n : Nat} {ws : Nat → WV} {l1 l2 : va_E} {V : RV} (hP : Pic cy S G T n ws l1 l2 V) (d0 : Int64) (r1 r2 : Nat) (h1 : r1 < 16) (h2 : r2 < 16) : Met l yX11_withPlaces (Cond.code yX11_withPlaces cX11_withPlaces 8 (some .long) :: lwU) ({ frames := 1, cells := 0, slots := 0, locals := 21 }) (pPc D cy S sz [.ref (G 0), .long d0, .ref (G (21 + r1)), .ref (G (21 + r2))]) (pQl D cy S sz (fun r S' => r = wpl (rg (V.2 r1) (V.1 r1)) (rg (V.2 r2) (V.1 r2)) d0 (V.1 r1) ∧ S = S')) 0 0 (pA S sz) := by
  refine Met.ofW (cc := cX11_withPlaces) (maxL := 8) (ret := (some .long)) (by decide) rfl ?_
  intro p e s m args below meth c s₁ B hml hv
  obtain ⟨rfl, rfl, C, hw, hA, hr, hlocks⟩ := p_start B hml hv
  have hx := C.1
  have hb := C.2.1
  have hl := lv_entry ([.ref (G 0), .long d0, .ref (G (21 + r1)), .ref (G (21 + r2))]) (n := 8) (Nat.le_of_ble_eq_true rfl)
  rw [lg_entry_eq]
  generalize (lg_sl ([.ref (G 0), .long d0, .ref (G (21 + r1)), .ref (G (21 + r2))]) ++ List.replicate (8 - (lg_sl ([.ref (G 0), .long d0, .ref (G (21 + r1)), .ref (G (21 + r2))])).length) Slot.unset).toArray = ls at hl ⊢
  have hl : lv_has ls 8 [(0, .ref (G 0)), (1, .long d0), (3, .ref (G (21 + r1))), (4, .ref (G (21 + r2)))] := hl
  have hn4 := hP.n4
  have h320 := hP.r320 (r := r1) (by omega)
  refine lv_lload_n hx hb dX11_withPlaces_0 rfl (lv_at hl 1 rfl) ?_
  refine lv_lstore (lv' := [(5, .long d0), (0, .ref (G 0)), (1, .long d0), (3, .ref (G (21 + r1))), (4, .ref (G (21 + r2)))]) hx hb dX11_withPlaces_1 hl (by decide) rfl (fun ls hl => ?_)
  refine lv_iconst (v := nI 0) hx hb dX11_withPlaces_3 (by decide) ?_
  refine lv_istore (lv' := [(7, .int (nI 0)), (5, .long d0), (0, .ref (G 0)), (1, .long d0), (3, .ref (G (21 + r1))), (4, .ref (G (21 + r2)))]) hx hb dX11_withPlaces_4 hl (by decide) rfl (fun ls hl => ?_)
  have loop6_1 : ∀ (kf : Nat) (i : Nat), V.1 r1 - i < kf → ∀ (H : Heap) (locs : List Loc) (ls : Array Slot), (i ≤ V.1 r1) → pW D (pA S s.heap.size) s.heap S H locs → lv_has ls 8 [(7, .int (nI i)), (5, .long (wpl (rg (V.2 r1) (V.1 r1)) (rg (V.2 r2) (V.1 r2)) d0 i)), (0, .ref (G 0)), (1, .long d0), (3, .ref (G (21 + r1))), (4, .ref (G (21 + r2)))] → W p l e (headSpec (Cond.code yX11_withPlaces cX11_withPlaces 8 (some .long) :: lwU) ({ frames := 1, cells := 0, slots := 0, locals := 21 } : Room)).room s m ([.ref (G 0), .long d0, .ref (G (21 + r1)), .ref (G (21 + r2))]).toArray below meth c H locs 0 0 (MQ below (pQl D cy S s.heap.size (fun r S' => r = wpl (rg (V.2 r1) (V.1 r1)) (rg (V.2 r2) (V.1 r2)) d0 (V.1 r1) ∧ S = S')) ([.ref (G 0), .long d0, .ref (G (21 + r1)), .ref (G (21 + r2))]).toArray s 0 0 (pA S s.heap.size)) (F0 m 6 ls []) := by
    intro kf
    induction kf with
    | zero => intro i hm; exact absurd hm (Nat.not_lt_zero _)
    | succ kf ihloop6_1 =>
      intro i hm H locs ls hi hw hl
      refine lv_iload hx hb dX11_withPlaces_6 (lv_at hl 0 rfl) ?_
      refine lv_aload_n hx hb dX11_withPlaces_8 rfl (lv_at hl 4 rfl) ?_
      refine p_calli (va_runV (As := []) (rest := [.int (nI i)]) C.fix (c_X7_size l D cy S H.size (G (21 + r1)) (G (37 + r1)) (V.1 r1) (hP.mem (by omega)) (hP.rh (r := r1) (by omega))) (cwV 0 C.2.2.2.2.1 (gU_V mw_115 mw_116 mw_117 mw_21 sub_X7_size) rfl rfl rfl hdg_X11_withPlaces_V_0 ⟨Nat.le_of_ble_eq_true rfl, Nat.le_of_ble_eq_true rfl⟩) (p_preV C hw (hP.mem (k := 21 + r1) (by omega)) (hP.rh (r := r1) (by omega)) rfl) rfl rfl hl.1 rfl (lv_room (Nat.le_of_ble_eq_true rfl)) dX11_withPlaces_9 ⟨(Nat.le_of_ble_eq_true rfl), (Nat.le_of_ble_eq_true rfl)⟩) hw hA (fun r3 S2 H locs hpost hw => ?_)
      obtain ⟨hr_, hS_⟩ := hpost
      subst hr_
      subst hS_
      refine n_icmp_ge (tgt := 54) hx hb (by omega) (by omega) dX11_withPlaces_12 (by decide) (fun h_12 => ?_) (fun h_12 => ?_)
      · skip
        refine lv_lload hx hb dX11_withPlaces_54 (lv_at hl 1 rfl) ?_
        exact (p_lret C hw ⟨by rw [show V.1 r1 = i from by omega], rfl⟩ hr hlocks dX11_withPlaces_56)
      · skip
        refine lv_lload hx hb dX11_withPlaces_15 (lv_at hl 1 rfl) ?_
        refine lv_ldc2 (v := 31) hx hb C.2.2.2.1 (C.2.2.2.2.1 (.constantLong RX11 247 (31)) (mU mw_503)) dX11_withPlaces_17 ?_
        refine lv_lmul hx hb dX11_withPlaces_20 ?_
        refine lv_aload_n hx hb dX11_withPlaces_21 rfl (lv_at hl 4 rfl) ?_
        refine lv_iload hx hb dX11_withPlaces_22 (lv_at hl 0 rfl) ?_
        refine p_calli (va_runV (As := [.int (nI i)]) (rest := [.long ((wpl (rg (V.2 r1) (V.1 r1)) (rg (V.2 r2) (V.1 r2)) d0 i) * 31)]) C.fix (c_X7_get l D cy S H.size (G (21 + r1)) (G (37 + r1)) (gcap r1) (V.1 r1) i (V.2 r1) (hP.mem (by omega)) (hP.rh (r := r1) (by omega)) (hP.mem (by omega)) (hP.rb (r := r1) (by omega)) (gcap_27 _) (hP.rn (by omega)) (by omega)) (cwV 1 C.2.2.2.2.1 (gU_V mw_593 mw_195 mw_196 mw_21 sub_X7_get) rfl rfl rfl hdg_X11_withPlaces_V_1 ⟨Nat.le_of_ble_eq_true rfl, Nat.le_of_ble_eq_true rfl⟩) (p_preV C hw (hP.mem (k := 21 + r1) (by omega)) (hP.rh (r := r1) (by omega)) rfl) rfl rfl hl.1 rfl (lv_room (Nat.le_of_ble_eq_true rfl)) dX11_withPlaces_24 ⟨(Nat.le_of_ble_eq_true rfl), (Nat.le_of_ble_eq_true rfl)⟩) hw hA (fun r7 S6 H locs hpost hw => ?_)
        obtain ⟨hr_, hS_⟩ := hpost
        subst hr_
        subst hS_
        refine lv_i2l hx hb dX11_withPlaces_27 rfl ?_
        refine lv_ladd hx hb dX11_withPlaces_28 ?_
        refine lv_lstore (lv' := [(5, .long (((wpl (rg (V.2 r1) (V.1 r1)) (rg (V.2 r2) (V.1 r2)) d0 i) * 31) + (((nI (rg (V.2 r1) (V.1 r1) i))).toInt64))), (7, .int (nI i)), (0, .ref (G 0)), (1, .long d0), (3, .ref (G (21 + r1))), (4, .ref (G (21 + r2)))]) hx hb dX11_withPlaces_29 hl (by decide) rfl (fun ls hl => ?_)
        refine lv_lload hx hb dX11_withPlaces_31 (lv_at hl 0 rfl) ?_
        refine lv_ldc2 (v := 31) hx hb C.2.2.2.1 (C.2.2.2.2.1 (.constantLong RX11 247 (31)) (mU mw_503)) dX11_withPlaces_33 ?_
        refine lv_lmul hx hb dX11_withPlaces_36 ?_
        refine lv_aload hx hb dX11_withPlaces_37 (lv_at hl 5 rfl) ?_
        refine lv_iload hx hb dX11_withPlaces_39 (lv_at hl 1 rfl) ?_
        refine p_calli (va_runV (As := [.int (nI i)]) (rest := [.long ((((wpl (rg (V.2 r1) (V.1 r1)) (rg (V.2 r2) (V.1 r2)) d0 i) * 31) + (((nI (rg (V.2 r1) (V.1 r1) i))).toInt64)) * 31)]) C.fix (c_X7_get l D cy S H.size (G (21 + r2)) (G (37 + r2)) (gcap r2) (V.1 r2) i (V.2 r2) (hP.mem (by omega)) (hP.rh (r := r2) (by omega)) (hP.mem (by omega)) (hP.rb (r := r2) (by omega)) (gcap_27 _) (hP.rn (by omega)) (by omega)) (cwV 1 C.2.2.2.2.1 (gU_V mw_593 mw_195 mw_196 mw_21 sub_X7_get) rfl rfl rfl hdg_X11_withPlaces_V_1 ⟨Nat.le_of_ble_eq_true rfl, Nat.le_of_ble_eq_true rfl⟩) (p_preV C hw (hP.mem (k := 21 + r2) (by omega)) (hP.rh (r := r2) (by omega)) rfl) rfl rfl hl.1 rfl (lv_room (Nat.le_of_ble_eq_true rfl)) dX11_withPlaces_41 ⟨(Nat.le_of_ble_eq_true rfl), (Nat.le_of_ble_eq_true rfl)⟩) hw hA (fun r11 S10 H locs hpost hw => ?_)
        obtain ⟨hr_, hS_⟩ := hpost
        subst hr_
        subst hS_
        refine lv_i2l hx hb dX11_withPlaces_44 rfl ?_
        refine lv_ladd hx hb dX11_withPlaces_45 ?_
        refine lv_lstore (lv' := [(5, .long (((((wpl (rg (V.2 r1) (V.1 r1)) (rg (V.2 r2) (V.1 r2)) d0 i) * 31) + (((nI (rg (V.2 r1) (V.1 r1) i))).toInt64)) * 31) + (((nI (rg (V.2 r2) (V.1 r2) i))).toInt64))), (7, .int (nI i)), (0, .ref (G 0)), (1, .long d0), (3, .ref (G (21 + r1))), (4, .ref (G (21 + r2)))]) hx hb dX11_withPlaces_46 hl (by decide) rfl (fun ls hl => ?_)
        refine lv_iinc (v := (nI (i + 1))) (lv' := [(7, .int (nI (i + 1))), (5, .long (((((wpl (rg (V.2 r1) (V.1 r1)) (rg (V.2 r2) (V.1 r2)) d0 i) * 31) + (((nI (rg (V.2 r1) (V.1 r1) i))).toInt64)) * 31) + (((nI (rg (V.2 r2) (V.1 r2) i))).toInt64))), (0, .ref (G 0)), (1, .long d0), (3, .ref (G (21 + r1))), (4, .ref (G (21 + r2)))]) hx hb dX11_withPlaces_48 hl (k := 1) rfl (by rw [show Int32.ofInt 1 = nI 1 from by decide, nI_add]) (by decide) rfl (fun ls hl => ?_)
        refine lv_goto (tgt := 6) hx hb dX11_withPlaces_51 (by decide) ?_
        exact ihloop6_1 (i + 1) (by omega) H locs ls (by omega) hw (lv_sub hl [0, 1, 2, 3, 4, 5] rfl)
  exact loop6_1 (V.1 r1 - 0 + 1) 0 (by omega) s.heap [] ls (Nat.zero_le _) hw (lv_sub hl [0, 1, 2, 3, 4, 5] rfl)

theorem gok_4 {w : WV} (h : gok w) : w.1 ≤ 4 := by
  rcases h with ⟨h, -⟩ | ⟨h, -⟩ | ⟨h, -⟩ | ⟨h, -⟩ | ⟨h, -⟩ <;> omega

theorem hdg_X11_withStages_V_0 : yX1_count.cls = RX1 ∧ yX1_count.cls ≠ "java/lang/invoke/MethodHandle" ∧ yX1_count.cls ≠ "java/lang/invoke/VarHandle" ∧ (parseMethodDescriptor yX1_count.desc).map (fun d => d.parameters.length) = some 0 := by decide +kernel
theorem hdg_X11_withStages_V_1 : yX11_ofStage.cls = RX11 ∧ yX11_ofStage.cls ≠ "java/lang/invoke/MethodHandle" ∧ yX11_ofStage.cls ≠ "java/lang/invoke/VarHandle" ∧ (parseMethodDescriptor yX11_ofStage.desc).map (fun d => d.parameters.length) = some 2 := by decide +kernel
theorem hdg_X11_withStages_V_2 : yX11_distance.cls = RX11 ∧ yX11_distance.cls ≠ "java/lang/invoke/MethodHandle" ∧ yX11_distance.cls ≠ "java/lang/invoke/VarHandle" ∧ (parseMethodDescriptor yX11_distance.desc).map (fun d => d.parameters.length) = some 1 := by decide +kernel
theorem hdg_X11_withStages_V_3 : yX11_words.cls = RX11 ∧ yX11_words.cls ≠ "java/lang/invoke/MethodHandle" ∧ yX11_words.cls ≠ "java/lang/invoke/VarHandle" ∧ (parseMethodDescriptor yX11_words.desc).map (fun d => d.parameters.length) = some 2 := by decide +kernel
set_option maxHeartbeats 4000000 in
set_option maxRecDepth 100000 in
theorem g_X11_withStages (l : Launch) (D : va_G) (cy : Nat → ClassId) (S : pS) (sz : Nat) {G T : Nat → Nat} {n : Nat} {ws : Nat → WV} {l1 l2 : va_E} {V : RV} (hP : Pic cy S G T n ws l1 l2 V) (d0 : Int64) (hs : ∀ j, j < n → V.1 (j + 1) = sSize (ws j) (V.1 j)) (hu : ∀ j, j ≤ n → V.1 (j + 5) = V.1 j) : Met l yX11_withStages (Cond.code yX11_withStages cX11_withStages 7 (some .long) :: lwU) ({ frames := 5, cells := 0, slots := 0, locals := 123 }) (pPc D cy S sz [.ref (G 0), .long d0]) (pQl D cy S sz (fun r S' => ∃ V', r = wst ws V d0 n ∧ Pic cy S' G T n ws l1 l2 V' ∧ Frm G S S' ∧ Kp V V')) 0 0 (pA S sz) := by
  refine Met.ofW (cc := cX11_withStages) (maxL := 7) (ret := (some .long)) (by decide) rfl ?_
  intro p e s m args below meth c s₁ B hml hv
  obtain ⟨rfl, rfl, C, hw, hA, hr, hlocks⟩ := p_start B hml hv
  have hx := C.1
  have hb := C.2.1
  have hl := lv_entry ([.ref (G 0), .long d0]) (n := 7) (Nat.le_of_ble_eq_true rfl)
  rw [lg_entry_eq]
  generalize (lg_sl ([.ref (G 0), .long d0]) ++ List.replicate (7 - (lg_sl ([.ref (G 0), .long d0])).length) Slot.unset).toArray = ls at hl ⊢
  have hl : lv_has ls 7 [(0, .ref (G 0)), (1, .long d0)] := hl
  have hin_RX11 : ∀ w ∈ u_ws RX11 TX11 8, w ∈ (Cond.code yX11_withStages cX11_withStages 7 (some .long) :: lwU) := fun w h => mU (sub_RX11 w h)
  have hn4 := hP.n4
  refine lv_lload_n hx hb dX11_withStages_0 rfl (lv_at hl 1 rfl) ?_
  refine lv_lstore_n (lv' := [(3, .long d0), (0, .ref (G 0)), (1, .long d0)]) hx hb dX11_withStages_1 rfl hl (by decide) rfl (fun ls hl => ?_)
  refine lv_iconst (v := nI 0) hx hb dX11_withStages_2 (by decide) ?_
  refine lv_istore (lv' := [(5, .int (nI 0)), (3, .long d0), (0, .ref (G 0)), (1, .long d0)]) hx hb dX11_withStages_3 hl (by decide) rfl (fun ls hl => ?_)
  have loop5_1 : ∀ (kf : Nat) (i : Nat), n - i < kf → ∀ (Sx2 : pS) (Vx3 : RV) (H : Heap) (locs : List Loc) (ls : Array Slot), Pic cy Sx2 G T n ws l1 l2 Vx3 → Frm G S Sx2 → (i ≤ n) → (Kp V Vx3) → pW D (pA S s.heap.size) s.heap Sx2 H locs → lv_has ls 7 [(5, .int (nI i)), (3, .long (wst ws V d0 i)), (0, .ref (G 0)), (1, .long d0)] → W p l e (headSpec (Cond.code yX11_withStages cX11_withStages 7 (some .long) :: lwU) ({ frames := 5, cells := 0, slots := 0, locals := 123 } : Room)).room s m ([.ref (G 0), .long d0]).toArray below meth c H locs 0 0 (MQ below (pQl D cy S s.heap.size (fun r S' => ∃ V', r = wst ws V d0 n ∧ Pic cy S' G T n ws l1 l2 V' ∧ Frm G S S' ∧ Kp V V')) ([.ref (G 0), .long d0]).toArray s 0 0 (pA S s.heap.size)) (F0 m 5 ls []) := by
    intro kf
    induction kf with
    | zero => intro i hm; exact absurd hm (Nat.not_lt_zero _)
    | succ kf ihloop5_1 =>
      intro i hm Sx2 Vx3 H locs ls hP4 hF5 hi hk hw hl
      have hkx := hk
      refine lv_iload hx hb dX11_withStages_5 (lv_at hl 0 rfl) ?_
      refine lv_aload_n hx hb dX11_withStages_7 rfl (lv_at hl 2 rfl) ?_
      refine p_get C hw (ci := 10) (Cn := RX11) (T := TX11) (N := 8) (hP4.mem (k := 0) (by omega)) hP4.c0 rfl hin_RX11 0 (by decide) (mU mw_13) rfl rfl dX11_withStages_8 ?_
      refine p_calli (va_runV (As := []) (rest := [.int (nI i)]) C.fix (c_X1_count l D cy Sx2 H.size (G 1) (G 2) n (hP4.mem (by omega)) hP4.c1) (cwV 0 C.2.2.2.2.1 (gU_V mw_245 mw_246 mw_247 mw_12 sub_X1_count) rfl rfl rfl hdg_X11_withStages_V_0 ⟨Nat.le_of_ble_eq_true rfl, Nat.le_of_ble_eq_true rfl⟩) (p_preV C hw (hP4.mem (k := 1) (by omega)) hP4.c1 rfl) rfl rfl hl.1 rfl (lv_room (Nat.le_of_ble_eq_true rfl)) dX11_withStages_11 ⟨(Nat.le_of_ble_eq_true rfl), (Nat.le_of_ble_eq_true rfl)⟩) hw hA (fun r7 S6 H locs hpost hw => ?_)
      obtain ⟨hr_, hS_⟩ := hpost
      subst hr_
      subst hS_
      refine n_icmp_ge (tgt := 111) hx hb (by omega) (by omega) dX11_withStages_14 (by decide) (fun h_14 => ?_) (fun h_14 => ?_)
      · skip
        refine lv_lload_n hx hb dX11_withStages_111 rfl (lv_at hl 1 rfl) ?_
        exact (p_lret C hw ⟨Vx3, (by rw [show n = i from by omega]), hP4, hF5, hk⟩ hr hlocks dX11_withStages_112)
      · skip
        refine lv_iconst (v := nI 0) hx hb dX11_withStages_17 (by decide) ?_
        refine lv_istore (lv' := [(6, .int (nI 0)), (5, .int (nI i)), (3, .long (wst ws V d0 i)), (0, .ref (G 0)), (1, .long d0)]) hx hb dX11_withStages_18 hl (by decide) rfl (fun ls hl => ?_)
        refine lv_iload hx hb dX11_withStages_20 (lv_at hl 0 rfl) ?_
        refine lv_iconst (v := nI 4) hx hb dX11_withStages_22 (by decide) ?_
        refine n_icmp_gt (tgt := 48) hx hb (by first | decide | omega) (by first | decide | omega) dX11_withStages_23 (by decide) (fun h_23 => ?_) (fun h_23 => ?_)
        · exact absurd h_23 (by first | decide | omega)
        · skip
          refine lv_lload_n hx hb dX11_withStages_26 rfl (lv_at hl 2 rfl) ?_
          refine lv_ldc2 (v := 31) hx hb C.2.2.2.1 (C.2.2.2.2.1 (.constantLong RX11 247 (31)) (mU mw_503)) dX11_withStages_27 ?_
          refine lv_lmul hx hb dX11_withStages_30 ?_
          refine lv_aload_n hx hb dX11_withStages_31 rfl (lv_at hl 3 rfl) ?_
          refine lv_iload hx hb dX11_withStages_32 (lv_at hl 1 rfl) ?_
          refine lv_iload hx hb dX11_withStages_34 (lv_at hl 0 rfl) ?_
          refine p_calli (va_runV (As := [.int (nI i), .int (nI 0)]) (rest := [.long ((wst ws V d0 i) * 31)]) C.fix (g_X11_ofStage0 l D cy Sx2 H.size hP4 i (by omega)) (cwV 2 C.2.2.2.2.1 (gU_V mw_530 mw_531 mw_532 mw_2 (subU mw_533)) rfl rfl rfl hdg_X11_withStages_V_1 ⟨Nat.le_of_ble_eq_true rfl, Nat.le_of_ble_eq_true rfl⟩) (p_preV C hw (hP4.mem (k := 0) (by omega)) hP4.c0 rfl) rfl rfl hl.1 rfl (lv_room (Nat.le_of_ble_eq_true rfl)) dX11_withStages_36 ⟨(Nat.le_of_ble_eq_true rfl), (Nat.le_of_ble_eq_true rfl)⟩) hw hA (fun r11 S10 H locs hpost hw => ?_)
          obtain ⟨hr_, hS_⟩ := hpost
          subst hr_
          subst hS_
          refine lv_i2l hx hb dX11_withStages_39 rfl ?_
          refine lv_ladd hx hb dX11_withStages_40 ?_
          refine lv_lstore_n (lv' := [(3, .long (((wst ws V d0 i) * 31) + (((nI ((ws i).1))).toInt64))), (6, .int (nI 0)), (5, .int (nI i)), (0, .ref (G 0)), (1, .long d0)]) hx hb dX11_withStages_41 rfl hl (by decide) rfl (fun ls hl => ?_)
          refine lv_iinc (v := (nI 1)) (lv' := [(6, .int (nI 1)), (3, .long (((wst ws V d0 i) * 31) + (((nI ((ws i).1))).toInt64))), (5, .int (nI i)), (0, .ref (G 0)), (1, .long d0)]) hx hb dX11_withStages_42 hl (k := 1) rfl (by decide) (by decide) rfl (fun ls hl => ?_)
          refine lv_goto (tgt := 20) hx hb dX11_withStages_45 (by decide) ?_
          refine lv_iload hx hb dX11_withStages_20 (lv_at hl 0 rfl) ?_
          refine lv_iconst (v := nI 4) hx hb dX11_withStages_22 (by decide) ?_
          refine n_icmp_gt (tgt := 48) hx hb (by first | decide | omega) (by first | decide | omega) dX11_withStages_23 (by decide) (fun h_23 => ?_) (fun h_23 => ?_)
          · exact absurd h_23 (by first | decide | omega)
          · skip
            refine lv_lload_n hx hb dX11_withStages_26 rfl (lv_at hl 1 rfl) ?_
            refine lv_ldc2 (v := 31) hx hb C.2.2.2.1 (C.2.2.2.2.1 (.constantLong RX11 247 (31)) (mU mw_503)) dX11_withStages_27 ?_
            refine lv_lmul hx hb dX11_withStages_30 ?_
            refine lv_aload_n hx hb dX11_withStages_31 rfl (lv_at hl 3 rfl) ?_
            refine lv_iload hx hb dX11_withStages_32 (lv_at hl 2 rfl) ?_
            refine lv_iload hx hb dX11_withStages_34 (lv_at hl 0 rfl) ?_
            refine p_calli (va_runV (As := [.int (nI i), .int (nI 1)]) (rest := [.long ((((wst ws V d0 i) * 31) + (((nI ((ws i).1))).toInt64)) * 31)]) C.fix (g_X11_ofStage1 l D cy Sx2 H.size hP4 i (by omega)) (cwV 2 C.2.2.2.2.1 (gU_V mw_530 mw_531 mw_532 mw_2 (subU mw_533)) rfl rfl rfl hdg_X11_withStages_V_1 ⟨Nat.le_of_ble_eq_true rfl, Nat.le_of_ble_eq_true rfl⟩) (p_preV C hw (hP4.mem (k := 0) (by omega)) hP4.c0 rfl) rfl rfl hl.1 rfl (lv_room (Nat.le_of_ble_eq_true rfl)) dX11_withStages_36 ⟨(Nat.le_of_ble_eq_true rfl), (Nat.le_of_ble_eq_true rfl)⟩) hw hA (fun r15 S14 H locs hpost hw => ?_)
            obtain ⟨hr_, hS_⟩ := hpost
            subst hr_
            subst hS_
            refine lv_i2l hx hb dX11_withStages_39 rfl ?_
            refine lv_ladd hx hb dX11_withStages_40 ?_
            refine lv_lstore_n (lv' := [(3, .long (((((wst ws V d0 i) * 31) + (((nI ((ws i).1))).toInt64)) * 31) + (((nI (Vx3.1 i))).toInt64))), (6, .int (nI 1)), (5, .int (nI i)), (0, .ref (G 0)), (1, .long d0)]) hx hb dX11_withStages_41 rfl hl (by decide) rfl (fun ls hl => ?_)
            refine lv_iinc (v := (nI 2)) (lv' := [(6, .int (nI 2)), (3, .long (((((wst ws V d0 i) * 31) + (((nI ((ws i).1))).toInt64)) * 31) + (((nI (Vx3.1 i))).toInt64))), (5, .int (nI i)), (0, .ref (G 0)), (1, .long d0)]) hx hb dX11_withStages_42 hl (k := 1) rfl (by decide) (by decide) rfl (fun ls hl => ?_)
            refine lv_goto (tgt := 20) hx hb dX11_withStages_45 (by decide) ?_
            refine lv_iload hx hb dX11_withStages_20 (lv_at hl 0 rfl) ?_
            refine lv_iconst (v := nI 4) hx hb dX11_withStages_22 (by decide) ?_
            refine n_icmp_gt (tgt := 48) hx hb (by first | decide | omega) (by first | decide | omega) dX11_withStages_23 (by decide) (fun h_23 => ?_) (fun h_23 => ?_)
            · exact absurd h_23 (by first | decide | omega)
            · skip
              refine lv_lload_n hx hb dX11_withStages_26 rfl (lv_at hl 1 rfl) ?_
              refine lv_ldc2 (v := 31) hx hb C.2.2.2.1 (C.2.2.2.2.1 (.constantLong RX11 247 (31)) (mU mw_503)) dX11_withStages_27 ?_
              refine lv_lmul hx hb dX11_withStages_30 ?_
              refine lv_aload_n hx hb dX11_withStages_31 rfl (lv_at hl 3 rfl) ?_
              refine lv_iload hx hb dX11_withStages_32 (lv_at hl 2 rfl) ?_
              refine lv_iload hx hb dX11_withStages_34 (lv_at hl 0 rfl) ?_
              refine p_calli (va_runV (As := [.int (nI i), .int (nI 2)]) (rest := [.long ((((((wst ws V d0 i) * 31) + (((nI ((ws i).1))).toInt64)) * 31) + (((nI (Vx3.1 i))).toInt64)) * 31)]) C.fix (g_X11_ofStage2 l D cy Sx2 H.size hP4 i (by omega)) (cwV 2 C.2.2.2.2.1 (gU_V mw_530 mw_531 mw_532 mw_2 (subU mw_533)) rfl rfl rfl hdg_X11_withStages_V_1 ⟨Nat.le_of_ble_eq_true rfl, Nat.le_of_ble_eq_true rfl⟩) (p_preV C hw (hP4.mem (k := 0) (by omega)) hP4.c0 rfl) rfl rfl hl.1 rfl (lv_room (Nat.le_of_ble_eq_true rfl)) dX11_withStages_36 ⟨(Nat.le_of_ble_eq_true rfl), (Nat.le_of_ble_eq_true rfl)⟩) hw hA (fun r19 S18 H locs hpost hw => ?_)
              obtain ⟨hr_, hS_⟩ := hpost
              subst hr_
              subst hS_
              refine lv_i2l hx hb dX11_withStages_39 rfl ?_
              refine lv_ladd hx hb dX11_withStages_40 ?_
              refine lv_lstore_n (lv' := [(3, .long (((((((wst ws V d0 i) * 31) + (((nI ((ws i).1))).toInt64)) * 31) + (((nI (Vx3.1 i))).toInt64)) * 31) + (((nI (Vx3.1 (i + 1)))).toInt64))), (6, .int (nI 2)), (5, .int (nI i)), (0, .ref (G 0)), (1, .long d0)]) hx hb dX11_withStages_41 rfl hl (by decide) rfl (fun ls hl => ?_)
              refine lv_iinc (v := (nI 3)) (lv' := [(6, .int (nI 3)), (3, .long (((((((wst ws V d0 i) * 31) + (((nI ((ws i).1))).toInt64)) * 31) + (((nI (Vx3.1 i))).toInt64)) * 31) + (((nI (Vx3.1 (i + 1)))).toInt64))), (5, .int (nI i)), (0, .ref (G 0)), (1, .long d0)]) hx hb dX11_withStages_42 hl (k := 1) rfl (by decide) (by decide) rfl (fun ls hl => ?_)
              refine lv_goto (tgt := 20) hx hb dX11_withStages_45 (by decide) ?_
              refine lv_iload hx hb dX11_withStages_20 (lv_at hl 0 rfl) ?_
              refine lv_iconst (v := nI 4) hx hb dX11_withStages_22 (by decide) ?_
              refine n_icmp_gt (tgt := 48) hx hb (by first | decide | omega) (by first | decide | omega) dX11_withStages_23 (by decide) (fun h_23 => ?_) (fun h_23 => ?_)
              · exact absurd h_23 (by first | decide | omega)
              · skip
                refine lv_lload_n hx hb dX11_withStages_26 rfl (lv_at hl 1 rfl) ?_
                refine lv_ldc2 (v := 31) hx hb C.2.2.2.1 (C.2.2.2.2.1 (.constantLong RX11 247 (31)) (mU mw_503)) dX11_withStages_27 ?_
                refine lv_lmul hx hb dX11_withStages_30 ?_
                refine lv_aload_n hx hb dX11_withStages_31 rfl (lv_at hl 3 rfl) ?_
                refine lv_iload hx hb dX11_withStages_32 (lv_at hl 2 rfl) ?_
                refine lv_iload hx hb dX11_withStages_34 (lv_at hl 0 rfl) ?_
                refine p_calli (va_runV (As := [.int (nI i), .int (nI 3)]) (rest := [.long ((((((((wst ws V d0 i) * 31) + (((nI ((ws i).1))).toInt64)) * 31) + (((nI (Vx3.1 i))).toInt64)) * 31) + (((nI (Vx3.1 (i + 1)))).toInt64)) * 31)]) C.fix (g_X11_ofStage3 l D cy Sx2 H.size hP4 i (by omega) (fun j hj => by rw [(hk (j + 1) (by omega)).1, (hk j (by omega)).1]; exact hs j hj) (fun j hj => by rw [(hk (j + 5) (by omega)).1, (hk j (by omega)).1]; exact hu j hj)) (cwV 2 C.2.2.2.2.1 (gU_V mw_530 mw_531 mw_532 mw_2 (subU mw_533)) rfl rfl rfl hdg_X11_withStages_V_1 ⟨Nat.le_of_ble_eq_true rfl, Nat.le_of_ble_eq_true rfl⟩) (p_preV C hw (hP4.mem (k := 0) (by omega)) hP4.c0 rfl) rfl rfl hl.1 rfl (lv_room (Nat.le_of_ble_eq_true rfl)) dX11_withStages_36 ⟨(Nat.le_of_ble_eq_true rfl), (Nat.le_of_ble_eq_true rfl)⟩) hw hA (fun r23 S22 H locs hpost hw => ?_)
                obtain ⟨V26, hr_, hP24, hF25, hK27⟩ := hpost
                subst hr_
                have hT28 := hF5.trans hF25
                have hk := hk.trans hK27
                refine lv_i2l hx hb dX11_withStages_39 rfl ?_
                refine lv_ladd hx hb dX11_withStages_40 ?_
                refine lv_lstore_n (lv' := [(3, .long (((((((((wst ws V d0 i) * 31) + (((nI ((ws i).1))).toInt64)) * 31) + (((nI (Vx3.1 i))).toInt64)) * 31) + (((nI (Vx3.1 (i + 1)))).toInt64)) * 31) + (((nI (mnd ws Vx3 i))).toInt64))), (6, .int (nI 3)), (5, .int (nI i)), (0, .ref (G 0)), (1, .long d0)]) hx hb dX11_withStages_41 rfl hl (by decide) rfl (fun ls hl => ?_)
                refine lv_iinc (v := (nI 4)) (lv' := [(6, .int (nI 4)), (3, .long (((((((((wst ws V d0 i) * 31) + (((nI ((ws i).1))).toInt64)) * 31) + (((nI (Vx3.1 i))).toInt64)) * 31) + (((nI (Vx3.1 (i + 1)))).toInt64)) * 31) + (((nI (mnd ws Vx3 i))).toInt64))), (5, .int (nI i)), (0, .ref (G 0)), (1, .long d0)]) hx hb dX11_withStages_42 hl (k := 1) rfl (by decide) (by decide) rfl (fun ls hl => ?_)
                refine lv_goto (tgt := 20) hx hb dX11_withStages_45 (by decide) ?_
                refine lv_iload hx hb dX11_withStages_20 (lv_at hl 0 rfl) ?_
                refine lv_iconst (v := nI 4) hx hb dX11_withStages_22 (by decide) ?_
                refine n_icmp_gt (tgt := 48) hx hb (by first | decide | omega) (by first | decide | omega) dX11_withStages_23 (by decide) (fun h_23 => ?_) (fun h_23 => ?_)
                · exact absurd h_23 (by first | decide | omega)
                · skip
                  refine lv_lload_n hx hb dX11_withStages_26 rfl (lv_at hl 1 rfl) ?_
                  refine lv_ldc2 (v := 31) hx hb C.2.2.2.1 (C.2.2.2.2.1 (.constantLong RX11 247 (31)) (mU mw_503)) dX11_withStages_27 ?_
                  refine lv_lmul hx hb dX11_withStages_30 ?_
                  refine lv_aload_n hx hb dX11_withStages_31 rfl (lv_at hl 3 rfl) ?_
                  refine lv_iload hx hb dX11_withStages_32 (lv_at hl 2 rfl) ?_
                  refine lv_iload hx hb dX11_withStages_34 (lv_at hl 0 rfl) ?_
                  refine p_calli (va_runV (As := [.int (nI i), .int (nI 4)]) (rest := [.long ((((((((((wst ws V d0 i) * 31) + (((nI ((ws i).1))).toInt64)) * 31) + (((nI (Vx3.1 i))).toInt64)) * 31) + (((nI (Vx3.1 (i + 1)))).toInt64)) * 31) + (((nI (mnd ws Vx3 i))).toInt64)) * 31)]) C.fix (g_X11_ofStage4 l D cy S22 H.size hP24 i (by omega)) (cwV 2 C.2.2.2.2.1 (gU_V mw_530 mw_531 mw_532 mw_2 (subU mw_533)) rfl rfl rfl hdg_X11_withStages_V_1 ⟨Nat.le_of_ble_eq_true rfl, Nat.le_of_ble_eq_true rfl⟩) (p_preV C hw (hP24.mem (k := 0) (by omega)) hP24.c0 rfl) rfl rfl hl.1 rfl (lv_room (Nat.le_of_ble_eq_true rfl)) dX11_withStages_36 ⟨(Nat.le_of_ble_eq_true rfl), (Nat.le_of_ble_eq_true rfl)⟩) hw hA (fun r30 S29 H locs hpost hw => ?_)
                  obtain ⟨hr_, hS_⟩ := hpost
                  subst hr_
                  subst hS_
                  refine lv_i2l hx hb dX11_withStages_39 rfl ?_
                  refine lv_ladd hx hb dX11_withStages_40 ?_
                  refine lv_lstore_n (lv' := [(3, .long (((((((((((wst ws V d0 i) * 31) + (((nI ((ws i).1))).toInt64)) * 31) + (((nI (Vx3.1 i))).toInt64)) * 31) + (((nI (Vx3.1 (i + 1)))).toInt64)) * 31) + (((nI (mnd ws Vx3 i))).toInt64)) * 31) + (((nI (damN ws V26 i))).toInt64))), (6, .int (nI 4)), (5, .int (nI i)), (0, .ref (G 0)), (1, .long d0)]) hx hb dX11_withStages_41 rfl hl (by decide) rfl (fun ls hl => ?_)
                  refine lv_iinc (v := (nI 5)) (lv' := [(6, .int (nI 5)), (3, .long (((((((((((wst ws V d0 i) * 31) + (((nI ((ws i).1))).toInt64)) * 31) + (((nI (Vx3.1 i))).toInt64)) * 31) + (((nI (Vx3.1 (i + 1)))).toInt64)) * 31) + (((nI (mnd ws Vx3 i))).toInt64)) * 31) + (((nI (damN ws V26 i))).toInt64))), (5, .int (nI i)), (0, .ref (G 0)), (1, .long d0)]) hx hb dX11_withStages_42 hl (k := 1) rfl (by decide) (by decide) rfl (fun ls hl => ?_)
                  refine lv_goto (tgt := 20) hx hb dX11_withStages_45 (by decide) ?_
                  refine lv_iload hx hb dX11_withStages_20 (lv_at hl 0 rfl) ?_
                  refine lv_iconst (v := nI 4) hx hb dX11_withStages_22 (by decide) ?_
                  refine n_icmp_gt (tgt := 48) hx hb (by first | decide | omega) (by first | decide | omega) dX11_withStages_23 (by decide) (fun h_23 => ?_) (fun h_23 => ?_)
                  · skip
                    refine lv_lload_n hx hb dX11_withStages_48 rfl (lv_at hl 1 rfl) ?_
                    refine lv_ldc2 (v := 31) hx hb C.2.2.2.1 (C.2.2.2.2.1 (.constantLong RX11 247 (31)) (mU mw_503)) dX11_withStages_49 ?_
                    refine lv_lmul hx hb dX11_withStages_52 ?_
                    refine lv_aload_n hx hb dX11_withStages_53 rfl (lv_at hl 3 rfl) ?_
                    refine lv_iload hx hb dX11_withStages_54 (lv_at hl 2 rfl) ?_
                    refine p_calli (va_runV (As := [.int (nI i)]) (rest := [.long ((((((((((((wst ws V d0 i) * 31) + (((nI ((ws i).1))).toInt64)) * 31) + (((nI (Vx3.1 i))).toInt64)) * 31) + (((nI (Vx3.1 (i + 1)))).toInt64)) * 31) + (((nI (mnd ws Vx3 i))).toInt64)) * 31) + (((nI (damN ws V26 i))).toInt64)) * 31)]) C.fix (g_X11_distance l D cy S22 H.size hP24 i (by omega)) (cwV 1 C.2.2.2.2.1 (gU_V mw_572 mw_471 mw_472 mw_2 (subU mw_473)) rfl rfl rfl hdg_X11_withStages_V_2 ⟨Nat.le_of_ble_eq_true rfl, Nat.le_of_ble_eq_true rfl⟩) (p_preV C hw (hP24.mem (k := 0) (by omega)) hP24.c0 rfl) rfl rfl hl.1 rfl (lv_room (Nat.le_of_ble_eq_true rfl)) dX11_withStages_56 ⟨(Nat.le_of_ble_eq_true rfl), (Nat.le_of_ble_eq_true rfl)⟩) hw hA (fun r34 S33 H locs hpost hw => ?_)
                    obtain ⟨hr_, hP35, hF36⟩ := hpost
                    subst hr_
                    have hT37 := hT28.trans hF36
                    refine lv_i2l hx hb dX11_withStages_59 rfl ?_
                    refine lv_ladd hx hb dX11_withStages_60 ?_
                    refine lv_lstore_n (lv' := [(3, .long (((((((((((((wst ws V d0 i) * 31) + (((nI ((ws i).1))).toInt64)) * 31) + (((nI (Vx3.1 i))).toInt64)) * 31) + (((nI (Vx3.1 (i + 1)))).toInt64)) * 31) + (((nI (mnd ws Vx3 i))).toInt64)) * 31) + (((nI (damN ws V26 i))).toInt64)) * 31) + (((nI (sApart (ws i)))).toInt64))), (6, .int (nI 5)), (5, .int (nI i)), (0, .ref (G 0)), (1, .long d0)]) hx hb dX11_withStages_61 rfl hl (by decide) rfl (fun ls hl => ?_)
                    refine lv_aload_n hx hb dX11_withStages_62 rfl (lv_at hl 3 rfl) ?_
                    refine lv_iload hx hb dX11_withStages_63 (lv_at hl 2 rfl) ?_
                    refine lv_iconst (v := nI 0) hx hb dX11_withStages_65 (by decide) ?_
                    refine p_calli (va_runV (As := [.int (nI i), .int (nI 0)]) (rest := []) C.fix (g_X11_ofStage0 l D cy S33 H.size hP35 i (by omega)) (cwV 2 C.2.2.2.2.1 (gU_V mw_530 mw_531 mw_532 mw_2 (subU mw_533)) rfl rfl rfl hdg_X11_withStages_V_1 ⟨Nat.le_of_ble_eq_true rfl, Nat.le_of_ble_eq_true rfl⟩) (p_preV C hw (hP35.mem (k := 0) (by omega)) hP35.c0 rfl) rfl rfl hl.1 rfl (lv_room (Nat.le_of_ble_eq_true rfl)) dX11_withStages_66 ⟨(Nat.le_of_ble_eq_true rfl), (Nat.le_of_ble_eq_true rfl)⟩) hw hA (fun r39 S38 H locs hpost hw => ?_)
                    obtain ⟨hr_, hS_⟩ := hpost
                    subst hr_
                    subst hS_
                    refine lv_iconst (v := nI 1) hx hb dX11_withStages_69 (by decide) ?_
                    refine n_icmp_ne (tgt := 105) hx hb (by have := gok_4 (hP.gk i (by omega)); omega) (by decide) dX11_withStages_70 (by decide) (fun h_70 => ?_) (fun h_70 => ?_)
                    · skip
                      refine lv_iinc (v := (nI (i + 1))) (lv' := [(5, .int (nI (i + 1))), (3, .long (((((((((((((wst ws V d0 i) * 31) + (((nI ((ws i).1))).toInt64)) * 31) + (((nI (Vx3.1 i))).toInt64)) * 31) + (((nI (Vx3.1 (i + 1)))).toInt64)) * 31) + (((nI (mnd ws Vx3 i))).toInt64)) * 31) + (((nI (damN ws V26 i))).toInt64)) * 31) + (((nI (sApart (ws i)))).toInt64))), (6, .int (nI 5)), (0, .ref (G 0)), (1, .long d0)]) hx hb dX11_withStages_105 hl (k := 2) rfl (by rw [show Int32.ofInt 1 = nI 1 from by decide, nI_add]) (by decide) rfl (fun ls hl => ?_)
                      refine lv_goto (tgt := 5) hx hb dX11_withStages_108 (by decide) ?_
                      have e9 : ((((((((((((wst ws V d0 i) * 31) + (((nI ((ws i).1))).toInt64)) * 31) + (((nI (Vx3.1 i))).toInt64)) * 31) + (((nI (Vx3.1 (i + 1)))).toInt64)) * 31) + (((nI (mnd ws Vx3 i))).toInt64)) * 31) + (((nI (damN ws V26 i))).toInt64)) * 31) + (((nI (sApart (ws i)))).toInt64) = wst ws V d0 (i + 1) := by
                        rw [(hkx i (by omega)).1, (hkx (i + 1) (by omega)).1, Kp.mend (by omega) hkx, Kp.dam (by omega) hk]
                        show _ = (if (ws i).1 = 1 then _ else _)
                        rw [if_neg h_70]; rfl
                      rw [e9] at hl
                      exact ihloop5_1 (i + 1) (by omega) S33 V26 H locs ls hP35 hT37 (by omega) hk hw (lv_sub hl [0, 1, 3, 4] rfl)
                    · skip
                      have h1k := h_70
                      refine lv_iconst (v := nI 0) hx hb dX11_withStages_73 (by decide) ?_
                      refine lv_istore (lv' := [(6, .int (nI 0)), (3, .long (((((((((((((wst ws V d0 i) * 31) + (((nI ((ws i).1))).toInt64)) * 31) + (((nI (Vx3.1 i))).toInt64)) * 31) + (((nI (Vx3.1 (i + 1)))).toInt64)) * 31) + (((nI (mnd ws Vx3 i))).toInt64)) * 31) + (((nI (damN ws V26 i))).toInt64)) * 31) + (((nI (sApart (ws i)))).toInt64))), (5, .int (nI i)), (0, .ref (G 0)), (1, .long d0)]) hx hb dX11_withStages_74 hl (by decide) rfl (fun ls hl => ?_)
                      refine lv_iload hx hb dX11_withStages_76 (lv_at hl 0 rfl) ?_
                      refine lv_bipush (v := nI 10) hx hb dX11_withStages_78 (by decide) ?_
                      refine n_icmp_gt (tgt := 105) hx hb (by first | decide | omega) (by first | decide | omega) dX11_withStages_80 (by decide) (fun h_80 => ?_) (fun h_80 => ?_)
                      · exact absurd h_80 (by first | decide | omega)
                      · skip
                        refine lv_lload_n hx hb dX11_withStages_83 rfl (lv_at hl 1 rfl) ?_
                        refine lv_ldc2 (v := 31) hx hb C.2.2.2.1 (C.2.2.2.2.1 (.constantLong RX11 247 (31)) (mU mw_503)) dX11_withStages_84 ?_
                        refine lv_lmul hx hb dX11_withStages_87 ?_
                        refine lv_aload_n hx hb dX11_withStages_88 rfl (lv_at hl 3 rfl) ?_
                        refine lv_iload hx hb dX11_withStages_89 (lv_at hl 2 rfl) ?_
                        refine lv_iload hx hb dX11_withStages_91 (lv_at hl 0 rfl) ?_
                        refine p_calli (va_runV (As := [.int (nI i), .int (nI 0)]) (rest := [.long ((((((((((((((wst ws V d0 i) * 31) + (((nI ((ws i).1))).toInt64)) * 31) + (((nI (Vx3.1 i))).toInt64)) * 31) + (((nI (Vx3.1 (i + 1)))).toInt64)) * 31) + (((nI (mnd ws Vx3 i))).toInt64)) * 31) + (((nI (damN ws V26 i))).toInt64)) * 31) + (((nI (sApart (ws i)))).toInt64)) * 31)]) C.fix (g_X11_words l D cy S33 H.size hP35 i 0 (by omega) (by decide) h1k) (cwV 2 C.2.2.2.2.1 (gU_V mw_573 mw_574 mw_575 mw_2 (subU mw_576)) rfl rfl rfl hdg_X11_withStages_V_3 ⟨Nat.le_of_ble_eq_true rfl, Nat.le_of_ble_eq_true rfl⟩) (p_preV C hw (hP35.mem (k := 0) (by omega)) hP35.c0 rfl) rfl rfl hl.1 rfl (lv_room (Nat.le_of_ble_eq_true rfl)) dX11_withStages_93 ⟨(Nat.le_of_ble_eq_true rfl), (Nat.le_of_ble_eq_true rfl)⟩) hw hA (fun r43 S42 H locs hpost hw => ?_)
                        obtain ⟨hr_, hS_⟩ := hpost
                        subst hr_
                        subst hS_
                        refine lv_i2l hx hb dX11_withStages_96 rfl ?_
                        refine lv_ladd hx hb dX11_withStages_97 ?_
                        refine lv_lstore_n (lv' := [(3, .long (((((((((((((((wst ws V d0 i) * 31) + (((nI ((ws i).1))).toInt64)) * 31) + (((nI (Vx3.1 i))).toInt64)) * 31) + (((nI (Vx3.1 (i + 1)))).toInt64)) * 31) + (((nI (mnd ws Vx3 i))).toInt64)) * 31) + (((nI (damN ws V26 i))).toInt64)) * 31) + (((nI (sApart (ws i)))).toInt64)) * 31) + (((nI (sWrd (ws i) 0))).toInt64))), (6, .int (nI 0)), (5, .int (nI i)), (0, .ref (G 0)), (1, .long d0)]) hx hb dX11_withStages_98 rfl hl (by decide) rfl (fun ls hl => ?_)
                        refine lv_iinc (v := (nI 1)) (lv' := [(6, .int (nI 1)), (3, .long (((((((((((((((wst ws V d0 i) * 31) + (((nI ((ws i).1))).toInt64)) * 31) + (((nI (Vx3.1 i))).toInt64)) * 31) + (((nI (Vx3.1 (i + 1)))).toInt64)) * 31) + (((nI (mnd ws Vx3 i))).toInt64)) * 31) + (((nI (damN ws V26 i))).toInt64)) * 31) + (((nI (sApart (ws i)))).toInt64)) * 31) + (((nI (sWrd (ws i) 0))).toInt64))), (5, .int (nI i)), (0, .ref (G 0)), (1, .long d0)]) hx hb dX11_withStages_99 hl (k := 1) rfl (by decide) (by decide) rfl (fun ls hl => ?_)
                        refine lv_goto (tgt := 76) hx hb dX11_withStages_102 (by decide) ?_
                        refine lv_iload hx hb dX11_withStages_76 (lv_at hl 0 rfl) ?_
                        refine lv_bipush (v := nI 10) hx hb dX11_withStages_78 (by decide) ?_
                        refine n_icmp_gt (tgt := 105) hx hb (by first | decide | omega) (by first | decide | omega) dX11_withStages_80 (by decide) (fun h_80 => ?_) (fun h_80 => ?_)
                        · exact absurd h_80 (by first | decide | omega)
                        · skip
                          refine lv_lload_n hx hb dX11_withStages_83 rfl (lv_at hl 1 rfl) ?_
                          refine lv_ldc2 (v := 31) hx hb C.2.2.2.1 (C.2.2.2.2.1 (.constantLong RX11 247 (31)) (mU mw_503)) dX11_withStages_84 ?_
                          refine lv_lmul hx hb dX11_withStages_87 ?_
                          refine lv_aload_n hx hb dX11_withStages_88 rfl (lv_at hl 3 rfl) ?_
                          refine lv_iload hx hb dX11_withStages_89 (lv_at hl 2 rfl) ?_
                          refine lv_iload hx hb dX11_withStages_91 (lv_at hl 0 rfl) ?_
                          refine p_calli (va_runV (As := [.int (nI i), .int (nI 1)]) (rest := [.long ((((((((((((((((wst ws V d0 i) * 31) + (((nI ((ws i).1))).toInt64)) * 31) + (((nI (Vx3.1 i))).toInt64)) * 31) + (((nI (Vx3.1 (i + 1)))).toInt64)) * 31) + (((nI (mnd ws Vx3 i))).toInt64)) * 31) + (((nI (damN ws V26 i))).toInt64)) * 31) + (((nI (sApart (ws i)))).toInt64)) * 31) + (((nI (sWrd (ws i) 0))).toInt64)) * 31)]) C.fix (g_X11_words l D cy S33 H.size hP35 i 1 (by omega) (by decide) h1k) (cwV 2 C.2.2.2.2.1 (gU_V mw_573 mw_574 mw_575 mw_2 (subU mw_576)) rfl rfl rfl hdg_X11_withStages_V_3 ⟨Nat.le_of_ble_eq_true rfl, Nat.le_of_ble_eq_true rfl⟩) (p_preV C hw (hP35.mem (k := 0) (by omega)) hP35.c0 rfl) rfl rfl hl.1 rfl (lv_room (Nat.le_of_ble_eq_true rfl)) dX11_withStages_93 ⟨(Nat.le_of_ble_eq_true rfl), (Nat.le_of_ble_eq_true rfl)⟩) hw hA (fun r47 S46 H locs hpost hw => ?_)
                          obtain ⟨hr_, hS_⟩ := hpost
                          subst hr_
                          subst hS_
                          refine lv_i2l hx hb dX11_withStages_96 rfl ?_
                          refine lv_ladd hx hb dX11_withStages_97 ?_
                          refine lv_lstore_n (lv' := [(3, .long (((((((((((((((((wst ws V d0 i) * 31) + (((nI ((ws i).1))).toInt64)) * 31) + (((nI (Vx3.1 i))).toInt64)) * 31) + (((nI (Vx3.1 (i + 1)))).toInt64)) * 31) + (((nI (mnd ws Vx3 i))).toInt64)) * 31) + (((nI (damN ws V26 i))).toInt64)) * 31) + (((nI (sApart (ws i)))).toInt64)) * 31) + (((nI (sWrd (ws i) 0))).toInt64)) * 31) + (((nI (sWrd (ws i) 1))).toInt64))), (6, .int (nI 1)), (5, .int (nI i)), (0, .ref (G 0)), (1, .long d0)]) hx hb dX11_withStages_98 rfl hl (by decide) rfl (fun ls hl => ?_)
                          refine lv_iinc (v := (nI 2)) (lv' := [(6, .int (nI 2)), (3, .long (((((((((((((((((wst ws V d0 i) * 31) + (((nI ((ws i).1))).toInt64)) * 31) + (((nI (Vx3.1 i))).toInt64)) * 31) + (((nI (Vx3.1 (i + 1)))).toInt64)) * 31) + (((nI (mnd ws Vx3 i))).toInt64)) * 31) + (((nI (damN ws V26 i))).toInt64)) * 31) + (((nI (sApart (ws i)))).toInt64)) * 31) + (((nI (sWrd (ws i) 0))).toInt64)) * 31) + (((nI (sWrd (ws i) 1))).toInt64))), (5, .int (nI i)), (0, .ref (G 0)), (1, .long d0)]) hx hb dX11_withStages_99 hl (k := 1) rfl (by decide) (by decide) rfl (fun ls hl => ?_)
                          refine lv_goto (tgt := 76) hx hb dX11_withStages_102 (by decide) ?_
                          refine lv_iload hx hb dX11_withStages_76 (lv_at hl 0 rfl) ?_
                          refine lv_bipush (v := nI 10) hx hb dX11_withStages_78 (by decide) ?_
                          refine n_icmp_gt (tgt := 105) hx hb (by first | decide | omega) (by first | decide | omega) dX11_withStages_80 (by decide) (fun h_80 => ?_) (fun h_80 => ?_)
                          · exact absurd h_80 (by first | decide | omega)
                          · skip
                            refine lv_lload_n hx hb dX11_withStages_83 rfl (lv_at hl 1 rfl) ?_
                            refine lv_ldc2 (v := 31) hx hb C.2.2.2.1 (C.2.2.2.2.1 (.constantLong RX11 247 (31)) (mU mw_503)) dX11_withStages_84 ?_
                            refine lv_lmul hx hb dX11_withStages_87 ?_
                            refine lv_aload_n hx hb dX11_withStages_88 rfl (lv_at hl 3 rfl) ?_
                            refine lv_iload hx hb dX11_withStages_89 (lv_at hl 2 rfl) ?_
                            refine lv_iload hx hb dX11_withStages_91 (lv_at hl 0 rfl) ?_
                            refine p_calli (va_runV (As := [.int (nI i), .int (nI 2)]) (rest := [.long ((((((((((((((((((wst ws V d0 i) * 31) + (((nI ((ws i).1))).toInt64)) * 31) + (((nI (Vx3.1 i))).toInt64)) * 31) + (((nI (Vx3.1 (i + 1)))).toInt64)) * 31) + (((nI (mnd ws Vx3 i))).toInt64)) * 31) + (((nI (damN ws V26 i))).toInt64)) * 31) + (((nI (sApart (ws i)))).toInt64)) * 31) + (((nI (sWrd (ws i) 0))).toInt64)) * 31) + (((nI (sWrd (ws i) 1))).toInt64)) * 31)]) C.fix (g_X11_words l D cy S33 H.size hP35 i 2 (by omega) (by decide) h1k) (cwV 2 C.2.2.2.2.1 (gU_V mw_573 mw_574 mw_575 mw_2 (subU mw_576)) rfl rfl rfl hdg_X11_withStages_V_3 ⟨Nat.le_of_ble_eq_true rfl, Nat.le_of_ble_eq_true rfl⟩) (p_preV C hw (hP35.mem (k := 0) (by omega)) hP35.c0 rfl) rfl rfl hl.1 rfl (lv_room (Nat.le_of_ble_eq_true rfl)) dX11_withStages_93 ⟨(Nat.le_of_ble_eq_true rfl), (Nat.le_of_ble_eq_true rfl)⟩) hw hA (fun r51 S50 H locs hpost hw => ?_)
                            obtain ⟨hr_, hS_⟩ := hpost
                            subst hr_
                            subst hS_
                            refine lv_i2l hx hb dX11_withStages_96 rfl ?_
                            refine lv_ladd hx hb dX11_withStages_97 ?_
                            refine lv_lstore_n (lv' := [(3, .long (((((((((((((((((((wst ws V d0 i) * 31) + (((nI ((ws i).1))).toInt64)) * 31) + (((nI (Vx3.1 i))).toInt64)) * 31) + (((nI (Vx3.1 (i + 1)))).toInt64)) * 31) + (((nI (mnd ws Vx3 i))).toInt64)) * 31) + (((nI (damN ws V26 i))).toInt64)) * 31) + (((nI (sApart (ws i)))).toInt64)) * 31) + (((nI (sWrd (ws i) 0))).toInt64)) * 31) + (((nI (sWrd (ws i) 1))).toInt64)) * 31) + (((nI (sWrd (ws i) 2))).toInt64))), (6, .int (nI 2)), (5, .int (nI i)), (0, .ref (G 0)), (1, .long d0)]) hx hb dX11_withStages_98 rfl hl (by decide) rfl (fun ls hl => ?_)
                            refine lv_iinc (v := (nI 3)) (lv' := [(6, .int (nI 3)), (3, .long (((((((((((((((((((wst ws V d0 i) * 31) + (((nI ((ws i).1))).toInt64)) * 31) + (((nI (Vx3.1 i))).toInt64)) * 31) + (((nI (Vx3.1 (i + 1)))).toInt64)) * 31) + (((nI (mnd ws Vx3 i))).toInt64)) * 31) + (((nI (damN ws V26 i))).toInt64)) * 31) + (((nI (sApart (ws i)))).toInt64)) * 31) + (((nI (sWrd (ws i) 0))).toInt64)) * 31) + (((nI (sWrd (ws i) 1))).toInt64)) * 31) + (((nI (sWrd (ws i) 2))).toInt64))), (5, .int (nI i)), (0, .ref (G 0)), (1, .long d0)]) hx hb dX11_withStages_99 hl (k := 1) rfl (by decide) (by decide) rfl (fun ls hl => ?_)
                            refine lv_goto (tgt := 76) hx hb dX11_withStages_102 (by decide) ?_
                            refine lv_iload hx hb dX11_withStages_76 (lv_at hl 0 rfl) ?_
                            refine lv_bipush (v := nI 10) hx hb dX11_withStages_78 (by decide) ?_
                            refine n_icmp_gt (tgt := 105) hx hb (by first | decide | omega) (by first | decide | omega) dX11_withStages_80 (by decide) (fun h_80 => ?_) (fun h_80 => ?_)
                            · exact absurd h_80 (by first | decide | omega)
                            · skip
                              refine lv_lload_n hx hb dX11_withStages_83 rfl (lv_at hl 1 rfl) ?_
                              refine lv_ldc2 (v := 31) hx hb C.2.2.2.1 (C.2.2.2.2.1 (.constantLong RX11 247 (31)) (mU mw_503)) dX11_withStages_84 ?_
                              refine lv_lmul hx hb dX11_withStages_87 ?_
                              refine lv_aload_n hx hb dX11_withStages_88 rfl (lv_at hl 3 rfl) ?_
                              refine lv_iload hx hb dX11_withStages_89 (lv_at hl 2 rfl) ?_
                              refine lv_iload hx hb dX11_withStages_91 (lv_at hl 0 rfl) ?_
                              refine p_calli (va_runV (As := [.int (nI i), .int (nI 3)]) (rest := [.long ((((((((((((((((((((wst ws V d0 i) * 31) + (((nI ((ws i).1))).toInt64)) * 31) + (((nI (Vx3.1 i))).toInt64)) * 31) + (((nI (Vx3.1 (i + 1)))).toInt64)) * 31) + (((nI (mnd ws Vx3 i))).toInt64)) * 31) + (((nI (damN ws V26 i))).toInt64)) * 31) + (((nI (sApart (ws i)))).toInt64)) * 31) + (((nI (sWrd (ws i) 0))).toInt64)) * 31) + (((nI (sWrd (ws i) 1))).toInt64)) * 31) + (((nI (sWrd (ws i) 2))).toInt64)) * 31)]) C.fix (g_X11_words l D cy S33 H.size hP35 i 3 (by omega) (by decide) h1k) (cwV 2 C.2.2.2.2.1 (gU_V mw_573 mw_574 mw_575 mw_2 (subU mw_576)) rfl rfl rfl hdg_X11_withStages_V_3 ⟨Nat.le_of_ble_eq_true rfl, Nat.le_of_ble_eq_true rfl⟩) (p_preV C hw (hP35.mem (k := 0) (by omega)) hP35.c0 rfl) rfl rfl hl.1 rfl (lv_room (Nat.le_of_ble_eq_true rfl)) dX11_withStages_93 ⟨(Nat.le_of_ble_eq_true rfl), (Nat.le_of_ble_eq_true rfl)⟩) hw hA (fun r55 S54 H locs hpost hw => ?_)
                              obtain ⟨hr_, hS_⟩ := hpost
                              subst hr_
                              subst hS_
                              refine lv_i2l hx hb dX11_withStages_96 rfl ?_
                              refine lv_ladd hx hb dX11_withStages_97 ?_
                              refine lv_lstore_n (lv' := [(3, .long (((((((((((((((((((((wst ws V d0 i) * 31) + (((nI ((ws i).1))).toInt64)) * 31) + (((nI (Vx3.1 i))).toInt64)) * 31) + (((nI (Vx3.1 (i + 1)))).toInt64)) * 31) + (((nI (mnd ws Vx3 i))).toInt64)) * 31) + (((nI (damN ws V26 i))).toInt64)) * 31) + (((nI (sApart (ws i)))).toInt64)) * 31) + (((nI (sWrd (ws i) 0))).toInt64)) * 31) + (((nI (sWrd (ws i) 1))).toInt64)) * 31) + (((nI (sWrd (ws i) 2))).toInt64)) * 31) + (((nI (sWrd (ws i) 3))).toInt64))), (6, .int (nI 3)), (5, .int (nI i)), (0, .ref (G 0)), (1, .long d0)]) hx hb dX11_withStages_98 rfl hl (by decide) rfl (fun ls hl => ?_)
                              refine lv_iinc (v := (nI 4)) (lv' := [(6, .int (nI 4)), (3, .long (((((((((((((((((((((wst ws V d0 i) * 31) + (((nI ((ws i).1))).toInt64)) * 31) + (((nI (Vx3.1 i))).toInt64)) * 31) + (((nI (Vx3.1 (i + 1)))).toInt64)) * 31) + (((nI (mnd ws Vx3 i))).toInt64)) * 31) + (((nI (damN ws V26 i))).toInt64)) * 31) + (((nI (sApart (ws i)))).toInt64)) * 31) + (((nI (sWrd (ws i) 0))).toInt64)) * 31) + (((nI (sWrd (ws i) 1))).toInt64)) * 31) + (((nI (sWrd (ws i) 2))).toInt64)) * 31) + (((nI (sWrd (ws i) 3))).toInt64))), (5, .int (nI i)), (0, .ref (G 0)), (1, .long d0)]) hx hb dX11_withStages_99 hl (k := 1) rfl (by decide) (by decide) rfl (fun ls hl => ?_)
                              refine lv_goto (tgt := 76) hx hb dX11_withStages_102 (by decide) ?_
                              refine lv_iload hx hb dX11_withStages_76 (lv_at hl 0 rfl) ?_
                              refine lv_bipush (v := nI 10) hx hb dX11_withStages_78 (by decide) ?_
                              refine n_icmp_gt (tgt := 105) hx hb (by first | decide | omega) (by first | decide | omega) dX11_withStages_80 (by decide) (fun h_80 => ?_) (fun h_80 => ?_)
                              · exact absurd h_80 (by first | decide | omega)
                              · skip
                                refine lv_lload_n hx hb dX11_withStages_83 rfl (lv_at hl 1 rfl) ?_
                                refine lv_ldc2 (v := 31) hx hb C.2.2.2.1 (C.2.2.2.2.1 (.constantLong RX11 247 (31)) (mU mw_503)) dX11_withStages_84 ?_
                                refine lv_lmul hx hb dX11_withStages_87 ?_
                                refine lv_aload_n hx hb dX11_withStages_88 rfl (lv_at hl 3 rfl) ?_
                                refine lv_iload hx hb dX11_withStages_89 (lv_at hl 2 rfl) ?_
                                refine lv_iload hx hb dX11_withStages_91 (lv_at hl 0 rfl) ?_
                                refine p_calli (va_runV (As := [.int (nI i), .int (nI 4)]) (rest := [.long ((((((((((((((((((((((wst ws V d0 i) * 31) + (((nI ((ws i).1))).toInt64)) * 31) + (((nI (Vx3.1 i))).toInt64)) * 31) + (((nI (Vx3.1 (i + 1)))).toInt64)) * 31) + (((nI (mnd ws Vx3 i))).toInt64)) * 31) + (((nI (damN ws V26 i))).toInt64)) * 31) + (((nI (sApart (ws i)))).toInt64)) * 31) + (((nI (sWrd (ws i) 0))).toInt64)) * 31) + (((nI (sWrd (ws i) 1))).toInt64)) * 31) + (((nI (sWrd (ws i) 2))).toInt64)) * 31) + (((nI (sWrd (ws i) 3))).toInt64)) * 31)]) C.fix (g_X11_words l D cy S33 H.size hP35 i 4 (by omega) (by decide) h1k) (cwV 2 C.2.2.2.2.1 (gU_V mw_573 mw_574 mw_575 mw_2 (subU mw_576)) rfl rfl rfl hdg_X11_withStages_V_3 ⟨Nat.le_of_ble_eq_true rfl, Nat.le_of_ble_eq_true rfl⟩) (p_preV C hw (hP35.mem (k := 0) (by omega)) hP35.c0 rfl) rfl rfl hl.1 rfl (lv_room (Nat.le_of_ble_eq_true rfl)) dX11_withStages_93 ⟨(Nat.le_of_ble_eq_true rfl), (Nat.le_of_ble_eq_true rfl)⟩) hw hA (fun r59 S58 H locs hpost hw => ?_)
                                obtain ⟨hr_, hS_⟩ := hpost
                                subst hr_
                                subst hS_
                                refine lv_i2l hx hb dX11_withStages_96 rfl ?_
                                refine lv_ladd hx hb dX11_withStages_97 ?_
                                refine lv_lstore_n (lv' := [(3, .long (((((((((((((((((((((((wst ws V d0 i) * 31) + (((nI ((ws i).1))).toInt64)) * 31) + (((nI (Vx3.1 i))).toInt64)) * 31) + (((nI (Vx3.1 (i + 1)))).toInt64)) * 31) + (((nI (mnd ws Vx3 i))).toInt64)) * 31) + (((nI (damN ws V26 i))).toInt64)) * 31) + (((nI (sApart (ws i)))).toInt64)) * 31) + (((nI (sWrd (ws i) 0))).toInt64)) * 31) + (((nI (sWrd (ws i) 1))).toInt64)) * 31) + (((nI (sWrd (ws i) 2))).toInt64)) * 31) + (((nI (sWrd (ws i) 3))).toInt64)) * 31) + (((nI (sWrd (ws i) 4))).toInt64))), (6, .int (nI 4)), (5, .int (nI i)), (0, .ref (G 0)), (1, .long d0)]) hx hb dX11_withStages_98 rfl hl (by decide) rfl (fun ls hl => ?_)
                                refine lv_iinc (v := (nI 5)) (lv' := [(6, .int (nI 5)), (3, .long (((((((((((((((((((((((wst ws V d0 i) * 31) + (((nI ((ws i).1))).toInt64)) * 31) + (((nI (Vx3.1 i))).toInt64)) * 31) + (((nI (Vx3.1 (i + 1)))).toInt64)) * 31) + (((nI (mnd ws Vx3 i))).toInt64)) * 31) + (((nI (damN ws V26 i))).toInt64)) * 31) + (((nI (sApart (ws i)))).toInt64)) * 31) + (((nI (sWrd (ws i) 0))).toInt64)) * 31) + (((nI (sWrd (ws i) 1))).toInt64)) * 31) + (((nI (sWrd (ws i) 2))).toInt64)) * 31) + (((nI (sWrd (ws i) 3))).toInt64)) * 31) + (((nI (sWrd (ws i) 4))).toInt64))), (5, .int (nI i)), (0, .ref (G 0)), (1, .long d0)]) hx hb dX11_withStages_99 hl (k := 1) rfl (by decide) (by decide) rfl (fun ls hl => ?_)
                                refine lv_goto (tgt := 76) hx hb dX11_withStages_102 (by decide) ?_
                                refine lv_iload hx hb dX11_withStages_76 (lv_at hl 0 rfl) ?_
                                refine lv_bipush (v := nI 10) hx hb dX11_withStages_78 (by decide) ?_
                                refine n_icmp_gt (tgt := 105) hx hb (by first | decide | omega) (by first | decide | omega) dX11_withStages_80 (by decide) (fun h_80 => ?_) (fun h_80 => ?_)
                                · exact absurd h_80 (by first | decide | omega)
                                · skip
                                  refine lv_lload_n hx hb dX11_withStages_83 rfl (lv_at hl 1 rfl) ?_
                                  refine lv_ldc2 (v := 31) hx hb C.2.2.2.1 (C.2.2.2.2.1 (.constantLong RX11 247 (31)) (mU mw_503)) dX11_withStages_84 ?_
                                  refine lv_lmul hx hb dX11_withStages_87 ?_
                                  refine lv_aload_n hx hb dX11_withStages_88 rfl (lv_at hl 3 rfl) ?_
                                  refine lv_iload hx hb dX11_withStages_89 (lv_at hl 2 rfl) ?_
                                  refine lv_iload hx hb dX11_withStages_91 (lv_at hl 0 rfl) ?_
                                  refine p_calli (va_runV (As := [.int (nI i), .int (nI 5)]) (rest := [.long ((((((((((((((((((((((((wst ws V d0 i) * 31) + (((nI ((ws i).1))).toInt64)) * 31) + (((nI (Vx3.1 i))).toInt64)) * 31) + (((nI (Vx3.1 (i + 1)))).toInt64)) * 31) + (((nI (mnd ws Vx3 i))).toInt64)) * 31) + (((nI (damN ws V26 i))).toInt64)) * 31) + (((nI (sApart (ws i)))).toInt64)) * 31) + (((nI (sWrd (ws i) 0))).toInt64)) * 31) + (((nI (sWrd (ws i) 1))).toInt64)) * 31) + (((nI (sWrd (ws i) 2))).toInt64)) * 31) + (((nI (sWrd (ws i) 3))).toInt64)) * 31) + (((nI (sWrd (ws i) 4))).toInt64)) * 31)]) C.fix (g_X11_words l D cy S33 H.size hP35 i 5 (by omega) (by decide) h1k) (cwV 2 C.2.2.2.2.1 (gU_V mw_573 mw_574 mw_575 mw_2 (subU mw_576)) rfl rfl rfl hdg_X11_withStages_V_3 ⟨Nat.le_of_ble_eq_true rfl, Nat.le_of_ble_eq_true rfl⟩) (p_preV C hw (hP35.mem (k := 0) (by omega)) hP35.c0 rfl) rfl rfl hl.1 rfl (lv_room (Nat.le_of_ble_eq_true rfl)) dX11_withStages_93 ⟨(Nat.le_of_ble_eq_true rfl), (Nat.le_of_ble_eq_true rfl)⟩) hw hA (fun r63 S62 H locs hpost hw => ?_)
                                  obtain ⟨hr_, hS_⟩ := hpost
                                  subst hr_
                                  subst hS_
                                  refine lv_i2l hx hb dX11_withStages_96 rfl ?_
                                  refine lv_ladd hx hb dX11_withStages_97 ?_
                                  refine lv_lstore_n (lv' := [(3, .long (((((((((((((((((((((((((wst ws V d0 i) * 31) + (((nI ((ws i).1))).toInt64)) * 31) + (((nI (Vx3.1 i))).toInt64)) * 31) + (((nI (Vx3.1 (i + 1)))).toInt64)) * 31) + (((nI (mnd ws Vx3 i))).toInt64)) * 31) + (((nI (damN ws V26 i))).toInt64)) * 31) + (((nI (sApart (ws i)))).toInt64)) * 31) + (((nI (sWrd (ws i) 0))).toInt64)) * 31) + (((nI (sWrd (ws i) 1))).toInt64)) * 31) + (((nI (sWrd (ws i) 2))).toInt64)) * 31) + (((nI (sWrd (ws i) 3))).toInt64)) * 31) + (((nI (sWrd (ws i) 4))).toInt64)) * 31) + (((nI (sWrd (ws i) 5))).toInt64))), (6, .int (nI 5)), (5, .int (nI i)), (0, .ref (G 0)), (1, .long d0)]) hx hb dX11_withStages_98 rfl hl (by decide) rfl (fun ls hl => ?_)
                                  refine lv_iinc (v := (nI 6)) (lv' := [(6, .int (nI 6)), (3, .long (((((((((((((((((((((((((wst ws V d0 i) * 31) + (((nI ((ws i).1))).toInt64)) * 31) + (((nI (Vx3.1 i))).toInt64)) * 31) + (((nI (Vx3.1 (i + 1)))).toInt64)) * 31) + (((nI (mnd ws Vx3 i))).toInt64)) * 31) + (((nI (damN ws V26 i))).toInt64)) * 31) + (((nI (sApart (ws i)))).toInt64)) * 31) + (((nI (sWrd (ws i) 0))).toInt64)) * 31) + (((nI (sWrd (ws i) 1))).toInt64)) * 31) + (((nI (sWrd (ws i) 2))).toInt64)) * 31) + (((nI (sWrd (ws i) 3))).toInt64)) * 31) + (((nI (sWrd (ws i) 4))).toInt64)) * 31) + (((nI (sWrd (ws i) 5))).toInt64))), (5, .int (nI i)), (0, .ref (G 0)), (1, .long d0)]) hx hb dX11_withStages_99 hl (k := 1) rfl (by decide) (by decide) rfl (fun ls hl => ?_)
                                  refine lv_goto (tgt := 76) hx hb dX11_withStages_102 (by decide) ?_
                                  refine lv_iload hx hb dX11_withStages_76 (lv_at hl 0 rfl) ?_
                                  refine lv_bipush (v := nI 10) hx hb dX11_withStages_78 (by decide) ?_
                                  refine n_icmp_gt (tgt := 105) hx hb (by first | decide | omega) (by first | decide | omega) dX11_withStages_80 (by decide) (fun h_80 => ?_) (fun h_80 => ?_)
                                  · exact absurd h_80 (by first | decide | omega)
                                  · skip
                                    refine lv_lload_n hx hb dX11_withStages_83 rfl (lv_at hl 1 rfl) ?_
                                    refine lv_ldc2 (v := 31) hx hb C.2.2.2.1 (C.2.2.2.2.1 (.constantLong RX11 247 (31)) (mU mw_503)) dX11_withStages_84 ?_
                                    refine lv_lmul hx hb dX11_withStages_87 ?_
                                    refine lv_aload_n hx hb dX11_withStages_88 rfl (lv_at hl 3 rfl) ?_
                                    refine lv_iload hx hb dX11_withStages_89 (lv_at hl 2 rfl) ?_
                                    refine lv_iload hx hb dX11_withStages_91 (lv_at hl 0 rfl) ?_
                                    refine p_calli (va_runV (As := [.int (nI i), .int (nI 6)]) (rest := [.long ((((((((((((((((((((((((((wst ws V d0 i) * 31) + (((nI ((ws i).1))).toInt64)) * 31) + (((nI (Vx3.1 i))).toInt64)) * 31) + (((nI (Vx3.1 (i + 1)))).toInt64)) * 31) + (((nI (mnd ws Vx3 i))).toInt64)) * 31) + (((nI (damN ws V26 i))).toInt64)) * 31) + (((nI (sApart (ws i)))).toInt64)) * 31) + (((nI (sWrd (ws i) 0))).toInt64)) * 31) + (((nI (sWrd (ws i) 1))).toInt64)) * 31) + (((nI (sWrd (ws i) 2))).toInt64)) * 31) + (((nI (sWrd (ws i) 3))).toInt64)) * 31) + (((nI (sWrd (ws i) 4))).toInt64)) * 31) + (((nI (sWrd (ws i) 5))).toInt64)) * 31)]) C.fix (g_X11_words l D cy S33 H.size hP35 i 6 (by omega) (by decide) h1k) (cwV 2 C.2.2.2.2.1 (gU_V mw_573 mw_574 mw_575 mw_2 (subU mw_576)) rfl rfl rfl hdg_X11_withStages_V_3 ⟨Nat.le_of_ble_eq_true rfl, Nat.le_of_ble_eq_true rfl⟩) (p_preV C hw (hP35.mem (k := 0) (by omega)) hP35.c0 rfl) rfl rfl hl.1 rfl (lv_room (Nat.le_of_ble_eq_true rfl)) dX11_withStages_93 ⟨(Nat.le_of_ble_eq_true rfl), (Nat.le_of_ble_eq_true rfl)⟩) hw hA (fun r67 S66 H locs hpost hw => ?_)
                                    obtain ⟨hr_, hS_⟩ := hpost
                                    subst hr_
                                    subst hS_
                                    refine lv_i2l hx hb dX11_withStages_96 rfl ?_
                                    refine lv_ladd hx hb dX11_withStages_97 ?_
                                    refine lv_lstore_n (lv' := [(3, .long (((((((((((((((((((((((((((wst ws V d0 i) * 31) + (((nI ((ws i).1))).toInt64)) * 31) + (((nI (Vx3.1 i))).toInt64)) * 31) + (((nI (Vx3.1 (i + 1)))).toInt64)) * 31) + (((nI (mnd ws Vx3 i))).toInt64)) * 31) + (((nI (damN ws V26 i))).toInt64)) * 31) + (((nI (sApart (ws i)))).toInt64)) * 31) + (((nI (sWrd (ws i) 0))).toInt64)) * 31) + (((nI (sWrd (ws i) 1))).toInt64)) * 31) + (((nI (sWrd (ws i) 2))).toInt64)) * 31) + (((nI (sWrd (ws i) 3))).toInt64)) * 31) + (((nI (sWrd (ws i) 4))).toInt64)) * 31) + (((nI (sWrd (ws i) 5))).toInt64)) * 31) + (((nI (sWrd (ws i) 6))).toInt64))), (6, .int (nI 6)), (5, .int (nI i)), (0, .ref (G 0)), (1, .long d0)]) hx hb dX11_withStages_98 rfl hl (by decide) rfl (fun ls hl => ?_)
                                    refine lv_iinc (v := (nI 7)) (lv' := [(6, .int (nI 7)), (3, .long (((((((((((((((((((((((((((wst ws V d0 i) * 31) + (((nI ((ws i).1))).toInt64)) * 31) + (((nI (Vx3.1 i))).toInt64)) * 31) + (((nI (Vx3.1 (i + 1)))).toInt64)) * 31) + (((nI (mnd ws Vx3 i))).toInt64)) * 31) + (((nI (damN ws V26 i))).toInt64)) * 31) + (((nI (sApart (ws i)))).toInt64)) * 31) + (((nI (sWrd (ws i) 0))).toInt64)) * 31) + (((nI (sWrd (ws i) 1))).toInt64)) * 31) + (((nI (sWrd (ws i) 2))).toInt64)) * 31) + (((nI (sWrd (ws i) 3))).toInt64)) * 31) + (((nI (sWrd (ws i) 4))).toInt64)) * 31) + (((nI (sWrd (ws i) 5))).toInt64)) * 31) + (((nI (sWrd (ws i) 6))).toInt64))), (5, .int (nI i)), (0, .ref (G 0)), (1, .long d0)]) hx hb dX11_withStages_99 hl (k := 1) rfl (by decide) (by decide) rfl (fun ls hl => ?_)
                                    refine lv_goto (tgt := 76) hx hb dX11_withStages_102 (by decide) ?_
                                    refine lv_iload hx hb dX11_withStages_76 (lv_at hl 0 rfl) ?_
                                    refine lv_bipush (v := nI 10) hx hb dX11_withStages_78 (by decide) ?_
                                    refine n_icmp_gt (tgt := 105) hx hb (by first | decide | omega) (by first | decide | omega) dX11_withStages_80 (by decide) (fun h_80 => ?_) (fun h_80 => ?_)
                                    · exact absurd h_80 (by first | decide | omega)
                                    · skip
                                      refine lv_lload_n hx hb dX11_withStages_83 rfl (lv_at hl 1 rfl) ?_
                                      refine lv_ldc2 (v := 31) hx hb C.2.2.2.1 (C.2.2.2.2.1 (.constantLong RX11 247 (31)) (mU mw_503)) dX11_withStages_84 ?_
                                      refine lv_lmul hx hb dX11_withStages_87 ?_
                                      refine lv_aload_n hx hb dX11_withStages_88 rfl (lv_at hl 3 rfl) ?_
                                      refine lv_iload hx hb dX11_withStages_89 (lv_at hl 2 rfl) ?_
                                      refine lv_iload hx hb dX11_withStages_91 (lv_at hl 0 rfl) ?_
                                      refine p_calli (va_runV (As := [.int (nI i), .int (nI 7)]) (rest := [.long ((((((((((((((((((((((((((((wst ws V d0 i) * 31) + (((nI ((ws i).1))).toInt64)) * 31) + (((nI (Vx3.1 i))).toInt64)) * 31) + (((nI (Vx3.1 (i + 1)))).toInt64)) * 31) + (((nI (mnd ws Vx3 i))).toInt64)) * 31) + (((nI (damN ws V26 i))).toInt64)) * 31) + (((nI (sApart (ws i)))).toInt64)) * 31) + (((nI (sWrd (ws i) 0))).toInt64)) * 31) + (((nI (sWrd (ws i) 1))).toInt64)) * 31) + (((nI (sWrd (ws i) 2))).toInt64)) * 31) + (((nI (sWrd (ws i) 3))).toInt64)) * 31) + (((nI (sWrd (ws i) 4))).toInt64)) * 31) + (((nI (sWrd (ws i) 5))).toInt64)) * 31) + (((nI (sWrd (ws i) 6))).toInt64)) * 31)]) C.fix (g_X11_words l D cy S33 H.size hP35 i 7 (by omega) (by decide) h1k) (cwV 2 C.2.2.2.2.1 (gU_V mw_573 mw_574 mw_575 mw_2 (subU mw_576)) rfl rfl rfl hdg_X11_withStages_V_3 ⟨Nat.le_of_ble_eq_true rfl, Nat.le_of_ble_eq_true rfl⟩) (p_preV C hw (hP35.mem (k := 0) (by omega)) hP35.c0 rfl) rfl rfl hl.1 rfl (lv_room (Nat.le_of_ble_eq_true rfl)) dX11_withStages_93 ⟨(Nat.le_of_ble_eq_true rfl), (Nat.le_of_ble_eq_true rfl)⟩) hw hA (fun r71 S70 H locs hpost hw => ?_)
                                      obtain ⟨hr_, hS_⟩ := hpost
                                      subst hr_
                                      subst hS_
                                      refine lv_i2l hx hb dX11_withStages_96 rfl ?_
                                      refine lv_ladd hx hb dX11_withStages_97 ?_
                                      refine lv_lstore_n (lv' := [(3, .long (((((((((((((((((((((((((((((wst ws V d0 i) * 31) + (((nI ((ws i).1))).toInt64)) * 31) + (((nI (Vx3.1 i))).toInt64)) * 31) + (((nI (Vx3.1 (i + 1)))).toInt64)) * 31) + (((nI (mnd ws Vx3 i))).toInt64)) * 31) + (((nI (damN ws V26 i))).toInt64)) * 31) + (((nI (sApart (ws i)))).toInt64)) * 31) + (((nI (sWrd (ws i) 0))).toInt64)) * 31) + (((nI (sWrd (ws i) 1))).toInt64)) * 31) + (((nI (sWrd (ws i) 2))).toInt64)) * 31) + (((nI (sWrd (ws i) 3))).toInt64)) * 31) + (((nI (sWrd (ws i) 4))).toInt64)) * 31) + (((nI (sWrd (ws i) 5))).toInt64)) * 31) + (((nI (sWrd (ws i) 6))).toInt64)) * 31) + (((nI (sWrd (ws i) 7))).toInt64))), (6, .int (nI 7)), (5, .int (nI i)), (0, .ref (G 0)), (1, .long d0)]) hx hb dX11_withStages_98 rfl hl (by decide) rfl (fun ls hl => ?_)
                                      refine lv_iinc (v := (nI 8)) (lv' := [(6, .int (nI 8)), (3, .long (((((((((((((((((((((((((((((wst ws V d0 i) * 31) + (((nI ((ws i).1))).toInt64)) * 31) + (((nI (Vx3.1 i))).toInt64)) * 31) + (((nI (Vx3.1 (i + 1)))).toInt64)) * 31) + (((nI (mnd ws Vx3 i))).toInt64)) * 31) + (((nI (damN ws V26 i))).toInt64)) * 31) + (((nI (sApart (ws i)))).toInt64)) * 31) + (((nI (sWrd (ws i) 0))).toInt64)) * 31) + (((nI (sWrd (ws i) 1))).toInt64)) * 31) + (((nI (sWrd (ws i) 2))).toInt64)) * 31) + (((nI (sWrd (ws i) 3))).toInt64)) * 31) + (((nI (sWrd (ws i) 4))).toInt64)) * 31) + (((nI (sWrd (ws i) 5))).toInt64)) * 31) + (((nI (sWrd (ws i) 6))).toInt64)) * 31) + (((nI (sWrd (ws i) 7))).toInt64))), (5, .int (nI i)), (0, .ref (G 0)), (1, .long d0)]) hx hb dX11_withStages_99 hl (k := 1) rfl (by decide) (by decide) rfl (fun ls hl => ?_)
                                      refine lv_goto (tgt := 76) hx hb dX11_withStages_102 (by decide) ?_
                                      refine lv_iload hx hb dX11_withStages_76 (lv_at hl 0 rfl) ?_
                                      refine lv_bipush (v := nI 10) hx hb dX11_withStages_78 (by decide) ?_
                                      refine n_icmp_gt (tgt := 105) hx hb (by first | decide | omega) (by first | decide | omega) dX11_withStages_80 (by decide) (fun h_80 => ?_) (fun h_80 => ?_)
                                      · exact absurd h_80 (by first | decide | omega)
                                      · skip
                                        refine lv_lload_n hx hb dX11_withStages_83 rfl (lv_at hl 1 rfl) ?_
                                        refine lv_ldc2 (v := 31) hx hb C.2.2.2.1 (C.2.2.2.2.1 (.constantLong RX11 247 (31)) (mU mw_503)) dX11_withStages_84 ?_
                                        refine lv_lmul hx hb dX11_withStages_87 ?_
                                        refine lv_aload_n hx hb dX11_withStages_88 rfl (lv_at hl 3 rfl) ?_
                                        refine lv_iload hx hb dX11_withStages_89 (lv_at hl 2 rfl) ?_
                                        refine lv_iload hx hb dX11_withStages_91 (lv_at hl 0 rfl) ?_
                                        refine p_calli (va_runV (As := [.int (nI i), .int (nI 8)]) (rest := [.long ((((((((((((((((((((((((((((((wst ws V d0 i) * 31) + (((nI ((ws i).1))).toInt64)) * 31) + (((nI (Vx3.1 i))).toInt64)) * 31) + (((nI (Vx3.1 (i + 1)))).toInt64)) * 31) + (((nI (mnd ws Vx3 i))).toInt64)) * 31) + (((nI (damN ws V26 i))).toInt64)) * 31) + (((nI (sApart (ws i)))).toInt64)) * 31) + (((nI (sWrd (ws i) 0))).toInt64)) * 31) + (((nI (sWrd (ws i) 1))).toInt64)) * 31) + (((nI (sWrd (ws i) 2))).toInt64)) * 31) + (((nI (sWrd (ws i) 3))).toInt64)) * 31) + (((nI (sWrd (ws i) 4))).toInt64)) * 31) + (((nI (sWrd (ws i) 5))).toInt64)) * 31) + (((nI (sWrd (ws i) 6))).toInt64)) * 31) + (((nI (sWrd (ws i) 7))).toInt64)) * 31)]) C.fix (g_X11_words l D cy S33 H.size hP35 i 8 (by omega) (by decide) h1k) (cwV 2 C.2.2.2.2.1 (gU_V mw_573 mw_574 mw_575 mw_2 (subU mw_576)) rfl rfl rfl hdg_X11_withStages_V_3 ⟨Nat.le_of_ble_eq_true rfl, Nat.le_of_ble_eq_true rfl⟩) (p_preV C hw (hP35.mem (k := 0) (by omega)) hP35.c0 rfl) rfl rfl hl.1 rfl (lv_room (Nat.le_of_ble_eq_true rfl)) dX11_withStages_93 ⟨(Nat.le_of_ble_eq_true rfl), (Nat.le_of_ble_eq_true rfl)⟩) hw hA (fun r75 S74 H locs hpost hw => ?_)
                                        obtain ⟨hr_, hS_⟩ := hpost
                                        subst hr_
                                        subst hS_
                                        refine lv_i2l hx hb dX11_withStages_96 rfl ?_
                                        refine lv_ladd hx hb dX11_withStages_97 ?_
                                        refine lv_lstore_n (lv' := [(3, .long (((((((((((((((((((((((((((((((wst ws V d0 i) * 31) + (((nI ((ws i).1))).toInt64)) * 31) + (((nI (Vx3.1 i))).toInt64)) * 31) + (((nI (Vx3.1 (i + 1)))).toInt64)) * 31) + (((nI (mnd ws Vx3 i))).toInt64)) * 31) + (((nI (damN ws V26 i))).toInt64)) * 31) + (((nI (sApart (ws i)))).toInt64)) * 31) + (((nI (sWrd (ws i) 0))).toInt64)) * 31) + (((nI (sWrd (ws i) 1))).toInt64)) * 31) + (((nI (sWrd (ws i) 2))).toInt64)) * 31) + (((nI (sWrd (ws i) 3))).toInt64)) * 31) + (((nI (sWrd (ws i) 4))).toInt64)) * 31) + (((nI (sWrd (ws i) 5))).toInt64)) * 31) + (((nI (sWrd (ws i) 6))).toInt64)) * 31) + (((nI (sWrd (ws i) 7))).toInt64)) * 31) + (((nI (sWrd (ws i) 8))).toInt64))), (6, .int (nI 8)), (5, .int (nI i)), (0, .ref (G 0)), (1, .long d0)]) hx hb dX11_withStages_98 rfl hl (by decide) rfl (fun ls hl => ?_)
                                        refine lv_iinc (v := (nI 9)) (lv' := [(6, .int (nI 9)), (3, .long (((((((((((((((((((((((((((((((wst ws V d0 i) * 31) + (((nI ((ws i).1))).toInt64)) * 31) + (((nI (Vx3.1 i))).toInt64)) * 31) + (((nI (Vx3.1 (i + 1)))).toInt64)) * 31) + (((nI (mnd ws Vx3 i))).toInt64)) * 31) + (((nI (damN ws V26 i))).toInt64)) * 31) + (((nI (sApart (ws i)))).toInt64)) * 31) + (((nI (sWrd (ws i) 0))).toInt64)) * 31) + (((nI (sWrd (ws i) 1))).toInt64)) * 31) + (((nI (sWrd (ws i) 2))).toInt64)) * 31) + (((nI (sWrd (ws i) 3))).toInt64)) * 31) + (((nI (sWrd (ws i) 4))).toInt64)) * 31) + (((nI (sWrd (ws i) 5))).toInt64)) * 31) + (((nI (sWrd (ws i) 6))).toInt64)) * 31) + (((nI (sWrd (ws i) 7))).toInt64)) * 31) + (((nI (sWrd (ws i) 8))).toInt64))), (5, .int (nI i)), (0, .ref (G 0)), (1, .long d0)]) hx hb dX11_withStages_99 hl (k := 1) rfl (by decide) (by decide) rfl (fun ls hl => ?_)
                                        refine lv_goto (tgt := 76) hx hb dX11_withStages_102 (by decide) ?_
                                        refine lv_iload hx hb dX11_withStages_76 (lv_at hl 0 rfl) ?_
                                        refine lv_bipush (v := nI 10) hx hb dX11_withStages_78 (by decide) ?_
                                        refine n_icmp_gt (tgt := 105) hx hb (by first | decide | omega) (by first | decide | omega) dX11_withStages_80 (by decide) (fun h_80 => ?_) (fun h_80 => ?_)
                                        · exact absurd h_80 (by first | decide | omega)
                                        · skip
                                          refine lv_lload_n hx hb dX11_withStages_83 rfl (lv_at hl 1 rfl) ?_
                                          refine lv_ldc2 (v := 31) hx hb C.2.2.2.1 (C.2.2.2.2.1 (.constantLong RX11 247 (31)) (mU mw_503)) dX11_withStages_84 ?_
                                          refine lv_lmul hx hb dX11_withStages_87 ?_
                                          refine lv_aload_n hx hb dX11_withStages_88 rfl (lv_at hl 3 rfl) ?_
                                          refine lv_iload hx hb dX11_withStages_89 (lv_at hl 2 rfl) ?_
                                          refine lv_iload hx hb dX11_withStages_91 (lv_at hl 0 rfl) ?_
                                          refine p_calli (va_runV (As := [.int (nI i), .int (nI 9)]) (rest := [.long ((((((((((((((((((((((((((((((((wst ws V d0 i) * 31) + (((nI ((ws i).1))).toInt64)) * 31) + (((nI (Vx3.1 i))).toInt64)) * 31) + (((nI (Vx3.1 (i + 1)))).toInt64)) * 31) + (((nI (mnd ws Vx3 i))).toInt64)) * 31) + (((nI (damN ws V26 i))).toInt64)) * 31) + (((nI (sApart (ws i)))).toInt64)) * 31) + (((nI (sWrd (ws i) 0))).toInt64)) * 31) + (((nI (sWrd (ws i) 1))).toInt64)) * 31) + (((nI (sWrd (ws i) 2))).toInt64)) * 31) + (((nI (sWrd (ws i) 3))).toInt64)) * 31) + (((nI (sWrd (ws i) 4))).toInt64)) * 31) + (((nI (sWrd (ws i) 5))).toInt64)) * 31) + (((nI (sWrd (ws i) 6))).toInt64)) * 31) + (((nI (sWrd (ws i) 7))).toInt64)) * 31) + (((nI (sWrd (ws i) 8))).toInt64)) * 31)]) C.fix (g_X11_words l D cy S33 H.size hP35 i 9 (by omega) (by decide) h1k) (cwV 2 C.2.2.2.2.1 (gU_V mw_573 mw_574 mw_575 mw_2 (subU mw_576)) rfl rfl rfl hdg_X11_withStages_V_3 ⟨Nat.le_of_ble_eq_true rfl, Nat.le_of_ble_eq_true rfl⟩) (p_preV C hw (hP35.mem (k := 0) (by omega)) hP35.c0 rfl) rfl rfl hl.1 rfl (lv_room (Nat.le_of_ble_eq_true rfl)) dX11_withStages_93 ⟨(Nat.le_of_ble_eq_true rfl), (Nat.le_of_ble_eq_true rfl)⟩) hw hA (fun r79 S78 H locs hpost hw => ?_)
                                          obtain ⟨hr_, hS_⟩ := hpost
                                          subst hr_
                                          subst hS_
                                          refine lv_i2l hx hb dX11_withStages_96 rfl ?_
                                          refine lv_ladd hx hb dX11_withStages_97 ?_
                                          refine lv_lstore_n (lv' := [(3, .long (((((((((((((((((((((((((((((((((wst ws V d0 i) * 31) + (((nI ((ws i).1))).toInt64)) * 31) + (((nI (Vx3.1 i))).toInt64)) * 31) + (((nI (Vx3.1 (i + 1)))).toInt64)) * 31) + (((nI (mnd ws Vx3 i))).toInt64)) * 31) + (((nI (damN ws V26 i))).toInt64)) * 31) + (((nI (sApart (ws i)))).toInt64)) * 31) + (((nI (sWrd (ws i) 0))).toInt64)) * 31) + (((nI (sWrd (ws i) 1))).toInt64)) * 31) + (((nI (sWrd (ws i) 2))).toInt64)) * 31) + (((nI (sWrd (ws i) 3))).toInt64)) * 31) + (((nI (sWrd (ws i) 4))).toInt64)) * 31) + (((nI (sWrd (ws i) 5))).toInt64)) * 31) + (((nI (sWrd (ws i) 6))).toInt64)) * 31) + (((nI (sWrd (ws i) 7))).toInt64)) * 31) + (((nI (sWrd (ws i) 8))).toInt64)) * 31) + (((nI (sWrd (ws i) 9))).toInt64))), (6, .int (nI 9)), (5, .int (nI i)), (0, .ref (G 0)), (1, .long d0)]) hx hb dX11_withStages_98 rfl hl (by decide) rfl (fun ls hl => ?_)
                                          refine lv_iinc (v := (nI 10)) (lv' := [(6, .int (nI 10)), (3, .long (((((((((((((((((((((((((((((((((wst ws V d0 i) * 31) + (((nI ((ws i).1))).toInt64)) * 31) + (((nI (Vx3.1 i))).toInt64)) * 31) + (((nI (Vx3.1 (i + 1)))).toInt64)) * 31) + (((nI (mnd ws Vx3 i))).toInt64)) * 31) + (((nI (damN ws V26 i))).toInt64)) * 31) + (((nI (sApart (ws i)))).toInt64)) * 31) + (((nI (sWrd (ws i) 0))).toInt64)) * 31) + (((nI (sWrd (ws i) 1))).toInt64)) * 31) + (((nI (sWrd (ws i) 2))).toInt64)) * 31) + (((nI (sWrd (ws i) 3))).toInt64)) * 31) + (((nI (sWrd (ws i) 4))).toInt64)) * 31) + (((nI (sWrd (ws i) 5))).toInt64)) * 31) + (((nI (sWrd (ws i) 6))).toInt64)) * 31) + (((nI (sWrd (ws i) 7))).toInt64)) * 31) + (((nI (sWrd (ws i) 8))).toInt64)) * 31) + (((nI (sWrd (ws i) 9))).toInt64))), (5, .int (nI i)), (0, .ref (G 0)), (1, .long d0)]) hx hb dX11_withStages_99 hl (k := 1) rfl (by decide) (by decide) rfl (fun ls hl => ?_)
                                          refine lv_goto (tgt := 76) hx hb dX11_withStages_102 (by decide) ?_
                                          refine lv_iload hx hb dX11_withStages_76 (lv_at hl 0 rfl) ?_
                                          refine lv_bipush (v := nI 10) hx hb dX11_withStages_78 (by decide) ?_
                                          refine n_icmp_gt (tgt := 105) hx hb (by first | decide | omega) (by first | decide | omega) dX11_withStages_80 (by decide) (fun h_80 => ?_) (fun h_80 => ?_)
                                          · exact absurd h_80 (by first | decide | omega)
                                          · skip
                                            refine lv_lload_n hx hb dX11_withStages_83 rfl (lv_at hl 1 rfl) ?_
                                            refine lv_ldc2 (v := 31) hx hb C.2.2.2.1 (C.2.2.2.2.1 (.constantLong RX11 247 (31)) (mU mw_503)) dX11_withStages_84 ?_
                                            refine lv_lmul hx hb dX11_withStages_87 ?_
                                            refine lv_aload_n hx hb dX11_withStages_88 rfl (lv_at hl 3 rfl) ?_
                                            refine lv_iload hx hb dX11_withStages_89 (lv_at hl 2 rfl) ?_
                                            refine lv_iload hx hb dX11_withStages_91 (lv_at hl 0 rfl) ?_
                                            refine p_calli (va_runV (As := [.int (nI i), .int (nI 10)]) (rest := [.long ((((((((((((((((((((((((((((((((((wst ws V d0 i) * 31) + (((nI ((ws i).1))).toInt64)) * 31) + (((nI (Vx3.1 i))).toInt64)) * 31) + (((nI (Vx3.1 (i + 1)))).toInt64)) * 31) + (((nI (mnd ws Vx3 i))).toInt64)) * 31) + (((nI (damN ws V26 i))).toInt64)) * 31) + (((nI (sApart (ws i)))).toInt64)) * 31) + (((nI (sWrd (ws i) 0))).toInt64)) * 31) + (((nI (sWrd (ws i) 1))).toInt64)) * 31) + (((nI (sWrd (ws i) 2))).toInt64)) * 31) + (((nI (sWrd (ws i) 3))).toInt64)) * 31) + (((nI (sWrd (ws i) 4))).toInt64)) * 31) + (((nI (sWrd (ws i) 5))).toInt64)) * 31) + (((nI (sWrd (ws i) 6))).toInt64)) * 31) + (((nI (sWrd (ws i) 7))).toInt64)) * 31) + (((nI (sWrd (ws i) 8))).toInt64)) * 31) + (((nI (sWrd (ws i) 9))).toInt64)) * 31)]) C.fix (g_X11_words l D cy S33 H.size hP35 i 10 (by omega) (by decide) h1k) (cwV 2 C.2.2.2.2.1 (gU_V mw_573 mw_574 mw_575 mw_2 (subU mw_576)) rfl rfl rfl hdg_X11_withStages_V_3 ⟨Nat.le_of_ble_eq_true rfl, Nat.le_of_ble_eq_true rfl⟩) (p_preV C hw (hP35.mem (k := 0) (by omega)) hP35.c0 rfl) rfl rfl hl.1 rfl (lv_room (Nat.le_of_ble_eq_true rfl)) dX11_withStages_93 ⟨(Nat.le_of_ble_eq_true rfl), (Nat.le_of_ble_eq_true rfl)⟩) hw hA (fun r83 S82 H locs hpost hw => ?_)
                                            obtain ⟨hr_, hS_⟩ := hpost
                                            subst hr_
                                            subst hS_
                                            refine lv_i2l hx hb dX11_withStages_96 rfl ?_
                                            refine lv_ladd hx hb dX11_withStages_97 ?_
                                            refine lv_lstore_n (lv' := [(3, .long (((((((((((((((((((((((((((((((((((wst ws V d0 i) * 31) + (((nI ((ws i).1))).toInt64)) * 31) + (((nI (Vx3.1 i))).toInt64)) * 31) + (((nI (Vx3.1 (i + 1)))).toInt64)) * 31) + (((nI (mnd ws Vx3 i))).toInt64)) * 31) + (((nI (damN ws V26 i))).toInt64)) * 31) + (((nI (sApart (ws i)))).toInt64)) * 31) + (((nI (sWrd (ws i) 0))).toInt64)) * 31) + (((nI (sWrd (ws i) 1))).toInt64)) * 31) + (((nI (sWrd (ws i) 2))).toInt64)) * 31) + (((nI (sWrd (ws i) 3))).toInt64)) * 31) + (((nI (sWrd (ws i) 4))).toInt64)) * 31) + (((nI (sWrd (ws i) 5))).toInt64)) * 31) + (((nI (sWrd (ws i) 6))).toInt64)) * 31) + (((nI (sWrd (ws i) 7))).toInt64)) * 31) + (((nI (sWrd (ws i) 8))).toInt64)) * 31) + (((nI (sWrd (ws i) 9))).toInt64)) * 31) + (((nI (sWrd (ws i) 10))).toInt64))), (6, .int (nI 10)), (5, .int (nI i)), (0, .ref (G 0)), (1, .long d0)]) hx hb dX11_withStages_98 rfl hl (by decide) rfl (fun ls hl => ?_)
                                            refine lv_iinc (v := (nI 11)) (lv' := [(6, .int (nI 11)), (3, .long (((((((((((((((((((((((((((((((((((wst ws V d0 i) * 31) + (((nI ((ws i).1))).toInt64)) * 31) + (((nI (Vx3.1 i))).toInt64)) * 31) + (((nI (Vx3.1 (i + 1)))).toInt64)) * 31) + (((nI (mnd ws Vx3 i))).toInt64)) * 31) + (((nI (damN ws V26 i))).toInt64)) * 31) + (((nI (sApart (ws i)))).toInt64)) * 31) + (((nI (sWrd (ws i) 0))).toInt64)) * 31) + (((nI (sWrd (ws i) 1))).toInt64)) * 31) + (((nI (sWrd (ws i) 2))).toInt64)) * 31) + (((nI (sWrd (ws i) 3))).toInt64)) * 31) + (((nI (sWrd (ws i) 4))).toInt64)) * 31) + (((nI (sWrd (ws i) 5))).toInt64)) * 31) + (((nI (sWrd (ws i) 6))).toInt64)) * 31) + (((nI (sWrd (ws i) 7))).toInt64)) * 31) + (((nI (sWrd (ws i) 8))).toInt64)) * 31) + (((nI (sWrd (ws i) 9))).toInt64)) * 31) + (((nI (sWrd (ws i) 10))).toInt64))), (5, .int (nI i)), (0, .ref (G 0)), (1, .long d0)]) hx hb dX11_withStages_99 hl (k := 1) rfl (by decide) (by decide) rfl (fun ls hl => ?_)
                                            refine lv_goto (tgt := 76) hx hb dX11_withStages_102 (by decide) ?_
                                            refine lv_iload hx hb dX11_withStages_76 (lv_at hl 0 rfl) ?_
                                            refine lv_bipush (v := nI 10) hx hb dX11_withStages_78 (by decide) ?_
                                            refine n_icmp_gt (tgt := 105) hx hb (by first | decide | omega) (by first | decide | omega) dX11_withStages_80 (by decide) (fun h_80 => ?_) (fun h_80 => ?_)
                                            · skip
                                              refine lv_iinc (v := (nI (i + 1))) (lv' := [(5, .int (nI (i + 1))), (6, .int (nI 11)), (3, .long (((((((((((((((((((((((((((((((((((wst ws V d0 i) * 31) + (((nI ((ws i).1))).toInt64)) * 31) + (((nI (Vx3.1 i))).toInt64)) * 31) + (((nI (Vx3.1 (i + 1)))).toInt64)) * 31) + (((nI (mnd ws Vx3 i))).toInt64)) * 31) + (((nI (damN ws V26 i))).toInt64)) * 31) + (((nI (sApart (ws i)))).toInt64)) * 31) + (((nI (sWrd (ws i) 0))).toInt64)) * 31) + (((nI (sWrd (ws i) 1))).toInt64)) * 31) + (((nI (sWrd (ws i) 2))).toInt64)) * 31) + (((nI (sWrd (ws i) 3))).toInt64)) * 31) + (((nI (sWrd (ws i) 4))).toInt64)) * 31) + (((nI (sWrd (ws i) 5))).toInt64)) * 31) + (((nI (sWrd (ws i) 6))).toInt64)) * 31) + (((nI (sWrd (ws i) 7))).toInt64)) * 31) + (((nI (sWrd (ws i) 8))).toInt64)) * 31) + (((nI (sWrd (ws i) 9))).toInt64)) * 31) + (((nI (sWrd (ws i) 10))).toInt64))), (0, .ref (G 0)), (1, .long d0)]) hx hb dX11_withStages_105 hl (k := 2) rfl (by rw [show Int32.ofInt 1 = nI 1 from by decide, nI_add]) (by decide) rfl (fun ls hl => ?_)
                                              refine lv_goto (tgt := 5) hx hb dX11_withStages_108 (by decide) ?_
                                              have e9 : ((((((((((((((((((((((((((((((((((wst ws V d0 i) * 31) + (((nI ((ws i).1))).toInt64)) * 31) + (((nI (Vx3.1 i))).toInt64)) * 31) + (((nI (Vx3.1 (i + 1)))).toInt64)) * 31) + (((nI (mnd ws Vx3 i))).toInt64)) * 31) + (((nI (damN ws V26 i))).toInt64)) * 31) + (((nI (sApart (ws i)))).toInt64)) * 31) + (((nI (sWrd (ws i) 0))).toInt64)) * 31) + (((nI (sWrd (ws i) 1))).toInt64)) * 31) + (((nI (sWrd (ws i) 2))).toInt64)) * 31) + (((nI (sWrd (ws i) 3))).toInt64)) * 31) + (((nI (sWrd (ws i) 4))).toInt64)) * 31) + (((nI (sWrd (ws i) 5))).toInt64)) * 31) + (((nI (sWrd (ws i) 6))).toInt64)) * 31) + (((nI (sWrd (ws i) 7))).toInt64)) * 31) + (((nI (sWrd (ws i) 8))).toInt64)) * 31) + (((nI (sWrd (ws i) 9))).toInt64)) * 31) + (((nI (sWrd (ws i) 10))).toInt64) = wst ws V d0 (i + 1) := by
                                                rw [(hkx i (by omega)).1, (hkx (i + 1) (by omega)).1, Kp.mend (by omega) hkx, Kp.dam (by omega) hk]
                                                show _ = (if (ws i).1 = 1 then _ else _)
                                                rw [if_pos h1k]; rfl
                                              rw [e9] at hl
                                              exact ihloop5_1 (i + 1) (by omega) S33 V26 H locs ls hP35 hT37 (by omega) hk hw (lv_sub hl [0, 2, 3, 4] rfl)
                                            · exact absurd h_80 (by first | decide | omega)
                  · exact absurd h_23 (by first | decide | omega)
  exact loop5_1 (n - 0 + 1) 0 (by omega) S V s.heap [] ls hP Frm.id (Nat.zero_le _) Kp.id hw (lv_sub hl [0, 1, 2, 3] rfl)

theorem hdg_X11_digest_V_0 : yX11_length.cls = RX11 ∧ yX11_length.cls ≠ "java/lang/invoke/MethodHandle" ∧ yX11_length.cls ≠ "java/lang/invoke/VarHandle" ∧ (parseMethodDescriptor yX11_length.desc).map (fun d => d.parameters.length) = some 0 := by decide +kernel
theorem hdg_X11_digest_V_1 : yX11_stages.cls = RX11 ∧ yX11_stages.cls ≠ "java/lang/invoke/MethodHandle" ∧ yX11_stages.cls ≠ "java/lang/invoke/VarHandle" ∧ (parseMethodDescriptor yX11_stages.desc).map (fun d => d.parameters.length) = some 0 := by decide +kernel
theorem hdg_X11_digest_V_2 : yX11_sent.cls = RX11 ∧ yX11_sent.cls ≠ "java/lang/invoke/MethodHandle" ∧ yX11_sent.cls ≠ "java/lang/invoke/VarHandle" ∧ (parseMethodDescriptor yX11_sent.desc).map (fun d => d.parameters.length) = some 0 := by decide +kernel
theorem hdg_X11_digest_V_3 : yX11_hurt.cls = RX11 ∧ yX11_hurt.cls ≠ "java/lang/invoke/MethodHandle" ∧ yX11_hurt.cls ≠ "java/lang/invoke/VarHandle" ∧ (parseMethodDescriptor yX11_hurt.desc).map (fun d => d.parameters.length) = some 0 := by decide +kernel
theorem hdg_X11_digest_V_4 : yX11_errors.cls = RX11 ∧ yX11_errors.cls ≠ "java/lang/invoke/MethodHandle" ∧ yX11_errors.cls ≠ "java/lang/invoke/VarHandle" ∧ (parseMethodDescriptor yX11_errors.desc).map (fun d => d.parameters.length) = some 0 := by decide +kernel
theorem hdg_X11_digest_V_5 : yX11_withStages.cls = RX11 ∧ yX11_withStages.cls ≠ "java/lang/invoke/MethodHandle" ∧ yX11_withStages.cls ≠ "java/lang/invoke/VarHandle" ∧ (parseMethodDescriptor yX11_withStages.desc).map (fun d => d.parameters.length) = some 1 := by decide +kernel
theorem hdg_X11_digest_V_6 : yX4_at.cls = RX4 ∧ yX4_at.cls ≠ "java/lang/invoke/MethodHandle" ∧ yX4_at.cls ≠ "java/lang/invoke/VarHandle" ∧ (parseMethodDescriptor yX4_at.desc).map (fun d => d.parameters.length) = some 1 := by decide +kernel
theorem hdg_X11_digest_V_7 : yX11_withPlaces.cls = RX11 ∧ yX11_withPlaces.cls ≠ "java/lang/invoke/MethodHandle" ∧ yX11_withPlaces.cls ≠ "java/lang/invoke/VarHandle" ∧ (parseMethodDescriptor yX11_withPlaces.desc).map (fun d => d.parameters.length) = some 3 := by decide +kernel
theorem hdg_X11_digest_V_8 : yX11_last.cls = RX11 ∧ yX11_last.cls ≠ "java/lang/invoke/MethodHandle" ∧ yX11_last.cls ≠ "java/lang/invoke/VarHandle" ∧ (parseMethodDescriptor yX11_last.desc).map (fun d => d.parameters.length) = some 1 := by decide +kernel
theorem hdg_X11_digest_V_9 : yX11_breaks.cls = RX11 ∧ yX11_breaks.cls ≠ "java/lang/invoke/MethodHandle" ∧ yX11_breaks.cls ≠ "java/lang/invoke/VarHandle" ∧ (parseMethodDescriptor yX11_breaks.desc).map (fun d => d.parameters.length) = some 1 := by decide +kernel
theorem hdg_X11_digest_V_10 : yX11_weak.cls = RX11 ∧ yX11_weak.cls ≠ "java/lang/invoke/MethodHandle" ∧ yX11_weak.cls ≠ "java/lang/invoke/VarHandle" ∧ (parseMethodDescriptor yX11_weak.desc).map (fun d => d.parameters.length) = some 0 := by decide +kernel
set_option maxHeartbeats 4000000 in
set_option maxRecDepth 100000 in
theorem g_X11_digest (l : Launch) (D : va_G) (cy : Nat → ClassId) (S : pS) (sz : Nat) {G T : Nat → Nat} {n : Nat} {ws : Nat → WV} {l1 l2 : va_E} {V : RV} (hP : Pic cy S G T n ws l1 l2 V) (hs : ∀ j, j < n → V.1 (j + 1) = sSize (ws j) (V.1 j)) (hu : ∀ j, j ≤ n → V.1 (j + 5) = V.1 j) : Met l yX11_digest (Cond.code yX11_digest cX11_digest 3 (some .long) :: lwU) ({ frames := 7, cells := 0, slots := 0, locals := 170 }) (pPc D cy S sz [.ref (G 0)]) (pQl D cy S sz (fun r S' => ∃ V', r = dgt n ws V ∧ Pic cy S' G T n ws l1 l2 V' ∧ Frm G S S' ∧ Kp V V')) 0 0 (pA S sz) := by
  refine Met.ofW (cc := cX11_digest) (maxL := 3) (ret := (some .long)) (by decide) rfl ?_
  intro p e s m args below meth c s₁ B hml hv
  obtain ⟨rfl, rfl, C, hw, hA, hr, hlocks⟩ := p_start B hml hv
  have hx := C.1
  have hb := C.2.1
  have hl := lv_entry ([.ref (G 0)]) (n := 3) (Nat.le_of_ble_eq_true rfl)
  rw [lg_entry_eq]
  generalize (lg_sl ([.ref (G 0)]) ++ List.replicate (3 - (lg_sl ([.ref (G 0)])).length) Slot.unset).toArray = ls at hl ⊢
  have hl : lv_has ls 3 [(0, .ref (G 0))] := hl
  have hin_RX11 : ∀ w ∈ u_ws RX11 TX11 8, w ∈ (Cond.code yX11_digest cX11_digest 3 (some .long) :: lwU) := fun w h => mU (sub_RX11 w h)
  have hn4 := hP.n4
  refine lv_ldc2 (v := 58076) hx hb C.2.2.2.1 (C.2.2.2.2.1 (.constantLong RX11 245 (58076)) (mU mw_502)) dX11_digest_0 ?_
  refine lv_lstore_n (lv' := [(1, .long 58076), (0, .ref (G 0))]) hx hb dX11_digest_3 rfl hl (by decide) rfl (fun ls hl => ?_)
  refine lv_lload_n hx hb dX11_digest_4 rfl (lv_at hl 0 rfl) ?_
  refine lv_ldc2 (v := 31) hx hb C.2.2.2.1 (C.2.2.2.2.1 (.constantLong RX11 247 (31)) (mU mw_503)) dX11_digest_5 ?_
  refine lv_lmul hx hb dX11_digest_8 ?_
  refine lv_aload_n hx hb dX11_digest_9 rfl (lv_at hl 1 rfl) ?_
  refine p_calli (va_runV (As := []) (rest := [.long (58076 * 31)]) C.fix (g_X11_length l D cy S s.heap.size hP) (cwV 0 C.2.2.2.2.1 (gU_V mw_504 mw_505 mw_506 mw_2 (subU mw_507)) rfl rfl rfl hdg_X11_digest_V_0 ⟨Nat.le_of_ble_eq_true rfl, Nat.le_of_ble_eq_true rfl⟩) (p_preV C hw (hP.mem (k := 0) (by omega)) hP.c0 rfl) rfl rfl hl.1 rfl (lv_room (Nat.le_of_ble_eq_true rfl)) dX11_digest_10 ⟨(Nat.le_of_ble_eq_true rfl), (Nat.le_of_ble_eq_true rfl)⟩) hw hA (fun r2 S1 H locs hpost hw => ?_)
  obtain ⟨hr_, hS_⟩ := hpost
  subst hr_
  subst hS_
  refine lv_i2l hx hb dX11_digest_13 rfl ?_
  refine lv_ladd hx hb dX11_digest_14 ?_
  refine lv_lstore_n (lv' := [(1, .long ((58076 * 31) + (((nI (V.1 0))).toInt64))), (0, .ref (G 0))]) hx hb dX11_digest_15 rfl hl (by decide) rfl (fun ls hl => ?_)
  refine lv_lload_n hx hb dX11_digest_16 rfl (lv_at hl 0 rfl) ?_
  refine lv_ldc2 (v := 31) hx hb C.2.2.2.1 (C.2.2.2.2.1 (.constantLong RX11 247 (31)) (mU mw_503)) dX11_digest_17 ?_
  refine lv_lmul hx hb dX11_digest_20 ?_
  refine lv_aload_n hx hb dX11_digest_21 rfl (lv_at hl 1 rfl) ?_
  refine p_calli (va_runV (As := []) (rest := [.long (((58076 * 31) + (((nI (V.1 0))).toInt64)) * 31)]) C.fix (g_X11_stages l D cy S H.size hP) (cwV 0 C.2.2.2.2.1 (gU_V mw_508 mw_397 mw_398 mw_2 (subU mw_399)) rfl rfl rfl hdg_X11_digest_V_1 ⟨Nat.le_of_ble_eq_true rfl, Nat.le_of_ble_eq_true rfl⟩) (p_preV C hw (hP.mem (k := 0) (by omega)) hP.c0 rfl) rfl rfl hl.1 rfl (lv_room (Nat.le_of_ble_eq_true rfl)) dX11_digest_22 ⟨(Nat.le_of_ble_eq_true rfl), (Nat.le_of_ble_eq_true rfl)⟩) hw hA (fun r6 S5 H locs hpost hw => ?_)
  obtain ⟨hr_, hS_⟩ := hpost
  subst hr_
  subst hS_
  refine lv_i2l hx hb dX11_digest_25 rfl ?_
  refine lv_ladd hx hb dX11_digest_26 ?_
  refine lv_lstore_n (lv' := [(1, .long ((((58076 * 31) + (((nI (V.1 0))).toInt64)) * 31) + (((nI n)).toInt64))), (0, .ref (G 0))]) hx hb dX11_digest_27 rfl hl (by decide) rfl (fun ls hl => ?_)
  refine lv_lload_n hx hb dX11_digest_28 rfl (lv_at hl 0 rfl) ?_
  refine lv_ldc2 (v := 31) hx hb C.2.2.2.1 (C.2.2.2.2.1 (.constantLong RX11 247 (31)) (mU mw_503)) dX11_digest_29 ?_
  refine lv_lmul hx hb dX11_digest_32 ?_
  refine lv_aload_n hx hb dX11_digest_33 rfl (lv_at hl 1 rfl) ?_
  refine p_calli (va_runV (As := []) (rest := [.long (((((58076 * 31) + (((nI (V.1 0))).toInt64)) * 31) + (((nI n)).toInt64)) * 31)]) C.fix (g_X11_sent l D cy S H.size hP) (cwV 0 C.2.2.2.2.1 (gU_V mw_509 mw_375 mw_376 mw_2 (subU mw_377)) rfl rfl rfl hdg_X11_digest_V_2 ⟨Nat.le_of_ble_eq_true rfl, Nat.le_of_ble_eq_true rfl⟩) (p_preV C hw (hP.mem (k := 0) (by omega)) hP.c0 rfl) rfl rfl hl.1 rfl (lv_room (Nat.le_of_ble_eq_true rfl)) dX11_digest_34 ⟨(Nat.le_of_ble_eq_true rfl), (Nat.le_of_ble_eq_true rfl)⟩) hw hA (fun r10 S9 H locs hpost hw => ?_)
  obtain ⟨hr_, hS_⟩ := hpost
  subst hr_
  subst hS_
  refine lv_i2l hx hb dX11_digest_37 rfl ?_
  refine lv_ladd hx hb dX11_digest_38 ?_
  refine lv_lstore_n (lv' := [(1, .long ((((((58076 * 31) + (((nI (V.1 0))).toInt64)) * 31) + (((nI n)).toInt64)) * 31) + (((nI (V.1 n))).toInt64))), (0, .ref (G 0))]) hx hb dX11_digest_39 rfl hl (by decide) rfl (fun ls hl => ?_)
  refine lv_lload_n hx hb dX11_digest_40 rfl (lv_at hl 0 rfl) ?_
  refine lv_ldc2 (v := 31) hx hb C.2.2.2.1 (C.2.2.2.2.1 (.constantLong RX11 247 (31)) (mU mw_503)) dX11_digest_41 ?_
  refine lv_lmul hx hb dX11_digest_44 ?_
  refine lv_aload_n hx hb dX11_digest_45 rfl (lv_at hl 1 rfl) ?_
  refine p_calli (va_runV (As := []) (rest := [.long (((((((58076 * 31) + (((nI (V.1 0))).toInt64)) * 31) + (((nI n)).toInt64)) * 31) + (((nI (V.1 n))).toInt64)) * 31)]) C.fix (g_X11_hurt l D cy S H.size hP) (cwV 0 C.2.2.2.2.1 (gU_V mw_510 mw_511 mw_512 mw_2 (subU mw_513)) rfl rfl rfl hdg_X11_digest_V_3 ⟨Nat.le_of_ble_eq_true rfl, Nat.le_of_ble_eq_true rfl⟩) (p_preV C hw (hP.mem (k := 0) (by omega)) hP.c0 rfl) rfl rfl hl.1 rfl (lv_room (Nat.le_of_ble_eq_true rfl)) dX11_digest_46 ⟨(Nat.le_of_ble_eq_true rfl), (Nat.le_of_ble_eq_true rfl)⟩) hw hA (fun r14 S13 H locs hpost hw => ?_)
  obtain ⟨hr_, hS_⟩ := hpost
  subst hr_
  subst hS_
  refine lv_i2l hx hb dX11_digest_49 rfl ?_
  refine lv_ladd hx hb dX11_digest_50 ?_
  refine lv_lstore_n (lv' := [(1, .long ((((((((58076 * 31) + (((nI (V.1 0))).toInt64)) * 31) + (((nI n)).toInt64)) * 31) + (((nI (V.1 n))).toInt64)) * 31) + (((nI (hurtN n V))).toInt64))), (0, .ref (G 0))]) hx hb dX11_digest_51 rfl hl (by decide) rfl (fun ls hl => ?_)
  refine lv_lload_n hx hb dX11_digest_52 rfl (lv_at hl 0 rfl) ?_
  refine lv_ldc2 (v := 31) hx hb C.2.2.2.1 (C.2.2.2.2.1 (.constantLong RX11 247 (31)) (mU mw_503)) dX11_digest_53 ?_
  refine lv_lmul hx hb dX11_digest_56 ?_
  refine lv_aload_n hx hb dX11_digest_57 rfl (lv_at hl 1 rfl) ?_
  refine p_calli (va_runV (As := []) (rest := [.long (((((((((58076 * 31) + (((nI (V.1 0))).toInt64)) * 31) + (((nI n)).toInt64)) * 31) + (((nI (V.1 n))).toInt64)) * 31) + (((nI (hurtN n V))).toInt64)) * 31)]) C.fix (g_X11_errors l D cy S H.size hP) (cwV 0 C.2.2.2.2.1 (gU_V mw_518 mw_519 mw_520 mw_2 (subU mw_521)) rfl rfl rfl hdg_X11_digest_V_4 ⟨Nat.le_of_ble_eq_true rfl, Nat.le_of_ble_eq_true rfl⟩) (p_preV C hw (hP.mem (k := 0) (by omega)) hP.c0 rfl) rfl rfl hl.1 rfl (lv_room (Nat.le_of_ble_eq_true rfl)) dX11_digest_58 ⟨(Nat.le_of_ble_eq_true rfl), (Nat.le_of_ble_eq_true rfl)⟩) hw hA (fun r18 S17 H locs hpost hw => ?_)
  obtain ⟨hr_, hS_⟩ := hpost
  subst hr_
  subst hS_
  refine lv_i2l hx hb dX11_digest_61 rfl ?_
  refine lv_ladd hx hb dX11_digest_62 ?_
  refine lv_lstore_n (lv' := [(1, .long ((((((((((58076 * 31) + (((nI (V.1 0))).toInt64)) * 31) + (((nI n)).toInt64)) * 31) + (((nI (V.1 n))).toInt64)) * 31) + (((nI (hurtN n V))).toInt64)) * 31) + (((nI (errN V))).toInt64))), (0, .ref (G 0))]) hx hb dX11_digest_63 rfl hl (by decide) rfl (fun ls hl => ?_)
  refine lv_aload_n hx hb dX11_digest_64 rfl (lv_at hl 1 rfl) ?_
  refine lv_lload_n hx hb dX11_digest_65 rfl (lv_at hl 0 rfl) ?_
  refine p_calll (va_runV (As := [.long ((((((((((58076 * 31) + (((nI (V.1 0))).toInt64)) * 31) + (((nI n)).toInt64)) * 31) + (((nI (V.1 n))).toInt64)) * 31) + (((nI (hurtN n V))).toInt64)) * 31) + (((nI (errN V))).toInt64))]) (rest := []) C.fix (g_X11_withStages l D cy S H.size hP ((((((((((58076 * 31) + (((nI (V.1 0))).toInt64)) * 31) + (((nI n)).toInt64)) * 31) + (((nI (V.1 n))).toInt64)) * 31) + (((nI (hurtN n V))).toInt64)) * 31) + (((nI (errN V))).toInt64)) hs hu) (cwV 1 C.2.2.2.2.1 (gU_V mw_526 mw_527 mw_528 mw_2 (subU mw_529)) rfl rfl rfl hdg_X11_digest_V_5 ⟨Nat.le_of_ble_eq_true rfl, Nat.le_of_ble_eq_true rfl⟩) (p_preV C hw (hP.mem (k := 0) (by omega)) hP.c0 rfl) rfl rfl hl.1 rfl (lv_room (Nat.le_of_ble_eq_true rfl)) dX11_digest_66 ⟨(Nat.le_of_ble_eq_true rfl), (Nat.le_of_ble_eq_true rfl)⟩) hw hA (fun r22 S21 H locs hpost hw => ?_)
  obtain ⟨V25, hr_, hP23, hF24, hK26⟩ := hpost
  subst hr_
  have hk := hK26
  refine lv_lstore_n (lv' := [(1, .long (wst ws V ((((((((((58076 * 31) + (((nI (V.1 0))).toInt64)) * 31) + (((nI n)).toInt64)) * 31) + (((nI (V.1 n))).toInt64)) * 31) + (((nI (hurtN n V))).toInt64)) * 31) + (((nI (errN V))).toInt64)) n)), (0, .ref (G 0))]) hx hb dX11_digest_69 rfl hl (by decide) rfl (fun ls hl => ?_)
  refine lv_aload_n hx hb dX11_digest_70 rfl (lv_at hl 1 rfl) ?_
  refine lv_lload_n hx hb dX11_digest_71 rfl (lv_at hl 0 rfl) ?_
  refine lv_aload_n hx hb dX11_digest_72 rfl (lv_at hl 1 rfl) ?_
  refine p_get C hw (ci := 10) (Cn := RX11) (T := TX11) (N := 8) (hP23.mem (k := 0) (by omega)) hP23.c0 rfl hin_RX11 4 (by decide) (mU mw_26) rfl rfl dX11_digest_73 ?_
  refine lv_iconst (v := nI 0) hx hb dX11_digest_76 (by decide) ?_
  obtain ⟨rq27, erq27, frq27⟩ := hP23.leq (L := 0) (by omega)
  refine p_callq (va_runV (As := [.int (nI 0)]) (rest := [.long (wst ws V ((((((((((58076 * 31) + (((nI (V.1 0))).toInt64)) * 31) + (((nI n)).toInt64)) * 31) + (((nI (V.1 n))).toInt64)) * 31) + (((nI (hurtN n V))).toInt64)) * 31) + (((nI (errN V))).toInt64)) n), .ref (G 0)]) C.fix (c_X4_at l D cy S21 H.size (G 9) (G (12 + 0)) (G (15 + 0)) 0 (G (21 + 0)) rq27 (hP23.mem (by omega)) (hP23.lev (L := 0) (by omega)) (hP23.mem (by omega)) erq27 (by omega) (frq27 0 (by omega))) (cwV 1 C.2.2.2.2.1 (gU_V mw_111 mw_112 mw_113 mw_25 sub_X4_at) rfl rfl rfl hdg_X11_digest_V_6 ⟨Nat.le_of_ble_eq_true rfl, Nat.le_of_ble_eq_true rfl⟩) (p_preV C hw (hP23.mem (k := 9 + 0) (by omega)) (hP23.lev (L := 0) (by omega)) rfl) rfl rfl hl.1 rfl (lv_room (Nat.le_of_ble_eq_true rfl)) dX11_digest_77 ⟨(Nat.le_of_ble_eq_true rfl), (Nat.le_of_ble_eq_true rfl)⟩) hw hA (fun r29 S28 H locs hpost hw => ?_)
  obtain ⟨hr_, hS_⟩ := hpost
  subst hr_
  subst hS_
  refine lv_aload_n hx hb dX11_digest_80 rfl (lv_at hl 1 rfl) ?_
  refine p_get C hw (ci := 10) (Cn := RX11) (T := TX11) (N := 8) (hP23.mem (k := 0) (by omega)) hP23.c0 rfl hin_RX11 5 (by decide) (mU mw_27) rfl rfl dX11_digest_81 ?_
  refine lv_iconst (v := nI 0) hx hb dX11_digest_84 (by decide) ?_
  obtain ⟨rq32, erq32, frq32⟩ := hP23.leq (L := 1) (by omega)
  refine p_callq (va_runV (As := [.int (nI 0)]) (rest := [.ref (G (21 + 0)), .long (wst ws V ((((((((((58076 * 31) + (((nI (V.1 0))).toInt64)) * 31) + (((nI n)).toInt64)) * 31) + (((nI (V.1 n))).toInt64)) * 31) + (((nI (hurtN n V))).toInt64)) * 31) + (((nI (errN V))).toInt64)) n), .ref (G 0)]) C.fix (c_X4_at l D cy S21 H.size (G 10) (G (12 + 1)) (G (15 + 1)) 0 (G (21 + 5)) rq32 (hP23.mem (by omega)) (hP23.lev (L := 1) (by omega)) (hP23.mem (by omega)) erq32 (by omega) (frq32 0 (by omega))) (cwV 1 C.2.2.2.2.1 (gU_V mw_111 mw_112 mw_113 mw_25 sub_X4_at) rfl rfl rfl hdg_X11_digest_V_6 ⟨Nat.le_of_ble_eq_true rfl, Nat.le_of_ble_eq_true rfl⟩) (p_preV C hw (hP23.mem (k := 9 + 1) (by omega)) (hP23.lev (L := 1) (by omega)) rfl) rfl rfl hl.1 rfl (lv_room (Nat.le_of_ble_eq_true rfl)) dX11_digest_85 ⟨(Nat.le_of_ble_eq_true rfl), (Nat.le_of_ble_eq_true rfl)⟩) hw hA (fun r34 S33 H locs hpost hw => ?_)
  obtain ⟨hr_, hS_⟩ := hpost
  subst hr_
  subst hS_
  refine p_calll (va_runV (As := [.long (wst ws V ((((((((((58076 * 31) + (((nI (V.1 0))).toInt64)) * 31) + (((nI n)).toInt64)) * 31) + (((nI (V.1 n))).toInt64)) * 31) + (((nI (hurtN n V))).toInt64)) * 31) + (((nI (errN V))).toInt64)) n), .ref (G (21 + 0)), .ref (G (21 + 5))]) (rest := []) C.fix (g_X11_withPlaces l D cy S21 H.size hP23 (wst ws V ((((((((((58076 * 31) + (((nI (V.1 0))).toInt64)) * 31) + (((nI n)).toInt64)) * 31) + (((nI (V.1 n))).toInt64)) * 31) + (((nI (hurtN n V))).toInt64)) * 31) + (((nI (errN V))).toInt64)) n) 0 5 (by omega) (by omega)) (cwV 3 C.2.2.2.2.1 (gU_V mw_589 mw_590 mw_591 mw_2 (subU mw_592)) rfl rfl rfl hdg_X11_digest_V_7 ⟨Nat.le_of_ble_eq_true rfl, Nat.le_of_ble_eq_true rfl⟩) (p_preV C hw (hP23.mem (k := 0) (by omega)) hP23.c0 rfl) rfl rfl hl.1 rfl (lv_room (Nat.le_of_ble_eq_true rfl)) dX11_digest_88 ⟨(Nat.le_of_ble_eq_true rfl), (Nat.le_of_ble_eq_true rfl)⟩) hw hA (fun r38 S37 H locs hpost hw => ?_)
  obtain ⟨hr_, hS_⟩ := hpost
  rw [(hk 0 (by omega)).1, (hk 0 (by omega)).2, (hk 5 (by omega)).1, (hk 5 (by omega)).2] at hr_
  subst hr_
  subst hS_
  refine lv_lstore_n (lv' := [(1, .long (wpl (rg (V.2 0) (V.1 0)) (rg (V.2 5) (V.1 5)) (wst ws V ((((((((((58076 * 31) + (((nI (V.1 0))).toInt64)) * 31) + (((nI n)).toInt64)) * 31) + (((nI (V.1 n))).toInt64)) * 31) + (((nI (hurtN n V))).toInt64)) * 31) + (((nI (errN V))).toInt64)) n) (V.1 0))), (0, .ref (G 0))]) hx hb dX11_digest_91 rfl hl (by decide) rfl (fun ls hl => ?_)
  refine lv_aload_n hx hb dX11_digest_92 rfl (lv_at hl 1 rfl) ?_
  refine lv_lload_n hx hb dX11_digest_93 rfl (lv_at hl 0 rfl) ?_
  refine lv_aload_n hx hb dX11_digest_94 rfl (lv_at hl 1 rfl) ?_
  refine lv_aload_n hx hb dX11_digest_95 rfl (lv_at hl 1 rfl) ?_
  refine p_get C hw (ci := 10) (Cn := RX11) (T := TX11) (N := 8) (hP23.mem (k := 0) (by omega)) hP23.c0 rfl hin_RX11 4 (by decide) (mU mw_26) rfl rfl dX11_digest_96 ?_
  refine p_callq (va_runV (As := [.ref (G 9)]) (rest := [.long (wpl (rg (V.2 0) (V.1 0)) (rg (V.2 5) (V.1 5)) (wst ws V ((((((((((58076 * 31) + (((nI (V.1 0))).toInt64)) * 31) + (((nI n)).toInt64)) * 31) + (((nI (V.1 n))).toInt64)) * 31) + (((nI (hurtN n V))).toInt64)) * 31) + (((nI (errN V))).toInt64)) n) (V.1 0)), .ref (G 0)]) C.fix (g_X11_last0 l D cy S21 H.size hP23) (cwV 1 C.2.2.2.2.1 (gU_V mw_241 mw_242 mw_243 mw_2 (subU mw_244)) rfl rfl rfl hdg_X11_digest_V_8 ⟨Nat.le_of_ble_eq_true rfl, Nat.le_of_ble_eq_true rfl⟩) (p_preV C hw (hP23.mem (k := 0) (by omega)) hP23.c0 rfl) rfl rfl hl.1 rfl (lv_room (Nat.le_of_ble_eq_true rfl)) dX11_digest_99 ⟨(Nat.le_of_ble_eq_true rfl), (Nat.le_of_ble_eq_true rfl)⟩) hw hA (fun r42 S41 H locs hpost hw => ?_)
  obtain ⟨hr_, hS_⟩ := hpost
  subst hr_
  subst hS_
  refine lv_aload_n hx hb dX11_digest_102 rfl (lv_at hl 1 rfl) ?_
  refine lv_aload_n hx hb dX11_digest_103 rfl (lv_at hl 1 rfl) ?_
  refine p_get C hw (ci := 10) (Cn := RX11) (T := TX11) (N := 8) (hP23.mem (k := 0) (by omega)) hP23.c0 rfl hin_RX11 5 (by decide) (mU mw_27) rfl rfl dX11_digest_104 ?_
  refine p_callq (va_runV (As := [.ref (G 10)]) (rest := [.ref (G (21 + n)), .long (wpl (rg (V.2 0) (V.1 0)) (rg (V.2 5) (V.1 5)) (wst ws V ((((((((((58076 * 31) + (((nI (V.1 0))).toInt64)) * 31) + (((nI n)).toInt64)) * 31) + (((nI (V.1 n))).toInt64)) * 31) + (((nI (hurtN n V))).toInt64)) * 31) + (((nI (errN V))).toInt64)) n) (V.1 0)), .ref (G 0)]) C.fix (g_X11_last1 l D cy S21 H.size hP23) (cwV 1 C.2.2.2.2.1 (gU_V mw_241 mw_242 mw_243 mw_2 (subU mw_244)) rfl rfl rfl hdg_X11_digest_V_8 ⟨Nat.le_of_ble_eq_true rfl, Nat.le_of_ble_eq_true rfl⟩) (p_preV C hw (hP23.mem (k := 0) (by omega)) hP23.c0 rfl) rfl rfl hl.1 rfl (lv_room (Nat.le_of_ble_eq_true rfl)) dX11_digest_107 ⟨(Nat.le_of_ble_eq_true rfl), (Nat.le_of_ble_eq_true rfl)⟩) hw hA (fun r46 S45 H locs hpost hw => ?_)
  obtain ⟨hr_, hS_⟩ := hpost
  subst hr_
  subst hS_
  refine p_calll (va_runV (As := [.long (wpl (rg (V.2 0) (V.1 0)) (rg (V.2 5) (V.1 5)) (wst ws V ((((((((((58076 * 31) + (((nI (V.1 0))).toInt64)) * 31) + (((nI n)).toInt64)) * 31) + (((nI (V.1 n))).toInt64)) * 31) + (((nI (hurtN n V))).toInt64)) * 31) + (((nI (errN V))).toInt64)) n) (V.1 0)), .ref (G (21 + n)), .ref (G (21 + (n + 5)))]) (rest := []) C.fix (g_X11_withPlaces l D cy S21 H.size hP23 (wpl (rg (V.2 0) (V.1 0)) (rg (V.2 5) (V.1 5)) (wst ws V ((((((((((58076 * 31) + (((nI (V.1 0))).toInt64)) * 31) + (((nI n)).toInt64)) * 31) + (((nI (V.1 n))).toInt64)) * 31) + (((nI (hurtN n V))).toInt64)) * 31) + (((nI (errN V))).toInt64)) n) (V.1 0)) n (n + 5) (by omega) (by omega)) (cwV 3 C.2.2.2.2.1 (gU_V mw_589 mw_590 mw_591 mw_2 (subU mw_592)) rfl rfl rfl hdg_X11_digest_V_7 ⟨Nat.le_of_ble_eq_true rfl, Nat.le_of_ble_eq_true rfl⟩) (p_preV C hw (hP23.mem (k := 0) (by omega)) hP23.c0 rfl) rfl rfl hl.1 rfl (lv_room (Nat.le_of_ble_eq_true rfl)) dX11_digest_110 ⟨(Nat.le_of_ble_eq_true rfl), (Nat.le_of_ble_eq_true rfl)⟩) hw hA (fun r50 S49 H locs hpost hw => ?_)
  obtain ⟨hr_, hS_⟩ := hpost
  rw [(hk n (by omega)).1, (hk n (by omega)).2, (hk (n + 5) (by omega)).1, (hk (n + 5) (by omega)).2] at hr_
  subst hr_
  subst hS_
  refine lv_lstore_n (lv' := [(1, .long (wpl (rg (V.2 n) (V.1 n)) (rg (V.2 (n + 5)) (V.1 (n + 5))) (wpl (rg (V.2 0) (V.1 0)) (rg (V.2 5) (V.1 5)) (wst ws V ((((((((((58076 * 31) + (((nI (V.1 0))).toInt64)) * 31) + (((nI n)).toInt64)) * 31) + (((nI (V.1 n))).toInt64)) * 31) + (((nI (hurtN n V))).toInt64)) * 31) + (((nI (errN V))).toInt64)) n) (V.1 0)) (V.1 n))), (0, .ref (G 0))]) hx hb dX11_digest_113 rfl hl (by decide) rfl (fun ls hl => ?_)
  refine lv_lload_n hx hb dX11_digest_114 rfl (lv_at hl 0 rfl) ?_
  refine lv_ldc2 (v := 31) hx hb C.2.2.2.1 (C.2.2.2.2.1 (.constantLong RX11 247 (31)) (mU mw_503)) dX11_digest_115 ?_
  refine lv_lmul hx hb dX11_digest_118 ?_
  refine lv_aload_n hx hb dX11_digest_119 rfl (lv_at hl 1 rfl) ?_
  refine lv_iconst (v := nI 0) hx hb dX11_digest_120 (by decide) ?_
  refine p_calli (va_runV (As := [.int (nI 0)]) (rest := [.long ((wpl (rg (V.2 n) (V.1 n)) (rg (V.2 (n + 5)) (V.1 (n + 5))) (wpl (rg (V.2 0) (V.1 0)) (rg (V.2 5) (V.1 5)) (wst ws V ((((((((((58076 * 31) + (((nI (V.1 0))).toInt64)) * 31) + (((nI n)).toInt64)) * 31) + (((nI (V.1 n))).toInt64)) * 31) + (((nI (hurtN n V))).toInt64)) * 31) + (((nI (errN V))).toInt64)) n) (V.1 0)) (V.1 n)) * 31)]) C.fix (g_X11_breaks l D cy S21 H.size hP23 0 (by decide) (fun j hj => by rw [(hk (j + 1) (by omega)).1, (hk j (by omega)).1]; exact hs j hj) (fun j hj => by rw [(hk (j + 5) (by omega)).1, (hk j (by omega)).1]; exact hu j hj)) (cwV 1 C.2.2.2.2.1 (gU_V mw_594 mw_595 mw_596 mw_2 (subU mw_597)) rfl rfl rfl hdg_X11_digest_V_9 ⟨Nat.le_of_ble_eq_true rfl, Nat.le_of_ble_eq_true rfl⟩) (p_preV C hw (hP23.mem (k := 0) (by omega)) hP23.c0 rfl) rfl rfl hl.1 rfl (lv_room (Nat.le_of_ble_eq_true rfl)) dX11_digest_121 ⟨(Nat.le_of_ble_eq_true rfl), (Nat.le_of_ble_eq_true rfl)⟩) hw hA (fun r54 S53 H locs hpost hw => ?_)
  obtain ⟨V57, hr_, hP55, hF56, hK58⟩ := hpost
  rw [Kp.brks hP hs hk] at hr_
  subst hr_
  have hT59 := hF24.trans hF56
  have hk := hk.trans hK58
  refine lv_i2l hx hb dX11_digest_124 rfl ?_
  refine lv_ladd hx hb dX11_digest_125 ?_
  refine lv_lstore_n (lv' := [(1, .long (((wpl (rg (V.2 n) (V.1 n)) (rg (V.2 (n + 5)) (V.1 (n + 5))) (wpl (rg (V.2 0) (V.1 0)) (rg (V.2 5) (V.1 5)) (wst ws V ((((((((((58076 * 31) + (((nI (V.1 0))).toInt64)) * 31) + (((nI n)).toInt64)) * 31) + (((nI (V.1 n))).toInt64)) * 31) + (((nI (hurtN n V))).toInt64)) * 31) + (((nI (errN V))).toInt64)) n) (V.1 0)) (V.1 n)) * 31) + (((nI (brkN ws n V 0))).toInt64))), (0, .ref (G 0))]) hx hb dX11_digest_126 rfl hl (by decide) rfl (fun ls hl => ?_)
  refine lv_lload_n hx hb dX11_digest_127 rfl (lv_at hl 0 rfl) ?_
  refine lv_ldc2 (v := 31) hx hb C.2.2.2.1 (C.2.2.2.2.1 (.constantLong RX11 247 (31)) (mU mw_503)) dX11_digest_128 ?_
  refine lv_lmul hx hb dX11_digest_131 ?_
  refine lv_aload_n hx hb dX11_digest_132 rfl (lv_at hl 1 rfl) ?_
  refine lv_iconst (v := nI 5) hx hb dX11_digest_133 (by decide) ?_
  refine p_calli (va_runV (As := [.int (nI 5)]) (rest := [.long ((((wpl (rg (V.2 n) (V.1 n)) (rg (V.2 (n + 5)) (V.1 (n + 5))) (wpl (rg (V.2 0) (V.1 0)) (rg (V.2 5) (V.1 5)) (wst ws V ((((((((((58076 * 31) + (((nI (V.1 0))).toInt64)) * 31) + (((nI n)).toInt64)) * 31) + (((nI (V.1 n))).toInt64)) * 31) + (((nI (hurtN n V))).toInt64)) * 31) + (((nI (errN V))).toInt64)) n) (V.1 0)) (V.1 n)) * 31) + (((nI (brkN ws n V 0))).toInt64)) * 31)]) C.fix (g_X11_breaks l D cy S53 H.size hP55 5 (by decide) (fun j hj => by rw [(hk (j + 1) (by omega)).1, (hk j (by omega)).1]; exact hs j hj) (fun j hj => by rw [(hk (j + 5) (by omega)).1, (hk j (by omega)).1]; exact hu j hj)) (cwV 1 C.2.2.2.2.1 (gU_V mw_594 mw_595 mw_596 mw_2 (subU mw_597)) rfl rfl rfl hdg_X11_digest_V_9 ⟨Nat.le_of_ble_eq_true rfl, Nat.le_of_ble_eq_true rfl⟩) (p_preV C hw (hP55.mem (k := 0) (by omega)) hP55.c0 rfl) rfl rfl hl.1 rfl (lv_room (Nat.le_of_ble_eq_true rfl)) dX11_digest_134 ⟨(Nat.le_of_ble_eq_true rfl), (Nat.le_of_ble_eq_true rfl)⟩) hw hA (fun r61 S60 H locs hpost hw => ?_)
  obtain ⟨V64, hr_, hP62, hF63, hK65⟩ := hpost
  rw [Kp.brks hP hs hk] at hr_
  subst hr_
  have hT66 := hT59.trans hF63
  have hk := hk.trans hK65
  refine lv_i2l hx hb dX11_digest_137 rfl ?_
  refine lv_ladd hx hb dX11_digest_138 ?_
  refine lv_lstore_n (lv' := [(1, .long (((((wpl (rg (V.2 n) (V.1 n)) (rg (V.2 (n + 5)) (V.1 (n + 5))) (wpl (rg (V.2 0) (V.1 0)) (rg (V.2 5) (V.1 5)) (wst ws V ((((((((((58076 * 31) + (((nI (V.1 0))).toInt64)) * 31) + (((nI n)).toInt64)) * 31) + (((nI (V.1 n))).toInt64)) * 31) + (((nI (hurtN n V))).toInt64)) * 31) + (((nI (errN V))).toInt64)) n) (V.1 0)) (V.1 n)) * 31) + (((nI (brkN ws n V 0))).toInt64)) * 31) + (((nI (brkN ws n V 5))).toInt64))), (0, .ref (G 0))]) hx hb dX11_digest_139 rfl hl (by decide) rfl (fun ls hl => ?_)
  refine lv_lload_n hx hb dX11_digest_140 rfl (lv_at hl 0 rfl) ?_
  refine lv_ldc2 (v := 31) hx hb C.2.2.2.1 (C.2.2.2.2.1 (.constantLong RX11 247 (31)) (mU mw_503)) dX11_digest_141 ?_
  refine lv_lmul hx hb dX11_digest_144 ?_
  refine lv_aload_n hx hb dX11_digest_145 rfl (lv_at hl 1 rfl) ?_
  refine p_calli (va_runV (As := []) (rest := [.long ((((((wpl (rg (V.2 n) (V.1 n)) (rg (V.2 (n + 5)) (V.1 (n + 5))) (wpl (rg (V.2 0) (V.1 0)) (rg (V.2 5) (V.1 5)) (wst ws V ((((((((((58076 * 31) + (((nI (V.1 0))).toInt64)) * 31) + (((nI n)).toInt64)) * 31) + (((nI (V.1 n))).toInt64)) * 31) + (((nI (hurtN n V))).toInt64)) * 31) + (((nI (errN V))).toInt64)) n) (V.1 0)) (V.1 n)) * 31) + (((nI (brkN ws n V 0))).toInt64)) * 31) + (((nI (brkN ws n V 5))).toInt64)) * 31)]) C.fix (g_X11_weak l D cy S60 H.size hP62 (fun j hj => by rw [(hk (j + 1) (by omega)).1, (hk j (by omega)).1]; exact hs j hj) (fun j hj => by rw [(hk (j + 5) (by omega)).1, (hk j (by omega)).1]; exact hu j hj)) (cwV 0 C.2.2.2.2.1 (gU_V mw_599 mw_600 mw_601 mw_2 (subU mw_602)) rfl rfl rfl hdg_X11_digest_V_10 ⟨Nat.le_of_ble_eq_true rfl, Nat.le_of_ble_eq_true rfl⟩) (p_preV C hw (hP62.mem (k := 0) (by omega)) hP62.c0 rfl) rfl rfl hl.1 rfl (lv_room (Nat.le_of_ble_eq_true rfl)) dX11_digest_146 ⟨(Nat.le_of_ble_eq_true rfl), (Nat.le_of_ble_eq_true rfl)⟩) hw hA (fun r68 S67 H locs hpost hw => ?_)
  obtain ⟨V71, hr_, hP69, hF70, hK72⟩ := hpost
  rw [Kp.weaks hP hs hk] at hr_
  subst hr_
  have hT73 := hT66.trans hF70
  have hk := hk.trans hK72
  refine lv_i2l hx hb dX11_digest_149 rfl ?_
  refine lv_ladd hx hb dX11_digest_150 ?_
  exact (p_lret C hw ⟨V71, rfl, hP69, hT73, hk⟩ hr hlocks dX11_digest_151)
