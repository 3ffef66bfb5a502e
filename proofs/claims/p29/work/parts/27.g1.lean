set_option maxHeartbeats 4000000 in
set_option maxRecDepth 100000 in
/-- Chain.sizeAtEnd without stages -/
theorem g_X1_sizeAtEnd (l : Launch) (D : va_G) (cy : Nat → ClassId) (S : pS) (sz : Nat) {G T : Nat → Nat} {ws : Nat → WV} {l1 l2 : va_E} {V : RV} (hP : Pic cy S G T 0 ws l1 l2 V) (w : Nat) : Met l yX1_sizeAtEnd (Cond.code yX1_sizeAtEnd cX1_sizeAtEnd 5 (some .int) :: lwU) ({ frames := 0, cells := 0, slots := 0, locals := 0 }) (pPc D cy S sz [.ref (G 1), .int (nI w)]) (pQi D cy S sz (fun r S' => r = nI w ∧ S = S')) 0 0 (pA S sz) := by
  refine Met.ofW (cc := cX1_sizeAtEnd) (maxL := 5) (ret := (some .int)) (by decide) rfl ?_
  intro p e s m args below meth c s₁ B hml hv
  obtain ⟨rfl, rfl, C, hw, hA, hr, hlocks⟩ := p_start B hml hv
  have hx := C.1
  have hb := C.2.1
  have hl := lv_entry ([.ref (G 1), .int (nI w)]) (n := 5) (Nat.le_of_ble_eq_true rfl)
  rw [lg_entry_eq]
  generalize (lg_sl ([.ref (G 1), .int (nI w)]) ++ List.replicate (5 - (lg_sl ([.ref (G 1), .int (nI w)])).length) Slot.unset).toArray = ls at hl ⊢
  have hl : lv_has ls 5 [(0, .ref (G 1)), (1, .int (nI w))] := hl
  have hin_RX1 : ∀ w ∈ u_ws RX1 TX1 2, w ∈ (Cond.code yX1_sizeAtEnd cX1_sizeAtEnd 5 (some .int) :: lwU) := fun w h => mU (sub_RX1 w h)
  have hn4 := hP.n4
  refine lv_iload_n hx hb dX1_sizeAtEnd_0 rfl (lv_at hl 1 rfl) ?_
  refine lv_istore_n (lv' := [(2, .int (nI w)), (0, .ref (G 1)), (1, .int (nI w))]) hx hb dX1_sizeAtEnd_1 rfl hl (by decide) rfl (fun ls hl => ?_)
  refine lv_iconst (v := nI 0) hx hb dX1_sizeAtEnd_2 (by decide) ?_
  refine lv_istore_n (lv' := [(3, .int (nI 0)), (2, .int (nI w)), (0, .ref (G 1)), (1, .int (nI w))]) hx hb dX1_sizeAtEnd_3 rfl hl (by decide) rfl (fun ls hl => ?_)
  refine lv_iload_n hx hb dX1_sizeAtEnd_4 rfl (lv_at hl 0 rfl) ?_
  refine lv_aload_n hx hb dX1_sizeAtEnd_5 rfl (lv_at hl 2 rfl) ?_
  refine p_get C hw (ci := 1) (Cn := RX1) (T := TX1) (N := 2) (hP.mem (k := 1) (by omega)) hP.c1 rfl hin_RX1 1 (by decide) (mU mw_38) rfl rfl dX1_sizeAtEnd_6 ?_
  refine n_icmp_ge (tgt := 37) hx hb (by first | decide | omega) (by first | decide | omega) dX1_sizeAtEnd_9 (by decide) (fun h_9 => ?_) (fun h_9 => ?_)
  · skip
    refine lv_iload_n hx hb dX1_sizeAtEnd_37 rfl (lv_at hl 1 rfl) ?_
    exact (p_iret C hw ⟨rfl, rfl⟩ hr hlocks dX1_sizeAtEnd_38)
  · exact absurd h_9 (by first | decide | omega)

theorem hdg_X1_code_V_0 : yX1_stageAt.cls = RX1 ∧ yX1_stageAt.cls ≠ "java/lang/invoke/MethodHandle" ∧ yX1_stageAt.cls ≠ "java/lang/invoke/VarHandle" ∧ (parseMethodDescriptor yX1_stageAt.desc).map (fun d => d.parameters.length) = some 1 := by decide +kernel
theorem hdg_X1_code_V_1 : yX4_at.cls = RX4 ∧ yX4_at.cls ≠ "java/lang/invoke/MethodHandle" ∧ yX4_at.cls ≠ "java/lang/invoke/VarHandle" ∧ (parseMethodDescriptor yX4_at.desc).map (fun d => d.parameters.length) = some 1 := by decide +kernel
theorem hdg_X1_code_V_2 : yX7_size.cls = RX7 ∧ yX7_size.cls ≠ "java/lang/invoke/MethodHandle" ∧ yX7_size.cls ≠ "java/lang/invoke/VarHandle" ∧ (parseMethodDescriptor yX7_size.desc).map (fun d => d.parameters.length) = some 0 := by decide +kernel
theorem hdg_X1_code_V_3 : yX7_resize.cls = RX7 ∧ yX7_resize.cls ≠ "java/lang/invoke/MethodHandle" ∧ yX7_resize.cls ≠ "java/lang/invoke/VarHandle" ∧ (parseMethodDescriptor yX7_resize.desc).map (fun d => d.parameters.length) = some 1 := by decide +kernel
set_option maxHeartbeats 4000000 in
set_option maxRecDepth 100000 in
/-- Chain.code -/
theorem g_X1_code (l : Launch) (D : va_G) (cy : Nat → ClassId) (S : pS) (sz : Nat) {G T : Nat → Nat} {n : Nat} {ws : Nat → WV} {l1 l2 : va_E} {V : RV} (hP : Pic cy S G T n ws l1 l2 V) (hz : ∀ j, j ≤ n → cz ws (V.1 0) j ≤ 320) : Met l yX1_code (Cond.code yX1_code cX1_code 6 none :: lwU) ({ frames := 3, cells := 0, slots := 0, locals := 72 }) (pPc D cy S sz [.ref (G 1), .ref (G 9)]) (pQv D cy S sz (fun S' => ∃ V', Pic cy S' G T n ws l1 l2 V' ∧ Frm G S S' ∧ Cod ws n V' ∧ Sam (fun r => r = 0 ∨ n < r) V V')) 0 0 (pA S sz) := by
  refine Met.ofW (cc := cX1_code) (maxL := 6) (ret := none) (by decide) rfl ?_
  intro p e s m args below meth c s₁ B hml hv
  obtain ⟨rfl, rfl, C, hw, hA, hr, hlocks⟩ := p_start B hml hv
  have hx := C.1
  have hb := C.2.1
  have hl := lv_entry ([.ref (G 1), .ref (G 9)]) (n := 6) (Nat.le_of_ble_eq_true rfl)
  rw [lg_entry_eq]
  generalize (lg_sl ([.ref (G 1), .ref (G 9)]) ++ List.replicate (6 - (lg_sl ([.ref (G 1), .ref (G 9)])).length) Slot.unset).toArray = ls at hl ⊢
  have hl : lv_has ls 6 [(0, .ref (G 1)), (1, .ref (G 9))] := hl
  have hin_RX1 : ∀ w ∈ u_ws RX1 TX1 2, w ∈ (Cond.code yX1_code cX1_code 6 none :: lwU) := fun w h => mU (sub_RX1 w h)
  have hn4 := hP.n4
  refine lv_iconst (v := nI 0) hx hb dX1_code_0 (by decide) ?_
  refine lv_istore_n (lv' := [(2, .int (nI 0)), (0, .ref (G 1)), (1, .ref (G 9))]) hx hb dX1_code_1 rfl hl (by decide) rfl (fun ls hl => ?_)
  have loop2_1 : ∀ (kf : Nat) (i : Nat), n - i < kf → ∀ (Sx2 : pS) (Vx3 : RV) (H : Heap) (locs : List Loc) (ls : Array Slot), Pic cy Sx2 G T n ws l1 l2 Vx3 → Frm G S Sx2 → (i ≤ n) → (Cod ws i Vx3) → (Vx3.1 i = cz ws (V.1 0) i) → (Sam (fun r => r = 0 ∨ i < r) V Vx3) → pW D (pA S s.heap.size) s.heap Sx2 H locs → lv_has ls 6 [(2, .int (nI i)), (0, .ref (G 1)), (1, .ref (G 9))] → W p l e (headSpec (Cond.code yX1_code cX1_code 6 none :: lwU) ({ frames := 3, cells := 0, slots := 0, locals := 72 } : Room)).room s m ([.ref (G 1), .ref (G 9)]).toArray below meth c H locs 0 0 (MQ below (pQv D cy S s.heap.size (fun S' => ∃ V', Pic cy S' G T n ws l1 l2 V' ∧ Frm G S S' ∧ Cod ws n V' ∧ Sam (fun r => r = 0 ∨ n < r) V V')) ([.ref (G 1), .ref (G 9)]).toArray s 0 0 (pA S s.heap.size)) (F0 m 2 ls []) := by
    intro kf
    induction kf with
    | zero => intro i hm; exact absurd hm (Nat.not_lt_zero _)
    | succ kf ihloop2_1 =>
      intro i hm Sx2 Vx3 H locs ls hP4 hF5 hi hc hs0 hsam hw hl
      have hzi := hz i hi
      refine lv_iload_n hx hb dX1_code_2 rfl (lv_at hl 0 rfl) ?_
      refine lv_aload_n hx hb dX1_code_3 rfl (lv_at hl 1 rfl) ?_
      refine p_get C hw (ci := 1) (Cn := RX1) (T := TX1) (N := 2) (hP4.mem (k := 1) (by omega)) hP4.c1 rfl hin_RX1 1 (by decide) (mU mw_38) rfl rfl dX1_code_4 ?_
      refine n_icmp_ge (tgt := 64) hx hb (by first | decide | omega) (by first | decide | omega) dX1_code_7 (by decide) (fun h_7 => ?_) (fun h_7 => ?_)
      · skip
        exact (p_vret C hw (by have e : i = n := (by omega); rw [e] at hc hsam; exact ⟨Vx3, hP4, hF5, hc, hsam⟩) hr hlocks dX1_code_64)
      · skip
        have hz1 : sSize (ws i) (cz ws (V.1 0) i) ≤ 320 := hz (i + 1) (by omega)
        refine lv_aload_n hx hb dX1_code_10 rfl (lv_at hl 1 rfl) ?_
        refine lv_iload_n hx hb dX1_code_11 rfl (lv_at hl 0 rfl) ?_
        obtain ⟨lq6, elq6, flq6⟩ := hP4.c2
        refine p_callq (va_runV (As := [.int (nI i)]) (rest := []) C.fix (c_X1_stageAt l D cy Sx2 H.size (G 1) (G 2) n lq6 (nI i) (hP4.mem (by omega)) hP4.c1 (hP4.mem (by omega)) elq6 hP4.n4) (cwV 1 C.2.2.2.2.1 (gU_V mw_123 mw_124 mw_125 mw_12 sub_X1_stageAt) rfl rfl rfl hdg_X1_code_V_0 ⟨Nat.le_of_ble_eq_true rfl, Nat.le_of_ble_eq_true rfl⟩) (p_preV C hw (hP4.mem (k := 1) (by omega)) hP4.c1 rfl) rfl rfl hl.1 rfl (lv_room (Nat.le_of_ble_eq_true rfl)) dX1_code_12 ⟨(Nat.le_of_ble_eq_true rfl), (Nat.le_of_ble_eq_true rfl)⟩) hw hA (fun r8 S7 H locs hpost hw => ?_)
        obtain ⟨hr_, hS_⟩ := hpost
        rw [stq_in (j := i) (by omega) (by omega), flq6 i (by omega)] at hr_
        subst hr_
        subst hS_
        refine lv_astore_n (lv' := [(3, .ref (T (2 * i))), (2, .int (nI i)), (0, .ref (G 1)), (1, .ref (G 9))]) hx hb dX1_code_15 rfl hl (by decide) rfl (fun ls hl => ?_)
        refine lv_aload_n hx hb dX1_code_16 rfl (lv_at hl 0 rfl) ?_
        refine lv_ifnull hx hb dX1_code_17 ?_
        refine lv_aload_n hx hb dX1_code_20 rfl (lv_at hl 3 rfl) ?_
        refine lv_iload_n hx hb dX1_code_21 rfl (lv_at hl 1 rfl) ?_
        obtain ⟨rq11, erq11, frq11⟩ := hP4.leq (L := 0) (by omega)
        refine p_callq (va_runV (As := [.int (nI i)]) (rest := []) C.fix (c_X4_at l D cy Sx2 H.size (G 9) (G (12 + 0)) (G (15 + 0)) i (G (21 + i)) rq11 (hP4.mem (by omega)) (hP4.lev (L := 0) (by omega)) (hP4.mem (by omega)) erq11 (by omega) (frq11 i (by omega))) (cwV 1 C.2.2.2.2.1 (gU_V mw_180 mw_112 mw_113 mw_25 sub_X4_at) rfl rfl rfl hdg_X1_code_V_1 ⟨Nat.le_of_ble_eq_true rfl, Nat.le_of_ble_eq_true rfl⟩) (p_preV C hw (hP4.mem (k := 9 + 0) (by omega)) (hP4.lev (L := 0) (by omega)) rfl) rfl rfl hl.1 rfl (lv_room (Nat.le_of_ble_eq_true rfl)) dX1_code_22 ⟨(Nat.le_of_ble_eq_true rfl), (Nat.le_of_ble_eq_true rfl)⟩) hw hA (fun r13 S12 H locs hpost hw => ?_)
        obtain ⟨hr_, hS_⟩ := hpost
        subst hr_
        subst hS_
        refine lv_astore (lv' := [(4, .ref (G (21 + i))), (3, .ref (T (2 * i))), (2, .int (nI i)), (0, .ref (G 1)), (1, .ref (G 9))]) hx hb dX1_code_25 hl (by decide) rfl (fun ls hl => ?_)
        refine lv_aload_n hx hb dX1_code_27 rfl (lv_at hl 4 rfl) ?_
        refine lv_iload_n hx hb dX1_code_28 rfl (lv_at hl 2 rfl) ?_
        refine lv_iconst (v := nI 1) hx hb dX1_code_29 (by decide) ?_
        refine n_iadd hx hb dX1_code_30 ?_
        obtain ⟨rq16, erq16, frq16⟩ := hP4.leq (L := 0) (by omega)
        refine p_callq (va_runV (As := [.int (nI (i + 1))]) (rest := []) C.fix (c_X4_at l D cy Sx2 H.size (G 9) (G (12 + 0)) (G (15 + 0)) (i + 1) (G (21 + (i + 1))) rq16 (hP4.mem (by omega)) (hP4.lev (L := 0) (by omega)) (hP4.mem (by omega)) erq16 (by omega) (frq16 (i + 1) (by omega))) (cwV 1 C.2.2.2.2.1 (gU_V mw_180 mw_112 mw_113 mw_25 sub_X4_at) rfl rfl rfl hdg_X1_code_V_1 ⟨Nat.le_of_ble_eq_true rfl, Nat.le_of_ble_eq_true rfl⟩) (p_preV C hw (hP4.mem (k := 9 + 0) (by omega)) (hP4.lev (L := 0) (by omega)) rfl) rfl rfl hl.1 rfl (lv_room (Nat.le_of_ble_eq_true rfl)) dX1_code_31 ⟨(Nat.le_of_ble_eq_true rfl), (Nat.le_of_ble_eq_true rfl)⟩) hw hA (fun r18 S17 H locs hpost hw => ?_)
        obtain ⟨hr_, hS_⟩ := hpost
        subst hr_
        subst hS_
        refine lv_astore (lv' := [(5, .ref (G (21 + (i + 1)))), (4, .ref (G (21 + i))), (3, .ref (T (2 * i))), (2, .int (nI i)), (0, .ref (G 1)), (1, .ref (G 9))]) hx hb dX1_code_34 hl (by decide) rfl (fun ls hl => ?_)
        refine lv_aload hx hb dX1_code_36 (lv_at hl 0 rfl) ?_
        refine lv_aload_n hx hb dX1_code_38 rfl (lv_at hl 2 rfl) ?_
        refine lv_aload hx hb dX1_code_39 (lv_at hl 1 rfl) ?_
        refine p_calli (va_runV (As := []) (rest := [.ref (T (2 * i)), .ref (G (21 + (i + 1)))]) C.fix (c_X7_size l D cy Sx2 H.size (G (21 + i)) (G (37 + i)) (Vx3.1 i) (hP4.mem (by omega)) (hP4.rh (r := i) (by omega))) (cwV 0 C.2.2.2.2.1 (gU_V mw_181 mw_116 mw_117 mw_21 sub_X7_size) rfl rfl rfl hdg_X1_code_V_2 ⟨Nat.le_of_ble_eq_true rfl, Nat.le_of_ble_eq_true rfl⟩) (p_preV C hw (hP4.mem (k := 21 + i) (by omega)) (hP4.rh (r := i) (by omega)) rfl) rfl rfl hl.1 rfl (lv_room (Nat.le_of_ble_eq_true rfl)) dX1_code_41 ⟨(Nat.le_of_ble_eq_true rfl), (Nat.le_of_ble_eq_true rfl)⟩) hw hA (fun r22 S21 H locs hpost hw => ?_)
        obtain ⟨hr_, hS_⟩ := hpost
        subst hr_
        subst hS_
        refine p_calli (v_sizeOf C hw hl.1 (j := i) (hP4.stg (j := i) (by omega)) (Vx3.1 i) (by rw [hs0]; omega) mw_127 ⟨Nat.le_of_ble_eq_true rfl, Nat.le_of_ble_eq_true rfl⟩ ⟨(Nat.le_of_ble_eq_true rfl), (Nat.le_of_ble_eq_true rfl)⟩ (Nat.le_of_ble_eq_true rfl) dX1_code_44) hw hA (fun r26 S25 H locs hpost hw => ?_)
        obtain ⟨hr_, hS_⟩ := hpost
        subst hr_
        subst hS_
        refine p_callv (va_runV (As := [.int (nI (sSize (ws i) (Vx3.1 i)))]) (rest := []) C.fix (q_resize l D cy Sx2 H.size hP4 (i + 1) (sSize (ws i) (Vx3.1 i)) (by omega) (by rw [hs0]; omega)) (cwV 1 C.2.2.2.2.1 (gU_V mw_182 mw_57 mw_58 mw_21 sub_X7_resize) rfl rfl rfl hdg_X1_code_V_3 ⟨Nat.le_of_ble_eq_true rfl, Nat.le_of_ble_eq_true rfl⟩) (p_preV C hw (hP4.mem (k := 21 + (i + 1)) (by omega)) (hP4.rh (r := (i + 1)) (by omega)) rfl) rfl rfl hl.1 rfl (lv_room (Nat.le_of_ble_eq_true rfl)) dX1_code_47 ⟨(Nat.le_of_ble_eq_true rfl), (Nat.le_of_ble_eq_true rfl)⟩) hw hA (fun S29 H locs hpost hw => ?_)
        obtain ⟨hP31, hF32⟩ := hpost
        obtain ⟨V33, hV33⟩ : ∃ z : RV, z = (va_up Vx3.1 (i + 1) (min (sSize (ws i) (Vx3.1 i)) (gcap (i + 1))), Vx3.2) := ⟨_, rfl⟩
        rw [← hV33] at hP31
        have hT34 := hF5.trans hF32
        refine lv_aload_n hx hb dX1_code_50 rfl (lv_at hl 2 rfl) ?_
        refine lv_aload hx hb dX1_code_51 (lv_at hl 1 rfl) ?_
        refine lv_aload hx hb dX1_code_53 (lv_at hl 0 rfl) ?_
        refine p_callv (v_code C hw hl.1 hP31 (j := i) (by omega) (r1 := i) (r2 := (i + 1)) (by omega) (by omega) (by omega) (code_s (by omega) (by rw [hs0]; exact hz1) hV33) mw_183 ⟨Nat.le_of_ble_eq_true rfl, Nat.le_of_ble_eq_true rfl⟩ ⟨(Nat.le_of_ble_eq_true rfl), (Nat.le_of_ble_eq_true rfl)⟩ (Nat.le_of_ble_eq_true rfl) dX1_code_55) hw hA (fun S35 H locs hpost hw => ?_)
        obtain ⟨gg40, hgg40, hP37, hF38⟩ := hpost
        obtain ⟨V39, hV39⟩ : ∃ z : RV, z = (V33.1, va_up V33.2 (i + 1) gg40) := ⟨_, rfl⟩
        rw [← hV39] at hP37
        have hT41 := hT34.trans hF38
        refine lv_iinc (v := (nI (i + 1))) (lv' := [(2, .int (nI (i + 1))), (5, .ref (G (21 + (i + 1)))), (4, .ref (G (21 + i))), (3, .ref (T (2 * i))), (0, .ref (G 1)), (1, .ref (G 9))]) hx hb dX1_code_58 hl (k := 3) rfl (by rw [show Int32.ofInt 1 = nI 1 from by decide, nI_add]) (by decide) rfl (fun ls hl => ?_)
        refine lv_goto (tgt := 2) hx hb dX1_code_61 (by decide) ?_
        have hb9 := code_b (by omega) (by rw [hs0]; exact hz1) hc hV33 hV39 hgg40
        exact ihloop2_1 (i + 1) (by omega) S35 V39 H locs ls hP37 hT41 (by omega) hb9.1 (by rw [hb9.2.1, hs0]; rfl) (fun r hr => by obtain ⟨a1, a2⟩ := hb9.2.2 r (by omega); obtain ⟨b1, b2⟩ := hsam r (by omega); exact ⟨a1.trans b1, a2.trans b2⟩) hw (lv_sub hl [0, 4, 5] rfl)
  exact loop2_1 (n - 0 + 1) 0 (by omega) S V s.heap [] ls hP Frm.id (Nat.zero_le _) (fun j hj => absurd hj (Nat.not_lt_zero _)) rfl (fun _ _ => ⟨rfl, rfl⟩) hw (lv_sub hl [0, 1, 2] rfl)

theorem hdg_X1_decode1_V_0 : yX1_stageAt.cls = RX1 ∧ yX1_stageAt.cls ≠ "java/lang/invoke/MethodHandle" ∧ yX1_stageAt.cls ≠ "java/lang/invoke/VarHandle" ∧ (parseMethodDescriptor yX1_stageAt.desc).map (fun d => d.parameters.length) = some 1 := by decide +kernel
theorem hdg_X1_decode1_V_1 : yX4_at.cls = RX4 ∧ yX4_at.cls ≠ "java/lang/invoke/MethodHandle" ∧ yX4_at.cls ≠ "java/lang/invoke/VarHandle" ∧ (parseMethodDescriptor yX4_at.desc).map (fun d => d.parameters.length) = some 1 := by decide +kernel
theorem hdg_X1_decode1_V_2 : yX7_size.cls = RX7 ∧ yX7_size.cls ≠ "java/lang/invoke/MethodHandle" ∧ yX7_size.cls ≠ "java/lang/invoke/VarHandle" ∧ (parseMethodDescriptor yX7_size.desc).map (fun d => d.parameters.length) = some 0 := by decide +kernel
theorem hdg_X1_decode1_V_3 : yX7_resize.cls = RX7 ∧ yX7_resize.cls ≠ "java/lang/invoke/MethodHandle" ∧ yX7_resize.cls ≠ "java/lang/invoke/VarHandle" ∧ (parseMethodDescriptor yX7_resize.desc).map (fun d => d.parameters.length) = some 1 := by decide +kernel
set_option maxHeartbeats 4000000 in
set_option maxRecDepth 100000 in
/-- Chain.decode -/
theorem g_X1_decode1 (l : Launch) (D : va_G) (cy : Nat → ClassId) (S : pS) (sz : Nat) {G T : Nat → Nat} {n : Nat} {ws : Nat → WV} {l1 l2 : va_E} {V : RV} (hP : Pic cy S G T n ws l1 l2 V) (hsz : ∀ j, j < n → V.1 (j + 1) = sSize (ws j) (V.1 j)) (hzn : V.1 (n + 5) = V.1 n) : Met l yX1_decode (Cond.code yX1_decode cX1_decode 6 none :: lwU) ({ frames := 4, cells := 0, slots := 0, locals := 99 }) (pPc D cy S sz [.ref (G 1), .ref (G 10), .ref (G 9)]) (pQv D cy S sz (fun S' => ∃ V', Pic cy S' G T n ws l1 l2 V' ∧ Frm G S S' ∧ Dcd ws 5 0 n V' ∧ Sam (fun r => r < 5 ∨ n + 5 ≤ r) V V')) 0 0 (pA S sz) := by
  refine Met.ofW (cc := cX1_decode) (maxL := 6) (ret := none) (by decide) rfl ?_
  intro p e s m args below meth c s₁ B hml hv
  obtain ⟨rfl, rfl, C, hw, hA, hr, hlocks⟩ := p_start B hml hv
  have hx := C.1
  have hb := C.2.1
  have hl := lv_entry ([.ref (G 1), .ref (G 10), .ref (G 9)]) (n := 6) (Nat.le_of_ble_eq_true rfl)
  rw [lg_entry_eq]
  generalize (lg_sl ([.ref (G 1), .ref (G 10), .ref (G 9)]) ++ List.replicate (6 - (lg_sl ([.ref (G 1), .ref (G 10), .ref (G 9)])).length) Slot.unset).toArray = ls at hl ⊢
  have hl : lv_has ls 6 [(0, .ref (G 1)), (1, .ref (G 10)), (2, .ref (G 9))] := hl
  have hin_RX1 : ∀ w ∈ u_ws RX1 TX1 2, w ∈ (Cond.code yX1_decode cX1_decode 6 none :: lwU) := fun w h => mU (sub_RX1 w h)
  have hn4 := hP.n4
  refine lv_aload_n hx hb dX1_decode_0 rfl (lv_at hl 0 rfl) ?_
  refine p_get C hw (ci := 1) (Cn := RX1) (T := TX1) (N := 2) (hP.mem (k := 1) (by omega)) hP.c1 rfl hin_RX1 1 (by decide) (mU mw_38) rfl rfl dX1_decode_1 ?_
  refine lv_iconst (v := nI 1) hx hb dX1_decode_4 (by decide) ?_
  refine lv_isub hx hb dX1_decode_5 ?_
  refine lv_istore_n (lv' := [(3, .int ((nI n) - (nI 1))), (0, .ref (G 1)), (1, .ref (G 10)), (2, .ref (G 9))]) hx hb dX1_decode_6 rfl hl (by decide) rfl (fun ls hl => ?_)
  have loop7_1 : ∀ (kf : Nat) (i : Nat), i < kf → ∀ (Sx2 : pS) (Vx3 : RV) (H : Heap) (locs : List Loc) (ls : Array Slot), Pic cy Sx2 G T n ws l1 l2 Vx3 → Frm G S Sx2 → (i ≤ n) → (Dcd ws 5 i n Vx3) → (Vx3.1 (i + 5) = V.1 i) → (Sam (fun r => r < 5 ∨ n + 5 ≤ r) V Vx3) → pW D (pA S s.heap.size) s.heap Sx2 H locs → lv_has ls 6 [(3, .int (nI i - nI 1)), (0, .ref (G 1)), (1, .ref (G 10)), (2, .ref (G 9))] → W p l e (headSpec (Cond.code yX1_decode cX1_decode 6 none :: lwU) ({ frames := 4, cells := 0, slots := 0, locals := 99 } : Room)).room s m ([.ref (G 1), .ref (G 10), .ref (G 9)]).toArray below meth c H locs 0 0 (MQ below (pQv D cy S s.heap.size (fun S' => ∃ V', Pic cy S' G T n ws l1 l2 V' ∧ Frm G S S' ∧ Dcd ws 5 0 n V' ∧ Sam (fun r => r < 5 ∨ n + 5 ≤ r) V V')) ([.ref (G 1), .ref (G 10), .ref (G 9)]).toArray s 0 0 (pA S s.heap.size)) (F0 m 7 ls []) := by
    intro kf
    induction kf with
    | zero => intro i hm; exact absurd hm (Nat.not_lt_zero _)
    | succ kf ihloop7_1 =>
      intro i hm Sx2 Vx3 H locs ls hP4 hF5 hi hc hs0 hsam hw hl
      refine lv_iload_n hx hb dX1_decode_7 rfl (lv_at hl 0 rfl) ?_
      refine lv_if_lt (tgt := 63) hx hb dX1_decode_8 (by decide) (fun h_8 => ?_) (fun h_8 => ?_)
      · skip
        have hi0 : i = 0 := xneg (by omega) h_8
        subst hi0
        exact (p_vret C hw ⟨Vx3, hP4, hF5, hc, hsam⟩ hr hlocks dX1_decode_63)
      · skip
        obtain ⟨j, rfl⟩ := xpos h_8
        rw [xsub1] at hl
        have hsj := hsam j (Or.inl (by omega))
        have hcap := hP4.rn (r := j) (by omega)
        refine lv_aload_n hx hb dX1_decode_11 rfl (lv_at hl 1 rfl) ?_
        refine lv_iload_n hx hb dX1_decode_12 rfl (lv_at hl 0 rfl) ?_
        obtain ⟨lq6, elq6, flq6⟩ := hP4.c2
        refine p_callq (va_runV (As := [.int (nI j)]) (rest := []) C.fix (c_X1_stageAt l D cy Sx2 H.size (G 1) (G 2) n lq6 (nI j) (hP4.mem (by omega)) hP4.c1 (hP4.mem (by omega)) elq6 hP4.n4) (cwV 1 C.2.2.2.2.1 (gU_V mw_123 mw_124 mw_125 mw_12 sub_X1_stageAt) rfl rfl rfl hdg_X1_decode1_V_0 ⟨Nat.le_of_ble_eq_true rfl, Nat.le_of_ble_eq_true rfl⟩) (p_preV C hw (hP4.mem (k := 1) (by omega)) hP4.c1 rfl) rfl rfl hl.1 rfl (lv_room (Nat.le_of_ble_eq_true rfl)) dX1_decode_13 ⟨(Nat.le_of_ble_eq_true rfl), (Nat.le_of_ble_eq_true rfl)⟩) hw hA (fun r8 S7 H locs hpost hw => ?_)
        obtain ⟨hr_, hS_⟩ := hpost
        rw [stq_in (j := j) (by omega) (by omega), flq6 j (by omega)] at hr_
        subst hr_
        subst hS_
        refine lv_astore (lv' := [(4, .ref (T (2 * j))), (3, .int (nI j)), (0, .ref (G 1)), (1, .ref (G 10)), (2, .ref (G 9))]) hx hb dX1_decode_16 hl (by decide) rfl (fun ls hl => ?_)
        refine lv_aload hx hb dX1_decode_18 (lv_at hl 0 rfl) ?_
        refine lv_ifnull hx hb dX1_decode_20 ?_
        refine lv_aload_n hx hb dX1_decode_23 rfl (lv_at hl 3 rfl) ?_
        refine lv_iload_n hx hb dX1_decode_24 rfl (lv_at hl 1 rfl) ?_
        obtain ⟨rq11, erq11, frq11⟩ := hP4.leq (L := 1) (by omega)
        refine p_callq (va_runV (As := [.int (nI j)]) (rest := []) C.fix (c_X4_at l D cy Sx2 H.size (G 10) (G (12 + 1)) (G (15 + 1)) j (G (21 + (j + 5))) rq11 (hP4.mem (by omega)) (hP4.lev (L := 1) (by omega)) (hP4.mem (by omega)) erq11 (by omega) (frq11 j (by omega))) (cwV 1 C.2.2.2.2.1 (gU_V mw_180 mw_112 mw_113 mw_25 sub_X4_at) rfl rfl rfl hdg_X1_decode1_V_1 ⟨Nat.le_of_ble_eq_true rfl, Nat.le_of_ble_eq_true rfl⟩) (p_preV C hw (hP4.mem (k := 9 + 1) (by omega)) (hP4.lev (L := 1) (by omega)) rfl) rfl rfl hl.1 rfl (lv_room (Nat.le_of_ble_eq_true rfl)) dX1_decode_25 ⟨(Nat.le_of_ble_eq_true rfl), (Nat.le_of_ble_eq_true rfl)⟩) hw hA (fun r13 S12 H locs hpost hw => ?_)
        obtain ⟨hr_, hS_⟩ := hpost
        subst hr_
        subst hS_
        refine lv_astore (lv' := [(5, .ref (G (21 + (j + 5)))), (4, .ref (T (2 * j))), (3, .int (nI j)), (0, .ref (G 1)), (1, .ref (G 10)), (2, .ref (G 9))]) hx hb dX1_decode_28 hl (by decide) rfl (fun ls hl => ?_)
        refine lv_aload hx hb dX1_decode_30 (lv_at hl 0 rfl) ?_
        refine lv_aload_n hx hb dX1_decode_32 rfl (lv_at hl 5 rfl) ?_
        refine lv_iload_n hx hb dX1_decode_33 rfl (lv_at hl 2 rfl) ?_
        obtain ⟨rq16, erq16, frq16⟩ := hP4.leq (L := 0) (by omega)
        refine p_callq (va_runV (As := [.int (nI j)]) (rest := [.ref (G (21 + (j + 5)))]) C.fix (c_X4_at l D cy Sx2 H.size (G 9) (G (12 + 0)) (G (15 + 0)) j (G (21 + j)) rq16 (hP4.mem (by omega)) (hP4.lev (L := 0) (by omega)) (hP4.mem (by omega)) erq16 (by omega) (frq16 j (by omega))) (cwV 1 C.2.2.2.2.1 (gU_V mw_180 mw_112 mw_113 mw_25 sub_X4_at) rfl rfl rfl hdg_X1_decode1_V_1 ⟨Nat.le_of_ble_eq_true rfl, Nat.le_of_ble_eq_true rfl⟩) (p_preV C hw (hP4.mem (k := 9 + 0) (by omega)) (hP4.lev (L := 0) (by omega)) rfl) rfl rfl hl.1 rfl (lv_room (Nat.le_of_ble_eq_true rfl)) dX1_decode_34 ⟨(Nat.le_of_ble_eq_true rfl), (Nat.le_of_ble_eq_true rfl)⟩) hw hA (fun r18 S17 H locs hpost hw => ?_)
        obtain ⟨hr_, hS_⟩ := hpost
        subst hr_
        subst hS_
        refine p_calli (va_runV (As := []) (rest := [.ref (G (21 + (j + 5)))]) C.fix (c_X7_size l D cy Sx2 H.size (G (21 + j)) (G (37 + j)) (Vx3.1 j) (hP4.mem (by omega)) (hP4.rh (r := j) (by omega))) (cwV 0 C.2.2.2.2.1 (gU_V mw_181 mw_116 mw_117 mw_21 sub_X7_size) rfl rfl rfl hdg_X1_decode1_V_2 ⟨Nat.le_of_ble_eq_true rfl, Nat.le_of_ble_eq_true rfl⟩) (p_preV C hw (hP4.mem (k := 21 + j) (by omega)) (hP4.rh (r := j) (by omega)) rfl) rfl rfl hl.1 rfl (lv_room (Nat.le_of_ble_eq_true rfl)) dX1_decode_37 ⟨(Nat.le_of_ble_eq_true rfl), (Nat.le_of_ble_eq_true rfl)⟩) hw hA (fun r22 S21 H locs hpost hw => ?_)
        obtain ⟨hr_, hS_⟩ := hpost
        subst hr_
        subst hS_
        refine p_callv (va_runV (As := [.int (nI (Vx3.1 j))]) (rest := []) C.fix (q_resize l D cy Sx2 H.size hP4 (j + 5) (Vx3.1 j) (by omega) (by have := hP4.r320 (r := j) (by omega); omega)) (cwV 1 C.2.2.2.2.1 (gU_V mw_182 mw_57 mw_58 mw_21 sub_X7_resize) rfl rfl rfl hdg_X1_decode1_V_3 ⟨Nat.le_of_ble_eq_true rfl, Nat.le_of_ble_eq_true rfl⟩) (p_preV C hw (hP4.mem (k := 21 + (j + 5)) (by omega)) (hP4.rh (r := (j + 5)) (by omega)) rfl) rfl rfl hl.1 rfl (lv_room (Nat.le_of_ble_eq_true rfl)) dX1_decode_40 ⟨(Nat.le_of_ble_eq_true rfl), (Nat.le_of_ble_eq_true rfl)⟩) hw hA (fun S25 H locs hpost hw => ?_)
        obtain ⟨hP27, hF28⟩ := hpost
        obtain ⟨V29, hV29⟩ : ∃ z : RV, z = (va_up Vx3.1 (j + 5) (min (Vx3.1 j) (gcap (j + 5))), Vx3.2) := ⟨_, rfl⟩
        rw [← hV29] at hP27
        have hT30 := hF5.trans hF28
        refine lv_aload hx hb dX1_decode_43 (lv_at hl 1 rfl) ?_
        refine lv_aload_n hx hb dX1_decode_45 rfl (lv_at hl 4 rfl) ?_
        refine lv_iload_n hx hb dX1_decode_46 rfl (lv_at hl 2 rfl) ?_
        refine lv_iconst (v := nI 1) hx hb dX1_decode_47 (by decide) ?_
        refine n_iadd hx hb dX1_decode_48 ?_
        obtain ⟨rq31, erq31, frq31⟩ := hP27.leq (L := 1) (by omega)
        refine p_callq (va_runV (As := [.int (nI (j + 1))]) (rest := [.ref (T (2 * j))]) C.fix (c_X4_at l D cy S25 H.size (G 10) (G (12 + 1)) (G (15 + 1)) (j + 1) (G (21 + (j + 1 + 5))) rq31 (hP27.mem (by omega)) (hP27.lev (L := 1) (by omega)) (hP27.mem (by omega)) erq31 (by omega) (frq31 (j + 1) (by omega))) (cwV 1 C.2.2.2.2.1 (gU_V mw_180 mw_112 mw_113 mw_25 sub_X4_at) rfl rfl rfl hdg_X1_decode1_V_1 ⟨Nat.le_of_ble_eq_true rfl, Nat.le_of_ble_eq_true rfl⟩) (p_preV C hw (hP27.mem (k := 9 + 1) (by omega)) (hP27.lev (L := 1) (by omega)) rfl) rfl rfl hl.1 rfl (lv_room (Nat.le_of_ble_eq_true rfl)) dX1_decode_49 ⟨(Nat.le_of_ble_eq_true rfl), (Nat.le_of_ble_eq_true rfl)⟩) hw hA (fun r33 S32 H locs hpost hw => ?_)
        obtain ⟨hr_, hS_⟩ := hpost
        subst hr_
        subst hS_
        refine lv_aload hx hb dX1_decode_52 (lv_at hl 0 rfl) ?_
        refine p_callv (v_decode C hw hl.1 hP27 (j := j) (by omega) (r1 := (j + 1 + 5)) (r2 := (j + 5)) (by omega) (by omega) (by omega) (by have e := dec_s (t := 5) (by omega) (by omega) (gcap5 (by omega)) hcap hV29; rw [e.2 (j + 1 + 5) (by omega), e.1, e.2 j (by omega), hs0, hsj.1]; exact hsz j (by omega)) mw_288 ⟨Nat.le_of_ble_eq_true rfl, Nat.le_of_ble_eq_true rfl⟩ ⟨(Nat.le_of_ble_eq_true rfl), (Nat.le_of_ble_eq_true rfl)⟩ (Nat.le_of_ble_eq_true rfl) dX1_decode_54) hw hA (fun S36 H locs hpost hw => ?_)
        obtain ⟨gg41, hgg41, hP38, hF39⟩ := hpost
        obtain ⟨V40, hV40⟩ : ∃ z : RV, z = (V29.1, va_up V29.2 (j + 5) gg41) := ⟨_, rfl⟩
        rw [← hV40] at hP38
        have hT42 := hT30.trans hF39
        refine lv_iinc (v := (nI j - nI 1)) (lv' := [(3, .int (nI j - nI 1)), (5, .ref (G (21 + (j + 5)))), (4, .ref (T (2 * j))), (0, .ref (G 1)), (1, .ref (G 10)), (2, .ref (G 9))]) hx hb dX1_decode_57 hl (k := 2) rfl (n_xdec _) (by decide) rfl (fun ls hl => ?_)
        refine lv_goto (tgt := 7) hx hb dX1_decode_60 (by decide) ?_
        have hb9 := dec_b (t := 5) (by omega) (by omega) (by omega) (gcap5 (by omega)) hcap hc hV29 hV40 hgg41
        exact ihloop7_1 j (by omega) S36 V40 H locs ls hP38 hT42 (by omega) hb9.1 (by rw [hb9.2.1]; exact hsj.1) (fun r hr => by obtain ⟨a1, a2⟩ := hb9.2.2 r (by omega); obtain ⟨b1, b2⟩ := hsam r hr; exact ⟨a1.trans b1, a2.trans b2⟩) hw (lv_sub hl [0, 3, 4, 5] rfl)
  exact loop7_1 (n + 1) n (by omega) S V s.heap [] ls hP Frm.id (Nat.le_refl _) (fun j h1 h2 => absurd h2 (by omega)) hzn (fun _ _ => ⟨rfl, rfl⟩) hw (lv_sub hl [0, 1, 2, 3] rfl)

theorem hdg_X1_decode2_V_0 : yX1_stageAt.cls = RX1 ∧ yX1_stageAt.cls ≠ "java/lang/invoke/MethodHandle" ∧ yX1_stageAt.cls ≠ "java/lang/invoke/VarHandle" ∧ (parseMethodDescriptor yX1_stageAt.desc).map (fun d => d.parameters.length) = some 1 := by decide +kernel
theorem hdg_X1_decode2_V_1 : yX4_at.cls = RX4 ∧ yX4_at.cls ≠ "java/lang/invoke/MethodHandle" ∧ yX4_at.cls ≠ "java/lang/invoke/VarHandle" ∧ (parseMethodDescriptor yX4_at.desc).map (fun d => d.parameters.length) = some 1 := by decide +kernel
theorem hdg_X1_decode2_V_2 : yX7_size.cls = RX7 ∧ yX7_size.cls ≠ "java/lang/invoke/MethodHandle" ∧ yX7_size.cls ≠ "java/lang/invoke/VarHandle" ∧ (parseMethodDescriptor yX7_size.desc).map (fun d => d.parameters.length) = some 0 := by decide +kernel
theorem hdg_X1_decode2_V_3 : yX7_resize.cls = RX7 ∧ yX7_resize.cls ≠ "java/lang/invoke/MethodHandle" ∧ yX7_resize.cls ≠ "java/lang/invoke/VarHandle" ∧ (parseMethodDescriptor yX7_resize.desc).map (fun d => d.parameters.length) = some 1 := by decide +kernel
set_option maxHeartbeats 4000000 in
set_option maxRecDepth 100000 in
/-- Chain.decode -/
theorem g_X1_decode2 (l : Launch) (D : va_G) (cy : Nat → ClassId) (S : pS) (sz : Nat) {G T : Nat → Nat} {n : Nat} {ws : Nat → WV} {l1 l2 : va_E} {V : RV} (hP : Pic cy S G T n ws l1 l2 V) (hsz : ∀ j, j < n → V.1 (j + 1) = sSize (ws j) (V.1 j)) (hzn : V.1 (n + 10) = V.1 n) : Met l yX1_decode (Cond.code yX1_decode cX1_decode 6 none :: lwU) ({ frames := 4, cells := 0, slots := 0, locals := 99 }) (pPc D cy S sz [.ref (G 1), .ref (G 11), .ref (G 9)]) (pQv D cy S sz (fun S' => ∃ V', Pic cy S' G T n ws l1 l2 V' ∧ Frm G S S' ∧ Dcd ws 10 0 n V' ∧ Sam (fun r => r < 10 ∨ n + 10 ≤ r) V V')) 0 0 (pA S sz) := by
  refine Met.ofW (cc := cX1_decode) (maxL := 6) (ret := none) (by decide) rfl ?_
  intro p e s m args below meth c s₁ B hml hv
  obtain ⟨rfl, rfl, C, hw, hA, hr, hlocks⟩ := p_start B hml hv
  have hx := C.1
  have hb := C.2.1
  have hl := lv_entry ([.ref (G 1), .ref (G 11), .ref (G 9)]) (n := 6) (Nat.le_of_ble_eq_true rfl)
  rw [lg_entry_eq]
  generalize (lg_sl ([.ref (G 1), .ref (G 11), .ref (G 9)]) ++ List.replicate (6 - (lg_sl ([.ref (G 1), .ref (G 11), .ref (G 9)])).length) Slot.unset).toArray = ls at hl ⊢
  have hl : lv_has ls 6 [(0, .ref (G 1)), (1, .ref (G 11)), (2, .ref (G 9))] := hl
  have hin_RX1 : ∀ w ∈ u_ws RX1 TX1 2, w ∈ (Cond.code yX1_decode cX1_decode 6 none :: lwU) := fun w h => mU (sub_RX1 w h)
  have hn4 := hP.n4
  refine lv_aload_n hx hb dX1_decode_0 rfl (lv_at hl 0 rfl) ?_
  refine p_get C hw (ci := 1) (Cn := RX1) (T := TX1) (N := 2) (hP.mem (k := 1) (by omega)) hP.c1 rfl hin_RX1 1 (by decide) (mU mw_38) rfl rfl dX1_decode_1 ?_
  refine lv_iconst (v := nI 1) hx hb dX1_decode_4 (by decide) ?_
  refine lv_isub hx hb dX1_decode_5 ?_
  refine lv_istore_n (lv' := [(3, .int ((nI n) - (nI 1))), (0, .ref (G 1)), (1, .ref (G 11)), (2, .ref (G 9))]) hx hb dX1_decode_6 rfl hl (by decide) rfl (fun ls hl => ?_)
  have loop7_1 : ∀ (kf : Nat) (i : Nat), i < kf → ∀ (Sx2 : pS) (Vx3 : RV) (H : Heap) (locs : List Loc) (ls : Array Slot), Pic cy Sx2 G T n ws l1 l2 Vx3 → Frm G S Sx2 → (i ≤ n) → (Dcd ws 10 i n Vx3) → (Vx3.1 (i + 10) = V.1 i) → (Sam (fun r => r < 10 ∨ n + 10 ≤ r) V Vx3) → pW D (pA S s.heap.size) s.heap Sx2 H locs → lv_has ls 6 [(3, .int (nI i - nI 1)), (0, .ref (G 1)), (1, .ref (G 11)), (2, .ref (G 9))] → W p l e (headSpec (Cond.code yX1_decode cX1_decode 6 none :: lwU) ({ frames := 4, cells := 0, slots := 0, locals := 99 } : Room)).room s m ([.ref (G 1), .ref (G 11), .ref (G 9)]).toArray below meth c H locs 0 0 (MQ below (pQv D cy S s.heap.size (fun S' => ∃ V', Pic cy S' G T n ws l1 l2 V' ∧ Frm G S S' ∧ Dcd ws 10 0 n V' ∧ Sam (fun r => r < 10 ∨ n + 10 ≤ r) V V')) ([.ref (G 1), .ref (G 11), .ref (G 9)]).toArray s 0 0 (pA S s.heap.size)) (F0 m 7 ls []) := by
    intro kf
    induction kf with
    | zero => intro i hm; exact absurd hm (Nat.not_lt_zero _)
    | succ kf ihloop7_1 =>
      intro i hm Sx2 Vx3 H locs ls hP4 hF5 hi hc hs0 hsam hw hl
      refine lv_iload_n hx hb dX1_decode_7 rfl (lv_at hl 0 rfl) ?_
      refine lv_if_lt (tgt := 63) hx hb dX1_decode_8 (by decide) (fun h_8 => ?_) (fun h_8 => ?_)
      · skip
        have hi0 : i = 0 := xneg (by omega) h_8
        subst hi0
        exact (p_vret C hw ⟨Vx3, hP4, hF5, hc, hsam⟩ hr hlocks dX1_decode_63)
      · skip
        obtain ⟨j, rfl⟩ := xpos h_8
        rw [xsub1] at hl
        have hsj := hsam j (Or.inl (by omega))
        have hcap := hP4.rn (r := j) (by omega)
        refine lv_aload_n hx hb dX1_decode_11 rfl (lv_at hl 1 rfl) ?_
        refine lv_iload_n hx hb dX1_decode_12 rfl (lv_at hl 0 rfl) ?_
        obtain ⟨lq6, elq6, flq6⟩ := hP4.c2
        refine p_callq (va_runV (As := [.int (nI j)]) (rest := []) C.fix (c_X1_stageAt l D cy Sx2 H.size (G 1) (G 2) n lq6 (nI j) (hP4.mem (by omega)) hP4.c1 (hP4.mem (by omega)) elq6 hP4.n4) (cwV 1 C.2.2.2.2.1 (gU_V mw_123 mw_124 mw_125 mw_12 sub_X1_stageAt) rfl rfl rfl hdg_X1_decode2_V_0 ⟨Nat.le_of_ble_eq_true rfl, Nat.le_of_ble_eq_true rfl⟩) (p_preV C hw (hP4.mem (k := 1) (by omega)) hP4.c1 rfl) rfl rfl hl.1 rfl (lv_room (Nat.le_of_ble_eq_true rfl)) dX1_decode_13 ⟨(Nat.le_of_ble_eq_true rfl), (Nat.le_of_ble_eq_true rfl)⟩) hw hA (fun r8 S7 H locs hpost hw => ?_)
        obtain ⟨hr_, hS_⟩ := hpost
        rw [stq_in (j := j) (by omega) (by omega), flq6 j (by omega)] at hr_
        subst hr_
        subst hS_
        refine lv_astore (lv' := [(4, .ref (T (2 * j))), (3, .int (nI j)), (0, .ref (G 1)), (1, .ref (G 11)), (2, .ref (G 9))]) hx hb dX1_decode_16 hl (by decide) rfl (fun ls hl => ?_)
        refine lv_aload hx hb dX1_decode_18 (lv_at hl 0 rfl) ?_
        refine lv_ifnull hx hb dX1_decode_20 ?_
        refine lv_aload_n hx hb dX1_decode_23 rfl (lv_at hl 3 rfl) ?_
        refine lv_iload_n hx hb dX1_decode_24 rfl (lv_at hl 1 rfl) ?_
        obtain ⟨rq11, erq11, frq11⟩ := hP4.leq (L := 2) (by omega)
        refine p_callq (va_runV (As := [.int (nI j)]) (rest := []) C.fix (c_X4_at l D cy Sx2 H.size (G 11) (G (12 + 2)) (G (15 + 2)) j (G (21 + (j + 10))) rq11 (hP4.mem (by omega)) (hP4.lev (L := 2) (by omega)) (hP4.mem (by omega)) erq11 (by omega) (frq11 j (by omega))) (cwV 1 C.2.2.2.2.1 (gU_V mw_180 mw_112 mw_113 mw_25 sub_X4_at) rfl rfl rfl hdg_X1_decode2_V_1 ⟨Nat.le_of_ble_eq_true rfl, Nat.le_of_ble_eq_true rfl⟩) (p_preV C hw (hP4.mem (k := 9 + 2) (by omega)) (hP4.lev (L := 2) (by omega)) rfl) rfl rfl hl.1 rfl (lv_room (Nat.le_of_ble_eq_true rfl)) dX1_decode_25 ⟨(Nat.le_of_ble_eq_true rfl), (Nat.le_of_ble_eq_true rfl)⟩) hw hA (fun r13 S12 H locs hpost hw => ?_)
        obtain ⟨hr_, hS_⟩ := hpost
        subst hr_
        subst hS_
        refine lv_astore (lv' := [(5, .ref (G (21 + (j + 10)))), (4, .ref (T (2 * j))), (3, .int (nI j)), (0, .ref (G 1)), (1, .ref (G 11)), (2, .ref (G 9))]) hx hb dX1_decode_28 hl (by decide) rfl (fun ls hl => ?_)
        refine lv_aload hx hb dX1_decode_30 (lv_at hl 0 rfl) ?_
        refine lv_aload_n hx hb dX1_decode_32 rfl (lv_at hl 5 rfl) ?_
        refine lv_iload_n hx hb dX1_decode_33 rfl (lv_at hl 2 rfl) ?_
        obtain ⟨rq16, erq16, frq16⟩ := hP4.leq (L := 0) (by omega)
        refine p_callq (va_runV (As := [.int (nI j)]) (rest := [.ref (G (21 + (j + 10)))]) C.fix (c_X4_at l D cy Sx2 H.size (G 9) (G (12 + 0)) (G (15 + 0)) j (G (21 + j)) rq16 (hP4.mem (by omega)) (hP4.lev (L := 0) (by omega)) (hP4.mem (by omega)) erq16 (by omega) (frq16 j (by omega))) (cwV 1 C.2.2.2.2.1 (gU_V mw_180 mw_112 mw_113 mw_25 sub_X4_at) rfl rfl rfl hdg_X1_decode2_V_1 ⟨Nat.le_of_ble_eq_true rfl, Nat.le_of_ble_eq_true rfl⟩) (p_preV C hw (hP4.mem (k := 9 + 0) (by omega)) (hP4.lev (L := 0) (by omega)) rfl) rfl rfl hl.1 rfl (lv_room (Nat.le_of_ble_eq_true rfl)) dX1_decode_34 ⟨(Nat.le_of_ble_eq_true rfl), (Nat.le_of_ble_eq_true rfl)⟩) hw hA (fun r18 S17 H locs hpost hw => ?_)
        obtain ⟨hr_, hS_⟩ := hpost
        subst hr_
        subst hS_
        refine p_calli (va_runV (As := []) (rest := [.ref (G (21 + (j + 10)))]) C.fix (c_X7_size l D cy Sx2 H.size (G (21 + j)) (G (37 + j)) (Vx3.1 j) (hP4.mem (by omega)) (hP4.rh (r := j) (by omega))) (cwV 0 C.2.2.2.2.1 (gU_V mw_181 mw_116 mw_117 mw_21 sub_X7_size) rfl rfl rfl hdg_X1_decode2_V_2 ⟨Nat.le_of_ble_eq_true rfl, Nat.le_of_ble_eq_true rfl⟩) (p_preV C hw (hP4.mem (k := 21 + j) (by omega)) (hP4.rh (r := j) (by omega)) rfl) rfl rfl hl.1 rfl (lv_room (Nat.le_of_ble_eq_true rfl)) dX1_decode_37 ⟨(Nat.le_of_ble_eq_true rfl), (Nat.le_of_ble_eq_true rfl)⟩) hw hA (fun r22 S21 H locs hpost hw => ?_)
        obtain ⟨hr_, hS_⟩ := hpost
        subst hr_
        subst hS_
        refine p_callv (va_runV (As := [.int (nI (Vx3.1 j))]) (rest := []) C.fix (q_resize l D cy Sx2 H.size hP4 (j + 10) (Vx3.1 j) (by omega) (by have := hP4.r320 (r := j) (by omega); omega)) (cwV 1 C.2.2.2.2.1 (gU_V mw_182 mw_57 mw_58 mw_21 sub_X7_resize) rfl rfl rfl hdg_X1_decode2_V_3 ⟨Nat.le_of_ble_eq_true rfl, Nat.le_of_ble_eq_true rfl⟩) (p_preV C hw (hP4.mem (k := 21 + (j + 10)) (by omega)) (hP4.rh (r := (j + 10)) (by omega)) rfl) rfl rfl hl.1 rfl (lv_room (Nat.le_of_ble_eq_true rfl)) dX1_decode_40 ⟨(Nat.le_of_ble_eq_true rfl), (Nat.le_of_ble_eq_true rfl)⟩) hw hA (fun S25 H locs hpost hw => ?_)
        obtain ⟨hP27, hF28⟩ := hpost
        obtain ⟨V29, hV29⟩ : ∃ z : RV, z = (va_up Vx3.1 (j + 10) (min (Vx3.1 j) (gcap (j + 10))), Vx3.2) := ⟨_, rfl⟩
        rw [← hV29] at hP27
        have hT30 := hF5.trans hF28
        refine lv_aload hx hb dX1_decode_43 (lv_at hl 1 rfl) ?_
        refine lv_aload_n hx hb dX1_decode_45 rfl (lv_at hl 4 rfl) ?_
        refine lv_iload_n hx hb dX1_decode_46 rfl (lv_at hl 2 rfl) ?_
        refine lv_iconst (v := nI 1) hx hb dX1_decode_47 (by decide) ?_
        refine n_iadd hx hb dX1_decode_48 ?_
        obtain ⟨rq31, erq31, frq31⟩ := hP27.leq (L := 2) (by omega)
        refine p_callq (va_runV (As := [.int (nI (j + 1))]) (rest := [.ref (T (2 * j))]) C.fix (c_X4_at l D cy S25 H.size (G 11) (G (12 + 2)) (G (15 + 2)) (j + 1) (G (21 + (j + 1 + 10))) rq31 (hP27.mem (by omega)) (hP27.lev (L := 2) (by omega)) (hP27.mem (by omega)) erq31 (by omega) (frq31 (j + 1) (by omega))) (cwV 1 C.2.2.2.2.1 (gU_V mw_180 mw_112 mw_113 mw_25 sub_X4_at) rfl rfl rfl hdg_X1_decode2_V_1 ⟨Nat.le_of_ble_eq_true rfl, Nat.le_of_ble_eq_true rfl⟩) (p_preV C hw (hP27.mem (k := 9 + 2) (by omega)) (hP27.lev (L := 2) (by omega)) rfl) rfl rfl hl.1 rfl (lv_room (Nat.le_of_ble_eq_true rfl)) dX1_decode_49 ⟨(Nat.le_of_ble_eq_true rfl), (Nat.le_of_ble_eq_true rfl)⟩) hw hA (fun r33 S32 H locs hpost hw => ?_)
        obtain ⟨hr_, hS_⟩ := hpost
        subst hr_
        subst hS_
        refine lv_aload hx hb dX1_decode_52 (lv_at hl 0 rfl) ?_
        refine p_callv (v_decode C hw hl.1 hP27 (j := j) (by omega) (r1 := (j + 1 + 10)) (r2 := (j + 10)) (by omega) (by omega) (by omega) (by have e := dec_s (t := 10) (by omega) (by omega) (gcap10 (by omega)) hcap hV29; rw [e.2 (j + 1 + 10) (by omega), e.1, e.2 j (by omega), hs0, hsj.1]; exact hsz j (by omega)) mw_288 ⟨Nat.le_of_ble_eq_true rfl, Nat.le_of_ble_eq_true rfl⟩ ⟨(Nat.le_of_ble_eq_true rfl), (Nat.le_of_ble_eq_true rfl)⟩ (Nat.le_of_ble_eq_true rfl) dX1_decode_54) hw hA (fun S36 H locs hpost hw => ?_)
        obtain ⟨gg41, hgg41, hP38, hF39⟩ := hpost
        obtain ⟨V40, hV40⟩ : ∃ z : RV, z = (V29.1, va_up V29.2 (j + 10) gg41) := ⟨_, rfl⟩
        rw [← hV40] at hP38
        have hT42 := hT30.trans hF39
        refine lv_iinc (v := (nI j - nI 1)) (lv' := [(3, .int (nI j - nI 1)), (5, .ref (G (21 + (j + 10)))), (4, .ref (T (2 * j))), (0, .ref (G 1)), (1, .ref (G 11)), (2, .ref (G 9))]) hx hb dX1_decode_57 hl (k := 2) rfl (n_xdec _) (by decide) rfl (fun ls hl => ?_)
        refine lv_goto (tgt := 7) hx hb dX1_decode_60 (by decide) ?_
        have hb9 := dec_b (t := 10) (by omega) (by omega) (by omega) (gcap10 (by omega)) hcap hc hV29 hV40 hgg41
        exact ihloop7_1 j (by omega) S36 V40 H locs ls hP38 hT42 (by omega) hb9.1 (by rw [hb9.2.1]; exact hsj.1) (fun r hr => by obtain ⟨a1, a2⟩ := hb9.2.2 r (by omega); obtain ⟨b1, b2⟩ := hsam r hr; exact ⟨a1.trans b1, a2.trans b2⟩) hw (lv_sub hl [0, 3, 4, 5] rfl)
  exact loop7_1 (n + 1) n (by omega) S V s.heap [] ls hP Frm.id (Nat.le_refl _) (fun j h1 h2 => absurd h2 (by omega)) hzn (fun _ _ => ⟨rfl, rfl⟩) hw (lv_sub hl [0, 1, 2, 3] rfl)

theorem hdg_X11_last0_V_0 : yX1_count.cls = RX1 ∧ yX1_count.cls ≠ "java/lang/invoke/MethodHandle" ∧ yX1_count.cls ≠ "java/lang/invoke/VarHandle" ∧ (parseMethodDescriptor yX1_count.desc).map (fun d => d.parameters.length) = some 0 := by decide +kernel
theorem hdg_X11_last0_V_1 : yX4_at.cls = RX4 ∧ yX4_at.cls ≠ "java/lang/invoke/MethodHandle" ∧ yX4_at.cls ≠ "java/lang/invoke/VarHandle" ∧ (parseMethodDescriptor yX4_at.desc).map (fun d => d.parameters.length) = some 1 := by decide +kernel
set_option maxHeartbeats 4000000 in
set_option maxRecDepth 100000 in
/-- last -/
theorem g_X11_last0 (l : Launch) (D : va_G) (cy : Nat → ClassId) (S : pS) (sz : Nat) {G T : Nat → Nat} {n : Nat} {ws : Nat → WV} {l1 l2 : va_E} {V : RV} (hP : Pic cy S G T n ws l1 l2 V)  : Met l yX11_last (Cond.code yX11_last cX11_last 2 (some (.object "SoundingLine$Row")) :: lwU) ({ frames := 1, cells := 0, slots := 0, locals := 22 }) (pPc D cy S sz [.ref (G 0), .ref (G 9)]) (pQq D cy S sz (fun r S' => r = some (G (21 + n)) ∧ S = S')) 0 0 (pA S sz) := by
  refine Met.ofW (cc := cX11_last) (maxL := 2) (ret := (some (.object "SoundingLine$Row"))) (by decide) rfl ?_
  intro p e s m args below meth c s₁ B hml hv
  obtain ⟨rfl, rfl, C, hw, hA, hr, hlocks⟩ := p_start B hml hv
  have hx := C.1
  have hb := C.2.1
  have hl := lv_entry ([.ref (G 0), .ref (G 9)]) (n := 2) (Nat.le_of_ble_eq_true rfl)
  rw [lg_entry_eq]
  generalize (lg_sl ([.ref (G 0), .ref (G 9)]) ++ List.replicate (2 - (lg_sl ([.ref (G 0), .ref (G 9)])).length) Slot.unset).toArray = ls at hl ⊢
  have hl : lv_has ls 2 [(0, .ref (G 0)), (1, .ref (G 9))] := hl
  have hin_RX11 : ∀ w ∈ u_ws RX11 TX11 8, w ∈ (Cond.code yX11_last cX11_last 2 (some (.object "SoundingLine$Row")) :: lwU) := fun w h => mU (sub_RX11 w h)
  have hn4 := hP.n4
  refine lv_aload_n hx hb dX11_last_0 rfl (lv_at hl 1 rfl) ?_
  refine lv_aload_n hx hb dX11_last_1 rfl (lv_at hl 0 rfl) ?_
  refine p_get C hw (ci := 10) (Cn := RX11) (T := TX11) (N := 8) (hP.mem (k := 0) (by omega)) hP.c0 rfl hin_RX11 0 (by decide) (mU mw_13) rfl rfl dX11_last_2 ?_
  refine p_calli (va_runV (As := []) (rest := [.ref (G 9)]) C.fix (c_X1_count l D cy S s.heap.size (G 1) (G 2) n (hP.mem (by omega)) hP.c1) (cwV 0 C.2.2.2.2.1 (gU_V mw_245 mw_246 mw_247 mw_12 sub_X1_count) rfl rfl rfl hdg_X11_last0_V_0 ⟨Nat.le_of_ble_eq_true rfl, Nat.le_of_ble_eq_true rfl⟩) (p_preV C hw (hP.mem (k := 1) (by omega)) hP.c1 rfl) rfl rfl hl.1 rfl (lv_room (Nat.le_of_ble_eq_true rfl)) dX11_last_5 ⟨(Nat.le_of_ble_eq_true rfl), (Nat.le_of_ble_eq_true rfl)⟩) hw hA (fun r2 S1 H locs hpost hw => ?_)
  obtain ⟨hr_, hS_⟩ := hpost
  subst hr_
  subst hS_
  obtain ⟨rq5, erq5, frq5⟩ := hP.leq (L := 0) (by omega)
  refine p_callq (va_runV (As := [.int (nI n)]) (rest := []) C.fix (c_X4_at l D cy S H.size (G 9) (G (12 + 0)) (G (15 + 0)) n (G (21 + n)) rq5 (hP.mem (by omega)) (hP.lev (L := 0) (by omega)) (hP.mem (by omega)) erq5 (by omega) (frq5 n (by omega))) (cwV 1 C.2.2.2.2.1 (gU_V mw_111 mw_112 mw_113 mw_25 sub_X4_at) rfl rfl rfl hdg_X11_last0_V_1 ⟨Nat.le_of_ble_eq_true rfl, Nat.le_of_ble_eq_true rfl⟩) (p_preV C hw (hP.mem (k := 9 + 0) (by omega)) (hP.lev (L := 0) (by omega)) rfl) rfl rfl hl.1 rfl (lv_room (Nat.le_of_ble_eq_true rfl)) dX11_last_8 ⟨(Nat.le_of_ble_eq_true rfl), (Nat.le_of_ble_eq_true rfl)⟩) hw hA (fun r7 S6 H locs hpost hw => ?_)
  obtain ⟨hr_, hS_⟩ := hpost
  subst hr_
  subst hS_
  exact (p_qret C hw (v := some (G (21 + n))) ⟨rfl, rfl⟩ hr (by first | exact Or.inl ⟨_, rfl⟩ | exact Or.inr ⟨_, rfl⟩) hlocks dX11_last_11)

theorem hdg_X11_last1_V_0 : yX1_count.cls = RX1 ∧ yX1_count.cls ≠ "java/lang/invoke/MethodHandle" ∧ yX1_count.cls ≠ "java/lang/invoke/VarHandle" ∧ (parseMethodDescriptor yX1_count.desc).map (fun d => d.parameters.length) = some 0 := by decide +kernel
theorem hdg_X11_last1_V_1 : yX4_at.cls = RX4 ∧ yX4_at.cls ≠ "java/lang/invoke/MethodHandle" ∧ yX4_at.cls ≠ "java/lang/invoke/VarHandle" ∧ (parseMethodDescriptor yX4_at.desc).map (fun d => d.parameters.length) = some 1 := by decide +kernel
set_option maxHeartbeats 4000000 in
set_option maxRecDepth 100000 in
/-- last -/
theorem g_X11_last1 (l : Launch) (D : va_G) (cy : Nat → ClassId) (S : pS) (sz : Nat) {G T : Nat → Nat} {n : Nat} {ws : Nat → WV} {l1 l2 : va_E} {V : RV} (hP : Pic cy S G T n ws l1 l2 V)  : Met l yX11_last (Cond.code yX11_last cX11_last 2 (some (.object "SoundingLine$Row")) :: lwU) ({ frames := 1, cells := 0, slots := 0, locals := 22 }) (pPc D cy S sz [.ref (G 0), .ref (G 10)]) (pQq D cy S sz (fun r S' => r = some (G (21 + (n + 5))) ∧ S = S')) 0 0 (pA S sz) := by
  refine Met.ofW (cc := cX11_last) (maxL := 2) (ret := (some (.object "SoundingLine$Row"))) (by decide) rfl ?_
  intro p e s m args below meth c s₁ B hml hv
  obtain ⟨rfl, rfl, C, hw, hA, hr, hlocks⟩ := p_start B hml hv
  have hx := C.1
  have hb := C.2.1
  have hl := lv_entry ([.ref (G 0), .ref (G 10)]) (n := 2) (Nat.le_of_ble_eq_true rfl)
  rw [lg_entry_eq]
  generalize (lg_sl ([.ref (G 0), .ref (G 10)]) ++ List.replicate (2 - (lg_sl ([.ref (G 0), .ref (G 10)])).length) Slot.unset).toArray = ls at hl ⊢
  have hl : lv_has ls 2 [(0, .ref (G 0)), (1, .ref (G 10))] := hl
  have hin_RX11 : ∀ w ∈ u_ws RX11 TX11 8, w ∈ (Cond.code yX11_last cX11_last 2 (some (.object "SoundingLine$Row")) :: lwU) := fun w h => mU (sub_RX11 w h)
  have hn4 := hP.n4
  refine lv_aload_n hx hb dX11_last_0 rfl (lv_at hl 1 rfl) ?_
  refine lv_aload_n hx hb dX11_last_1 rfl (lv_at hl 0 rfl) ?_
  refine p_get C hw (ci := 10) (Cn := RX11) (T := TX11) (N := 8) (hP.mem (k := 0) (by omega)) hP.c0 rfl hin_RX11 0 (by decide) (mU mw_13) rfl rfl dX11_last_2 ?_
  refine p_calli (va_runV (As := []) (rest := [.ref (G 10)]) C.fix (c_X1_count l D cy S s.heap.size (G 1) (G 2) n (hP.mem (by omega)) hP.c1) (cwV 0 C.2.2.2.2.1 (gU_V mw_245 mw_246 mw_247 mw_12 sub_X1_count) rfl rfl rfl hdg_X11_last1_V_0 ⟨Nat.le_of_ble_eq_true rfl, Nat.le_of_ble_eq_true rfl⟩) (p_preV C hw (hP.mem (k := 1) (by omega)) hP.c1 rfl) rfl rfl hl.1 rfl (lv_room (Nat.le_of_ble_eq_true rfl)) dX11_last_5 ⟨(Nat.le_of_ble_eq_true rfl), (Nat.le_of_ble_eq_true rfl)⟩) hw hA (fun r2 S1 H locs hpost hw => ?_)
  obtain ⟨hr_, hS_⟩ := hpost
  subst hr_
  subst hS_
  obtain ⟨rq5, erq5, frq5⟩ := hP.leq (L := 1) (by omega)
  refine p_callq (va_runV (As := [.int (nI n)]) (rest := []) C.fix (c_X4_at l D cy S H.size (G 10) (G (12 + 1)) (G (15 + 1)) n (G (21 + (n + 5))) rq5 (hP.mem (by omega)) (hP.lev (L := 1) (by omega)) (hP.mem (by omega)) erq5 (by omega) (frq5 n (by omega))) (cwV 1 C.2.2.2.2.1 (gU_V mw_111 mw_112 mw_113 mw_25 sub_X4_at) rfl rfl rfl hdg_X11_last1_V_1 ⟨Nat.le_of_ble_eq_true rfl, Nat.le_of_ble_eq_true rfl⟩) (p_preV C hw (hP.mem (k := 9 + 1) (by omega)) (hP.lev (L := 1) (by omega)) rfl) rfl rfl hl.1 rfl (lv_room (Nat.le_of_ble_eq_true rfl)) dX11_last_8 ⟨(Nat.le_of_ble_eq_true rfl), (Nat.le_of_ble_eq_true rfl)⟩) hw hA (fun r7 S6 H locs hpost hw => ?_)
  obtain ⟨hr_, hS_⟩ := hpost
  subst hr_
  subst hS_
  exact (p_qret C hw (v := some (G (21 + (n + 5)))) ⟨rfl, rfl⟩ hr (by first | exact Or.inl ⟨_, rfl⟩ | exact Or.inr ⟨_, rfl⟩) hlocks dX11_last_11)

theorem hdg_X11_last2_V_0 : yX1_count.cls = RX1 ∧ yX1_count.cls ≠ "java/lang/invoke/MethodHandle" ∧ yX1_count.cls ≠ "java/lang/invoke/VarHandle" ∧ (parseMethodDescriptor yX1_count.desc).map (fun d => d.parameters.length) = some 0 := by decide +kernel
theorem hdg_X11_last2_V_1 : yX4_at.cls = RX4 ∧ yX4_at.cls ≠ "java/lang/invoke/MethodHandle" ∧ yX4_at.cls ≠ "java/lang/invoke/VarHandle" ∧ (parseMethodDescriptor yX4_at.desc).map (fun d => d.parameters.length) = some 1 := by decide +kernel
set_option maxHeartbeats 4000000 in
set_option maxRecDepth 100000 in
/-- last -/
theorem g_X11_last2 (l : Launch) (D : va_G) (cy : Nat → ClassId) (S : pS) (sz : Nat) {G T : Nat → Nat} {n : Nat} {ws : Nat → WV} {l1 l2 : va_E} {V : RV} (hP : Pic cy S G T n ws l1 l2 V)  : Met l yX11_last (Cond.code yX11_last cX11_last 2 (some (.object "SoundingLine$Row")) :: lwU) ({ frames := 1, cells := 0, slots := 0, locals := 22 }) (pPc D cy S sz [.ref (G 0), .ref (G 11)]) (pQq D cy S sz (fun r S' => r = some (G (21 + (n + 10))) ∧ S = S')) 0 0 (pA S sz) := by
  refine Met.ofW (cc := cX11_last) (maxL := 2) (ret := (some (.object "SoundingLine$Row"))) (by decide) rfl ?_
  intro p e s m args below meth c s₁ B hml hv
  obtain ⟨rfl, rfl, C, hw, hA, hr, hlocks⟩ := p_start B hml hv
  have hx := C.1
  have hb := C.2.1
  have hl := lv_entry ([.ref (G 0), .ref (G 11)]) (n := 2) (Nat.le_of_ble_eq_true rfl)
  rw [lg_entry_eq]
  generalize (lg_sl ([.ref (G 0), .ref (G 11)]) ++ List.replicate (2 - (lg_sl ([.ref (G 0), .ref (G 11)])).length) Slot.unset).toArray = ls at hl ⊢
  have hl : lv_has ls 2 [(0, .ref (G 0)), (1, .ref (G 11))] := hl
  have hin_RX11 : ∀ w ∈ u_ws RX11 TX11 8, w ∈ (Cond.code yX11_last cX11_last 2 (some (.object "SoundingLine$Row")) :: lwU) := fun w h => mU (sub_RX11 w h)
  have hn4 := hP.n4
  refine lv_aload_n hx hb dX11_last_0 rfl (lv_at hl 1 rfl) ?_
  refine lv_aload_n hx hb dX11_last_1 rfl (lv_at hl 0 rfl) ?_
  refine p_get C hw (ci := 10) (Cn := RX11) (T := TX11) (N := 8) (hP.mem (k := 0) (by omega)) hP.c0 rfl hin_RX11 0 (by decide) (mU mw_13) rfl rfl dX11_last_2 ?_
  refine p_calli (va_runV (As := []) (rest := [.ref (G 11)]) C.fix (c_X1_count l D cy S s.heap.size (G 1) (G 2) n (hP.mem (by omega)) hP.c1) (cwV 0 C.2.2.2.2.1 (gU_V mw_245 mw_246 mw_247 mw_12 sub_X1_count) rfl rfl rfl hdg_X11_last2_V_0 ⟨Nat.le_of_ble_eq_true rfl, Nat.le_of_ble_eq_true rfl⟩) (p_preV C hw (hP.mem (k := 1) (by omega)) hP.c1 rfl) rfl rfl hl.1 rfl (lv_room (Nat.le_of_ble_eq_true rfl)) dX11_last_5 ⟨(Nat.le_of_ble_eq_true rfl), (Nat.le_of_ble_eq_true rfl)⟩) hw hA (fun r2 S1 H locs hpost hw => ?_)
  obtain ⟨hr_, hS_⟩ := hpost
  subst hr_
  subst hS_
  obtain ⟨rq5, erq5, frq5⟩ := hP.leq (L := 2) (by omega)
  refine p_callq (va_runV (As := [.int (nI n)]) (rest := []) C.fix (c_X4_at l D cy S H.size (G 11) (G (12 + 2)) (G (15 + 2)) n (G (21 + (n + 10))) rq5 (hP.mem (by omega)) (hP.lev (L := 2) (by omega)) (hP.mem (by omega)) erq5 (by omega) (frq5 n (by omega))) (cwV 1 C.2.2.2.2.1 (gU_V mw_111 mw_112 mw_113 mw_25 sub_X4_at) rfl rfl rfl hdg_X11_last2_V_1 ⟨Nat.le_of_ble_eq_true rfl, Nat.le_of_ble_eq_true rfl⟩) (p_preV C hw (hP.mem (k := 9 + 2) (by omega)) (hP.lev (L := 2) (by omega)) rfl) rfl rfl hl.1 rfl (lv_room (Nat.le_of_ble_eq_true rfl)) dX11_last_8 ⟨(Nat.le_of_ble_eq_true rfl), (Nat.le_of_ble_eq_true rfl)⟩) hw hA (fun r7 S6 H locs hpost hw => ?_)
  obtain ⟨hr_, hS_⟩ := hpost
  subst hr_
  subst hS_
  exact (p_qret C hw (v := some (G (21 + (n + 10)))) ⟨rfl, rfl⟩ hr (by first | exact Or.inl ⟨_, rfl⟩ | exact Or.inr ⟨_, rfl⟩) hlocks dX11_last_11)

theorem hdg_X11_send1_V_0 : yX11_last.cls = RX11 ∧ yX11_last.cls ≠ "java/lang/invoke/MethodHandle" ∧ yX11_last.cls ≠ "java/lang/invoke/VarHandle" ∧ (parseMethodDescriptor yX11_last.desc).map (fun d => d.parameters.length) = some 1 := by decide +kernel
theorem hdg_X11_send1_V_1 : yX7_copy.cls = RX7 ∧ yX7_copy.cls ≠ "java/lang/invoke/MethodHandle" ∧ yX7_copy.cls ≠ "java/lang/invoke/VarHandle" ∧ (parseMethodDescriptor yX7_copy.desc).map (fun d => d.parameters.length) = some 1 := by decide +kernel
theorem hdg_X11_send1_V_2 : yX5_harm.cls = RX5 ∧ yX5_harm.cls ≠ "java/lang/invoke/MethodHandle" ∧ yX5_harm.cls ≠ "java/lang/invoke/VarHandle" ∧ (parseMethodDescriptor yX5_harm.desc).map (fun d => d.parameters.length) = some 1 := by decide +kernel
theorem hdg_X11_send1_V_3 : yX7_turnWhere.cls = RX7 ∧ yX7_turnWhere.cls ≠ "java/lang/invoke/MethodHandle" ∧ yX7_turnWhere.cls ≠ "java/lang/invoke/VarHandle" ∧ (parseMethodDescriptor yX7_turnWhere.desc).map (fun d => d.parameters.length) = some 1 := by decide +kernel
set_option maxHeartbeats 4000000 in
set_option maxRecDepth 100000 in
/-- send -/
theorem g_X11_send1 (l : Launch) (D : va_G) (cy : Nat → ClassId) (S : pS) (sz : Nat) {G T : Nat → Nat} {n : Nat} {ws : Nat → WV} {l2 : va_E} {V : RV} {k0 : Nat} {fa fb fc : Int32} (hP : Pic cy S G T n ws (.inr (5, [.int (nI k0), .int fa, .int fb, .int fc])) l2 V) (ya yb yc : Nat) (hk : k0 ≤ 3) (ha : ya < 2 ^ 30) (hbb : yb < 2 ^ 30) (hcc : yc < 2 ^ 30) (h2 : k0 = 2 → fa = nI ya ∧ fb = nI yb ∧ fc = nI yc) (h13 : k0 = 1 ∨ k0 = 3 → fa = nI ya ∧ fb = nI yb) : Met l yX11_send (Cond.code yX11_send cX11_send 4 none :: lwU) ({ frames := 4, cells := 0, slots := 0, locals := 88 }) (pPc D cy S sz [.ref (G 0), .ref (G 3), .ref (G 10)]) (pQv D cy S sz (fun S' => ∃ V', Pic cy S' G T n ws (.inr (5, [.int (nI k0), .int fa, .int fb, .int fc])) l2 V' ∧ Frm G S S' ∧ V'.1 (n + 5) = V.1 n ∧ (∀ q, q < V.1 n → V'.2 (n + 5) q = sArr k0 ya yb yc (V.2 15) (V.1 n) (V.2 n) q) ∧ ∀ r', r' ≠ n + 5 → V'.1 r' = V.1 r' ∧ V'.2 r' = V.2 r')) 0 0 (pA S sz) := by
  refine Met.ofW (cc := cX11_send) (maxL := 4) (ret := none) (by decide) rfl ?_
  intro p e s m args below meth c s₁ B hml hv
  obtain ⟨rfl, rfl, C, hw, hA, hr, hlocks⟩ := p_start B hml hv
  have hx := C.1
  have hb := C.2.1
  have hl := lv_entry ([.ref (G 0), .ref (G 3), .ref (G 10)]) (n := 4) (Nat.le_of_ble_eq_true rfl)
  rw [lg_entry_eq]
  generalize (lg_sl ([.ref (G 0), .ref (G 3), .ref (G 10)]) ++ List.replicate (4 - (lg_sl ([.ref (G 0), .ref (G 3), .ref (G 10)])).length) Slot.unset).toArray = ls at hl ⊢
  have hl : lv_has ls 4 [(0, .ref (G 0)), (1, .ref (G 3)), (2, .ref (G 10))] := hl
  have hin_RX11 : ∀ w ∈ u_ws RX11 TX11 8, w ∈ (Cond.code yX11_send cX11_send 4 none :: lwU) := fun w h => mU (sub_RX11 w h)
  have hn4 := hP.n4
  refine lv_aload_n hx hb dX11_send_0 rfl (lv_at hl 0 rfl) ?_
  refine lv_aload_n hx hb dX11_send_1 rfl (lv_at hl 2 rfl) ?_
  refine p_callq (va_runV (As := [.ref (G 10)]) (rest := []) C.fix (g_X11_last1 l D cy S s.heap.size hP) (cwV 1 C.2.2.2.2.1 (gU_V mw_241 mw_242 mw_243 mw_2 (subU mw_244)) rfl rfl rfl hdg_X11_send1_V_0 ⟨Nat.le_of_ble_eq_true rfl, Nat.le_of_ble_eq_true rfl⟩) (p_preV C hw (hP.mem (k := 0) (by omega)) hP.c0 rfl) rfl rfl hl.1 rfl (lv_room (Nat.le_of_ble_eq_true rfl)) dX11_send_2 ⟨(Nat.le_of_ble_eq_true rfl), (Nat.le_of_ble_eq_true rfl)⟩) hw hA (fun r2 S1 H locs hpost hw => ?_)
  obtain ⟨hr_, hS_⟩ := hpost
  subst hr_
  subst hS_
  refine lv_astore_n (lv' := [(3, .ref (G (21 + (n + 5)))), (0, .ref (G 0)), (1, .ref (G 3)), (2, .ref (G 10))]) hx hb dX11_send_5 rfl hl (by decide) rfl (fun ls hl => ?_)
  refine lv_aload_n hx hb dX11_send_6 rfl (lv_at hl 0 rfl) ?_
  refine lv_aload_n hx hb dX11_send_7 rfl (lv_at hl 1 rfl) ?_
  refine lv_aload_n hx hb dX11_send_8 rfl (lv_at hl 1 rfl) ?_
  refine p_get C hw (ci := 10) (Cn := RX11) (T := TX11) (N := 8) (hP.mem (k := 0) (by omega)) hP.c0 rfl hin_RX11 4 (by decide) (mU mw_26) rfl rfl dX11_send_9 ?_
  refine p_callq (va_runV (As := [.ref (G 9)]) (rest := [.ref (G (21 + (n + 5)))]) C.fix (g_X11_last0 l D cy S H.size hP) (cwV 1 C.2.2.2.2.1 (gU_V mw_241 mw_242 mw_243 mw_2 (subU mw_244)) rfl rfl rfl hdg_X11_send1_V_0 ⟨Nat.le_of_ble_eq_true rfl, Nat.le_of_ble_eq_true rfl⟩) (p_preV C hw (hP.mem (k := 0) (by omega)) hP.c0 rfl) rfl rfl hl.1 rfl (lv_room (Nat.le_of_ble_eq_true rfl)) dX11_send_12 ⟨(Nat.le_of_ble_eq_true rfl), (Nat.le_of_ble_eq_true rfl)⟩) hw hA (fun r6 S5 H locs hpost hw => ?_)
  obtain ⟨hr_, hS_⟩ := hpost
  subst hr_
  subst hS_
  refine p_callv (va_runV (As := [.ref (G (21 + n))]) (rest := []) C.fix (q_copy l D cy S H.size hP (n + 5) n (by omega) (by omega) (by omega)) (cwV 1 C.2.2.2.2.1 (gU_V mw_249 mw_250 mw_251 mw_21 sub_X7_copy) rfl rfl rfl hdg_X11_send1_V_1 ⟨Nat.le_of_ble_eq_true rfl, Nat.le_of_ble_eq_true rfl⟩) (p_preV C hw (hP.mem (k := 21 + (n + 5)) (by omega)) (hP.rh (r := (n + 5)) (by omega)) rfl) rfl rfl hl.1 rfl (lv_room (Nat.le_of_ble_eq_true rfl)) dX11_send_15 ⟨(Nat.le_of_ble_eq_true rfl), (Nat.le_of_ble_eq_true rfl)⟩) hw hA (fun S9 H locs hpost hw => ?_)
  obtain ⟨hP11, hF12⟩ := hpost
  obtain ⟨V13, hV13⟩ : ∃ z : RV, z = (va_up V.1 (n + 5) (min (V.1 n) (gcap (n + 5))), va_up V.2 (n + 5) (rcop (V.2 (n + 5)) (V.2 n) (V.1 n) (min (V.1 n) (gcap (n + 5))))) := ⟨_, rfl⟩
  rw [← hV13] at hP11
  refine lv_aload_n hx hb dX11_send_18 rfl (lv_at hl 2 rfl) ?_
  refine lv_aload_n hx hb dX11_send_19 rfl (lv_at hl 0 rfl) ?_
  refine p_callv (va_runV (As := [.ref (G (21 + (n + 5)))]) (rest := []) C.fix (q_harm l D cy S9 H.size hP11 3 (n + 5) k0 fa fb fc ya yb yc (by omega) hP11.c3 (by omega) hk ha hbb hcc h2 h13) (cwV 1 C.2.2.2.2.1 (gU_V mw_255 mw_256 mw_257 mw_16 sub_X5_harm) rfl rfl rfl hdg_X11_send1_V_2 ⟨Nat.le_of_ble_eq_true rfl, Nat.le_of_ble_eq_true rfl⟩) (p_preV C hw (hP11.mem (k := 3) (by omega)) hP11.c3 rfl) rfl rfl hl.1 rfl (lv_room (Nat.le_of_ble_eq_true rfl)) dX11_send_20 ⟨(Nat.le_of_ble_eq_true rfl), (Nat.le_of_ble_eq_true rfl)⟩) hw hA (fun S14 H locs hpost hw => ?_)
  obtain ⟨hP16, hF17⟩ := hpost
  obtain ⟨V18, hV18⟩ : ∃ z : RV, z = (V13.1, va_up V13.2 (n + 5) (rharm (V13.2 (n + 5)) (V13.1 (n + 5)) k0 ya yb yc)) := ⟨_, rfl⟩
  rw [← hV18] at hP16
  have hT19 := hF12.trans hF17
  refine lv_aload_n hx hb dX11_send_23 rfl (lv_at hl 0 rfl) ?_
  refine lv_aload_n hx hb dX11_send_24 rfl (lv_at hl 1 rfl) ?_
  refine p_get C hw (ci := 10) (Cn := RX11) (T := TX11) (N := 8) (hP16.mem (k := 0) (by omega)) hP16.c0 rfl hin_RX11 3 (by decide) (mU mw_22) rfl rfl dX11_send_25 ?_
  refine p_callv (va_runV (As := [.ref (G 36)]) (rest := []) C.fix (q_turnWhere l D cy S14 H.size hP16 (n + 5) (by omega)) (cwV 1 C.2.2.2.2.1 (gU_V mw_279 mw_280 mw_281 mw_21 sub_X7_turnWhere) rfl rfl rfl hdg_X11_send1_V_3 ⟨Nat.le_of_ble_eq_true rfl, Nat.le_of_ble_eq_true rfl⟩) (p_preV C hw (hP16.mem (k := 21 + (n + 5)) (by omega)) (hP16.rh (r := (n + 5)) (by omega)) rfl) rfl rfl hl.1 rfl (lv_room (Nat.le_of_ble_eq_true rfl)) dX11_send_28 ⟨(Nat.le_of_ble_eq_true rfl), (Nat.le_of_ble_eq_true rfl)⟩) hw hA (fun S20 H locs hpost hw => ?_)
  obtain ⟨hP22, hF23⟩ := hpost
  obtain ⟨V24, hV24⟩ : ∃ z : RV, z = (V18.1, va_up V18.2 (n + 5) (rtw (V18.2 (n + 5)) (V18.1 (n + 5)) (V18.2 15) (V18.1 15) (V18.1 (n + 5)))) := ⟨_, rfl⟩
  rw [← hV24] at hP22
  have hT25 := hT19.trans hF23
  exact (p_vret C hw ⟨V24, hP22, hT25, send_eq (o := n) (r := n + 5) (by rw [gcap5 (by omega)]; exact hP.rn (by omega)) hP.m15 (by omega) hV13 hV18 hV24⟩ hr hlocks dX11_send_31)

theorem hdg_X11_errorsIn1_V_0 : yX4_at.cls = RX4 ∧ yX4_at.cls ≠ "java/lang/invoke/MethodHandle" ∧ yX4_at.cls ≠ "java/lang/invoke/VarHandle" ∧ (parseMethodDescriptor yX4_at.desc).map (fun d => d.parameters.length) = some 1 := by decide +kernel
theorem hdg_X11_errorsIn1_V_1 : yX7_unlike.cls = RX7 ∧ yX7_unlike.cls ≠ "java/lang/invoke/MethodHandle" ∧ yX7_unlike.cls ≠ "java/lang/invoke/VarHandle" ∧ (parseMethodDescriptor yX7_unlike.desc).map (fun d => d.parameters.length) = some 1 := by decide +kernel
set_option maxHeartbeats 4000000 in
set_option maxRecDepth 100000 in
/-- errorsIn -/
theorem g_X11_errorsIn1 (l : Launch) (D : va_G) (cy : Nat → ClassId) (S : pS) (sz : Nat) {G T : Nat → Nat} {n : Nat} {ws : Nat → WV} {l1 l2 : va_E} {V : RV} (hP : Pic cy S G T n ws l1 l2 V)  : Met l yX11_errorsIn (Cond.code yX11_errorsIn cX11_errorsIn 2 (some .int) :: lwU) ({ frames := 2, cells := 0, slots := 0, locals := 44 }) (pPc D cy S sz [.ref (G 0), .ref (G 10)]) (pQi D cy S sz (fun r S' => r = nI (cnt (isOther (V.2 0) (V.1 0) (V.2 5) (V.1 5)) (V.1 0)) ∧ S = S')) 0 0 (pA S sz) := by
  refine Met.ofW (cc := cX11_errorsIn) (maxL := 2) (ret := (some .int)) (by decide) rfl ?_
  intro p e s m args below meth c s₁ B hml hv
  obtain ⟨rfl, rfl, C, hw, hA, hr, hlocks⟩ := p_start B hml hv
  have hx := C.1
  have hb := C.2.1
  have hl := lv_entry ([.ref (G 0), .ref (G 10)]) (n := 2) (Nat.le_of_ble_eq_true rfl)
  rw [lg_entry_eq]
  generalize (lg_sl ([.ref (G 0), .ref (G 10)]) ++ List.replicate (2 - (lg_sl ([.ref (G 0), .ref (G 10)])).length) Slot.unset).toArray = ls at hl ⊢
  have hl : lv_has ls 2 [(0, .ref (G 0)), (1, .ref (G 10))] := hl
  have hin_RX11 : ∀ w ∈ u_ws RX11 TX11 8, w ∈ (Cond.code yX11_errorsIn cX11_errorsIn 2 (some .int) :: lwU) := fun w h => mU (sub_RX11 w h)
  have hn4 := hP.n4
  refine lv_aload_n hx hb dX11_errorsIn_0 rfl (lv_at hl 0 rfl) ?_
  refine p_get C hw (ci := 10) (Cn := RX11) (T := TX11) (N := 8) (hP.mem (k := 0) (by omega)) hP.c0 rfl hin_RX11 4 (by decide) (mU mw_26) rfl rfl dX11_errorsIn_1 ?_
  refine lv_iconst (v := nI 0) hx hb dX11_errorsIn_4 (by decide) ?_
  obtain ⟨rq1, erq1, frq1⟩ := hP.leq (L := 0) (by omega)
  refine p_callq (va_runV (As := [.int (nI 0)]) (rest := []) C.fix (c_X4_at l D cy S s.heap.size (G 9) (G (12 + 0)) (G (15 + 0)) 0 (G (21 + 0)) rq1 (hP.mem (by omega)) (hP.lev (L := 0) (by omega)) (hP.mem (by omega)) erq1 (by omega) (frq1 0 (by omega))) (cwV 1 C.2.2.2.2.1 (gU_V mw_111 mw_112 mw_113 mw_25 sub_X4_at) rfl rfl rfl hdg_X11_errorsIn1_V_0 ⟨Nat.le_of_ble_eq_true rfl, Nat.le_of_ble_eq_true rfl⟩) (p_preV C hw (hP.mem (k := 9 + 0) (by omega)) (hP.lev (L := 0) (by omega)) rfl) rfl rfl hl.1 rfl (lv_room (Nat.le_of_ble_eq_true rfl)) dX11_errorsIn_5 ⟨(Nat.le_of_ble_eq_true rfl), (Nat.le_of_ble_eq_true rfl)⟩) hw hA (fun r3 S2 H locs hpost hw => ?_)
  obtain ⟨hr_, hS_⟩ := hpost
  subst hr_
  subst hS_
  refine lv_aload_n hx hb dX11_errorsIn_8 rfl (lv_at hl 1 rfl) ?_
  refine lv_iconst (v := nI 0) hx hb dX11_errorsIn_9 (by decide) ?_
  obtain ⟨rq6, erq6, frq6⟩ := hP.leq (L := 1) (by omega)
  refine p_callq (va_runV (As := [.int (nI 0)]) (rest := [.ref (G (21 + 0))]) C.fix (c_X4_at l D cy S H.size (G 10) (G (12 + 1)) (G (15 + 1)) 0 (G (21 + 5)) rq6 (hP.mem (by omega)) (hP.lev (L := 1) (by omega)) (hP.mem (by omega)) erq6 (by omega) (frq6 0 (by omega))) (cwV 1 C.2.2.2.2.1 (gU_V mw_111 mw_112 mw_113 mw_25 sub_X4_at) rfl rfl rfl hdg_X11_errorsIn1_V_0 ⟨Nat.le_of_ble_eq_true rfl, Nat.le_of_ble_eq_true rfl⟩) (p_preV C hw (hP.mem (k := 9 + 1) (by omega)) (hP.lev (L := 1) (by omega)) rfl) rfl rfl hl.1 rfl (lv_room (Nat.le_of_ble_eq_true rfl)) dX11_errorsIn_10 ⟨(Nat.le_of_ble_eq_true rfl), (Nat.le_of_ble_eq_true rfl)⟩) hw hA (fun r8 S7 H locs hpost hw => ?_)
  obtain ⟨hr_, hS_⟩ := hpost
  subst hr_
  subst hS_
  refine p_calli (va_runV (As := [.ref (G (21 + 5))]) (rest := []) C.fix (c_X7_unlike l D cy S H.size (G (21 + 0)) (G (37 + 0)) (gcap 0) (V.1 0) (G (21 + 5)) (G (37 + 5)) (gcap 5) (V.1 5) (V.2 0) (V.2 5) (hP.mem (by omega)) (hP.rh (r := 0) (by omega)) (hP.mem (by omega)) (hP.rb (r := 0) (by omega)) (hP.mem (by omega)) (hP.rh (r := 5) (by omega)) (hP.mem (by omega)) (hP.rb (r := 5) (by omega)) (gcap_27 _) (hP.rn (by omega)) (hP.rg2 (by omega)) (gcap_27 _) (hP.rn (by omega)) (hP.rg2 (by omega))) (cwV 1 C.2.2.2.2.1 (gU_V mw_514 mw_515 mw_516 mw_21 sub_X7_unlike) rfl rfl rfl hdg_X11_errorsIn1_V_1 ⟨Nat.le_of_ble_eq_true rfl, Nat.le_of_ble_eq_true rfl⟩) (p_preV C hw (hP.mem (k := 21 + 0) (by omega)) (hP.rh (r := 0) (by omega)) rfl) rfl rfl hl.1 rfl (lv_room (Nat.le_of_ble_eq_true rfl)) dX11_errorsIn_13 ⟨(Nat.le_of_ble_eq_true rfl), (Nat.le_of_ble_eq_true rfl)⟩) hw hA (fun r12 S11 H locs hpost hw => ?_)
  obtain ⟨hr_, hS_⟩ := hpost
  subst hr_
  subst hS_
  exact (p_iret C hw ⟨rfl, rfl⟩ hr hlocks dX11_errorsIn_16)

theorem hdg_X11_send2_V_0 : yX11_last.cls = RX11 ∧ yX11_last.cls ≠ "java/lang/invoke/MethodHandle" ∧ yX11_last.cls ≠ "java/lang/invoke/VarHandle" ∧ (parseMethodDescriptor yX11_last.desc).map (fun d => d.parameters.length) = some 1 := by decide +kernel
theorem hdg_X11_send2_V_1 : yX7_copy.cls = RX7 ∧ yX7_copy.cls ≠ "java/lang/invoke/MethodHandle" ∧ yX7_copy.cls ≠ "java/lang/invoke/VarHandle" ∧ (parseMethodDescriptor yX7_copy.desc).map (fun d => d.parameters.length) = some 1 := by decide +kernel
theorem hdg_X11_send2_V_2 : yX5_harm.cls = RX5 ∧ yX5_harm.cls ≠ "java/lang/invoke/MethodHandle" ∧ yX5_harm.cls ≠ "java/lang/invoke/VarHandle" ∧ (parseMethodDescriptor yX5_harm.desc).map (fun d => d.parameters.length) = some 1 := by decide +kernel
theorem hdg_X11_send2_V_3 : yX7_turnWhere.cls = RX7 ∧ yX7_turnWhere.cls ≠ "java/lang/invoke/MethodHandle" ∧ yX7_turnWhere.cls ≠ "java/lang/invoke/VarHandle" ∧ (parseMethodDescriptor yX7_turnWhere.desc).map (fun d => d.parameters.length) = some 1 := by decide +kernel
set_option maxHeartbeats 4000000 in
set_option maxRecDepth 100000 in
/-- send -/
theorem g_X11_send2 (l : Launch) (D : va_G) (cy : Nat → ClassId) (S : pS) (sz : Nat) {G T : Nat → Nat} {n : Nat} {ws : Nat → WV} {l1 : va_E} {V : RV} {k0 : Nat} {fa fb fc : Int32} (hP : Pic cy S G T n ws l1 (.inr (5, [.int (nI k0), .int fa, .int fb, .int fc])) V) (ya yb yc : Nat) (hk : k0 ≤ 3) (ha : ya < 2 ^ 30) (hbb : yb < 2 ^ 30) (hcc : yc < 2 ^ 30) (h2 : k0 = 2 → fa = nI ya ∧ fb = nI yb ∧ fc = nI yc) (h13 : k0 = 1 ∨ k0 = 3 → fa = nI ya ∧ fb = nI yb) : Met l yX11_send (Cond.code yX11_send cX11_send 4 none :: lwU) ({ frames := 4, cells := 0, slots := 0, locals := 88 }) (pPc D cy S sz [.ref (G 0), .ref (G 4), .ref (G 11)]) (pQv D cy S sz (fun S' => ∃ V', Pic cy S' G T n ws l1 (.inr (5, [.int (nI k0), .int fa, .int fb, .int fc])) V' ∧ Frm G S S' ∧ V'.1 (n + 10) = V.1 n ∧ (∀ q, q < V.1 n → V'.2 (n + 10) q = sArr k0 ya yb yc (V.2 15) (V.1 n) (V.2 n) q) ∧ ∀ r', r' ≠ n + 10 → V'.1 r' = V.1 r' ∧ V'.2 r' = V.2 r')) 0 0 (pA S sz) := by
  refine Met.ofW (cc := cX11_send) (maxL := 4) (ret := none) (by decide) rfl ?_
  intro p e s m args below meth c s₁ B hml hv
  obtain ⟨rfl, rfl, C, hw, hA, hr, hlocks⟩ := p_start B hml hv
  have hx := C.1
  have hb := C.2.1
  have hl := lv_entry ([.ref (G 0), .ref (G 4), .ref (G 11)]) (n := 4) (Nat.le_of_ble_eq_true rfl)
  rw [lg_entry_eq]
  generalize (lg_sl ([.ref (G 0), .ref (G 4), .ref (G 11)]) ++ List.replicate (4 - (lg_sl ([.ref (G 0), .ref (G 4), .ref (G 11)])).length) Slot.unset).toArray = ls at hl ⊢
  have hl : lv_has ls 4 [(0, .ref (G 0)), (1, .ref (G 4)), (2, .ref (G 11))] := hl
  have hin_RX11 : ∀ w ∈ u_ws RX11 TX11 8, w ∈ (Cond.code yX11_send cX11_send 4 none :: lwU) := fun w h => mU (sub_RX11 w h)
  have hn4 := hP.n4
  refine lv_aload_n hx hb dX11_send_0 rfl (lv_at hl 0 rfl) ?_
  refine lv_aload_n hx hb dX11_send_1 rfl (lv_at hl 2 rfl) ?_
  refine p_callq (va_runV (As := [.ref (G 11)]) (rest := []) C.fix (g_X11_last2 l D cy S s.heap.size hP) (cwV 1 C.2.2.2.2.1 (gU_V mw_241 mw_242 mw_243 mw_2 (subU mw_244)) rfl rfl rfl hdg_X11_send2_V_0 ⟨Nat.le_of_ble_eq_true rfl, Nat.le_of_ble_eq_true rfl⟩) (p_preV C hw (hP.mem (k := 0) (by omega)) hP.c0 rfl) rfl rfl hl.1 rfl (lv_room (Nat.le_of_ble_eq_true rfl)) dX11_send_2 ⟨(Nat.le_of_ble_eq_true rfl), (Nat.le_of_ble_eq_true rfl)⟩) hw hA (fun r2 S1 H locs hpost hw => ?_)
  obtain ⟨hr_, hS_⟩ := hpost
  subst hr_
  subst hS_
  refine lv_astore_n (lv' := [(3, .ref (G (21 + (n + 10)))), (0, .ref (G 0)), (1, .ref (G 4)), (2, .ref (G 11))]) hx hb dX11_send_5 rfl hl (by decide) rfl (fun ls hl => ?_)
  refine lv_aload_n hx hb dX11_send_6 rfl (lv_at hl 0 rfl) ?_
  refine lv_aload_n hx hb dX11_send_7 rfl (lv_at hl 1 rfl) ?_
  refine lv_aload_n hx hb dX11_send_8 rfl (lv_at hl 1 rfl) ?_
  refine p_get C hw (ci := 10) (Cn := RX11) (T := TX11) (N := 8) (hP.mem (k := 0) (by omega)) hP.c0 rfl hin_RX11 4 (by decide) (mU mw_26) rfl rfl dX11_send_9 ?_
  refine p_callq (va_runV (As := [.ref (G 9)]) (rest := [.ref (G (21 + (n + 10)))]) C.fix (g_X11_last0 l D cy S H.size hP) (cwV 1 C.2.2.2.2.1 (gU_V mw_241 mw_242 mw_243 mw_2 (subU mw_244)) rfl rfl rfl hdg_X11_send2_V_0 ⟨Nat.le_of_ble_eq_true rfl, Nat.le_of_ble_eq_true rfl⟩) (p_preV C hw (hP.mem (k := 0) (by omega)) hP.c0 rfl) rfl rfl hl.1 rfl (lv_room (Nat.le_of_ble_eq_true rfl)) dX11_send_12 ⟨(Nat.le_of_ble_eq_true rfl), (Nat.le_of_ble_eq_true rfl)⟩) hw hA (fun r6 S5 H locs hpost hw => ?_)
  obtain ⟨hr_, hS_⟩ := hpost
  subst hr_
  subst hS_
  refine p_callv (va_runV (As := [.ref (G (21 + n))]) (rest := []) C.fix (q_copy l D cy S H.size hP (n + 10) n (by omega) (by omega) (by omega)) (cwV 1 C.2.2.2.2.1 (gU_V mw_249 mw_250 mw_251 mw_21 sub_X7_copy) rfl rfl rfl hdg_X11_send2_V_1 ⟨Nat.le_of_ble_eq_true rfl, Nat.le_of_ble_eq_true rfl⟩) (p_preV C hw (hP.mem (k := 21 + (n + 10)) (by omega)) (hP.rh (r := (n + 10)) (by omega)) rfl) rfl rfl hl.1 rfl (lv_room (Nat.le_of_ble_eq_true rfl)) dX11_send_15 ⟨(Nat.le_of_ble_eq_true rfl), (Nat.le_of_ble_eq_true rfl)⟩) hw hA (fun S9 H locs hpost hw => ?_)
  obtain ⟨hP11, hF12⟩ := hpost
  obtain ⟨V13, hV13⟩ : ∃ z : RV, z = (va_up V.1 (n + 10) (min (V.1 n) (gcap (n + 10))), va_up V.2 (n + 10) (rcop (V.2 (n + 10)) (V.2 n) (V.1 n) (min (V.1 n) (gcap (n + 10))))) := ⟨_, rfl⟩
  rw [← hV13] at hP11
  refine lv_aload_n hx hb dX11_send_18 rfl (lv_at hl 2 rfl) ?_
  refine lv_aload_n hx hb dX11_send_19 rfl (lv_at hl 0 rfl) ?_
  refine p_callv (va_runV (As := [.ref (G (21 + (n + 10)))]) (rest := []) C.fix (q_harm l D cy S9 H.size hP11 4 (n + 10) k0 fa fb fc ya yb yc (by omega) hP11.c4 (by omega) hk ha hbb hcc h2 h13) (cwV 1 C.2.2.2.2.1 (gU_V mw_255 mw_256 mw_257 mw_16 sub_X5_harm) rfl rfl rfl hdg_X11_send2_V_2 ⟨Nat.le_of_ble_eq_true rfl, Nat.le_of_ble_eq_true rfl⟩) (p_preV C hw (hP11.mem (k := 4) (by omega)) hP11.c4 rfl) rfl rfl hl.1 rfl (lv_room (Nat.le_of_ble_eq_true rfl)) dX11_send_20 ⟨(Nat.le_of_ble_eq_true rfl), (Nat.le_of_ble_eq_true rfl)⟩) hw hA (fun S14 H locs hpost hw => ?_)
  obtain ⟨hP16, hF17⟩ := hpost
  obtain ⟨V18, hV18⟩ : ∃ z : RV, z = (V13.1, va_up V13.2 (n + 10) (rharm (V13.2 (n + 10)) (V13.1 (n + 10)) k0 ya yb yc)) := ⟨_, rfl⟩
  rw [← hV18] at hP16
  have hT19 := hF12.trans hF17
  refine lv_aload_n hx hb dX11_send_23 rfl (lv_at hl 0 rfl) ?_
  refine lv_aload_n hx hb dX11_send_24 rfl (lv_at hl 1 rfl) ?_
  refine p_get C hw (ci := 10) (Cn := RX11) (T := TX11) (N := 8) (hP16.mem (k := 0) (by omega)) hP16.c0 rfl hin_RX11 3 (by decide) (mU mw_22) rfl rfl dX11_send_25 ?_
  refine p_callv (va_runV (As := [.ref (G 36)]) (rest := []) C.fix (q_turnWhere l D cy S14 H.size hP16 (n + 10) (by omega)) (cwV 1 C.2.2.2.2.1 (gU_V mw_279 mw_280 mw_281 mw_21 sub_X7_turnWhere) rfl rfl rfl hdg_X11_send2_V_3 ⟨Nat.le_of_ble_eq_true rfl, Nat.le_of_ble_eq_true rfl⟩) (p_preV C hw (hP16.mem (k := 21 + (n + 10)) (by omega)) (hP16.rh (r := (n + 10)) (by omega)) rfl) rfl rfl hl.1 rfl (lv_room (Nat.le_of_ble_eq_true rfl)) dX11_send_28 ⟨(Nat.le_of_ble_eq_true rfl), (Nat.le_of_ble_eq_true rfl)⟩) hw hA (fun S20 H locs hpost hw => ?_)
  obtain ⟨hP22, hF23⟩ := hpost
  obtain ⟨V24, hV24⟩ : ∃ z : RV, z = (V18.1, va_up V18.2 (n + 10) (rtw (V18.2 (n + 10)) (V18.1 (n + 10)) (V18.2 15) (V18.1 15) (V18.1 (n + 10)))) := ⟨_, rfl⟩
  rw [← hV24] at hP22
  have hT25 := hT19.trans hF23
  exact (p_vret C hw ⟨V24, hP22, hT25, send_eq (o := n) (r := n + 10) (by rw [gcap10 (by omega)]; exact hP.rn (by omega)) hP.m15 (by omega) hV13 hV18 hV24⟩ hr hlocks dX11_send_31)

theorem hdg_X11_errorsIn2_V_0 : yX4_at.cls = RX4 ∧ yX4_at.cls ≠ "java/lang/invoke/MethodHandle" ∧ yX4_at.cls ≠ "java/lang/invoke/VarHandle" ∧ (parseMethodDescriptor yX4_at.desc).map (fun d => d.parameters.length) = some 1 := by decide +kernel
theorem hdg_X11_errorsIn2_V_1 : yX7_unlike.cls = RX7 ∧ yX7_unlike.cls ≠ "java/lang/invoke/MethodHandle" ∧ yX7_unlike.cls ≠ "java/lang/invoke/VarHandle" ∧ (parseMethodDescriptor yX7_unlike.desc).map (fun d => d.parameters.length) = some 1 := by decide +kernel
set_option maxHeartbeats 4000000 in
set_option maxRecDepth 100000 in
/-- errorsIn -/
theorem g_X11_errorsIn2 (l : Launch) (D : va_G) (cy : Nat → ClassId) (S : pS) (sz : Nat) {G T : Nat → Nat} {n : Nat} {ws : Nat → WV} {l1 l2 : va_E} {V : RV} (hP : Pic cy S G T n ws l1 l2 V)  : Met l yX11_errorsIn (Cond.code yX11_errorsIn cX11_errorsIn 2 (some .int) :: lwU) ({ frames := 2, cells := 0, slots := 0, locals := 44 }) (pPc D cy S sz [.ref (G 0), .ref (G 11)]) (pQi D cy S sz (fun r S' => r = nI (cnt (isOther (V.2 0) (V.1 0) (V.2 10) (V.1 10)) (V.1 0)) ∧ S = S')) 0 0 (pA S sz) := by
  refine Met.ofW (cc := cX11_errorsIn) (maxL := 2) (ret := (some .int)) (by decide) rfl ?_
  intro p e s m args below meth c s₁ B hml hv
  obtain ⟨rfl, rfl, C, hw, hA, hr, hlocks⟩ := p_start B hml hv
  have hx := C.1
  have hb := C.2.1
  have hl := lv_entry ([.ref (G 0), .ref (G 11)]) (n := 2) (Nat.le_of_ble_eq_true rfl)
  rw [lg_entry_eq]
  generalize (lg_sl ([.ref (G 0), .ref (G 11)]) ++ List.replicate (2 - (lg_sl ([.ref (G 0), .ref (G 11)])).length) Slot.unset).toArray = ls at hl ⊢
  have hl : lv_has ls 2 [(0, .ref (G 0)), (1, .ref (G 11))] := hl
  have hin_RX11 : ∀ w ∈ u_ws RX11 TX11 8, w ∈ (Cond.code yX11_errorsIn cX11_errorsIn 2 (some .int) :: lwU) := fun w h => mU (sub_RX11 w h)
  have hn4 := hP.n4
  refine lv_aload_n hx hb dX11_errorsIn_0 rfl (lv_at hl 0 rfl) ?_
  refine p_get C hw (ci := 10) (Cn := RX11) (T := TX11) (N := 8) (hP.mem (k := 0) (by omega)) hP.c0 rfl hin_RX11 4 (by decide) (mU mw_26) rfl rfl dX11_errorsIn_1 ?_
  refine lv_iconst (v := nI 0) hx hb dX11_errorsIn_4 (by decide) ?_
  obtain ⟨rq1, erq1, frq1⟩ := hP.leq (L := 0) (by omega)
  refine p_callq (va_runV (As := [.int (nI 0)]) (rest := []) C.fix (c_X4_at l D cy S s.heap.size (G 9) (G (12 + 0)) (G (15 + 0)) 0 (G (21 + 0)) rq1 (hP.mem (by omega)) (hP.lev (L := 0) (by omega)) (hP.mem (by omega)) erq1 (by omega) (frq1 0 (by omega))) (cwV 1 C.2.2.2.2.1 (gU_V mw_111 mw_112 mw_113 mw_25 sub_X4_at) rfl rfl rfl hdg_X11_errorsIn2_V_0 ⟨Nat.le_of_ble_eq_true rfl, Nat.le_of_ble_eq_true rfl⟩) (p_preV C hw (hP.mem (k := 9 + 0) (by omega)) (hP.lev (L := 0) (by omega)) rfl) rfl rfl hl.1 rfl (lv_room (Nat.le_of_ble_eq_true rfl)) dX11_errorsIn_5 ⟨(Nat.le_of_ble_eq_true rfl), (Nat.le_of_ble_eq_true rfl)⟩) hw hA (fun r3 S2 H locs hpost hw => ?_)
  obtain ⟨hr_, hS_⟩ := hpost
  subst hr_
  subst hS_
  refine lv_aload_n hx hb dX11_errorsIn_8 rfl (lv_at hl 1 rfl) ?_
  refine lv_iconst (v := nI 0) hx hb dX11_errorsIn_9 (by decide) ?_
  obtain ⟨rq6, erq6, frq6⟩ := hP.leq (L := 2) (by omega)
  refine p_callq (va_runV (As := [.int (nI 0)]) (rest := [.ref (G (21 + 0))]) C.fix (c_X4_at l D cy S H.size (G 11) (G (12 + 2)) (G (15 + 2)) 0 (G (21 + 10)) rq6 (hP.mem (by omega)) (hP.lev (L := 2) (by omega)) (hP.mem (by omega)) erq6 (by omega) (frq6 0 (by omega))) (cwV 1 C.2.2.2.2.1 (gU_V mw_111 mw_112 mw_113 mw_25 sub_X4_at) rfl rfl rfl hdg_X11_errorsIn2_V_0 ⟨Nat.le_of_ble_eq_true rfl, Nat.le_of_ble_eq_true rfl⟩) (p_preV C hw (hP.mem (k := 9 + 2) (by omega)) (hP.lev (L := 2) (by omega)) rfl) rfl rfl hl.1 rfl (lv_room (Nat.le_of_ble_eq_true rfl)) dX11_errorsIn_10 ⟨(Nat.le_of_ble_eq_true rfl), (Nat.le_of_ble_eq_true rfl)⟩) hw hA (fun r8 S7 H locs hpost hw => ?_)
  obtain ⟨hr_, hS_⟩ := hpost
  subst hr_
  subst hS_
  refine p_calli (va_runV (As := [.ref (G (21 + 10))]) (rest := []) C.fix (c_X7_unlike l D cy S H.size (G (21 + 0)) (G (37 + 0)) (gcap 0) (V.1 0) (G (21 + 10)) (G (37 + 10)) (gcap 10) (V.1 10) (V.2 0) (V.2 10) (hP.mem (by omega)) (hP.rh (r := 0) (by omega)) (hP.mem (by omega)) (hP.rb (r := 0) (by omega)) (hP.mem (by omega)) (hP.rh (r := 10) (by omega)) (hP.mem (by omega)) (hP.rb (r := 10) (by omega)) (gcap_27 _) (hP.rn (by omega)) (hP.rg2 (by omega)) (gcap_27 _) (hP.rn (by omega)) (hP.rg2 (by omega))) (cwV 1 C.2.2.2.2.1 (gU_V mw_514 mw_515 mw_516 mw_21 sub_X7_unlike) rfl rfl rfl hdg_X11_errorsIn2_V_1 ⟨Nat.le_of_ble_eq_true rfl, Nat.le_of_ble_eq_true rfl⟩) (p_preV C hw (hP.mem (k := 21 + 0) (by omega)) (hP.rh (r := 0) (by omega)) rfl) rfl rfl hl.1 rfl (lv_room (Nat.le_of_ble_eq_true rfl)) dX11_errorsIn_13 ⟨(Nat.le_of_ble_eq_true rfl), (Nat.le_of_ble_eq_true rfl)⟩) hw hA (fun r12 S11 H locs hpost hw => ?_)
  obtain ⟨hr_, hS_⟩ := hpost
  subst hr_
  subst hS_
  exact (p_iret C hw ⟨rfl, rfl⟩ hr hlocks dX11_errorsIn_16)
