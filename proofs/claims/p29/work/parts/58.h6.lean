theorem hdlaw_B_S_0 : yL_cell.cls ≠ "java/lang/invoke/MethodHandle" ∧ yL_cell.cls ≠ "java/lang/invoke/VarHandle" ∧ (parseMethodDescriptor yL_cell.desc).map (fun d => d.parameters.length) = some 2 := by decide +kernel
theorem hdlaw_B_S_1 : yL_stage.cls ≠ "java/lang/invoke/MethodHandle" ∧ yL_stage.cls ≠ "java/lang/invoke/VarHandle" ∧ (parseMethodDescriptor yL_stage.desc).map (fun d => d.parameters.length) = some 1 := by decide +kernel
theorem hdlaw_B_V_2 : yX11_sent.cls = RX11 ∧ yX11_sent.cls ≠ "java/lang/invoke/MethodHandle" ∧ yX11_sent.cls ≠ "java/lang/invoke/VarHandle" ∧ (parseMethodDescriptor yX11_sent.desc).map (fun d => d.parameters.length) = some 0 := by decide +kernel
theorem hdlaw_B_S_3 : yL_code.cls ≠ "java/lang/invoke/MethodHandle" ∧ yL_code.cls ≠ "java/lang/invoke/VarHandle" ∧ (parseMethodDescriptor yL_code.desc).map (fun d => d.parameters.length) = some 2 := by decide +kernel
theorem hdlaw_B_V_4 : yX11_stages.cls = RX11 ∧ yX11_stages.cls ≠ "java/lang/invoke/MethodHandle" ∧ yX11_stages.cls ≠ "java/lang/invoke/VarHandle" ∧ (parseMethodDescriptor yX11_stages.desc).map (fun d => d.parameters.length) = some 0 := by decide +kernel
theorem hdlaw_B_S_5 : yL_tell.cls ≠ "java/lang/invoke/MethodHandle" ∧ yL_tell.cls ≠ "java/lang/invoke/VarHandle" ∧ (parseMethodDescriptor yL_tell.desc).map (fun d => d.parameters.length) = some 2 := by decide +kernel
theorem hdlaw_B_V_6 : yX11_distance.cls = RX11 ∧ yX11_distance.cls ≠ "java/lang/invoke/MethodHandle" ∧ yX11_distance.cls ≠ "java/lang/invoke/VarHandle" ∧ (parseMethodDescriptor yX11_distance.desc).map (fun d => d.parameters.length) = some 1 := by decide +kernel
set_option maxHeartbeats 8000000 in
set_option maxRecDepth 100000 in
theorem law_B {p : Program} {e : Env} {s : State} {m : MethodId} {below : List Frame} {meth : Method} {c : Code} (l : Launch) (D : va_G) (cy : Nat → ClassId) (ed : Nat) {Q : State → Prop} {S : pS} {cw : Cond} (C : pC p s m #[Value.ref ed] c code 15 RL (cw :: lwU) D cy) (hE : eK (pA S s.heap.size) ed s s.heap) (hA : ∀ q, s.heap.size ≤ q → pA S s.heap.size q) {G T : Nat → Nat} {n : Nat} {ws : Nat → WV} {V : RV} {k0 a0 b0 c0 k2 : Nat} {x2 y2 z2 : Int32} {len row : Nat} {gr : Nat → Int32} (Sb : pS) (H : Heap) (locs : List Loc) (ls : Array Slot) (hP : Pic cy Sb G T 0 ws (.inr (5, [.int (nI k0), .int (nI a0), .int (nI b0), .int (nI c0)])) (.inr (5, [.int (nI k2), .int x2, .int y2, .int z2])) V) (hA_row : Arr cy Sb row len gr) (hk_row : ∀ k, k < 53 → row ≠ G k) (h1 : 1 ≤ len) (h8 : len ≤ 8) (hk : k0 ≤ 3) (hla : a0 < 2 ^ 30) (hlb : b0 < 2 ^ 30) (hlc : c0 < 2 ^ 30) (hLI : LI 0 ws k0 a0 b0 c0 len gr V) (h900 : V.1 0 ≤ 90) (hw : pW D (pA S s.heap.size) s.heap Sb H locs) (hl : lv_has ls 15 [(2, .ref row), (1, .ref (G 0)), (0, .ref ed)]) (kk : ∀ (S' : pS) (T' : Nat → Nat) (n' : Nat) (ws' : Nat → WV) (V' : RV) (ap : Nat) (H' : Heap) (locs' : List Loc) (ls' : Array Slot), Pic cy S' G T' n' ws' (.inr (5, [.int (nI k0), .int (nI a0), .int (nI b0), .int (nI c0)])) (.inr (5, [.int (nI k2), .int x2, .int y2, .int z2])) V' → Arr cy S' row len gr → LI n' ws' k0 a0 b0 c0 len gr V' → V'.1 n' ≤ 90 → n' ≤ 3 → V'.2 15 = V.2 15 → (ap = 0 ∨ ap = 1 ∧ ∀ j, j < n' → 0 < sApart (ws' j)) → pW D (pA S s.heap.size) s.heap S' H' locs' → lv_has ls' 15 [(3, .int (nI ap)), (2, .ref row), (1, .ref (G 0)), (0, .ref ed)] → W p l e room_1 s m #[Value.ref ed] below meth c H' locs' 1942 1150027 Q (F0 m 126 ls' [])) : W p l e room_1 s m #[Value.ref ed] below meth c H locs 70 9628 Q (F0 m 32 ls []) := by
  have hx := C.1
  have hb := C.2.1
  obtain ⟨LL, xs, hX, hbl, hbA, hL260⟩ := id hE
  have hn4 := hP.n4
  refine lv_iconst (v := nI 1) hx hb dL_law_32 (by decide) ?_
  refine lv_istore_n (lv' := [(3, .int (nI 1)), (2, .ref row), (1, .ref (G 0)), (0, .ref ed)]) hx hb dL_law_33 rfl hl (by decide) rfl (fun ls hl => ?_)
  refine lv_iconst (v := nI 0) hx hb dL_law_34 (by decide) ?_
  refine lv_istore (lv' := [(4, .int (nI 0)), (3, .int (nI 1)), (2, .ref row), (1, .ref (G 0)), (0, .ref ed)]) hx hb dL_law_35 hl (by decide) rfl (fun ls hl => ?_)
  have loop37_1 : ∀ (kf : Nat) (Tx : Nat → Nat) (nx : Nat) (wsx : Nat → WV) (kx : Nat) (apx : Nat), 3 - kx < kf → ∀ (Sx2 : pS) (Vx3 : RV)  (H : Heap) (locs : List Loc) (ls : Array Slot), Pic cy Sx2 G Tx nx wsx (.inr (5, [.int (nI k0), .int (nI a0), .int (nI b0), .int (nI c0)])) (.inr (5, [.int (nI k2), .int x2, .int y2, .int z2])) Vx3 → Frm G Sb Sx2 → (kx ≤ 3) → (nx ≤ kx) → (LI nx wsx k0 a0 b0 c0 len gr Vx3) → (Vx3.1 nx ≤ 90) → (Vx3.2 15 = V.2 15) → (apx = 0 ∨ apx = 1 ∧ ∀ j, j < nx → 0 < sApart (wsx j)) → pW D (pA S s.heap.size) s.heap Sx2 H locs → lv_has ls 15 [(4, .int (nI kx)), (3, .int (nI apx)), (2, .ref row), (1, .ref (G 0)), (0, .ref ed)] → W p l e room_1 s m #[Value.ref ed] below meth c H locs (70 + 624 * kx) (9628 + 380133 * kx) Q (F0 m 37 ls []) := by
    intro kf
    induction kf with
    | zero => intro Tx nx wsx kx apx hm; exact absurd hm (Nat.not_lt_zero _)
    | succ kf ihloop37_1 =>
      intro Tx nx wsx kx apx hm Sx2 Vx3  H locs ls hP4 hF5 hkx hnk hLIx h90 hm15 hap hw hl
      have hn4 := hP4.n4
      refine lv_iload hx hb dL_law_37 (lv_at hl 0 rfl) ?_
      refine lv_iconst (v := nI 3) hx hb dL_law_39 (by decide) ?_
      refine n_icmp_ge (tgt := 126) hx hb (by omega) (by decide) dL_law_40 (by decide) (fun h_40 => ?_) (fun h_40 => ?_)
      · skip
        refine W.widen (k := 1942) (n := 1150027) (by first | exact Nat.le_of_ble_eq_true rfl | omega) (by first | exact Nat.le_of_ble_eq_true rfl | omega) ?_
        exact kk Sx2 Tx nx wsx Vx3 apx H locs ls hP4 (hA_row.frm hF5 hk_row) hLIx h90 (by omega) hm15 hap hw (lv_sub hl [1, 2, 3, 4] rfl)
      · skip
        refine lv_aload_n hx hb dL_law_43 rfl (lv_at hl 4 rfl) ?_
        refine lv_iconst (v := nI 1) hx hb dL_law_44 (by decide) ?_
        refine lv_iload hx hb dL_law_45 (lv_at hl 0 rfl) ?_
        refine n_iadd hx hb dL_law_47 ?_
        refine p_calli (va_runS (As := [.ref ed, .int (nI (1 + kx))]) (rest := []) C.fix (g_L_cell l D cy ed Sx2 H.size (1 + kx) (by omega)) (va_cwS 2 C.2.2.2.2.1 (gU_S mw_77 mw_78 mw_79 (subU mw_80)) rfl rfl rfl hdlaw_B_S_0 ⟨Nat.le_of_ble_eq_true rfl, Nat.le_of_ble_eq_true rfl⟩) (e_preS C hw hA hE) rfl rfl hl.1 rfl (lv_room (Nat.le_of_ble_eq_true rfl)) dL_law_48 ⟨(show (70 + 624 * kx) + 0 ≤ 600074 from by omega), (show (9628 + 380133 * kx) + 0 ≤ 7301550 from by omega)⟩) hw hA (fun r7 S6 H locs hpost hw => ?_)
        subst hpost
        refine p_callq (va_runS (As := [.int r7]) (rest := []) C.fix (g_L_stage l D cy Sx2 H.size r7) (va_cwS 1 C.2.2.2.2.1 (gU_S mw_371 mw_372 mw_79 (subU mw_373)) rfl rfl rfl hdlaw_B_S_1 ⟨Nat.le_of_ble_eq_true rfl, Nat.le_of_ble_eq_true rfl⟩) (p_preS C hw) rfl rfl hl.1 rfl (lv_room (Nat.le_of_ble_eq_true rfl)) dL_law_51 ⟨(show (70 + 624 * kx) + 0 + 1 ≤ 600074 from by omega), (show (9628 + 380133 * kx) + 0 + 7 ≤ 7301550 from by omega)⟩) hw hA (fun r9 S8 H locs hpost hw => ?_)
        obtain ⟨qa10, ga11, kq, sa, sb, s3, s4, s5, s6, hr_, hq14, hs12, hA13, hX15, hvst⟩ := hpost
        subst hr_
        have hk16 := Pic.gne hP4 hq14
        have hP17 := Pic.ext hP4 hs12.1 hs12.2
        have hF18 : Frm G Sb S8 := hF5.trans hs12.frm
        refine lv_astore (lv' := [(5, .ref qa10), (4, .int (nI kx)), (3, .int (nI apx)), (2, .ref row), (1, .ref (G 0)), (0, .ref ed)]) hx hb dL_law_54 hl (by decide) rfl (fun ls hl => ?_)
        refine lv_aload hx hb dL_law_56 (lv_at hl 0 rfl) ?_
        refine lv_aload_n hx hb dL_law_58 rfl (lv_at hl 4 rfl) ?_
        refine p_calli (va_runV (As := []) (rest := [.ref qa10]) C.fix (g_X11_sent l D cy S8 H.size hP17 ) (cwV 0 C.2.2.2.2.1 (gU_V mw_374 mw_375 mw_376 mw_2 (subU mw_377)) rfl rfl rfl hdlaw_B_V_2 ⟨Nat.le_of_ble_eq_true rfl, Nat.le_of_ble_eq_true rfl⟩) (p_preV C hw (hP17.mem (k := 0) (by omega)) hP17.c0 rfl) rfl rfl hl.1 rfl (lv_room (Nat.le_of_ble_eq_true rfl)) dL_law_59 ⟨(show (70 + 624 * kx) + 0 + 1 + 0 ≤ 600074 from by omega), (show (9628 + 380133 * kx) + 0 + 7 + 0 ≤ 7301550 from by omega)⟩) hw hA (fun r20 S19 H locs hpost hw => ?_)
        obtain ⟨hr_, hS_⟩ := hpost
        subst hr_
        subst hS_
        refine p_newa C hw hA (mU mw_3) 0 rfl (n := Vx3.1 nx) (by first | decide | omega) (show (70 + 624 * kx) + 0 + 1 + 0 + 1 ≤ 600074 from by omega) (show (9628 + 380133 * kx) + 0 + 7 + 0 + (Vx3.1 nx) ≤ 7301550 from by omega) dL_law_62 (fun na23 H hq_na23 hw => ?_)
        obtain ⟨S24, hS24⟩ : ∃ z, z = pnew S8 na23 (.inl (cy 0, Vx3.1 nx, .inl (fun _ => 0))) := ⟨_, rfl⟩
        replace hw : pW D (pA S s.heap.size) s.heap S24 H locs := by rw [hS24]; exact hw
        have hk25 := Pic.gne hP17 hq_na23
        have hs26 : Grw S8 S24 := by rw [hS24]; exact Grw.new hq_na23
        have hA27 : Arr cy S24 na23 (Vx3.1 nx) (fun _ => 0) := by rw [hS24]; exact Arr.new
        have hA28 := hA13.grw hs26
        have hP29 := Pic.ext hP17 hs26.1 hs26.2
        have hF30 : Frm G Sb S24 := hF18.trans hs26.frm
        refine p_callq (va_runS (As := [.ref qa10, .ref na23]) (rest := []) C.fix (g_L_code l D cy S24 H.size hA28 hX15 hA27 hvst (hLIx.pos hP29 h1 nx (Nat.le_refl _)) h90) (va_cwS 2 C.2.2.2.2.1 (gU_S mw_378 mw_379 mw_79 (subU mw_380)) rfl rfl rfl hdlaw_B_S_3 ⟨Nat.le_of_ble_eq_true rfl, Nat.le_of_ble_eq_true rfl⟩) (p_preS C hw) rfl rfl hl.1 rfl (lv_room (Nat.le_of_ble_eq_true rfl)) dL_law_64 ⟨(show (70 + 624 * kx) + 0 + 1 + 0 + 1 + 620 ≤ 600074 from by omega), (show (9628 + 380133 * kx) + 0 + 7 + 0 + (Vx3.1 nx) + 380000 ≤ 7301550 from by omega)⟩) hw hA (fun r32 S31 H locs hpost hw => ?_)
        obtain ⟨qa33, ga34, hr_, hq37, hs35, hA36⟩ := hpost
        subst hr_
        have hk39 := Pic.gne hP29 hq37
        have hA40 := hA28.grw hs35
        have hA41 := hA27.grw hs35
        have hP42 := Pic.ext hP29 hs35.1 hs35.2
        have hF43 : Frm G Sb S31 := hF30.trans hs35.frm
        refine lv_astore (lv' := [(6, .ref qa33), (5, .ref qa10), (4, .int (nI kx)), (3, .int (nI apx)), (2, .ref row), (1, .ref (G 0)), (0, .ref ed)]) hx hb dL_law_67 hl (by decide) rfl (fun ls hl => ?_)
        have hsz6 := sz_le hvst h90
        refine lv_aload hx hb dL_law_69 (lv_at hl 0 rfl) ?_
        refine n_len C hw 0 rfl hA36.1 hA36.2 (n := sSize (wvS kq sa sb s3 s4 s5 s6) (Vx3.1 nx)) rfl dL_law_71 ?_
        refine lv_bipush (v := nI 90) hx hb dL_law_72 (by decide) ?_
        refine n_icmp_gt (tgt := 120) hx hb (by omega) (by decide) dL_law_74 (by decide) (fun h_74 => ?_) (fun h_74 => ?_)
        · skip
          refine lv_iinc (v := (nI (kx + 1))) (lv' := [(4, .int (nI (kx + 1))), (6, .ref qa33), (5, .ref qa10), (3, .int (nI apx)), (2, .ref row), (1, .ref (G 0)), (0, .ref ed)]) hx hb dL_law_120 hl (k := 2) rfl (by rw [show Int32.ofInt 1 = nI 1 from by decide, nI_add]) (by decide) rfl (fun ls hl => ?_)
          refine lv_goto (tgt := 37) hx hb dL_law_123 (by decide) ?_
          refine W.widen (k := (70 + 624 * (kx + 1))) (n := (9628 + 380133 * (kx + 1))) (by omega) (by omega) ?_
          exact ihloop37_1  Tx nx wsx (kx + 1) apx (by omega) S31 Vx3  H locs ls hP42 hF43  (by omega) (by omega) hLIx h90 hm15 hap hw (lv_sub hl [0, 3, 4, 5, 6] rfl)
        · skip
          refine lv_aload_n hx hb dL_law_77 rfl (lv_at hl 5 rfl) ?_
          refine p_calli (va_runV (As := []) (rest := []) C.fix (g_X11_stages l D cy S31 H.size hP42 ) (cwV 0 C.2.2.2.2.1 (gU_V mw_396 mw_397 mw_398 mw_2 (subU mw_399)) rfl rfl rfl hdlaw_B_V_4 ⟨Nat.le_of_ble_eq_true rfl, Nat.le_of_ble_eq_true rfl⟩) (p_preV C hw (hP42.mem (k := 0) (by omega)) hP42.c0 rfl) rfl rfl hl.1 rfl (lv_room (Nat.le_of_ble_eq_true rfl)) dL_law_78 ⟨(show (70 + 624 * kx) + 0 + 1 + 0 + 1 + 620 + 0 ≤ 600074 from by omega), (show (9628 + 380133 * kx) + 0 + 7 + 0 + (Vx3.1 nx) + 380000 + 0 ≤ 7301550 from by omega)⟩) hw hA (fun r45 S44 H locs hpost hw => ?_)
          obtain ⟨hr_, hS_⟩ := hpost
          subst hr_
          subst hS_
          refine lv_iload hx hb dL_law_81 (lv_at hl 2 rfl) ?_
          refine n_icmp_eq (tgt := 89) hx hb (by omega) (by omega) dL_law_83 (by decide) (fun h_83 => ?_) (fun h_83 => ?_)
          · skip
            refine lv_aload_n hx hb dL_law_89 rfl (lv_at hl 5 rfl) ?_
            refine lv_aload hx hb dL_law_90 (lv_at hl 1 rfl) ?_
            refine p_calli (va_runS (As := [.ref (G 0), .ref qa10]) (rest := []) C.fix (g_L_tell l D cy S31 H.size hP42 hk hla hlb hlc hA40 hk16 hX15 hvst (by omega) (by omega) hLIx.1.1) (va_cwS 2 C.2.2.2.2.1 (gU_S mw_400 mw_401 mw_79 (subU mw_402)) rfl rfl rfl hdlaw_B_S_5 ⟨Nat.le_of_ble_eq_true rfl, Nat.le_of_ble_eq_true rfl⟩) (p_preS C hw) rfl rfl hl.1 rfl (lv_room (Nat.le_of_ble_eq_true rfl)) dL_law_92 ⟨(show (70 + 624 * kx) + 0 + 1 + 0 + 1 + 620 + 0 + 2 ≤ 600074 from by omega), (show (9628 + 380133 * kx) + 0 + 7 + 0 + (Vx3.1 nx) + 380000 + 0 + 36 ≤ 7301550 from by omega)⟩) hw hA (fun r49 S48 H locs hpost hw => ?_)
            obtain ⟨Tt50, wt51, V52, hr_, hP53, hF54, tN55, tw56, tk57⟩ := hpost
            subst hr_
            have hA58 := hA40.frm hF54 hk16
            have hA59 := hA41.frm hF54 hk25
            have hA60 := hA36.frm hF54 hk39
            have hT61 := hF43.trans hF54
            have hLIn := hLIx.nw tN55
            have hszn := new_size hLIx.1.1 tN55 tk57
            rw [tw56] at hszn
            have h90n : V52.1 (nx + 1) ≤ 90 := by omega
            have h15n := (tN55).2.2.2.trans hm15
            refine lv_aload hx hb dL_law_95 (lv_at hl 0 rfl) ?_
            refine n_len C hw 0 rfl hA60.1 hA60.2 (n := sSize (wvS kq sa sb s3 s4 s5 s6) (Vx3.1 nx)) rfl dL_law_97 ?_
            refine n_icmp_eq (tgt := 103) hx hb (by omega) (by omega) dL_law_98 (by decide) (fun h_98 => ?_) (fun h_98 => ?_)
            · skip
              refine lv_iload_n hx hb dL_law_103 rfl (lv_at hl 3 rfl) ?_
              refine lv_aload_n hx hb dL_law_104 rfl (lv_at hl 5 rfl) ?_
              refine lv_iload hx hb dL_law_105 (lv_at hl 2 rfl) ?_
              refine p_calli (va_runV (As := [.int (nI kx)]) (rest := [.int (nI apx)]) C.fix (g_X11_distance l D cy S48 H.size hP53 kx (by omega)) (cwV 1 C.2.2.2.2.1 (gU_V mw_470 mw_471 mw_472 mw_2 (subU mw_473)) rfl rfl rfl hdlaw_B_V_6 ⟨Nat.le_of_ble_eq_true rfl, Nat.le_of_ble_eq_true rfl⟩) (p_preV C hw (hP53.mem (k := 0) (by omega)) hP53.c0 rfl) rfl rfl hl.1 rfl (lv_room (Nat.le_of_ble_eq_true rfl)) dL_law_107 ⟨(show (70 + 624 * kx) + 0 + 1 + 0 + 1 + 620 + 0 + 2 + 0 ≤ 600074 from by omega), (show (9628 + 380133 * kx) + 0 + 7 + 0 + (Vx3.1 nx) + 380000 + 0 + 36 + 0 ≤ 7301550 from by omega)⟩) hw hA (fun r63 S62 H locs hpost hw => ?_)
              obtain ⟨hr_, hP64, hF65⟩ := hpost
              subst hr_
              have hA66 := hA58.frm hF65 hk16
              have hA67 := hA59.frm hF65 hk25
              have hA68 := hA60.frm hF65 hk39
              have hT69 := hT61.trans hF65
              have hsa := sApart_lt (hP64.gk kx (by omega))
              refine n_if_le (tgt := 117) hx hb hsa dL_law_110 (by decide) (fun h_110 => ?_) (fun h_110 => ?_)
              · skip
                refine lv_iconst (v := nI 0) hx hb dL_law_117 (by decide) ?_
                refine n_iand hx hb dL_law_118 ?_
                refine lv_istore_n (lv' := [(3, .int (nI (apx &&& 0))), (6, .ref qa33), (5, .ref qa10), (4, .int (nI kx)), (2, .ref row), (1, .ref (G 0)), (0, .ref ed)]) hx hb dL_law_119 rfl hl (by decide) rfl (fun ls hl => ?_)
                refine lv_iinc (v := (nI (kx + 1))) (lv' := [(4, .int (nI (kx + 1))), (3, .int (nI (apx &&& 0))), (6, .ref qa33), (5, .ref qa10), (2, .ref row), (1, .ref (G 0)), (0, .ref ed)]) hx hb dL_law_120 hl (k := 3) rfl (by rw [show Int32.ofInt 1 = nI 1 from by decide, nI_add]) (by decide) rfl (fun ls hl => ?_)
                refine lv_goto (tgt := 37) hx hb dL_law_123 (by decide) ?_
                refine W.widen (k := (70 + 624 * (kx + 1))) (n := (9628 + 380133 * (kx + 1))) (by omega) (by omega) ?_
                exact ihloop37_1  Tt50 (nx + 1) wt51 (kx + 1) (apx &&& 0) (by omega) S62 V52  H locs ls hP64 hT69  (by omega) (by omega) hLIn h90n h15n (Or.inl (Nat.and_zero _)) hw (lv_sub hl [0, 1, 4, 5, 6] rfl)
              · skip
                have hpos : 0 < sApart (wt51 nx) := by rw [show nx = kx from h_83]; exact h_110
                refine lv_iconst (v := nI 1) hx hb dL_law_113 (by decide) ?_
                refine lv_goto (tgt := 118) hx hb dL_law_114 (by decide) ?_
                refine n_iand hx hb dL_law_118 ?_
                refine lv_istore_n (lv' := [(3, .int (nI (apx &&& 1))), (6, .ref qa33), (5, .ref qa10), (4, .int (nI kx)), (2, .ref row), (1, .ref (G 0)), (0, .ref ed)]) hx hb dL_law_119 rfl hl (by decide) rfl (fun ls hl => ?_)
                refine lv_iinc (v := (nI (kx + 1))) (lv' := [(4, .int (nI (kx + 1))), (3, .int (nI (apx &&& 1))), (6, .ref qa33), (5, .ref qa10), (2, .ref row), (1, .ref (G 0)), (0, .ref ed)]) hx hb dL_law_120 hl (k := 3) rfl (by rw [show Int32.ofInt 1 = nI 1 from by decide, nI_add]) (by decide) rfl (fun ls hl => ?_)
                refine lv_goto (tgt := 37) hx hb dL_law_123 (by decide) ?_
                refine W.widen (k := (70 + 624 * (kx + 1))) (n := (9628 + 380133 * (kx + 1))) (by omega) (by omega) ?_
                exact ihloop37_1  Tt50 (nx + 1) wt51 (kx + 1) (apx &&& 1) (by omega) S62 V52  H locs ls hP64 hT69  (by omega) (by omega) hLIn h90n h15n (ap_1 hap tk57 hpos) hw (lv_sub hl [0, 1, 4, 5, 6] rfl)
            · omega
          · skip
            refine lv_goto (tgt := 120) hx hb dL_law_86 (by decide) ?_
            refine lv_iinc (v := (nI (kx + 1))) (lv' := [(4, .int (nI (kx + 1))), (6, .ref qa33), (5, .ref qa10), (3, .int (nI apx)), (2, .ref row), (1, .ref (G 0)), (0, .ref ed)]) hx hb dL_law_120 hl (k := 2) rfl (by rw [show Int32.ofInt 1 = nI 1 from by decide, nI_add]) (by decide) rfl (fun ls hl => ?_)
            refine lv_goto (tgt := 37) hx hb dL_law_123 (by decide) ?_
            refine W.widen (k := (70 + 624 * (kx + 1))) (n := (9628 + 380133 * (kx + 1))) (by omega) (by omega) ?_
            exact ihloop37_1  Tx nx wsx (kx + 1) apx (by omega) S31 Vx3  H locs ls hP42 hF43  (by omega) (by omega) hLIx h90 hm15 hap hw (lv_sub hl [0, 3, 4, 5, 6] rfl)
  refine W.widen (k := (70 + 624 * 0)) (n := (9628 + 380133 * 0)) (by omega) (by omega) ?_
  exact loop37_1 (3 - 0 + 1) T 0 ws 0 1 (by omega) Sb V  H locs ls hP Frm.id  (by omega) (by omega) hLI h900 rfl (Or.inr ⟨rfl, fun j hj => absurd hj (Nat.not_lt_zero _)⟩) hw (lv_sub hl [0, 1, 2, 3, 4] rfl)
